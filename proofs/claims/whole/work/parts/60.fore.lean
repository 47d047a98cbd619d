/-! foretold, leastPower -/
section FORE
variable {a t : Nat} {h : gH}
theorem cp_tr (h : gH) (a : Nat) (F : RFc) (ht : F.now.told ≤ 8) : f_X6_copyFrom (fP h a F) (a + 63) (a + 2) = some (fP h a (F.s_tr (F.now.copy F.tr))) := by
  have q := copy_wd (h := fP h a F) (a := a + 63) (p := a + 2) (S := F.now) (R := F.tr) (fW_now h a F) (by omega) ht
  rw [fE_tr, fU_tr] at q
  exact q
theorem trG (h : gH) (a : Nat) (G : RFc) : g_gA (fP h a G) a 7 4 = some (a + 63) ∧ g_is (fP h a G) (a + 63) 6 = true := ⟨fG_tr h a G, by
  have q := wdP_g (fP h a G) (a + 63) G.tr
  rwa [fE_tr] at q⟩
/-- the data row is laid aside, changed, and laid back -/
theorem back_m (x : gH) (m : Nat) (R : RMo) : f_X8_copy (mP x m R) (m + 4) (m + 2) = some (mP x m (R.s_rows (updR R.rows 0 (cpyr 928 (R.rows 2) (R.rows 0))))) := mcopy x m R (i := 2) (j := 0) (by decide) (by decide) (by decide) (by decide) (by decide)
theorem away_m (x : gH) (m : Nat) (R : RMo) : f_X8_copy (mP x m R) (m + 2) (m + 4) = some (mP x m (R.s_rows (updR R.rows 2 (cpyr 928 (R.rows 0) (R.rows 2))))) := mcopy x m R (i := 0) (j := 2) (by decide) (by decide) (by decide) (by decide) (by decide)
/-- only the rows 0 and 2 are others, and row 0 is what it was -/
def same02 (R R' : RMo) : Prop := R' = R.s_rows R'.rows ∧ (∀ k, k < 928 → R'.rows 0 k = R.rows 0 k) ∧ ∀ j, 4 ≤ j → R'.rows j = R.rows j
theorem same02.all {F F' : RFc} {R R' : RMo} {c : Int32} (hs : same02 (R.s_th c) R') (hr : RelAll t F R) (hF : F' = F.s_tr F'.tr) : RelAll (t + 1) F' R' := by
  obtain ⟨s1, s2, s3⟩ := hs
  rw [s1, hF]
  refine ⟨hr.n, hr.bl, hr.buf, hr.eo, hr.now.ext s2, hr.live, by have := hr.time; show F.now.time ≤ _; omega, hr.pl, hr.ct, hr.ud, fun i (hi : i < F.ct) => ?_⟩
  obtain ⟨q1, q2, q3⟩ := hr.hist i hi
  refine ⟨?_, q2, by show (F.K ((F.pl + 7 - i) % 8)).time ≤ _; omega⟩
  show Rel (F.K ((F.pl + 7 - i) % 8)) (R'.rows (4 + F.ct - 1 - i))
  rw [s3 _ (by omega)]
  exact q1
theorem fore_law (h : gH) (a : Nat) (F : RFc) (x1 : Int32) (E : RW) (n : Nat) (ef : fP h a F = h) (gn : g_gA h a 7 3 = some (a + 2)) (c : 0 ≤ x1 ∧ x1 ≤ 2) (t8 : F.now.told ≤ 8) (okE : E.ok) (dif : nI E.time - nI F.now.time = nI n) (c1' : f_X6_letForetoldTicksPass (fP h a (F.s_tr (F.now.copy F.tr))) (a + 63) 0 = some (bI (!E.busy), fP h a (F.s_tr E))) : f_X7_foretold h a x1 = some (.inr (if x1 = 0 then (if E.busy then -1 else nI n) else if x1 = 1 then E.agreeing else E.given - F.now.given), fP h a (F.s_tr E)) := by
  have z10 : ((1 : Int32) = 0) = False := eq_false (by decide)
  have cT := cp_tr h a F t8
  rw [ef] at cT
  have g4 := trG h a F
  rw [ef] at g4
  have e' : wdP (fP h a (F.s_tr E)) (a + 63) E = fP h a (F.s_tr E) := fE_tr h a (F.s_tr E)
  have e2 : wdP (fP h a (F.s_tr E)) (a + 2) F.now = fP h a (F.s_tr E) := fE_now h a (F.s_tr E)
  have bz := busy_wd (h := fP h a (F.s_tr E)) (w := a + 63) (R := E) okE
  have ag := agreeing_wd (h := fP h a (F.s_tr E)) (w := a + 63) (R := E) okE
  have tm1 := wdG_time (fP h a (F.s_tr E)) (a + 63) E
  have tm2 := wdG_given (fP h a (F.s_tr E)) (a + 63) E
  have tn1 := wdG_time (fP h a (F.s_tr E)) (a + 2) F.now
  have tn2 := wdG_given (fP h a (F.s_tr E)) (a + 2) F.now
  rw [e'] at bz ag tm1 tm2
  rw [e2] at tn1 tn2
  have p1 := trG h a (F.s_tr (F.now.copy F.tr))
  have p2 := trG h a (F.s_tr E)
  have p3 := (gA h a (F.s_tr E)).1
  generalize hX : fP h a (F.s_tr E) = X at *
  generalize hY : fP h a (F.s_tr (F.now.copy F.tr)) = Y at *
  by_cases x0 : x1 = 0
  · subst x0
    rw [if_pos rfl]
    rcases Bool.eq_false_or_eq_true E.busy with cb | cb
    · rw [if_pos cb]
      simp only [f_X7_foretold, f7, c, and_self, not_true_eq_false, if_false, g4.1, gn, g4.2, cond_true, cT, p1.1, p1.2, c1', p2.1, p2.2, Option.bind_some, if_true, bz, cb, bI_t, z10]
    · rw [if_neg (by rw [cb]; exact fun z => nomatch z)]
      simp only [f_X7_foretold, f7, c, and_self, not_true_eq_false, if_false, g4.1, gn, g4.2, cond_true, cT, p1.1, p1.2, c1', p2.1, p2.2, Option.bind_some, if_true, bz, cb, bI_f, tm1, p3, tn1, dif]
  · rw [if_neg x0]
    by_cases x01 : x1 = 1
    · subst x01
      rw [if_pos rfl]
      simp only [f_X7_foretold, f7, c, and_self, not_true_eq_false, if_false, g4.1, gn, g4.2, cond_true, cT, p1.1, p1.2, c1', p2.1, p2.2, Option.bind_some, if_true, ag, z10]
    · rw [if_neg x01]
      simp only [f_X7_foretold, f7, c, and_self, not_true_eq_false, if_false, g4.1, gn, g4.2, cond_true, cT, p1.1, p1.2, c1', p2.1, p2.2, Option.bind_some, x0, x01, tm2, p3, tn2]
theorem rows_s (R : RMo) (A : Nat → Nat → Int32) : (R.s_rows A).rows = A := rfl
theorem s_rows_s (R : RMo) (A B : Nat → Nat → Int32) : (R.s_rows A).s_rows B = R.s_rows B := rfl
theorem fore_ref {F : RFc} {R : RMo} {E : RW} {n : Nat} (x : gH) (m : Nat) (x1 : Int32) (c : 0 ≤ x1 ∧ x1 ≤ 2) (hr : Rel F.now (R.rows 0)) (T : RW) (gof : ∀ D, Rel (F.now.copy T) D → ∀ R1 : RMo, R1.rows 0 = D → ∃ D', f_X8_goOn_b2 g_N (mP x m R1) m 0 = some (if E.busy then -1 else nI n, mP x m (R1.s_rows (updR R1.rows 0 D'))) ∧ Rel E D') : ∃ R', f_X8_foretold (mP x m R) m x1 = some ((if x1 = 0 then (if E.busy then -1 else nI n) else if x1 = 1 then E.agreeing else E.given - F.now.given), mP x m R') ∧ same02 (R.s_th 0) R' := by
  have z10 : ((1 : Int32) = 0) = False := eq_false (by decide)
  have aw := away_m x m (R.s_th 0)
  generalize hR1 : (R.s_th 0).s_rows (updR (R.s_th 0).rows 2 (cpyr 928 ((R.s_th 0).rows 0) ((R.s_th 0).rows 2))) = R1 at aw
  have r10 : R1.rows 0 = R.rows 0 := by
    rw [← hR1]
    show updR R.rows 2 (cpyr 928 (R.rows 0) (R.rows 2)) 0 = _
    exact updR_ne (by decide)
  have r12 : R1.rows 2 = cpyr 928 (R.rows 0) (R.rows 2) := by
    rw [← hR1]
    show updR R.rows 2 (cpyr 928 (R.rows 0) (R.rows 2)) 2 = _
    exact updR_at _ _ _
  have r1j : ∀ j, 4 ≤ j → R1.rows j = R.rows j := fun j hj => by
    rw [← hR1]
    show updR R.rows 2 (cpyr 928 (R.rows 0) (R.rows 2)) j = _
    exact updR_ne (by omega)
  obtain ⟨D', d1, d2⟩ := gof (R.rows 0) (hr.copy T).1 R1 r10
  have d1' : f_X8_goOn (mP x m R1) m = some (if E.busy then -1 else nI n, mP x m (R1.s_rows (updR R1.rows 0 D'))) := d1
  generalize hR2 : R1.s_rows (updR R1.rows 0 D') = R2 at d1'
  have r20 : R2.rows 0 = D' := by
    rw [← hR2]
    show updR R1.rows 0 D' 0 = D'
    exact updR_at _ _ _
  have r22 : R2.rows 2 = cpyr 928 (R.rows 0) (R.rows 2) := by
    rw [← hR2, ← r12]
    show updR R1.rows 0 D' 2 = R1.rows 2
    exact updR_ne (by decide)
  have ag : f_X8_agreeing (mP x m R2) m = some E.agreeing := of_d (R := R2) (f := fun h => f_X8_agreeing h m) (agreeing_d (isM_m x m R2) (by rw [r20]; exact d2))
  have bk := back_m x m R2
  have a6 : g_ald (mP x m R2) (m + 4) 6 = some (F.now.given) := by
    have q := ald_of (i := 6) (mR x m R2 (j := 2) (by decide) (by decide)) (by decide) (by decide)
    rw [r22, cpyr_in (by decide)] at q
    exact q.trans (congrArg some hr.n.2.2.2.2.2.2.1)
  have d6 : g_ald (mP x m R2) (m + 2) 6 = some E.given := by
    rw [mLl (R := R2) 6 6, r20]
    exact congrArg some d2.n.2.2.2.2.2.2.1
  refine ⟨R2.s_rows (updR R2.rows 0 (cpyr 928 (R2.rows 2) (R2.rows 0))), ?_, ⟨?_, fun k hk => ?_, fun j hj => ?_⟩⟩
  · by_cases x0 : x1 = 0
    · subst x0
      rw [if_pos rfl]
      simp only [f_X8_foretold, f_X8_foretold_b20, f_X8_foretold_b80, mT_th, Option.bind_some, f8, c, and_self, not_true_eq_false, if_false, mI, cond_true, fails_0 (R := R.s_th 0) rfl, if_true, mG_data, mG_aside, aw, d1', bk]
    · rw [if_neg x0]
      by_cases x01 : x1 = 1
      · subst x01
        rw [if_pos rfl]
        simp only [f_X8_foretold, f_X8_foretold_b20, f_X8_foretold_b80, mT_th, Option.bind_some, f8, c, and_self, not_true_eq_false, if_false, mI, cond_true, fails_0 (R := R.s_th 0) rfl, if_true, mG_data, mG_aside, aw, d1', ag, bk, z10]
      · rw [if_neg x01]
        simp only [f_X8_foretold, f_X8_foretold_b20, f_X8_foretold_b80, mT_th, Option.bind_some, f8, c, and_self, not_true_eq_false, if_false, mI, cond_true, fails_0 (R := R.s_th 0) rfl, if_true, mG_data, mG_aside, aw, d1', x0, x01, a6, d6, bk]
  · rw [rows_s, ← hR2, s_rows_s, ← hR1, s_rows_s]
  · show updR R2.rows 0 (cpyr 928 (R2.rows 2) (R2.rows 0)) 0 k = R.rows 0 k
    rw [updR_at, cpyr_in hk, r22, cpyr_in hk]
  · show updR R2.rows 0 (cpyr 928 (R2.rows 2) (R2.rows 0)) j = R.rows j
    rw [updR_ne (by omega), ← hR2]
    show updR R1.rows 0 D' j = R.rows j
    rw [updR_ne (by omega), r1j j hj]
theorem op_foretold (hI : cInv a t h) (x1 : Int32) : lw_S (cInv a (t + 1)) (a + 614) (a + 628) (fun r => r.toInt64) (f_L_foretold h a x1 (a + 628)) (fun h9 => f_X8_foretold h9 (a + 614) x1) := by
  obtain ⟨F, R, hf, hm, hq, hr, ef, ew, g7, gn, gw⟩ := cH_of hI
  have z10 : ((1 : Int32) = 0) = False := eq_false (by decide)
  by_cases c : 0 ≤ x1 ∧ x1 ≤ 2
  · have tb := hr.time
    obtain ⟨rG, lG⟩ := hr.now.copy F.tr
    have gof := fun (x : gH) (m : Nat) (hx : isM x m) (D : Nat → Int32) (hD : Rel (F.now.copy F.tr) D) => go_f (h := fP h a (F.s_tr (F.now.copy F.tr))) (w := a + 63) hx 1000 0 g_N (F.now.copy F.tr) D (by omega) (by unfold g_N; omega) hD (lG hr.live)
    obtain ⟨c1, De, -, rE, -, tE⟩ := gof (mP h (a + 614) R) (a + 614) (isM_m _ _ _) (R.rows 0) rG
    have e' : wdP (fP h a (F.s_tr (F.now.copy F.tr))) (a + 63) (F.now.copy F.tr) = fP h a (F.s_tr (F.now.copy F.tr)) := fE_tr h a (F.s_tr (F.now.copy F.tr))
    rw [e', fU_tr, nI_0] at c1
    generalize hE : ((F.now.copy F.tr).go 1000).2 = E at *
    generalize hn : ((F.now.copy F.tr).go 1000).1 = n at *
    have et : E.time = F.now.time + n := tE
    have dif : nI E.time - nI F.now.time = nI n := by
      rw [et, nI_sub (by omega)]; congr 1; omega
    have lw := fore_law h a F x1 E n ef gn c hr.now.inv.1 rE.ok dif c1
    refine S_okx (F' := F.s_tr E) hf hm hq _ (fun q _ => rfl) (v := if x1 = 0 then (if E.busy then -1 else nI n) else if x1 = 1 then E.agreeing else E.given - F.now.given) ?_ (fun x => ?_)
    · simp only [f_L_foretold, g7, cond_true, lw]
    · obtain ⟨R', r1, r2⟩ := fore_ref (E := E) (n := n) x (a + 614) x1 c hr.now F.tr (fun D hD R1 e1 => by
        obtain ⟨-, D', d1, d2, -, -⟩ := gof (mP x (a + 614) R1) (a + 614) (isM_m _ _ _) D hD
        refine ⟨D', ?_, d2⟩
        rw [Nat.zero_add, nI_0, ← e1, mE_d, mU_d] at d1
        exact d1)
      exact ⟨R', r1, by rw [r2.1]; rfl, r2.all (c := 0) hr rfl⟩
  · refine S_ex (R' := R.s_th 1) (c := 1) (r := 0) hf hm hq ?_ (by decide) (fun x => ?_) rfl (hr.later (by omega))
    · simp only [f_L_foretold, g7, cond_true, f_X7_foretold, f7, c, not_false_eq_true, if_true]
    · simp only [f_X8_foretold, f_X8_foretold_b20, mT_th, Option.bind_some, f8, c, not_false_eq_true, if_true, mI, cond_true, fails_1 (R := R.s_th 0) rfl (show ¬ (1 : Int32) = 0 by decide), z10, if_false]
      rfl
/-! leastPower -/
def isw (M : RMs) : Bool := decide (M.phase = 0 ∨ M.phase = 1)
theorem isw_iff (M : RMs) : isw M = true ↔ wt M := decide_eq_true_iff
theorem thru_l {x : gH} {m : Nat} {R : RMo} {E W : RW} (hE : Rel E (R.rows 0)) (h2 : ∀ j, j < E.told → ∃ p : Nat, p < 4 ∧ (W.ms j).phase = nI p ∧ R.rows 2 (112 + 102 * j + 3) = nI p) : ∀ (d i fuel : Nat), i + d = E.told → d < fuel → f_X8_areThrough_b2 (mP x m R) fuel m (nI i) = some (bI (fnd (fun j => isw (W.ms j) = true ∧ (E.ms j).agrees = false) d i).isNone) := by
  have t8 := hE.inv.1
  obtain ⟨v1, v2, v3, ⟨l, l1, l2, l3, l4⟩, v5, v6⟩ := hE.inv
  have n1 : R.rows 0 1 = nI E.told := hE.n.2.1
  intro d
  induction d with
  | zero =>
    intro i fuel hi hf
    obtain ⟨fu, rfl⟩ := Nat.exists_eq_succ_of_ne_zero (Nat.ne_of_gt hf)
    simp only [f_X8_areThrough_b2, mG_data, mLl (R := R) 1 1, n1, Option.bind_some, if_neg (nI_nlt (show E.told ≤ i by omega) (show i < 2 ^ 31 by omega)), fnd, Option.isNone_none, bI_t]
  | succ d ih =>
    intro i fuel hi hf
    obtain ⟨fu, rfl⟩ := Nat.exists_eq_succ_of_ne_zero (Nat.ne_of_gt (Nat.zero_lt_of_lt hf))
    obtain ⟨p, p4, e1, e2⟩ := h2 i (by omega)
    have e3 : nI (112 + 102 * i) + 3 = nI (112 + 102 * i + 3) := by rw [show (3 : Int32) = nI 3 by decide, nI_add]
    have a3 : g_ald (mP x m R) (m + 4) (nI (112 + 102 * i + 3)) = some (nI p) := by
      have q := ald_of (i := 112 + 102 * i + 3) (mR x m R (j := 2) (by decide) (by decide)) (by omega) (by decide)
      rw [e2] at q
      exact q
    have lt2 : (nI p < 2) ↔ p < 2 := by rw [show (2 : Int32) = nI 2 by decide]; exact nI_ltI (by omega) (by decide)
    have iw : isw (W.ms i) = decide (p < 2) := by
      unfold isw
      rw [e1]
      have : p = 0 ∨ p = 1 ∨ p = 2 ∨ p = 3 := by omega
      rcases this with rfl | rfl | rfl | rfl <;> decide
    have ag : f_X8_agrees (mP x m R) m (nI i) = some (bI (E.ms i).agrees) := of_d (f := fun h => f_X8_agrees h m (nI i)) (agrees_d (isM_m _ _ _) (by omega) (l4 i (by omega)) (hE.ms i (by omega)))
    simp only [f_X8_areThrough_b2, f_X8_areThrough_b37, mG_data, mLl (R := R) 1 1, n1, Option.bind_some, if_pos (nI_lt (show i < E.told by omega) (show E.told < 2 ^ 31 by omega)), mG_aside, msAt, e3, a3, lt2, mI, cond_true, ag, bI_eq0, fnd, iw, ← nI_succ]
    by_cases cp : p < 2
    · cases ca : (E.ms i).agrees with
      | false => simp only [cp, if_true, decide_true, and_self, Option.isNone_some, bI_f]
      | true =>
        simp only [cp, if_true, Bool.true_eq_false, if_false, and_false]
        exact ih (i + 1) fu (by omega) (by omega)
    · simp only [cp, if_false, decide_false, Bool.false_eq_true, false_and]
      exact ih (i + 1) fu (by omega) (by omega)
theorem least_l {F : RFc} {R0 : RMo} {b : Bool} (hr0 : Rel F.now (R0.rows 0)) (hl : F.now.live) : ∀ (d p fuel : Nat) (T : RW), p + d = 10 → d < fuel → ∃ (v : Int32) (T' : RW), f_X7_leastPower_b33 fuel (fP h a (F.s_tr T)) a (nI (cn b)) (nI p) = some (.inr v, fP h a (F.s_tr T')) ∧ (d = 10 → F.now.busy = false → v = 0) ∧ ∀ (x : gH) (m : Nat) (R : RMo), same02 R0 R → (∀ k, k < 928 → R.rows 2 k = R0.rows 0 k) → ∃ R', f_X8_leastPower_b30 fuel (mP x m R) m (nI (cn b)) (-1) (nI p) = some (v, mP x m R') ∧ same02 R0 R' := by
  have hb := cn_lt b
  have z10 : ((1 : Int32) = 0) = False := eq_false (by decide)
  intro d
  induction d with
  | zero =>
    intro p fuel T hp hf
    obtain ⟨fu, rfl⟩ := Nat.exists_eq_succ_of_ne_zero (Nat.ne_of_gt hf)
    have c : ¬ nI p ≤ 9 := by
      have : p = 10 := by omega
      subst this
      decide
    refine ⟨-1, T, ?_, fun z => absurd z (by decide), fun x m R hs _ => ⟨R, ?_, hs⟩⟩
    · simp only [f_X7_leastPower_b33, c, if_false]
    · simp only [f_X8_leastPower_b30, c, if_false]
  | succ d ih =>
    intro p fuel T hp hf
    obtain ⟨fu, rfl⟩ := Nat.exists_eq_succ_of_ne_zero (Nat.ne_of_gt (Nat.zero_lt_of_lt hf))
    have c : nI p ≤ 9 := by rw [show (9 : Int32) = nI 9 by decide]; exact (nI_leI (by omega) (by decide)).mpr (by omega)
    -- the trial
    generalize hW : (F.now.copy T).setCh b (((F.now.copy T).ch b).s_power (nI p)) = W
    obtain ⟨rc, lc⟩ := hr0.copy T
    have lW : W.live := by rw [← hW]; exact setCh_live (lc hl)
    have relW : ∀ D, (∀ k, k < 928 → D k = R0.rows 0 k) → Rel W (upd D (10 + 16 * cn b + 0) (nI p)) := fun D hD => by
      rw [← hW]
      have r2 := rc.ext hD
      have rcb := r2.ch b
      exact r2.chan b ⟨rfl, rfl, rfl, rfl, rfl, rfl, rfl⟩ (upd_at _ _ _) (by rw [upd_ne (by omega)]; exact rcb.2.1) (by rw [upd_ne (by omega)]; exact rcb.2.2.1) (fun j j1 j2 => upd_ne (by omega))
    have Wms : W.told = F.now.told ∧ ∀ j, j < F.now.told → (W.ms j).phase = (F.now.ms j).phase := by
      rw [← hW]
      refine ⟨by cases b <;> rfl, fun j hj => ?_⟩
      have : ((F.now.copy T).setCh b (((F.now.copy T).ch b).s_power (nI p))).ms j = copM F.now.told F.now.ms T.ms j := by cases b <;> rfl
      rw [this]
      unfold copM
      rw [if_pos hj]
      rfl
    have relW0 := relW (R0.rows 0) (fun _ _ => rfl)
    have cpT := cp_tr h a (F.s_tr T) hr0.inv.1
    have cpT' : f_X6_copyFrom (fP h a (F.s_tr T)) (a + 63) (a + 2) = some (fP h a (F.s_tr (F.now.copy T))) := cpT
    have cN : f_X6_channelNumbered (fP h a (F.s_tr (F.now.copy T))) (a + 63) (nI (cn b)) = some (cp (a + 63) b) := by
      have q := chanN (fP h a (F.s_tr (F.now.copy T))) (a + 63) (F.now.copy T) b
      have e' : wdP (fP h a (F.s_tr (F.now.copy T))) (a + 63) (F.now.copy T) = fP h a (F.s_tr (F.now.copy T)) := fE_tr h a (F.s_tr (F.now.copy T))
      rwa [e'] at q
    have cT : g_put (fP h a (F.s_tr (F.now.copy T))) (cp (a + 63) b) 0 0 (.int (nI p)) = some (fP h a (F.s_tr W)) := by
      have q := chanT (fP h a (F.s_tr (F.now.copy T))) (a + 63) (F.now.copy T) b (nI p)
      have e' : wdP (fP h a (F.s_tr (F.now.copy T))) (a + 63) (F.now.copy T) = fP h a (F.s_tr (F.now.copy T)) := fE_tr h a (F.s_tr (F.now.copy T))
      rw [e', fU_tr, hW] at q
      exact q
    have hx0 := isM_m h 0 R0
    have gA1 := (goA_f (h := fP h a (F.s_tr W)) (w := a + 63) hx0 1000 0 g_N W _ (by omega) (by unfold g_N; omega) relW0 lW).1
    have e' : wdP (fP h a (F.s_tr W)) (a + 63) W = fP h a (F.s_tr W) := fE_tr h a (F.s_tr W)
    rw [e', fU_tr, nI_0] at gA1
    have gA2 : f_X6_letForetoldTicksPass (fP h a (F.s_tr W)) (a + 63) 1 = some (bI (W.goA 1000).1, fP h a (F.s_tr (W.goA 1000).2)) := gA1
    have iff := goA_iff hx0 1000 W _ relW0 lW
    have keep := go_keep hx0 1000 W _ relW0 lW
    -- the reference's side, for any row that is as it was
    have ref : ∀ (x : gH) (m : Nat) (R : RMo), same02 R0 R → (∀ k, k < 928 → R.rows 2 k = R0.rows 0 k) → ∃ R1, same02 R0 R1 ∧ (∀ k, k < 928 → R1.rows 2 k = R0.rows 0 k) ∧ f_X8_leastPower_b30 (fu + 1) (mP x m R) m (nI (cn b)) (-1) (nI p) = f_X8_leastPower_b30 fu (mP x m R1) m (nI (cn b)) (if (W.goA 1000).1 then nI p else -1) (nI (p + 1)) := by
      intro x m R hs h2
      have hx := isM_m x m R
      obtain ⟨-, D', d1, d2, d3, -⟩ := go_f (h := h) (w := 0) (isM_m x m R) 1000 0 g_N W _ (by omega) (by unfold g_N; omega) (relW (R.rows 0) hs.2.1) lW
      rw [Nat.zero_add, nI_0] at d1
      have sc : f_X8_setChannel (mP x m R) m (nI (cn b)) 0 (nI p) = some (mP x m (R.s_rows (updR R.rows 0 (upd (R.rows 0) (10 + 16 * cn b + 0) (nI p))))) := of_dU (f := fun h => f_X8_setChannel h m (nI (cn b)) 0 (nI p)) (chS0 hx hb (nI p))
      have gO : f_X8_goOn (mP x m (R.s_rows (updR R.rows 0 (upd (R.rows 0) (10 + 16 * cn b + 0) (nI p))))) m = some (if (W.go 1000).2.busy then -1 else nI (W.go 1000).1, mP x m (R.s_rows (updR R.rows 0 D'))) := by
        have q : f_X8_goOn (dP (mP x m R) m (upd (R.rows 0) (10 + 16 * cn b + 0) (nI p))) m = _ := d1
        rwa [mU_d, mU_d] at q
      generalize hR2 : R.s_rows (updR R.rows 0 D') = R2 at gO
      have r20 : R2.rows 0 = D' := by
        rw [← hR2]
        show updR R.rows 0 _ 0 = _
        exact updR_at _ _ _
      have r22 : ∀ k, k < 928 → R2.rows 2 k = R0.rows 0 k := fun k hk => by rw [← hR2]; show updR R.rows 0 D' 2 k = _; rw [updR_ne (by decide)]; exact h2 k hk
      have bk := back_m x m R2
      have fin : same02 R0 (R2.s_rows (updR R2.rows 0 (cpyr 928 (R2.rows 2) (R2.rows 0)))) ∧ ∀ k, k < 928 → (R2.s_rows (updR R2.rows 0 (cpyr 928 (R2.rows 2) (R2.rows 0)))).rows 2 k = R0.rows 0 k := by
        refine ⟨⟨?_, fun k hk => ?_, fun j hj => ?_⟩, fun k hk => ?_⟩
        · rw [← hR2, hs.1]; rfl
        · show updR R2.rows 0 (cpyr 928 (R2.rows 2) (R2.rows 0)) 0 k = _
          rw [updR_at, cpyr_in hk]; exact r22 k hk
        · show updR R2.rows 0 (cpyr 928 (R2.rows 2) (R2.rows 0)) j = _
          rw [updR_ne (by omega), ← hR2]
          show updR R.rows 0 D' j = _
          rw [updR_ne (by omega)]; exact hs.2.2 j hj
        · show updR R2.rows 0 (cpyr 928 (R2.rows 2) (R2.rows 0)) 2 k = _
          rw [updR_ne (by decide)]; exact r22 k hk
      refine ⟨_, fin.1, fin.2, ?_⟩
      have neg1 : ∀ (v : Int32), f_X8_leastPower_b69 (f_X8_leastPower_b30 fu) (mP x m R2) m (nI (cn b)) v (nI p) = f_X8_leastPower_b30 fu (mP x m (R2.s_rows (updR R2.rows 0 (cpyr 928 (R2.rows 2) (R2.rows 0))))) m (nI (cn b)) v (nI (p + 1)) := fun v => by
        simp only [f_X8_leastPower_b69, mG_aside, mG_data, bk, Option.bind_some, ← nI_succ]
      simp only [f_X8_leastPower_b30, c, if_true, mI, cond_true, sc, gO, Option.bind_some]
      rcases Bool.eq_false_or_eq_true (W.go 1000).2.busy with cb | cb
      · have gf : (W.goA 1000).1 = false := by
          cases e : (W.goA 1000).1 with
          | false => rfl
          | true => have := (iff.mp e).1; rw [cb] at this; exact nomatch this
        simp only [cb, if_true, neg1, gf, Bool.false_eq_true, if_false]
      · have nn : ¬ nI (W.go 1000).1 = -1 := by
          have gb : ∀ (d : Nat) (R : RW), (R.go d).1 ≤ d := by
            intro d
            induction d with
            | zero => intro R; exact Nat.le_refl _
            | succ d ih =>
              intro R
              unfold RW.go
              split
              · have := ih R.tick.2
                show (RW.go d R.tick.2).1 + 1 ≤ d + 1
                omega
              · exact Nat.zero_le _
          exact nI_neN (by have := gb 1000 W; omega)
        have th : f_X8_areThrough (mP x m R2) m = some (bI (fnd (fun j => isw (W.ms j) = true ∧ ((W.go 1000).2.ms j).agrees = false) (W.go 1000).2.told 0).isNone) := by
          unfold f_X8_areThrough
          rw [show f_X8_areThrough_b2 (mP x m R2) g_N m 0 = f_X8_areThrough_b2 (mP x m R2) g_N m (nI 0) by rw [nI_0]]
          refine thru_l (W := W) (by rw [r20]; exact d2) (fun j hj => ?_) _ 0 g_N (by omega) (by have := d2.inv.1; unfold g_N; omega)
          have hj2 : j < F.now.told := by rw [← Wms.1, ← keep.1]; exact hj
          obtain ⟨-, -, -, ⟨l, -, -, -, l4⟩, -, -⟩ := hr0.inv
          obtain ⟨q, q4, eq⟩ := (l4 j hj2).2.2.2.2.2.2.1
          refine ⟨q, q4, (Wms.2 j hj2).trans eq, ?_⟩
          have := hr0.inv.1
          rw [r22 _ (by omega)]
          exact (hr0.ms j hj2).2.2.2.1.trans eq
        have dec : (fnd (fun j => isw (W.ms j) = true ∧ ((W.go 1000).2.ms j).agrees = false) (W.go 1000).2.told 0).isNone = (W.goA 1000).1 := by
          rw [Bool.eq_iff_iff, iff, Option.isNone_iff_eq_none, fnd_none]
          refine ⟨fun z => ⟨cb, fun j hj hw => ?_⟩, fun z j _ hj hw => ?_⟩
          · have := z j (Nat.zero_le _) (by rw [keep.1]; omega)
            cases e : ((W.go 1000).2.ms j).agrees with
            | true => rfl
            | false => exact absurd ⟨(isw_iff _).mpr hw, e⟩ this
          · have := z.2 j (by rw [← keep.1]; omega) ((isw_iff _).mp hw.1)
            rw [hw.2] at this
            exact nomatch this
        simp only [cb, Bool.false_eq_true, if_false, nn, th, dec, bI_eq0]
        cases (W.goA 1000).1 with
        | false => simp only [if_true, neg1, Bool.false_eq_true, if_false, Option.bind_some, bI_f]
        | true => simp only [Bool.true_eq_false, if_false, neg1, if_true, Option.bind_some, bI_t, show ((1 : Int32) = 0) = False from eq_false (by decide)]
    cases cg : (W.goA 1000).1 with
    | false =>
      rw [cg] at gA2 ref
      obtain ⟨v, T', q1, q2, q3⟩ := ih (p + 1) fu (W.goA 1000).2 (by omega) (by omega)
      refine ⟨v, T', ?_, fun z zb => ?_, fun x m R hs h2 => ?_⟩
      · simp only [f_X7_leastPower_b33, c, if_true, (trG h a _).1, (trG h a _).2, (gA h a _).1, cond_true, cpT', cN, cT, gA2, bI_f, Option.bind_some, ← nI_succ]
        exact q1
      · -- nothing waits: the first try agrees
        have wb : W.busy = false := by
          have e1 : W.way = F.now.way := by rw [← hW]; cases b <;> rfl
          unfold RW.busy at zb ⊢
          rw [e1]
          have e2 : W.count 0 = F.now.count 0 := by
            unfold RW.count
            rw [up_cnt0, up_cnt0, Wms.1]
            congr 1
            exact cnt_congr (fun j hj => by rw [Wms.2 j hj])
          rw [e2]; exact zb
        have : (W.goA 1000).1 = true := by
          show (RW.goA (999 + 1) W).1 = true
          unfold RW.goA
          rw [if_neg (by rw [wb]; exact fun z => nomatch z)]
        rw [cg] at this
        exact nomatch this
      · obtain ⟨R1, r1, r2, r3⟩ := ref x m R hs h2
        obtain ⟨R', s1, s2⟩ := q3 x m R1 r1 r2
        refine ⟨R', ?_, s2⟩
        rw [r3]
        simpa using s1
    | true =>
      rw [cg] at gA2 ref
      refine ⟨nI p, (W.goA 1000).2, ?_, fun z _ => by have : p = 0 := (by omega); rw [this, nI_0], fun x m R hs h2 => ?_⟩
      · simp only [f_X7_leastPower_b33, c, if_true, (trG h a _).1, (trG h a _).2, (gA h a _).1, cond_true, cpT', cN, cT, gA2, bI_t, z10, if_false, Option.bind_some]
      · obtain ⟨R1, r1, r2, r3⟩ := ref x m R hs h2
        refine ⟨R1, ?_, r1⟩
        rw [r3]
        have nk : ¬ nI p = -1 := nI_neN (by omega)
        obtain ⟨f2, rfl⟩ : ∃ f2, fu = f2 + 1 := ⟨fu - 1, by omega⟩
        simp only [if_true, f_X8_leastPower_b30, nk, if_false]
        split <;> rfl
theorem op_leastPower (hI : cInv a t h) (x1 : Int32) : lw_S (cInv a (t + 1)) (a + 614) (a + 628) (fun r => r.toInt64) (f_L_leastPower h a x1 (a + 628)) (fun h9 => f_X8_leastPower h9 (a + 614) x1) := by
  obtain ⟨F, R, hf, hm, hq, hr, ef, ew, g7, gn, gw⟩ := cH_of hI
  have z10 : ((1 : Int32) = 0) = False := eq_false (by decide)
  by_cases c : 0 ≤ x1 ∧ x1 ≤ 1
  · obtain ⟨b, rfl⟩ := nI_cn x1 c
    have bz := busy_wd (h := h) (w := a + 2) (R := F.now) hr.now.ok
    rw [ew] at bz
    obtain ⟨v, T', q1, q2, q3⟩ := least_l (h := h) (a := a) (F := F) (R0 := R.s_th 0) (b := b) hr.now hr.live 10 0 g_N F.tr (by omega) (by unfold g_N; omega)
    have eF : F.s_tr F.tr = F := rfl
    rw [eF, ef, nI_0] at q1
    have refside : ∀ (T9 : RW) (x : gH), ∃ R', f_X8_leastPower (mP x (a + 614) R) (a + 614) (nI (cn b)) = some (v, mP x (a + 614) R') ∧ R'.th = 0 ∧ RelAll (t + 1) (F.s_tr T9) R' := by
      intro T9 x
      have aw := away_m x (a + 614) (R.s_th 0)
      obtain ⟨R', r1, r2⟩ := q3 x (a + 614) ((R.s_th 0).s_rows (updR (R.s_th 0).rows 2 (cpyr 928 ((R.s_th 0).rows 0) ((R.s_th 0).rows 2)))) ⟨rfl, fun k hk => by show updR R.rows 2 (cpyr 928 (R.rows 0) (R.rows 2)) 0 k = R.rows 0 k; rw [updR_ne (by decide)], fun j hj => updR_ne (by omega)⟩ (fun k hk => by show updR R.rows 2 (cpyr 928 (R.rows 0) (R.rows 2)) 2 k = R.rows 0 k; rw [updR_at, cpyr_in hk])
      rw [nI_0] at r1
      have aw' : f_X8_copy (mP x (a + 614) (R.s_th 0)) (a + 614 + 2) (a + 614 + 4) = _ := aw
      refine ⟨R', ?_, by rw [r2.1]; rfl, r2.all (c := 0) hr rfl⟩
      simp only [f_X8_leastPower, mT_th, Option.bind_some, mI, cond_true, noChannel_m (R := R.s_th 0) rfl, c, and_self, if_true, mG_data, mG_aside, aw', r1]
    rcases Bool.eq_false_or_eq_true F.now.busy with cb | cb
    · refine S_okx (F' := F.s_tr T') hf hm hq _ (fun q _ => rfl) (v := v) ?_ (refside T')
      simp only [f_L_leastPower, g7, cond_true, f_X7_leastPower, f7, c, and_self, not_true_eq_false, if_false, gn, gw, bz, cb, bI_t, z10, q1, Option.bind_some]
    · have v0 := q2 rfl cb
      refine S_okx (F' := F.s_tr F.tr) hf hm hq h (fun q _ => by rw [eF, ef]) (v := v) ?_ (refside F.tr)
      simp only [f_L_leastPower, g7, cond_true, f_X7_leastPower, f7, c, and_self, not_true_eq_false, if_false, gn, gw, bz, cb, bI_f, if_true, Option.bind_some, v0]
  · refine S_ex (R' := R.s_th 1) (c := 1) (r := 0) hf hm hq ?_ (by decide) (fun x => ?_) rfl (hr.later (by omega))
    · simp only [f_L_leastPower, g7, cond_true, f_X7_leastPower, f7, c, not_false_eq_true, if_true]
    · simp only [f_X8_leastPower, mT_th, Option.bind_some, mI, cond_true, noChannel_m (R := R.s_th 0) rfl, c, if_false, z10]
      rfl
end FORE
