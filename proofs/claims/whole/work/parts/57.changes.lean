/-! the calls that change -/
section CHG
variable {a t : Nat} {h : gH}
theorem chg_all {F : RFc} {R : RMo} {W' : RW} {D' : Nat → Int32} {rows' : Nat → Nat → Int32} (hr : RelAll t F R) (hh : hist F.ct R.rows rows') (r' : Rel W' D') (l' : W'.live) (t' : W'.time ≤ 100 * (t + 1)) {c : Int32} : RelAll (t + 1) (F.keep.s_now W') ((((R.s_th c).s_rows rows').s_ud (nI (min (F.ct + 1) 8))).s_rows (updR rows' 0 D')) := by
  have pl := hr.pl
  have ct := hr.ct
  refine ⟨hr.n, hr.bl, hr.buf, hr.eo, ?_, l', t', Nat.mod_lt _ (by decide), by show min (F.ct + 1) 8 ≤ 8; omega, rfl, fun i hi => ?_⟩
  · show Rel W' (updR rows' 0 D' 0)
    rw [updR_at]; exact r'
  · have hi2 : i < min (F.ct + 1) 8 := hi
    show Rel (updW F.K F.pl (F.now.copy (F.K F.pl)) (((F.pl + 1) % 8 + 7 - i) % 8)) (updR rows' 0 D' (4 + min (F.ct + 1) 8 - 1 - i)) ∧ (updW F.K F.pl (F.now.copy (F.K F.pl)) (((F.pl + 1) % 8 + 7 - i) % 8)).live ∧ (updW F.K F.pl (F.now.copy (F.K F.pl)) (((F.pl + 1) % 8 + 7 - i) % 8)).time ≤ 100 * (t + 1)
    rw [updR_ne (by omega)]
    by_cases c0 : i = 0
    · subst c0
      have e : ((F.pl + 1) % 8 + 7 - 0) % 8 = F.pl := by omega
      rw [e]
      have eu : updW F.K F.pl (F.now.copy (F.K F.pl)) F.pl = F.now.copy (F.K F.pl) := by simp [updW]
      rw [eu]
      obtain ⟨q1, q2⟩ := hr.now.copy (F.K F.pl)
      refine ⟨?_, q2 hr.live, by have := hr.time; show F.now.time ≤ _; omega⟩
      by_cases c8 : F.ct = 8
      · have := (hh.2.2 c8).1
        rw [show 4 + min (F.ct + 1) 8 - 1 - 0 = 11 by omega]
        exact q1.ext (fun j hj => this j hj)
      · have := (hh.2.1 (by omega)).1
        rw [show 4 + min (F.ct + 1) 8 - 1 - 0 = 4 + F.ct by omega]
        exact q1.ext (fun j hj => this j hj)
    · have e : ((F.pl + 1) % 8 + 7 - i) % 8 = (F.pl + 7 - (i - 1)) % 8 := by omega
      have ne : ¬ (F.pl + 7 - (i - 1)) % 8 = F.pl := by omega
      rw [e]
      have eu : updW F.K F.pl (F.now.copy (F.K F.pl)) ((F.pl + 7 - (i - 1)) % 8) = F.K ((F.pl + 7 - (i - 1)) % 8) := by simp [updW, ne]
      rw [eu]
      obtain ⟨q1, q2, q3⟩ := hr.hist (i - 1) (by omega)
      refine ⟨?_, q2, by omega⟩
      by_cases c8 : F.ct = 8
      · have := (hh.2.2 c8).2 (7 - i) (by omega)
        rw [show 4 + min (F.ct + 1) 8 - 1 - i = 4 + (7 - i) by omega]
        rw [show 4 + F.ct - 1 - (i - 1) = 4 + (7 - i) + 1 by omega] at q1
        exact q1.ext (fun j hj => this j hj)
      · have := (hh.2.1 (by omega)).2 (F.ct - i) (by omega)
        rw [show 4 + min (F.ct + 1) 8 - 1 - i = 4 + (F.ct - i) by omega, this]
        rw [show 4 + F.ct - 1 - (i - 1) = 4 + (F.ct - i) by omega] at q1
        exact q1
/-- the class keeps its World, the reference its row -/
theorem keep_h {F : RFc} {R : RMo} (hr : RelAll t F R) (h : gH) : f_X1_keep (fP h a F) (a + 124) (a + 2) = some (fP h a F.keep) := keep_f h a F hr.pl hr.ct hr.now.inv.1
theorem rem_m {F : RFc} {R : RMo} (hr : RelAll t F R) (x : gH) (m : Nat) (c : Int32) : ∃ rows', f_X8_remember (mP x m (R.s_th c)) m = some (mP x m (((R.s_th c).s_rows rows').s_ud (nI (min (F.ct + 1) 8)))) ∧ hist F.ct R.rows rows' := remember_m x m (R.s_th c) hr.ct hr.ud
theorem row_of {x : gH} {m : Nat} {R : RMo} {D' : Nat → Int32} {f : gH → Nat → Option gH} (h : f (rP (mP x m R) (m + 2) (R.rows 0)) (m + 2) = some (rP (mP x m R) (m + 2) D')) : f (mP x m R) (m + 2) = some (mP x m (R.s_rows (updR R.rows 0 D'))) := by
  have e1 : rP (mP x m R) (m + 2) (R.rows 0) = mP x m R := mE_d x m R
  have e2 : rP (mP x m R) (m + 2) D' = mP x m (R.s_rows (updR R.rows 0 D')) := mU_d x m R D'
  rwa [e1, e2] at h
def RW.fogged (W : RW) (x y z : Int32) : RW := W.s_mi (W.mi.add x y z)
theorem op_fog (hI : cInv a t h) (x1 x2 x3 : Int32) : lw_S (cInv a (t + 1)) (a + 614) (a + 628) (fun r => r.toInt64) (f_L_fog h a x1 x2 x3 (a + 628)) (fun h9 => f_X8_fog h9 (a + 614) x1 x2 x3) := by
  obtain ⟨F, R, hf, hm, hq, hr, ef, ew, g7, gn, gw⟩ := cH_of hI
  have z10 : ((1 : Int32) = 0) = False := eq_false (by decide)
  have bad : ¬ (0 ≤ x1 ∧ x1 ≤ 9999 ∧ x1 ≤ x2 ∧ x2 ≤ 9999 ∧ 0 ≤ x3 ∧ x3 ≤ 9) → f_L_fog h a x1 x2 x3 (a + 628) = some (1, h) ∧ ∀ x, f_X8_fog (mP x (a + 614) R) (a + 614) x1 x2 x3 = some (0, mP x (a + 614) ((R.s_th 0).s_th 1)) := by
    intro nb
    by_cases c1 : 0 ≤ x1 ∧ x1 ≤ 9999
    · by_cases c2 : x1 ≤ x2 ∧ x2 ≤ 9999
      · have c3 : ¬ (0 ≤ x3 ∧ x3 ≤ 9) := fun z => nb ⟨c1.1, c1.2, c2.1, c2.2, z.1, z.2⟩
        refine ⟨?_, fun x => ?_⟩
        · simp only [f_L_fog, g7, cond_true, f_X7_fog, f_X7_fog_b32, f7, c1, c2, c3, and_self, not_true_eq_false, not_false_eq_true, if_true, if_false]
        · simp only [f_X8_fog, f_X8_fog_b38, f_X8_fog_b43, mT_th, Option.bind_some, f8, c1, c2, c3, and_self, not_true_eq_false, not_false_eq_true, if_true, if_false, mI, cond_true, fails_1 (R := R.s_th 0) rfl (show ¬ (1 : Int32) = 0 by decide), z10]
      · refine ⟨?_, fun x => ?_⟩
        · simp only [f_L_fog, g7, cond_true, f_X7_fog, f_X7_fog_b32, f7, c1, c2, and_self, not_true_eq_false, not_false_eq_true, if_true, if_false]
        · simp only [f_X8_fog, f_X8_fog_b38, f_X8_fog_b43, mT_th, Option.bind_some, f8, c1, c2, and_self, not_true_eq_false, not_false_eq_true, if_true, if_false, mI, cond_true, fails_1 (R := R.s_th 0) rfl (show ¬ (1 : Int32) = 0 by decide), z10]
    · refine ⟨?_, fun x => ?_⟩
      · simp only [f_L_fog, g7, cond_true, f_X7_fog, f_X7_fog_b32, f7, c1, not_false_eq_true, if_true]
      · simp only [f_X8_fog, f_X8_fog_b38, f_X8_fog_b43, mT_th, Option.bind_some, f8, c1, not_false_eq_true, if_true, if_false, mI, cond_true, fails_1 (R := R.s_th 0) rfl (show ¬ (1 : Int32) = 0 by decide), z10]
  by_cases c : 0 ≤ x1 ∧ x1 ≤ 9999 ∧ x1 ≤ x2 ∧ x2 ≤ 9999 ∧ 0 ≤ x3 ∧ x3 ≤ 9
  · obtain ⟨c1, c2, c3, c4, c5, c6⟩ := c
    have k12 := hr.now.ok.mi
    have mf := w_mi_isFull h (a + 2) F.now k12
    have mg := w_mi_g h (a + 2) F.now
    have ma := wdG_mi h (a + 2) F.now
    rw [ew] at mf mg ma
    have n7 : R.rows 0 7 = nI F.now.mi.told := hr.now.mi.2.1
    by_cases cf : 12 ≤ F.now.mi.told
    · have e12 : F.now.mi.told = 12 := by omega
      have e12' : nI F.now.mi.told = 12 := by rw [e12]; decide
      refine S_ex (R' := R.s_th 2) (c := 2) (r := 0) hf hm hq ?_ (by decide) (fun x => ?_) rfl (hr.later (by omega))
      · simp only [f_L_fog, g7, cond_true, f_X7_fog, f7, c1, c2, c3, c4, c5, c6, and_self, not_true_eq_false, if_false, gn, ma, mg, mf, cf, decide_true, bI_t, z10, Option.bind_some]
      · simp only [f_X8_fog, f_X8_fog_b43, f_X8_fog_b68, mT_th, Option.bind_some, f8, c1, c2, c3, c4, c5, c6, and_self, not_true_eq_false, if_true, if_false, mI, cond_true, fails_0 (R := R.s_th 0) rfl, mG_data, mLl (R := R.s_th 0) 7 7, show (R.s_th 0).rows 0 7 = 12 from n7.trans e12', fails_1 (R := R.s_th 0) rfl (show ¬ (2 : Int32) = 0 by decide), z10]
        rfl
    · have ne12 : ¬ nI F.now.mi.told = 12 := by rw [show (12 : Int32) = nI 12 by decide]; exact fun z => cf (by have := (nI_eq (by omega) (by decide)).mp z; omega)
      have kp := keep_h (a := a) hr h
      rw [ef] at kp
      have gA : ∀ G : RFc, g_gA (fP h a G) a 7 3 = some (a + 2) ∧ g_gA (fP h a G) a 7 5 = some (a + 124) ∧ g_is (fP h a G) (a + 124) 1 = true := fun G => ⟨fG_now h a G, fG_hi h a G, fP_gH h a G⟩
      have gF := gA F
      rw [ef] at gF
      have ad := w_mi_add (fP h a F.keep) (a + 2) F.now k12 x1 x2 x3
      have e9 := fE_now h a F.keep
      have e9' : wdP (fP h a F.keep) (a + 2) F.now = fP h a F.keep := e9
      rw [e9', fU_now] at ad
      replace ad : f_X4_add (fP h a F.keep) (a + 2 + 17) x1 x2 x3 = some (fP h a (F.keep.s_now (F.now.fogged x1 x2 x3))) := ad
      have mg2 : ∀ G : RFc, g_gA (fP h a G) (a + 2) 6 15 = some (a + 2 + 17) ∧ g_is (fP h a G) (a + 2 + 17) 4 = true ∧ g_gI (fP h a G) (a + 2 + 17) 4 0 = some (nI G.now.mi.told) := fun G => by
        have q1 := wdG_mi (fP h a G) (a + 2) G.now
        have q2 := w_mi_g (fP h a G) (a + 2) G.now
        have q3 := w_mi_Gtold (fP h a G) (a + 2) G.now
        rw [fE_now] at q1 q2 q3
        exact ⟨q1, q2, q3⟩
      have et : (F.now.mi.add x1 x2 x3).told = F.now.mi.told + 1 := by
        unfold RMi.add
        rw [if_pos (by omega)]
        rfl
      refine S_okx (F' := F.keep.s_now (F.now.fogged x1 x2 x3)) hf hm hq _ (fun q _ => rfl) (v := nI (F.now.mi.told + 1)) ?_ (fun x => ?_)
      · simp only [f_L_fog, g7, cond_true, f_X7_fog, f7, c1, c2, c3, c4, c5, c6, and_self, not_true_eq_false, if_false, gn, ma, mg, mf, cf, decide_false, bI_f, if_true, gF.2.1, gF.2.2, kp, (gA _).1, (mg2 _).1, (mg2 _).2.1, (mg2 _).2.2, ad, Option.bind_some]
        rw [show (F.keep.s_now (F.now.fogged x1 x2 x3)).now.mi.told = F.now.mi.told + 1 from et]
      · obtain ⟨rows', q1, q2⟩ := rem_m hr x (a + 614) 0
        have r0 : rows' 0 = R.rows 0 := q2.1 0 (by decide)
        have am := addMist_r (x := mP x (a + 614) (((R.s_th 0).s_rows rows').s_ud (nI (min (F.ct + 1) 8)))) (p := a + 614 + 2) (D := rows' 0) (by rw [r0]; exact hr.now.mi) (by omega) x1 x2 x3
        obtain ⟨D', d1, d2, d3⟩ := am
        have d1' := row_of (f := fun x p => f_X8_addMist x p x1 x2 x3) (R := ((R.s_th 0).s_rows rows').s_ud (nI (min (F.ct + 1) 8))) d1
        refine ⟨((((R.s_th 0).s_rows rows').s_ud (nI (min (F.ct + 1) 8))).s_rows (updR rows' 0 D')), ?_, rfl, chg_all (W' := F.now.fogged x1 x2 x3) (c := 0) hr q2 ?_ hr.live (by have := hr.time; show F.now.time ≤ _; omega)⟩
        · have v7 : D' 7 = nI (F.now.mi.told + 1) := by rw [d2.2.1, et]
          have u7 : (((((R.s_th 0).s_rows rows').s_ud (nI (min (F.ct + 1) 8))).s_rows (updR rows' 0 D'))).rows 0 7 = nI (F.now.mi.told + 1) := by
            show updR rows' 0 D' 0 7 = _
            rw [updR_at]; exact v7
          simp only [f_X8_fog, f_X8_fog_b43, f_X8_fog_b68, mT_th, Option.bind_some, f8, c1, c2, c3, c4, c5, c6, and_self, not_true_eq_false, if_true, if_false, mI, cond_true, fails_0 (R := R.s_th 0) rfl, mG_data, mLl (R := R.s_th 0) 7 7, show (R.s_th 0).rows 0 7 = nI F.now.mi.told from n7, ne12, q1]
          rw [d1']
          simp only [Option.bind_some, mG_data]
          rw [mLl 7 7]
          simp only [Option.bind_some]
          exact congrArg (fun v => some (v, _)) u7
        · rw [r0] at d3
          refine hr.now.side (fun j j1 j2 j3 => d3 j j2 (by omega)) ⟨rfl, rfl, rfl, rfl, rfl, rfl, rfl, rfl, rfl, rfl, rfl, rfl⟩ ?_ ?_ d2
          · exact hr.now.k0.congr (fun j j1 j2 => d3 j (by omega) (by omega))
          · exact hr.now.k1.congr (fun j j1 j2 => d3 j (by omega) (by omega))
  · obtain ⟨b1, b2⟩ := bad c
    exact S_ex (R' := R.s_th 1) (c := 1) (r := 0) hf hm hq b1 (by decide) b2 rfl (hr.later (by omega))
end CHG
