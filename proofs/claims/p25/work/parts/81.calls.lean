/-! what the class's calls answer, and the object behind them -/
/-- a throw's heap: one cell more -/
def thr (h : gH) : gH := (h.1 + 1, h.2)
section CALLS
variable {G : gG} {a : Nat} {h : gH} {F : RFc}
theorem cl_of (hf : fIs h.2 a F) : fP h a F = h ∧ wdP h (a + 2) F.now = h ∧ g_is h a 7 = true ∧ g_gA h a 7 3 = some (a + 2) ∧ g_is h (a + 2) 6 = true := by
  have e := fP_self hf
  have e2 : wdP h (a + 2) F.now = h := by have q := fE_now h a F; rwa [e] at q
  refine ⟨e, e2, fIs_g hf, ?_, ?_⟩
  · have q := fG_now h a F; rwa [e] at q
  · have q := wdP_g h (a + 2) F.now; rwa [e2] at q
theorem state_c (hf : fIs h.2 a F) (ok : F.now.ok) (x1 : Int32) : f_L_state G h a x1 = some (if 0 ≤ x1 ∧ x1 ≤ 12 then (F.now.figure x1, h) else (-2000000098, thr h)) := by
  obtain ⟨ef, ew, g7, gn, gw⟩ := cl_of hf
  by_cases c : 0 ≤ x1 ∧ x1 ≤ 12
  · have fig := figure_wd (h := h) (w := a + 2) (R := F.now) ok x1
    rw [ew] at fig
    simp only [f_L_state, g7, cond_true, f_X7_state, f7, c, and_self, not_true_eq_false, if_false, if_true, gn, gw, fig, Option.bind_some]
  · simp only [f_L_state, g7, cond_true, f_X7_state, f7, c, not_false_eq_true, if_true, if_false]; rfl
theorem channel_0 (hf : fIs h.2 a F) {x1 x2 : Int32} (c : ¬ (0 ≤ x1 ∧ x1 ≤ 1)) : f_L_channel G h a x1 x2 = some (-2000000097, thr h) := by
  obtain ⟨ef, ew, g7, gn, gw⟩ := cl_of hf
  simp only [f_L_channel, g7, cond_true, f_X7_channel, f7, c, not_false_eq_true, if_true]; rfl
theorem channel_1 (hf : fIs h.2 a F) {x1 x2 : Int32} (c : 0 ≤ x1 ∧ x1 ≤ 1) (c2 : ¬ (0 ≤ x2 ∧ x2 ≤ 5)) : f_L_channel G h a x1 x2 = some (-2000000098, thr h) := by
  obtain ⟨ef, ew, g7, gn, gw⟩ := cl_of hf
  simp only [f_L_channel, g7, cond_true, f_X7_channel, f7, c, c2, and_self, not_true_eq_false, not_false_eq_true, if_true, if_false]; rfl
theorem has_c (hf : fIs h.2 a F) (x1 : Int32) : f_X6_hasMessage h (a + 2) x1 = some (bI (decide (0 ≤ x1 ∧ x1 < nI F.now.told))) := by
  have hM := hasMessage_wd (h := h) (w := a + 2) (R := F.now) x1
  rwa [(cl_of hf).2.1] at hM
theorem message_0 (hf : fIs h.2 a F) {x1 x2 : Int32} (c : ¬ (0 ≤ x1 ∧ x1 < nI F.now.told)) : f_L_message G h a x1 x2 = some (-2000000097, thr h) := by
  obtain ⟨ef, ew, g7, gn, gw⟩ := cl_of hf
  simp only [f_L_message, g7, cond_true, f_X7_message, c, if_true, gn, gw, has_c hf, bI_0, decide_false, Option.bind_some]; rfl
theorem letter_0 (hf : fIs h.2 a F) {x1 x2 x3 : Int32} (c : ¬ (0 ≤ x1 ∧ x1 < nI F.now.told)) : f_L_letter G h a x1 x2 x3 = some (-2000000097, thr h) := by
  obtain ⟨ef, ew, g7, gn, gw⟩ := cl_of hf
  simp only [f_L_letter, g7, cond_true, f_X7_letter, c, if_true, gn, gw, has_c hf, bI_0, decide_false, Option.bind_some]; rfl
theorem why_0 (hf : fIs h.2 a F) {x1 x2 : Int32} (c : ¬ (0 ≤ x1 ∧ x1 < nI F.now.told)) : f_L_why G h a x1 x2 = some (-2000000097, thr h) := by
  obtain ⟨ef, ew, g7, gn, gw⟩ := cl_of hf
  simp only [f_L_why, g7, cond_true, f_X7_why, c, if_true, gn, gw, has_c hf, bI_0, decide_false, Option.bind_some]; rfl
theorem mist_c (hf : fIs h.2 a F) (ok : F.now.ok) (x1 : Int32) : f_L_mist G h a x1 = some (if 0 ≤ x1 ∧ x1 ≤ 20000 then (F.now.mi.levelAt x1, h) else (-2000000098, thr h)) := by
  obtain ⟨ef, ew, g7, gn, gw⟩ := cl_of hf
  have mf := w_mi_levelAt h (a + 2) F.now ok.mi x1
  have mg := w_mi_g h (a + 2) F.now
  have ma := wdG_mi h (a + 2) F.now
  rw [ew] at mf mg ma
  by_cases c : 0 ≤ x1 ∧ x1 ≤ 20000
  · simp only [f_L_mist, g7, cond_true, f_X7_mist, f7, c, and_self, not_true_eq_false, if_false, if_true, gn, ma, mg, mf, Option.bind_some]
  · simp only [f_L_mist, g7, cond_true, f_X7_mist, f7, c, not_false_eq_true, if_true, if_false]; rfl
theorem key_c (hf : fIs h.2 a F) (ok : F.now.ok) {x1 : Int32} (c : 0 ≤ x1 ∧ x1 ≤ 1) {x2 : Int32} (c2 : 0 ≤ x2 ∧ x2 ≤ 20000) : f_L_key G h a x1 x2 = some ((F.now.kp x1).keyAt x2, h) := by
  obtain ⟨ef, ew, g7, gn, gw⟩ := cl_of hf
  have kN := kpN h (a + 2) F.now x1
  obtain ⟨k1, k2, k3, k4, -⟩ := kpF h (a + 2) F.now ok.k0 ok.k1 x1 x2 0
  rw [ew] at kN k1 k4
  simp only [f_L_key, g7, cond_true, f_X7_key, f7, c, c2, and_self, not_true_eq_false, if_false, gn, gw, kN, k1, k4, Option.bind_some]
theorem key_0 (hf : fIs h.2 a F) {x1 x2 : Int32} (c : ¬ (0 ≤ x1 ∧ x1 ≤ 1)) : f_L_key G h a x1 x2 = some (-2000000097, thr h) := by
  obtain ⟨ef, ew, g7, gn, gw⟩ := cl_of hf
  simp only [f_L_key, g7, cond_true, f_X7_key, f7, c, not_false_eq_true, if_true]; rfl
theorem next_0 (hf : fIs h.2 a F) (ok : F.now.ok) {x1 : Int32} (c : F.now.servedAs x1 = none) : f_L_next G h a x1 = some (-2000000100, thr h) := by
  obtain ⟨ef, ew, g7, gn, gw⟩ := cl_of hf
  have sv := servedAs_wd (h := h) (w := a + 2) (R := F.now) ok.told x1
  rw [ew, c] at sv
  simp only [f_L_next, g7, cond_true, f_X7_next, gn, gw, sv, oI_none, if_true, Option.bind_some]; rfl
theorem foretold_0 (hf : fIs h.2 a F) {x1 : Int32} (c : ¬ (0 ≤ x1 ∧ x1 ≤ 2)) : f_L_foretold G h a x1 = some (-2000000098, thr h) := by
  obtain ⟨ef, ew, g7, gn, gw⟩ := cl_of hf
  simp only [f_L_foretold, g7, cond_true, f_X7_foretold, f7, c, not_false_eq_true, if_true]; rfl
theorem least_0 (hf : fIs h.2 a F) {x1 : Int32} (c : ¬ (0 ≤ x1 ∧ x1 ≤ 1)) : f_L_leastPower G h a x1 = some (-2000000097, thr h) := by
  obtain ⟨ef, ew, g7, gn, gw⟩ := cl_of hf
  simp only [f_L_leastPower, g7, cond_true, f_X7_leastPower, f7, c, not_false_eq_true, if_true]; rfl
theorem pass_0 (hf : fIs h.2 a F) {x1 : Int32} (c : ¬ (1 ≤ x1 ∧ x1 ≤ 100)) : f_L_pass G h a x1 = some (-2000000098, thr h) := by
  obtain ⟨ef, ew, g7, gn, gw⟩ := cl_of hf
  simp only [f_L_pass, g7, cond_true, f_X7_pass, f7, c, not_false_eq_true, if_true]; rfl
theorem send_0 (hf : fIs h.2 a F) {x1 x2 x3 : Int32} (c : ¬ (0 ≤ x1 ∧ x1 ≤ 1)) : f_L_send G h a x1 x2 x3 = some (-2000000097, thr h) := by
  obtain ⟨ef, ew, g7, gn, gw⟩ := cl_of hf
  simp only [f_L_send, g7, cond_true, f_X7_send, f7, c, not_false_eq_true, if_true]; rfl
theorem fog_0 (hf : fIs h.2 a F) {x1 x2 x3 : Int32} (c1 : 0 ≤ x1 ∧ x1 ≤ 9999) (c2 : ¬ (x1 ≤ x2 ∧ x2 ≤ 9999)) : f_L_fog G h a x1 x2 x3 = some (-2000000098, thr h) := by
  obtain ⟨ef, ew, g7, gn, gw⟩ := cl_of hf
  simp only [f_L_fog, g7, cond_true, f_X7_fog, f_X7_fog_b32, f7, c1, c2, and_self, not_true_eq_false, not_false_eq_true, if_true, if_false]; rfl
theorem fog_1 (hf : fIs h.2 a F) {x1 x2 x3 : Int32} (c1 : 0 ≤ x1 ∧ x1 ≤ 9999) (c2 : x1 ≤ x2 ∧ x2 ≤ 9999) (c3 : ¬ (0 ≤ x3 ∧ x3 ≤ 9)) : f_L_fog G h a x1 x2 x3 = some (-2000000098, thr h) := by
  obtain ⟨ef, ew, g7, gn, gw⟩ := cl_of hf
  simp only [f_L_fog, g7, cond_true, f_X7_fog, f_X7_fog_b32, f7, c1, c2, c3, and_self, not_true_eq_false, not_false_eq_true, if_true, if_false]; rfl
theorem relieve_0 (hf : fIs h.2 a F) {x1 x2 : Int32} (c : 0 ≤ x1 ∧ x1 ≤ 1) (c2 : ¬ (0 ≤ x2 ∧ x2 ≤ 25)) : f_L_relieve G h a x1 x2 = some (-2000000098, thr h) := by
  obtain ⟨ef, ew, g7, gn, gw⟩ := cl_of hf
  simp only [f_L_relieve, g7, cond_true, f_X7_relieve, f7, c, c2, and_self, not_true_eq_false, not_false_eq_true, if_true, if_false]; rfl
theorem power_0 (hf : fIs h.2 a F) {x1 x2 : Int32} (c : 0 ≤ x1 ∧ x1 ≤ 1) (c2 : ¬ (0 ≤ x2 ∧ x2 ≤ 9)) : f_L_power G h a x1 x2 = some (-2000000098, thr h) := by
  obtain ⟨ef, ew, g7, gn, gw⟩ := cl_of hf
  simp only [f_L_power, g7, cond_true, f_X7_power, f7, c, c2, and_self, not_true_eq_false, not_false_eq_true, if_true, if_false]; rfl
theorem cancel_0 (hf : fIs h.2 a F) {x1 : Int32} (c : ¬ (0 ≤ x1 ∧ x1 < nI F.now.told)) : f_L_cancel G h a x1 = some (-2000000097, thr h) := by
  obtain ⟨ef, ew, g7, gn, gw⟩ := cl_of hf
  simp only [f_L_cancel, g7, cond_true, f_X7_cancel, c, if_true, gn, gw, has_c hf, bI_0, decide_false, Option.bind_some]; rfl
theorem load_0 (hf : fIs h.2 a F) (n5 : F.n ≤ 500) {x1 : Int32} (c0 : 0 ≤ x1) (c : nI F.n < x1) : f_L_load G h a x1 = some (-2000000098, thr h) := by
  obtain ⟨ef, ew, g7, gn, gw⟩ := cl_of hf
  have g1 := fG_n h a F
  rw [ef] at g1
  simp only [f_L_load, g7, cond_true, f_X7_load, f_X7_load_b12, c0, if_true, g1, c, Option.bind_some]; rfl
theorem err_c (hf : fIs h.2 a F) : f_X7_errorOffset h a = some F.err := by
  have q := fG_err h a F
  rw [(cl_of hf).1] at q
  simp only [f_X7_errorOffset, q, Option.bind_some]
theorem checksum_c (hf : fIs h.2 a F) (ok : F.now.ok) (t8 : F.now.told ≤ 8) : f_X7_checksum h a = some F.now.sum := by
  obtain ⟨ef, ew, g7, gn, gw⟩ := cl_of hf
  have q := sum_c1 gn ew ok t8 13 0 g_N 0 (by omega) (by unfold g_N; omega)
  rw [nI_0] at q
  exact q
/-! the changes -/
theorem keep_h (hpl : F.pl < 8) (hct : F.ct ≤ 8) (ht : F.now.told ≤ 8) (hf : fIs h.2 a F) : f_X1_keep h (a + 124) (a + 2) = some (fP h a F.keep) := by
  have q := keep_f h a F hpl hct ht
  rwa [(cl_of hf).1] at q
theorem power_c (hf : fIs h.2 a F) (hpl : F.pl < 8) (hct : F.ct ≤ 8) (ht : F.now.told ≤ 8) (b : Bool) {x2 : Int32} (c2 : 0 ≤ x2 ∧ x2 ≤ 9) : f_L_power G h a (nI (cn b)) x2 = some ((F.now.ch b).power, fP h a (F.keep.s_now (F.now.setCh b ((F.now.ch b).s_power x2)))) := by
  obtain ⟨ef, ew, g7, gn, gw⟩ := cl_of hf
  have c : 0 ≤ nI (cn b) ∧ nI (cn b) ≤ 1 := by cases b <;> decide
  have kp := keep_h hpl hct ht hf
  have gF := gA h a F
  rw [ef] at gF
  have cN : f_X6_channelNumbered (fP h a F.keep) (a + 2) (nI (cn b)) = some (cp (a + 2) b) := by
    have q := chanN (fP h a F.keep) (a + 2) F.keep.now b
    rwa [fE_now] at q
  have cG : g_gI (fP h a F.keep) (cp (a + 2) b) 0 0 = some (F.now.ch b).power := by
    have q := chanG (fP h a F.keep) (a + 2) F.keep.now b
    rw [fE_now] at q
    exact q
  have cT : g_put (fP h a F.keep) (cp (a + 2) b) 0 0 (.int x2) = some (fP h a (F.keep.s_now (F.now.setCh b ((F.now.ch b).s_power x2)))) := by
    have q := chanT (fP h a F.keep) (a + 2) F.keep.now b x2
    rw [fE_now, fU_now] at q
    exact q
  simp only [f_L_power, g7, cond_true, f_X7_power, f7, c, c2, and_self, not_true_eq_false, if_false, gn, gF.2.1, gF.2.2.1, kp, (gA h a F.keep).1, (gA h a F.keep).2.2.2, cN, cG, cT, Option.bind_some]
theorem fog_c (hf : fIs h.2 a F) (ok : F.now.ok) (hpl : F.pl < 8) (hct : F.ct ≤ 8) (ht : F.now.told ≤ 8) {x1 x2 x3 : Int32} (c1 : 0 ≤ x1 ∧ x1 ≤ 9999) (c2 : x1 ≤ x2 ∧ x2 ≤ 9999) (c3 : 0 ≤ x3 ∧ x3 ≤ 9) : f_L_fog G h a x1 x2 x3 = some (if 12 ≤ F.now.mi.told then (-2000000099, thr h) else (nI (F.now.mi.told + 1), fP h a (F.keep.s_now (F.now.fogged x1 x2 x3)))) := by
  obtain ⟨ef, ew, g7, gn, gw⟩ := cl_of hf
  have z10 : ((1 : Int32) = 0) = False := eq_false (by decide)
  have k12 := ok.mi
  have mf := w_mi_isFull h (a + 2) F.now k12
  have mg := w_mi_g h (a + 2) F.now
  have ma := wdG_mi h (a + 2) F.now
  rw [ew] at mf mg ma
  by_cases cf : 12 ≤ F.now.mi.told
  · rw [if_pos cf]
    simp only [f_L_fog, g7, cond_true, f_X7_fog, f7, c1, c2, c3, and_self, not_true_eq_false, if_false, gn, ma, mg, mf, cf, decide_true, bI_t, z10, Option.bind_some]; rfl
  · rw [if_neg cf]
    have kp := keep_h hpl hct ht hf
    have gF := gA h a F
    rw [ef] at gF
    have ad := w_mi_add (fP h a F.keep) (a + 2) F.now k12 x1 x2 x3
    have e9' : wdP (fP h a F.keep) (a + 2) F.now = fP h a F.keep := fE_now h a F.keep
    rw [e9', fU_now] at ad
    replace ad : f_X4_add (fP h a F.keep) (a + 2 + 17) x1 x2 x3 = some (fP h a (F.keep.s_now (F.now.fogged x1 x2 x3))) := ad
    have mg2 : ∀ G : RFc, g_gA (fP h a G) (a + 2) 6 15 = some (a + 2 + 17) ∧ g_is (fP h a G) (a + 2 + 17) 4 = true ∧ g_gI (fP h a G) (a + 2 + 17) 4 0 = some (nI G.now.mi.told) := fun G => by
      have q1 := wdG_mi (fP h a G) (a + 2) G.now
      have q2 := w_mi_g (fP h a G) (a + 2) G.now
      have q3 := w_mi_Gtold (fP h a G) (a + 2) G.now
      rw [fE_now] at q1 q2 q3
      exact ⟨q1, q2, q3⟩
    have et : (F.now.mi.add x1 x2 x3).told = F.now.mi.told + 1 := by
      unfold RMi.add
      rw [if_pos (by omega)]
      rfl
    simp only [f_L_fog, g7, cond_true, f_X7_fog, f7, c1, c2, c3, and_self, not_true_eq_false, if_false, gn, ma, mg, mf, cf, decide_false, bI_f, if_true, gF.2.1, gF.2.2.1, kp, (gA h a _).1, (mg2 _).1, (mg2 _).2.1, (mg2 _).2.2, ad, Option.bind_some]
    rw [show (F.keep.s_now (F.now.fogged x1 x2 x3)).now.mi.told = F.now.mi.told + 1 from et]
theorem cancel_c (hf : fIs h.2 a F) (ok : F.now.ok) (hpl : F.pl < 8) (hct : F.ct ≤ 8) (ht : F.now.told ≤ 8) {i : Nat} (hi : i < F.now.told) : f_L_cancel G h a (nI i) = some (if (F.now.ms i).phase = 0 ∨ (F.now.ms i).phase = 1 then (bI (F.now.takeBack i).1, fP h a (F.keep.s_now (F.now.takeBack i).2)) else (-2000000099, thr h)) := by
  obtain ⟨ef, ew, g7, gn, gw⟩ := cl_of hf
  have i8 : i < 8 := by omega
  have c : 0 ≤ nI i ∧ nI i < nI F.now.told := ⟨nI_pos' (by omega), nI_lt hi (by omega)⟩
  have mN := msgNo h (a + 2) F.now i8
  have mG := w_ms_g h (a + 2) F.now i8
  have mC := w_ms_canBeCancelled h (a + 2) F.now i8
  rw [ew] at mN mG mC
  by_cases cp : (F.now.ms i).phase = 0 ∨ (F.now.ms i).phase = 1
  · rw [if_pos cp]
    have kp := keep_h hpl hct ht hf
    have gF := gA h a F
    rw [ef] at gF
    have tb := takeBack_wd (h := fP h a F.keep) (w := a + 2) (R := F.keep.now) ok hi
    rw [fE_now, fU_now] at tb
    have tb' : f_X6_takeBack (fP h a F.keep) (a + 2) (nI i) = some (bI (F.now.takeBack i).1, fP h a (F.keep.s_now (F.now.takeBack i).2)) := tb
    have fin : (if bI (F.now.takeBack i).1 = 0 then (0 : Int32) else 1) = bI (F.now.takeBack i).1 := by
      cases (F.now.takeBack i).1 <;> rfl
    simp only [f_L_cancel, g7, cond_true, f_X7_cancel, c, and_self, gn, gw, has_c hf, bI_0, decide_true, Bool.true_eq_false, if_false, mN, mG, mC, cp, gF.2.1, gF.2.2.1, kp, (gA h a F.keep).1, (gA h a F.keep).2.2.2, tb', g_z_bI, Option.bind_some]
    cases (F.now.takeBack i).1 <;> rfl
  · rw [if_neg cp]
    simp only [f_L_cancel, g7, cond_true, f_X7_cancel, c, and_self, gn, gw, has_c hf, bI_0, decide_true, Bool.true_eq_false, if_false, mN, mG, mC, cp, decide_false, if_true, Option.bind_some]; rfl
theorem undo_0 (hf : fIs h.2 a F) (hpl : F.pl < 8) (c0 : F.ct = 0) : f_X7_undo h a = some (-1, h) := by
  obtain ⟨ef, ew, g7, gn, gw⟩ := cl_of hf
  have gF := gA h a F
  rw [ef] at gF
  have hk : f_X1_restore h (a + 124) (a + 2) = some (0, h) := by
    have hp : (F.pl + 7) % 8 < 8 := Nat.mod_lt _ (by decide)
    have e1 : g_rem (nI F.pl + 8 - 1) 8 = nI ((F.pl + 7) % 8) := by
      rw [show nI F.pl + 8 - 1 = nI (F.pl + 7) by rw [show (8 : Int32) = nI 8 by decide, nI_add, show (1 : Int32) = nI 1 by decide, nI_sub (by omega)]; congr 1, rem8 _ (by omega)]
    have k1 := fG_pl h a F
    have k2 := fP_gH h a F
    have k3 := keptAt_f h a F hp
    have k4 := fG_ct h a F
    rw [ef] at k1 k2 k3 k4
    rw [c0] at k4
    simp only [f_X1_restore, k1, k2, cond_true, e1, k3, k4, Option.bind_some, nI_0, if_true]
  simp only [f_X7_undo, gF.2.1, gn, gF.2.2.1, cond_true, hk, Option.bind_some, if_true]
theorem undo_1 (hf : fIs h.2 a F) (hpl : F.pl < 8) (hct : F.ct ≤ 8) (c0 : ¬ F.ct = 0) (k8 : (F.K ((F.pl + 7) % 8)).told ≤ 8) : f_X7_undo h a = some (nI (F.ct - 1), fP h a F.back) := by
  obtain ⟨ef, ew, g7, gn, gw⟩ := cl_of hf
  have gF := gA h a F
  rw [ef] at gF
  have rs := restore_f h a F hpl hct k8
  rw [ef, if_neg c0] at rs
  have z10 : ((1 : Int32) = 0) = False := eq_false (by decide)
  simp only [f_X7_undo, gF.2.1, gn, gF.2.2.1, cond_true, rs, Option.bind_some, z10, if_false, (gA h a F.back).2.1, fG_ct]
  rfl
theorem append_c (hf : fIs h.2 a F) (c : F.n + 20 ≤ 500) (x1 x2 x3 x4 x5 : Int32) : f_X7_append h a x1 x2 x3 x4 x5 = some (nI (F.n + 20), fP h a (up (gC7 (wd x1 x2 x3 x4 x5)) 20 0 F)) := by
  obtain ⟨ef, ew, g7, gn, gw⟩ := cl_of hf
  have g1 := fG_n h a F
  rw [ef] at g1
  have cc : ¬ (500 < nI F.n + 20) := by
    rw [show (20 : Int32) = nI 20 by decide, nI_add, show (500 : Int32) = nI 500 by decide, nI_ltI (by decide) (by omega)]
    omega
  generalize hW : wd x1 x2 x3 x4 x5 = W
  have w0 : W 0 = x1 := by rw [← hW]; rfl
  have w1 : W 1 = x2 := by rw [← hW]; rfl
  have w2 : W 2 = x3 := by rw [← hW]; rfl
  have w3 : W 3 = x4 := by rw [← hW]; rfl
  have w4 : W 4 = x5 := by rw [← hW]; rfl
  have step : ∀ (G : RFc) (w : Int32) (k : Nat), G.n + 4 ≤ 500 → k % 4 = 0 → W (k / 4) = w → f_X7_appendWord (fP h a G) a w = some (fP h a (up (gC7 W) 4 k G)) ∧ (up (gC7 W) 4 k G).n = G.n + 4 := fun G w k hn hk hw => by
    refine ⟨?_, by rw [up_c]; rfl⟩
    rw [aw_all2 h a G w hn]
    have d1 : (k + 1) / 4 = k / 4 := by omega
    have d2 : (k + 1 + 1) / 4 = k / 4 := by omega
    have d3 : (k + 1 + 1 + 1) / 4 = k / 4 := by omega
    have m1 : 24 - 8 * ((k + 1) % 4) = 16 := by omega
    have m2 : 24 - 8 * ((k + 1 + 1) % 4) = 8 := by omega
    have m3 : 24 - 8 * ((k + 1 + 1 + 1) % 4) = 0 := by omega
    have m0 : 24 - 8 * (k % 4) = 24 := by omega
    simp only [up, gC7, d1, d2, d3, m0, m1, m2, m3, hw]
  obtain ⟨s1, n1⟩ := step F x1 0 (by omega) (by decide) w0
  obtain ⟨s2, n2⟩ := step (up (gC7 W) 4 0 F) x2 4 (by omega) (by decide) w1
  obtain ⟨s3, n3⟩ := step (up (gC7 W) 4 4 (up (gC7 W) 4 0 F)) x3 8 (by omega) (by decide) w2
  obtain ⟨s4, n4⟩ := step (up (gC7 W) 4 8 (up (gC7 W) 4 4 (up (gC7 W) 4 0 F))) x4 12 (by omega) (by decide) w3
  obtain ⟨s5, n5'⟩ := step (up (gC7 W) 4 12 (up (gC7 W) 4 8 (up (gC7 W) 4 4 (up (gC7 W) 4 0 F)))) x5 16 (by omega) (by decide) w4
  have e20 : up (gC7 W) 4 16 (up (gC7 W) 4 12 (up (gC7 W) 4 8 (up (gC7 W) 4 4 (up (gC7 W) 4 0 F)))) = up (gC7 W) 20 0 F := rfl
  rw [e20] at s5 n5'
  rw [ef] at s1
  have g9 : g_gI (fP h a (up (gC7 W) 20 0 F)) a 7 1 = some (nI (F.n + 20)) := by
    rw [fG_n, up_c]; rfl
  simp only [f_X7_append, g1, Option.bind_some, cc, if_false, g7, cond_true, s1, s2, s3, s4, s5, fP_g, g9]
theorem letters_c (hf : fIs h.2 a F) (n5 : F.n ≤ 500) {n : Nat} (n1 : 1 ≤ n) (n24 : n ≤ 24) (nF : n ≤ F.n) (hl : ∀ j, j < n → isL (F.B j)) : f_X7_buffersLetters h a (nI n) = some 1 := by
  obtain ⟨ef, ew, g7, gn, gw⟩ := cl_of hf
  have g1 := fG_n h a F
  rw [ef] at g1
  have c : 1 ≤ nI n ∧ nI n ≤ 24 := ⟨by rw [show (1 : Int32) = nI 1 by decide, nI_leI (by decide) (by omega)]; exact n1, by rw [show (24 : Int32) = nI 24 by decide, nI_leI (by omega) (by decide)]; exact n24⟩
  have lt : ¬ nI F.n < nI n := nI_nlt nF (by omega)
  obtain ⟨b, q1, q2⟩ := bl_c ef (show n ≤ 500 by omega) n 0 g_N (by omega) (by unfold g_N; omega) (fun j hj => absurd hj (Nat.not_lt_zero j))
  rw [nI_0] at q1
  have : b = true := q2.mpr hl
  subst this
  simp only [f_X7_buffersLetters, f7, c, and_self, not_true_eq_false, if_false, g1, lt, Option.bind_some, q1, bI_t]
theorem letters_0 (hf : fIs h.2 a F) (n5 : F.n ≤ 500) {n : Nat} (n1 : 1 ≤ n) (n24 : n ≤ 24) (nF : F.n < n) : f_X7_buffersLetters h a (nI n) = some 0 := by
  obtain ⟨ef, ew, g7, gn, gw⟩ := cl_of hf
  have g1 := fG_n h a F
  rw [ef] at g1
  have c : 1 ≤ nI n ∧ nI n ≤ 24 := ⟨by rw [show (1 : Int32) = nI 1 by decide, nI_leI (by decide) (by omega)]; exact n1, by rw [show (24 : Int32) = nI 24 by decide, nI_leI (by omega) (by decide)]; exact n24⟩
  have lt : nI F.n < nI n := nI_lt nF (by omega)
  simp only [f_X7_buffersLetters, f7, c, and_self, not_true_eq_false, if_false, g1, lt, if_true, Option.bind_some]
theorem send_1 (hf : fIs h.2 a F) (n5 : F.n ≤ 500) {x1 x2 : Int32} (c : 0 ≤ x1 ∧ x1 ≤ 1) (c2 : 0 ≤ x2 ∧ x2 ≤ 9) {n : Nat} (n1 : 1 ≤ n) (n24 : n ≤ 24) (nF : F.n < n) : f_L_send G h a x1 x2 (nI n) = some (-2000000098, thr h) := by
  obtain ⟨ef, ew, g7, gn, gw⟩ := cl_of hf
  simp only [f_L_send, g7, cond_true, f_X7_send, f7, c, c2, and_self, not_true_eq_false, if_false, letters_0 hf n5 n1 n24 nF, if_true, Option.bind_some]; rfl
theorem send_c (hf : fIs h.2 a F) (ok : F.now.ok) (n5 : F.n ≤ 500) (hpl : F.pl < 8) (hct : F.ct ≤ 8) (ht : F.now.told ≤ 8) {x1 x2 : Int32} (c : 0 ≤ x1 ∧ x1 ≤ 1) (c2 : 0 ≤ x2 ∧ x2 ≤ 9) {n : Nat} (n1 : 1 ≤ n) (n24 : n ≤ 24) (nF : n ≤ F.n) (hl : ∀ j, j < n → isL (F.B j)) : f_L_send G h a x1 x2 (nI n) = some (if 8 ≤ F.now.told then (-2000000099, thr h) else (nI F.now.told, fP h a ((F.keep.s_now (F.now.addMsg x1 x2 F.B 0 n)).s_n 0))) := by
  obtain ⟨ef, ew, g7, gn, gw⟩ := cl_of hf
  have z10 : ((1 : Int32) = 0) = False := eq_false (by decide)
  have tl := wdG_told h (a + 2) F.now
  rw [ew] at tl
  have k1 := letters_c hf n5 n1 n24 nF hl
  have l8 : ((8 : Int32) ≤ nI F.now.told) ↔ 8 ≤ F.now.told := by rw [show (8 : Int32) = nI 8 by decide]; exact nI_leI (by decide) (by omega)
  by_cases c8 : 8 ≤ F.now.told
  · rw [if_pos c8]
    simp only [f_L_send, g7, cond_true, f_X7_send, f7, c, c2, and_self, not_true_eq_false, if_false, k1, z10, gn, tl, l8, c8, if_true, Option.bind_some]; rfl
  · rw [if_neg c8]
    have kp := keep_h hpl hct ht hf
    have gF := gA h a F
    rw [ef] at gF
    have gB := fG_B h a F.keep
    have ad := addMsg_wd (h := fP h a F.keep) (w := a + 2) (R := F.now) ok x1 x2 (t := a + 1) (p := 0) (n := n) (T := F.B) n24 (by omega) (f1 h a F.keep) (Or.inl (by omega))
    have e9' : wdP (fP h a F.keep) (a + 2) F.now = fP h a F.keep := fE_now h a F.keep
    rw [e9', fU_now, nI_0] at ad
    generalize hW : F.now.addMsg x1 x2 F.B 0 n = W at ad
    have Wt : W.told = F.now.told + 1 := by
      rw [← hW]; unfold RW.addMsg; rw [if_pos (by omega)]; rfl
    have sn := fT_n h a (F.keep.s_now W) 0
    rw [nI_0] at sn
    have gl := wdG_told (fP h a ((F.keep.s_now W).s_n 0)) (a + 2) W
    have e10 : wdP (fP h a ((F.keep.s_now W).s_n 0)) (a + 2) W = fP h a ((F.keep.s_now W).s_n 0) := fE_now h a ((F.keep.s_now W).s_n 0)
    rw [e10, Wt] at gl
    have sb : nI (F.now.told + 1) - 1 = nI F.now.told := by rw [show (1 : Int32) = nI 1 by decide, nI_sub (by omega)]; rfl
    simp only [f_L_send, g7, cond_true, f_X7_send, f7, c, c2, and_self, not_true_eq_false, if_false, k1, z10, gn, tl, l8, c8, gF.2.1, gF.2.2.1, kp, (gA h a F.keep).1, (gA h a F.keep).2.2.2, gB, ad, sn, (gA h a ((F.keep.s_now W).s_n 0)).1, gl, sb, Option.bind_some]
theorem relieve_c (hf : fIs h.2 a F) (ok : F.now.ok) (hpl : F.pl < 8) (hct : F.ct ≤ 8) (ht : F.now.told ≤ 8) {s q : Nat} (hs : s < 2) (hq : q ≤ 25) (tb : F.now.time ≤ 9999) (k8 : (F.now.kp (nI s)).told ≤ 8) : f_L_relieve G h a (nI s) (nI q) = some (if (F.now.kp (nI s)).told = 8 ∧ (F.now.kp (nI s)).place (nI F.now.time) = none then (-2000000099, thr h) else ((F.now.kp (nI s)).keyAt (nI F.now.time), fP h a (F.keep.s_now (F.now.setKp (nI s) ((F.now.kp (nI s)).come (nI F.now.time) (nI q)))))) := by
  obtain ⟨ef, ew, g7, gn, gw⟩ := cl_of hf
  have z10 : ((1 : Int32) = 0) = False := eq_false (by decide)
  have c : 0 ≤ nI s ∧ nI s ≤ 1 := ⟨nI_pos' (by omega), by rw [show (1 : Int32) = nI 1 by decide, nI_leI (by omega) (by decide)]; omega⟩
  have c2 : 0 ≤ nI q ∧ nI q ≤ 25 := ⟨nI_pos' (by omega), by rw [show (25 : Int32) = nI 25 by decide, nI_leI (by omega) (by decide)]; exact hq⟩
  have kN := kpN h (a + 2) F.now (nI s)
  obtain ⟨k1, k2, k3, k4, -⟩ := kpF h (a + 2) F.now ok.k0 ok.k1 (nI s) (nI F.now.time) (nI q)
  have tm := wdG_time h (a + 2) F.now
  rw [ew] at kN k1 k2 k3 k4 tm
  have lt9 : nI F.now.time ≤ 9999 := by rw [show (9999 : Int32) = nI 9999 by decide]; exact (nI_leI (by omega) (by decide)).mpr tb
  by_cases bad : (F.now.kp (nI s)).told = 8 ∧ (F.now.kp (nI s)).place (nI F.now.time) = none
  · rw [if_pos bad]
    obtain ⟨b2, b3⟩ := bad
    rw [b3] at k3
    simp only [f_L_relieve, g7, cond_true, f_X7_relieve, f_X7_relieve_b82, f7, c, c2, and_self, not_true_eq_false, if_false, gn, gw, kN, tm, lt9, if_true, k1, k2, k3, b2, Nat.le_refl, decide_true, bI_t, z10, Option.isSome_none, bI_f, Option.bind_some]; rfl
  · rw [if_neg bad]
    have kp := keep_h hpl hct ht hf
    have gF := gA h a F
    rw [ef] at gF
    obtain ⟨j1, -, -, j4, j5⟩ := kpF (fP h a F.keep) (a + 2) F.keep.now ok.k0 ok.k1 (nI s) (nI F.now.time) (nI q)
    have tm2 := wdG_time (fP h a F.keep) (a + 2) F.keep.now
    rw [fE_now] at j1 j4 j5 tm2
    rw [fU_now] at j5
    have b92 : f_X7_relieve_b92 h a (nI q) (kpp (a + 2) (nI s)) = some (.inr ((F.now.kp (nI s)).keyAt (nI F.now.time)), fP h a (F.keep.s_now (F.now.setKp (nI s) ((F.now.kp (nI s)).come (nI F.now.time) (nI q))))) := by
      have j4' : f_X2_keyAt (fP h a F.keep) (kpp (a + 2) (nI s)) (nI F.now.time) = some ((F.now.kp (nI s)).keyAt (nI F.now.time)) := j4
      have tm2' : g_gI (fP h a F.keep) (a + 2) 6 0 = some (nI F.now.time) := tm2
      have j5' : f_X2_come (fP h a F.keep) (kpp (a + 2) (nI s)) (nI F.now.time) (nI q) = some (fP h a (F.keep.s_now (F.now.setKp (nI s) ((F.now.kp (nI s)).come (nI F.now.time) (nI q))))) := j5
      simp only [f_X7_relieve_b92, gF.2.1, gn, gF.2.2.1, kp, cond_true, (gA h a F.keep).1, tm2', j1, j4', j5', Option.bind_some]
    by_cases b2 : 8 ≤ (F.now.kp (nI s)).told
    · have hp : ((F.now.kp (nI s)).place (nI F.now.time)).isSome = true := by
        cases e : (F.now.kp (nI s)).place (nI F.now.time) with
        | none => exact absurd ⟨by omega, e⟩ bad
        | some _ => rfl
      rw [hp] at k3
      simp only [f_L_relieve, g7, cond_true, f_X7_relieve, f7, c, c2, and_self, not_true_eq_false, if_false, gn, gw, kN, tm, lt9, if_true, k1, k2, k3, b2, decide_true, bI_t, z10, b92, Option.bind_some]
    · simp only [f_L_relieve, g7, cond_true, f_X7_relieve, f7, c, c2, and_self, not_true_eq_false, if_false, gn, gw, kN, tm, lt9, if_true, k1, k2, b2, decide_false, bI_f, b92, Option.bind_some]
theorem start_way (R : RW) : R.start.way = R.servedAs 0 := by
  unfold RW.start
  cases R.servedAs 0 <;> rfl
theorem tick_lt {R : RW} {D : Nat → Int32} (h : Rel R D) {k : Nat} (e : R.tick.1 = some k) : k < R.told := by
  have lt : ∀ m, (if R.way = none then R.start else R).way = some m → m < R.told := fun m hm => by
    by_cases c : R.way = none
    · rw [if_pos c, start_way] at hm
      exact servedAs_lt hm
    · rw [if_neg c] at hm
      exact h.inv.2.2.2.2.1 m hm
  cases ew : (if R.way = none then R.start else R).way with
  | none =>
    rw [tick_none rfl ew] at e
    exact nomatch e
  | some m =>
    obtain ⟨R1, hR1⟩ : ∃ R1, (if R.way = none then R.start else R) = R1 := ⟨_, rfl⟩
    rw [hR1] at ew lt
    rw [tick_some hR1 ew] at e
    generalize (R1.serve false (R1.mi.levelAt (nI R1.time))).serve true (R1.mi.levelAt (nI R1.time)) = R3 at e
    have e2 : (if R3.way = none then some m else none) = some k := e
    by_cases c : R3.way = none
    · rw [if_pos c] at e2
      cases e2
      exact lt _ ew
    · rw [if_neg c] at e2
      exact nomatch e2
theorem pass_l {n : Nat} (hn : n ≤ 100) : ∀ (d i fuel c : Nat) (F : RFc), i + d = n → d < fuel → c ≤ i → (∀ j, j < d → ∃ D, Rel (F.now.ticks j).2 D) → f_X7_pass_b35 fuel (fP h a F) a (nI n) (nI c) (nI i) = some (.inr (nI (c + (F.now.ticks d).1)), fP h a (F.s_now (F.now.ticks d).2)) := by
  intro d
  induction d with
  | zero =>
    intro i fuel c F hi hf hc hr
    obtain ⟨fu, rfl⟩ := Nat.exists_eq_succ_of_ne_zero (Nat.ne_of_gt hf)
    simp only [f_X7_pass_b35, if_neg (nI_nlt (show n ≤ i by omega) (show i < 2 ^ 31 by omega))]
    rfl
  | succ d ih =>
    intro i fuel c F hi hf hc hr
    obtain ⟨fu, rfl⟩ := Nat.exists_eq_succ_of_ne_zero (Nat.ne_of_gt (Nat.zero_lt_of_lt hf))
    obtain ⟨D, hD⟩ := hr 0 (by omega)
    have hD' : Rel F.now D := hD
    have tk : f_X6_letTickPass (fP h a F) (a + 2) = some (oI F.now.tick.1, fP h a (F.s_now F.now.tick.2)) := by
      have q := tick_f (h := fP h a F) (w := a + 2) hD'
      rw [fE_now, fU_now] at q
      exact q
    have gN : g_is (fP h a F) (a + 2) 6 = true := by
      have q := wdP_g (fP h a F) (a + 2) F.now
      rwa [fE_now] at q
    have rest : ∀ c', c' ≤ i + 1 → _ := fun c' hc' => ih (i + 1) fu c' (F.s_now F.now.tick.2) (by omega) (by omega) hc' (fun j hj => hr (j + 1) (by omega))
    simp only [f_X7_pass_b35, if_pos (nI_lt (show i < n by omega) (show n < 2 ^ 31 by omega)), fG_now, gN, cond_true, tk, Option.bind_some, f_X7_pass_b54, ← nI_succ]
    cases e1 : F.now.tick.1 with
    | none =>
      have q1 := rest c (by omega)
      simp only [oI_none, if_true]
      have et : (F.now.ticks (d + 1)) = ((F.now.tick.2.ticks d).1, (F.now.tick.2.ticks d).2) := by
        show ((if F.now.tick.1 = none then 0 else 1) + _, _) = _
        rw [if_pos e1, Nat.zero_add]
      rw [et]
      exact q1
    | some k =>
      have hk := tick_lt hD' e1
      have h8 := hD'.inv.1
      have nk : ¬ nI k = -1 := nI_neN (by omega)
      have q1 := rest (c + 1) (by omega)
      simp only [oI_some, nk, if_false]
      have et : (F.now.ticks (d + 1)) = (1 + (F.now.tick.2.ticks d).1, (F.now.tick.2.ticks d).2) := by
        show ((if F.now.tick.1 = none then 0 else 1) + _, _) = _
        rw [if_neg (by rw [e1]; exact fun z => nomatch z)]
      rw [et]
      dsimp only
      rw [show c + (1 + (F.now.tick.2.ticks d).1) = c + 1 + (F.now.tick.2.ticks d).1 by omega]
      exact q1
theorem pass_c (hf : fIs h.2 a F) (hpl : F.pl < 8) (hct : F.ct ≤ 8) (ht : F.now.told ≤ 8) {n : Nat} (n1 : 1 ≤ n) (hn : n ≤ 100) (hr : ∀ j, j < n → ∃ D, Rel (F.now.ticks j).2 D) : f_L_pass G h a (nI n) = some (nI (F.now.ticks n).1, fP h a (F.keep.s_now (F.now.ticks n).2)) := by
  obtain ⟨ef, ew, g7, gn, gw⟩ := cl_of hf
  have c : 1 ≤ nI n ∧ nI n ≤ 100 := ⟨by rw [show (1 : Int32) = nI 1 by decide, nI_leI (by decide) (by omega)]; exact n1, by rw [show (100 : Int32) = nI 100 by decide, nI_leI (by omega) (by decide)]; exact hn⟩
  have kp := keep_h hpl hct ht hf
  have gF := gA h a F
  rw [ef] at gF
  have p0 := pass_l (h := h) (a := a) (n := n) hn n 0 g_N 0 F.keep (by omega) (by unfold g_N; omega) (by omega) hr
  rw [nI_0, Nat.zero_add] at p0
  have p0' : f_X7_pass_b35 g_N (fP h a F.keep) a (nI n) 0 0 = some (.inr (nI (F.now.ticks n).1), fP h a (F.keep.s_now (F.now.ticks n).2)) := p0
  simp only [f_L_pass, g7, cond_true, f_X7_pass, f7, c, and_self, not_true_eq_false, if_false, gn, gF.2.1, gF.2.2.1, kp, p0', Option.bind_some]
end CALLS
