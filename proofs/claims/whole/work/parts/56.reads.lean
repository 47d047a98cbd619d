/-! the calls that only ask -/
section READS
variable {a t : Nat} {h : gH}
/-- what a call has at hand -/
def cH (a t : Nat) (h : gH) (F : RFc) (R : RMo) : Prop := fIs h.2 a F ∧ mIs h.2 (a + 614) R ∧ (∃ g : Nat → Int64, h.2 (a + 628) = some (.inl (2, 1, .inr (.inl g)))) ∧ RelAll t F R ∧ fP h a F = h ∧ wdP h (a + 2) F.now = h ∧ g_is h a 7 = true ∧ g_gA h a 7 3 = some (a + 2) ∧ g_is h (a + 2) 6 = true
theorem cH_of (hI : cInv a t h) : ∃ F R, cH a t h F R := by
  obtain ⟨F, R, hf, hm, hq, hr⟩ := hI
  have e := fP_self hf
  have e2 : wdP h (a + 2) F.now = h := by have q := fE_now h a F; rwa [e] at q
  refine ⟨F, R, hf, hm, hq, hr, e, e2, fIs_g hf, ?_, ?_⟩
  · have q := fG_now h a F; rwa [e] at q
  · have q := wdP_g h (a + 2) F.now; rwa [e2] at q
theorem f7 (x lo hi : Int32) : (f_X7_isWithin x lo hi = 0) = ¬ (lo ≤ x ∧ x ≤ hi) := by
  rw [within_eq, bI_0]
  by_cases c : lo ≤ x ∧ x ≤ hi
  · rw [decide_eq_true c]; simp [c]
  · rw [decide_eq_false c]; simp [c]
theorem f8 (x lo hi : Int32) : (f_X8_in x lo hi = 0) = ¬ (lo ≤ x ∧ x ≤ hi) := by
  rw [in_eq, bI_eq0]
  by_cases c : lo ≤ x ∧ x ≤ hi
  · rw [decide_eq_true c]; simp [c]
  · rw [decide_eq_false c]; simp [c]
theorem op_state (hI : cInv a t h) (x1 : Int32) : lw_S (cInv a (t + 1)) (a + 614) (a + 628) (fun r => r.toInt64) (f_L_state h a x1 (a + 628)) (fun h9 => f_X8_state h9 (a + 614) x1) := by
  obtain ⟨F, R, hf, hm, hq, hr, ef, ew, g7, gn, gw⟩ := cH_of hI
  by_cases c : 0 ≤ x1 ∧ x1 ≤ 12
  · obtain ⟨k, hk, rfl⟩ := rng (n := 12) (by decide) c
    have fig : f_X6_figure h (a + 2) (nI k) = some (F.now.figure (nI k)) := by
      have q := figure_wd (h := h) (w := a + 2) (R := F.now) hr.now.ok (nI k)
      rwa [ew] at q
    refine S_ok (F' := F) (R' := R.s_th 0) hf hm hq h (fun q _ => by rw [ef]) (v := F.now.figure (nI k)) ?_ (fun x => ?_) rfl (hr.later (by omega))
    · simp only [f_L_state, g7, cond_true, f_X7_state, f7, c, and_self, not_true_eq_false, if_false, gn, gw, fig, Option.bind_some]
    · have e : f_X8_told (mP x (a + 614) (R.s_th 0)) (a + 614) (nI k) = some (F.now.figure (nI k)) := of_d (f := fun h => f_X8_told h (a + 614) (nI k)) (told_d (isM_m _ _ _) hr.now (by omega))
      simp only [f_X8_state, f_X8_state_b21, mT_th, Option.bind_some, f8, c, and_self, not_true_eq_false, if_false, mI, cond_true, fails_0 (R := R.s_th 0) rfl, if_true, e]
  · refine S_ex (R' := R.s_th 1) (c := 1) (r := 0) hf hm hq ?_ (by decide) (fun x => ?_) rfl (hr.later (by omega))
    · simp only [f_L_state, g7, cond_true, f_X7_state, f7, c, not_false_eq_true, if_true]
    · have z10 : ((1 : Int32) = 0) = False := eq_false (by decide)
      simp only [f_X8_state, f_X8_state_b21, mT_th, Option.bind_some, f8, c, not_false_eq_true, if_true, mI, cond_true, fails_1 (R := R.s_th 0) rfl (show ¬ (1 : Int32) = 0 by decide), z10, if_false]
      rfl
theorem nI_cn (c : Int32) (h : 0 ≤ c ∧ c ≤ 1) : ∃ b : Bool, c = nI (cn b) := by
  obtain ⟨k, hk, rfl⟩ := rng (n := 1) (by decide) h
  have : k = 0 ∨ k = 1 := by omega
  rcases this with rfl | rfl
  · exact ⟨false, rfl⟩
  · exact ⟨true, rfl⟩
theorem chanN (h : gH) (w : Nat) (W : RW) (b : Bool) : f_X6_channelNumbered (wdP h w W) w (nI (cn b)) = some (cp w b) := by
  unfold f_X6_channelNumbered cp
  cases b
  · have : nI (cn false) = 0 := nI_0
    rw [this, if_pos rfl, wdG_c0]; rfl
  · have : ¬ nI (cn true) = 0 := by decide
    rw [if_neg this, wdG_c1]; rfl
theorem chanF (h : gH) (w : Nat) (W : RW) (b : Bool) (x t : Int32) : f_X0_figure (wdP h w W) (cp w b) x t = some ((W.ch b).figure x t) ∧ g_is (wdP h w W) (cp w b) 0 = true := by
  cases b
  · exact ⟨w_c0_figure h w W x t, w_c0_g h w W⟩
  · exact ⟨w_c1_figure h w W x t, w_c1_g h w W⟩
theorem op_channel (hI : cInv a t h) (x1 x2 : Int32) : lw_S (cInv a (t + 1)) (a + 614) (a + 628) (fun r => r.toInt64) (f_L_channel h a x1 x2 (a + 628)) (fun h9 => f_X8_channel h9 (a + 614) x1 x2) := by
  obtain ⟨F, R, hf, hm, hq, hr, ef, ew, g7, gn, gw⟩ := cH_of hI
  have z10 : ((1 : Int32) = 0) = False := eq_false (by decide)
  by_cases c : 0 ≤ x1 ∧ x1 ≤ 1
  · by_cases c2 : 0 ≤ x2 ∧ x2 ≤ 5
    · obtain ⟨b, rfl⟩ := nI_cn x1 c
      obtain ⟨k, hk, rfl⟩ := rng (n := 5) (by decide) c2
      have cN := chanN h (a + 2) F.now b
      have cF := chanF h (a + 2) F.now b (nI k) (nI F.now.time)
      have tm := wdG_time h (a + 2) F.now
      rw [ew] at cN cF tm
      refine S_ok (F' := F) (R' := R.s_th 0) hf hm hq h (fun q _ => by rw [ef]) (v := (F.now.ch b).figure (nI k) (nI F.now.time)) ?_ (fun x => ?_) rfl (hr.later (by omega))
      · simp only [f_L_channel, g7, cond_true, f_X7_channel, f7, c, c2, and_self, not_true_eq_false, if_false, gn, gw, cN, tm, cF.1, cF.2, Option.bind_some]
      · have e : f_X8_toldChannel (mP x (a + 614) (R.s_th 0)) (a + 614) (nI (cn b)) (nI k) = some ((F.now.ch b).figure (nI k) (nI F.now.time)) := of_d (f := fun h => f_X8_toldChannel h (a + 614) (nI (cn b)) (nI k)) (toldChannel_d (isM_m _ _ _) hr.now b (by omega))
        simp only [f_X8_channel, f_X8_channel_b28, mT_th, Option.bind_some, mI, cond_true, noChannel_m (R := R.s_th 0) rfl, c, and_self, if_true, f8, c2, not_true_eq_false, if_false, fails_0 (R := R.s_th 0) rfl, e]
    · refine S_ex (R' := R.s_th 2) (c := 2) (r := 0) hf hm hq ?_ (by decide) (fun x => ?_) rfl (hr.later (by omega))
      · simp only [f_L_channel, g7, cond_true, f_X7_channel, f7, c, c2, and_self, not_true_eq_false, not_false_eq_true, if_true, if_false]
      · simp only [f_X8_channel, f_X8_channel_b28, f_X8_channel_b35, mT_th, Option.bind_some, mI, cond_true, noChannel_m (R := R.s_th 0) rfl, c, and_self, if_true, f8, c2, not_false_eq_true, fails_1 (R := R.s_th 0) rfl (show ¬ (2 : Int32) = 0 by decide), z10, if_false]
        rfl
  · refine S_ex (R' := R.s_th 1) (c := 1) (r := 0) hf hm hq ?_ (by decide) (fun x => ?_) rfl (hr.later (by omega))
    · simp only [f_L_channel, g7, cond_true, f_X7_channel, f7, c, not_false_eq_true, if_true]
    · simp only [f_X8_channel, f_X8_channel_b28, f_X8_channel_b35, mT_th, Option.bind_some, mI, cond_true, noChannel_m (R := R.s_th 0) rfl, c, if_false, z10]
      rfl
theorem op_message (hI : cInv a t h) (x1 x2 : Int32) : lw_S (cInv a (t + 1)) (a + 614) (a + 628) (fun r => r.toInt64) (f_L_message h a x1 x2 (a + 628)) (fun h9 => f_X8_message h9 (a + 614) x1 x2) := by
  obtain ⟨F, R, hf, hm, hq, hr, ef, ew, g7, gn, gw⟩ := cH_of hI
  have z10 : ((1 : Int32) = 0) = False := eq_false (by decide)
  obtain ⟨v1, v2, v3, ⟨l, l1, l2, l3, l4⟩, v5, v6⟩ := hr.now.inv
  have hM := hasMessage_wd (h := h) (w := a + 2) (R := F.now) x1
  rw [ew] at hM
  have nm : ∀ x, f_X8_noMessage (mP x (a + 614) (R.s_th 0)) (a + 614) x1 = some (if 0 ≤ x1 ∧ x1 < nI F.now.told then (0, mP x (a + 614) (R.s_th 0)) else (1, mP x (a + 614) ((R.s_th 0).s_th 1))) := fun x => noMessage_m (R := R.s_th 0) rfl (n := F.now.told) hr.now.n.2.1 v1 x1
  by_cases c : 0 ≤ x1 ∧ x1 < nI F.now.told
  · by_cases c2 : 0 ≤ x2 ∧ x2 ≤ 9
    · obtain ⟨i, hi, rfl⟩ := rngT (by omega) c
      obtain ⟨k, hk, rfl⟩ := rng (n := 9) (by decide) c2
      have mN := msgNo h (a + 2) F.now (show i < 8 by omega)
      have mF := w_ms_figure h (a + 2) F.now (show i < 8 by omega) (hr.now.ok.ms i hi) (nI k)
      have mG := w_ms_g h (a + 2) F.now (show i < 8 by omega)
      rw [ew] at mN mF mG
      refine S_ok (F' := F) (R' := R.s_th 0) hf hm hq h (fun q _ => by rw [ef]) (v := (F.now.ms i).figure (nI k)) ?_ (fun x => ?_) rfl (hr.later (by omega))
      · simp only [f_L_message, g7, cond_true, f_X7_message, f7, c, c2, and_self, not_true_eq_false, if_false, gn, gw, hM, bI_0, decide_true, Bool.true_eq_false, mN, mG, mF, Option.bind_some]
      · have e : f_X8_toldMessage (mP x (a + 614) (R.s_th 0)) (a + 614) (nI i) (nI k) = some ((F.now.ms i).figure (nI k)) := of_d (f := fun h => f_X8_toldMessage h (a + 614) (nI i) (nI k)) (toldMessage_d (isM_m _ _ _) (by omega) v2 v3 hr.now.n.fs (l4 i hi) (hr.now.ms i hi) (by omega))
        simp only [f_X8_message, f_X8_message_b29, mT_th, Option.bind_some, mI, cond_true, nm, c, and_self, if_true, f8, c2, not_true_eq_false, if_false, fails_0 (R := R.s_th 0) rfl, e]
    · refine S_ex (R' := R.s_th 2) (c := 2) (r := 0) hf hm hq ?_ (by decide) (fun x => ?_) rfl (hr.later (by omega))
      · simp only [f_L_message, g7, cond_true, f_X7_message, f7, c, c2, and_self, not_false_eq_true, if_true, if_false, gn, gw, hM, bI_0, decide_true, Bool.true_eq_false, Option.bind_some]
      · simp only [f_X8_message, f_X8_message_b29, f_X8_message_b36, mT_th, Option.bind_some, mI, cond_true, nm, c, and_self, if_true, f8, c2, not_false_eq_true, fails_1 (R := R.s_th 0) rfl (show ¬ (2 : Int32) = 0 by decide), z10, if_false]
        rfl
  · refine S_ex (R' := R.s_th 1) (c := 1) (r := 0) hf hm hq ?_ (by decide) (fun x => ?_) rfl (hr.later (by omega))
    · simp only [f_L_message, g7, cond_true, f_X7_message, c, if_true, gn, gw, hM, bI_0, decide_false, Option.bind_some]
    · simp only [f_X8_message, f_X8_message_b29, f_X8_message_b36, mT_th, Option.bind_some, mI, cond_true, nm, c, if_false, z10]
      rfl
theorem noLetter_m {F : RFc} {R : RMo} (h0 : R.th = 0) (hr : Rel F.now (R.rows 0)) (x : gH) (m : Nat) (x1 x2 : Int32) : f_X8_noLetter (mP x m R) m x1 x2 = some (if 0 ≤ x1 ∧ x1 < nI F.now.told then (if 0 ≤ x2 ∧ x2 < nI (F.now.ms x1.toNatClampNeg).len then (0, mP x m R) else (1, mP x m (R.s_th 2))) else (1, mP x m (R.s_th 1))) := by
  have z10 : ((1 : Int32) = 0) = False := eq_false (by decide)
  obtain ⟨v1, v2, v3, ⟨l, l1, l2, l3, l4⟩, v5, v6⟩ := hr.inv
  simp only [f_X8_noLetter, f_X8_noLetter_b30, f_X8_noLetter_b37, mI, cond_true, noMessage_m h0 hr.n.2.1 v1, Option.bind_some]
  by_cases c : 0 ≤ x1 ∧ x1 < nI F.now.told
  · obtain ⟨i, hi, rfl⟩ := rngT (by omega) c
    have e : f_X8_of (mP x m R) m (nI i) 2 = some (nI (F.now.ms i).len) := of_d (f := fun h => f_X8_of h m (nI i) 2) (by
      rw [msL2 (isM_m _ _ _) (show i < 8 by omega), (hr.ms i hi).2.2.1])
    have h24 := (l4 i hi).2.2.1
    simp only [c, and_self, if_true, mI, cond_true, e, f8, le_pred (show (F.now.ms i).len < 2 ^ 31 by omega), Option.bind_some, nI_clamp (show i < 2 ^ 31 by omega)]
    by_cases c2 : 0 ≤ x2 ∧ x2 < nI (F.now.ms i).len
    · simp only [c2, and_self, not_true_eq_false, if_false, if_true, fails_0 h0, Option.bind_some]
    · simp only [c2, not_false_eq_true, if_true, if_false, fails_1 h0 (show ¬ (2 : Int32) = 0 by decide), Option.bind_some, z10]
  · simp only [c, if_false, z10]
theorem place_eq (M : RMs) (k : Int32) : M.hasPlace k = decide (0 ≤ k ∧ k < nI M.len) := rfl
theorem op_letter (hI : cInv a t h) (x1 x2 : Int32) (lg : Bool) : lw_S (cInv a (t + 1)) (a + 614) (a + 628) (fun r => r.toInt64) (f_L_letter h a x1 x2 (bI lg) (a + 628)) (fun h9 => f_X8_letter h9 (a + 614) x1 x2 (bI lg)) := by
  obtain ⟨F, R, hf, hm, hq, hr, ef, ew, g7, gn, gw⟩ := cH_of hI
  have z10 : ((1 : Int32) = 0) = False := eq_false (by decide)
  obtain ⟨v1, v2, v3, ⟨l, l1, l2, l3, l4⟩, v5, v6⟩ := hr.now.inv
  have hM := hasMessage_wd (h := h) (w := a + 2) (R := F.now) x1
  rw [ew] at hM
  have nl : ∀ x, _ := fun x => noLetter_m (F := F) (R := R.s_th 0) rfl hr.now x (a + 614) x1 x2
  by_cases c : 0 ≤ x1 ∧ x1 < nI F.now.told
  · obtain ⟨i, hi, rfl⟩ := rngT (by omega) c
    have mN := msgNo h (a + 2) F.now (show i < 8 by omega)
    have mG := w_ms_g h (a + 2) F.now (show i < 8 by omega)
    have mP' := w_ms_hasPlace h (a + 2) F.now (show i < 8 by omega) x2
    rw [ew] at mN mG mP'
    rw [nI_clamp (show i < 2 ^ 31 by omega)] at nl
    by_cases c2 : 0 ≤ x2 ∧ x2 < nI (F.now.ms i).len
    · have h24 := (l4 i hi).2.2.1
      obtain ⟨k, hk, rfl⟩ := rngT (show (F.now.ms i).len < 2 ^ 31 by omega) c2
      have mL := w_ms_letterAt h (a + 2) F.now (show i < 8 by omega) (nI k)
      have mO := w_ms_loggedAt h (a + 2) F.now (show i < 8 by omega) (nI k)
      rw [ew, rowAt_in (show k < 24 by omega) (by decide)] at mL mO
      have rS := hr.now.ms i hi
      refine S_ok (F' := F) (R' := R.s_th 0) hf hm hq h (fun q _ => by rw [ef]) (v := if lg then (F.now.ms i).log k else (F.now.ms i).letters k) ?_ (fun x => ?_) rfl (hr.later (by omega))
      · cases lg
        · simp only [f_L_letter, g7, cond_true, f_X7_letter, c, c2, and_self, if_false, gn, gw, hM, bI_0, decide_true, Bool.true_eq_false, mN, mG, mP', place_eq, mL, bI_f, if_true, Option.bind_some, Bool.false_eq_true]
        · simp only [f_L_letter, g7, cond_true, f_X7_letter, c, c2, and_self, if_false, gn, gw, hM, bI_0, decide_true, Bool.true_eq_false, mN, mG, mP', place_eq, mO, bI_t, z10, if_true, Option.bind_some]
      · have e1 : f_X8_of (mP x (a + 614) (R.s_th 0)) (a + 614) (nI i) (6 + nI k) = some ((F.now.ms i).letters k) := of_d (f := fun h => f_X8_of h (a + 614) (nI i) (6 + nI k)) (by
          rw [msL6 (isM_m _ _ _) (show i < 8 by omega) (show k < 24 by omega), ← rS.2.2.2.2.2.2.1 k hk]
          rfl)
        have e2 : f_X8_of (mP x (a + 614) (R.s_th 0)) (a + 614) (nI i) (30 + nI k) = some ((F.now.ms i).log k) := of_d (f := fun h => f_X8_of h (a + 614) (nI i) (30 + nI k)) (by
          rw [msL30 (isM_m _ _ _) (show i < 8 by omega) (show k < 24 by omega), ← rS.2.2.2.2.2.2.2.1 k (by omega)]
          rfl)
        cases lg
        · simp only [f_X8_letter, f_X8_letter_b31, mT_th, Option.bind_some, mI, cond_true, nl, c, c2, and_self, if_true, bI_f, e1, Bool.false_eq_true, if_false]
        · simp only [f_X8_letter, f_X8_letter_b31, mT_th, Option.bind_some, mI, cond_true, nl, c, c2, and_self, if_true, bI_t, z10, if_false, e2]
    · refine S_ex (R' := R.s_th 2) (c := 2) (r := 0) hf hm hq ?_ (by decide) (fun x => ?_) rfl (hr.later (by omega))
      · simp only [f_L_letter, g7, cond_true, f_X7_letter, c, c2, and_self, if_true, if_false, gn, gw, hM, bI_0, decide_true, decide_false, Bool.true_eq_false, mN, mG, mP', place_eq, Option.bind_some]
      · simp only [f_X8_letter, f_X8_letter_b31, mT_th, Option.bind_some, mI, cond_true, nl, c, c2, and_self, if_true, z10, if_false]
        rfl
  · refine S_ex (R' := R.s_th 1) (c := 1) (r := 0) hf hm hq ?_ (by decide) (fun x => ?_) rfl (hr.later (by omega))
    · simp only [f_L_letter, g7, cond_true, f_X7_letter, c, if_true, gn, gw, hM, bI_0, decide_false, Option.bind_some]
    · simp only [f_X8_letter, f_X8_letter_b31, mT_th, Option.bind_some, mI, cond_true, nl, c, if_false, z10]
      rfl
theorem op_why (hI : cInv a t h) (x1 x2 : Int32) : lw_S (cInv a (t + 1)) (a + 614) (a + 628) (fun r => r.toInt64) (f_L_why h a x1 x2 (a + 628)) (fun h9 => f_X8_why h9 (a + 614) x1 x2) := by
  obtain ⟨F, R, hf, hm, hq, hr, ef, ew, g7, gn, gw⟩ := cH_of hI
  have z10 : ((1 : Int32) = 0) = False := eq_false (by decide)
  obtain ⟨v1, v2, v3, ⟨l, l1, l2, l3, l4⟩, v5, v6⟩ := hr.now.inv
  have hM := hasMessage_wd (h := h) (w := a + 2) (R := F.now) x1
  rw [ew] at hM
  have nl : ∀ x, _ := fun x => noLetter_m (F := F) (R := R.s_th 0) rfl hr.now x (a + 614) x1 x2
  by_cases c : 0 ≤ x1 ∧ x1 < nI F.now.told
  · obtain ⟨i, hi, rfl⟩ := rngT (by omega) c
    have mN := msgNo h (a + 2) F.now (show i < 8 by omega)
    have mG := w_ms_g h (a + 2) F.now (show i < 8 by omega)
    have mP' := w_ms_hasPlace h (a + 2) F.now (show i < 8 by omega) x2
    rw [ew] at mN mG mP'
    rw [nI_clamp (show i < 2 ^ 31 by omega)] at nl
    by_cases c2 : 0 ≤ x2 ∧ x2 < nI (F.now.ms i).len
    · have h24 := (l4 i hi).2.2.1
      obtain ⟨k, hk, rfl⟩ := rngT (show (F.now.ms i).len < 2 ^ 31 by omega) c2
      have mR := w_ms_reason h (a + 2) F.now (show i < 8 by omega) (hr.now.ok.ms i hi) hk
      rw [ew] at mR
      refine S_ok (F' := F) (R' := R.s_th 0) hf hm hq h (fun q _ => by rw [ef]) (v := (F.now.ms i).reason k) ?_ (fun x => ?_) rfl (hr.later (by omega))
      · simp only [f_L_why, g7, cond_true, f_X7_why, c, c2, and_self, if_false, gn, gw, hM, bI_0, decide_true, Bool.true_eq_false, mN, mG, mP', place_eq, mR, Option.bind_some]
      · have e : f_X8_reason (mP x (a + 614) (R.s_th 0)) (a + 614) (nI i) (nI k) = some ((F.now.ms i).reason k) := of_d (f := fun h => f_X8_reason h (a + 614) (nI i) (nI k)) (reason_d (isM_m _ _ _) (by omega) v2 v3 hr.now.n.fs (l4 i hi) (hr.now.ms i hi) hk)
        simp only [f_X8_why, mT_th, Option.bind_some, mI, cond_true, nl, c, c2, and_self, if_true, e]
    · refine S_ex (R' := R.s_th 2) (c := 2) (r := 0) hf hm hq ?_ (by decide) (fun x => ?_) rfl (hr.later (by omega))
      · simp only [f_L_why, g7, cond_true, f_X7_why, c, c2, and_self, if_true, if_false, gn, gw, hM, bI_0, decide_true, decide_false, Bool.true_eq_false, mN, mG, mP', place_eq, Option.bind_some]
      · simp only [f_X8_why, mT_th, Option.bind_some, mI, cond_true, nl, c, c2, and_self, if_true, z10, if_false]
        rfl
  · refine S_ex (R' := R.s_th 1) (c := 1) (r := 0) hf hm hq ?_ (by decide) (fun x => ?_) rfl (hr.later (by omega))
    · simp only [f_L_why, g7, cond_true, f_X7_why, c, if_true, gn, gw, hM, bI_0, decide_false, Option.bind_some]
    · simp only [f_X8_why, mT_th, Option.bind_some, mI, cond_true, nl, c, if_false, z10]
      rfl
theorem op_mist (hI : cInv a t h) (x1 : Int32) : lw_S (cInv a (t + 1)) (a + 614) (a + 628) (fun r => r.toInt64) (f_L_mist h a x1 (a + 628)) (fun h9 => f_X8_mist h9 (a + 614) x1) := by
  obtain ⟨F, R, hf, hm, hq, hr, ef, ew, g7, gn, gw⟩ := cH_of hI
  have z10 : ((1 : Int32) = 0) = False := eq_false (by decide)
  have l1 := w_mi_levelAt h (a + 2) F.now hr.now.ok.mi x1
  have l2 := w_mi_g h (a + 2) F.now
  have l3 := wdG_mi h (a + 2) F.now
  rw [ew] at l1 l2 l3
  by_cases c : 0 ≤ x1 ∧ x1 ≤ 20000
  · refine S_ok (F' := F) (R' := R.s_th 0) hf hm hq h (fun q _ => by rw [ef]) (v := F.now.mi.levelAt x1) ?_ (fun x => ?_) rfl (hr.later (by omega))
    · simp only [f_L_mist, g7, cond_true, f_X7_mist, f7, c, and_self, not_true_eq_false, if_false, gn, l3, l2, l1, Option.bind_some]
    · have e : f_X8_mistOf (mP x (a + 614) (R.s_th 0)) (a + 614) x1 = some (F.now.mi.levelAt x1) := of_d (f := fun h => f_X8_mistOf h (a + 614) x1) (mistOf_d (isM_m _ _ _) hr.now.mi x1)
      simp only [f_X8_mist, f_X8_mist_b22, mT_th, Option.bind_some, f8, c, and_self, not_true_eq_false, if_false, mI, cond_true, fails_0 (R := R.s_th 0) rfl, if_true, e]
  · refine S_ex (R' := R.s_th 1) (c := 1) (r := 0) hf hm hq ?_ (by decide) (fun x => ?_) rfl (hr.later (by omega))
    · simp only [f_L_mist, g7, cond_true, f_X7_mist, f7, c, not_false_eq_true, if_true]
    · simp only [f_X8_mist, f_X8_mist_b22, mT_th, Option.bind_some, f8, c, not_false_eq_true, if_true, mI, cond_true, fails_1 (R := R.s_th 0) rfl (show ¬ (1 : Int32) = 0 by decide), z10, if_false]
      rfl
theorem op_key (hI : cInv a t h) (x1 x2 : Int32) : lw_S (cInv a (t + 1)) (a + 614) (a + 628) (fun r => r.toInt64) (f_L_key h a x1 x2 (a + 628)) (fun h9 => f_X8_key h9 (a + 614) x1 x2) := by
  obtain ⟨F, R, hf, hm, hq, hr, ef, ew, g7, gn, gw⟩ := cH_of hI
  have z10 : ((1 : Int32) = 0) = False := eq_false (by decide)
  by_cases c : 0 ≤ x1 ∧ x1 ≤ 1
  · by_cases c2 : 0 ≤ x2 ∧ x2 ≤ 20000
    · obtain ⟨p, p1, p2, p3⟩ := keepersOf_wd h (a + 2) F.now hr.now.ok.k0 hr.now.ok.k1 x1 x2
      rw [ew] at p1 p2 p3
      obtain ⟨s, hs, rfl⟩ := rng (n := 1) (by decide) c
      refine S_ok (F' := F) (R' := R.s_th 0) hf hm hq h (fun q _ => by rw [ef]) (v := (F.now.kp (nI s)).keyAt x2) ?_ (fun x => ?_) rfl (hr.later (by omega))
      · simp only [f_L_key, g7, cond_true, f_X7_key, f7, c, c2, and_self, not_true_eq_false, if_false, gn, gw, p1, p2, p3, Option.bind_some]
      · have e : f_X8_keyOf (mP x (a + 614) (R.s_th 0)) (a + 614) (nI s) x2 = some ((F.now.kp (nI s)).keyAt x2) := of_d (f := fun h => f_X8_keyOf h (a + 614) (nI s) x2) (keyOf_d (isM_m _ _ _) (show s < 2 by omega) (hr.now.kp (by omega)) x2)
        simp only [f_X8_key, f_X8_key_b30, mT_th, Option.bind_some, mI, cond_true, noStation_m (R := R.s_th 0) rfl, c, and_self, if_true, f8, c2, not_true_eq_false, if_false, fails_0 (R := R.s_th 0) rfl, e]
    · refine S_ex (R' := R.s_th 2) (c := 2) (r := 0) hf hm hq ?_ (by decide) (fun x => ?_) rfl (hr.later (by omega))
      · simp only [f_L_key, g7, cond_true, f_X7_key, f7, c, c2, and_self, not_true_eq_false, not_false_eq_true, if_true, if_false]
      · simp only [f_X8_key, f_X8_key_b30, f_X8_key_b37, mT_th, Option.bind_some, mI, cond_true, noStation_m (R := R.s_th 0) rfl, c, and_self, if_true, f8, c2, not_false_eq_true, fails_1 (R := R.s_th 0) rfl (show ¬ (2 : Int32) = 0 by decide), z10, if_false]
        rfl
  · refine S_ex (R' := R.s_th 1) (c := 1) (r := 0) hf hm hq ?_ (by decide) (fun x => ?_) rfl (hr.later (by omega))
    · simp only [f_L_key, g7, cond_true, f_X7_key, f7, c, not_false_eq_true, if_true]
    · simp only [f_X8_key, f_X8_key_b30, f_X8_key_b37, mT_th, Option.bind_some, mI, cond_true, noStation_m (R := R.s_th 0) rfl, c, if_false, z10]
      rfl
/-! the order of serving is complete -/
theorem row_hit {R : RW} {u k : Nat} : ∀ (n : Nat), n ≤ R.told → cnt (ahd R u 0) R.told ≤ k → k < cnt (ahd R u n) R.told → ∃ i, i < n ∧ (R.ms i).phase = 0 ∧ urg (R.ms i) = u ∧ cnt (ahd R u i) R.told = k
  | 0, _, h1, h2 => absurd h2 (by omega)
  | n + 1, hn, h1, h2 => by
    rw [ahd_step R u n (show n < R.told by omega)] at h2
    by_cases c : k < cnt (ahd R u n) R.told
    · obtain ⟨i, i1, i2, i3, i4⟩ := row_hit n (by omega) h1 c
      exact ⟨i, by omega, i2, i3, i4⟩
    · by_cases w : (R.ms n).phase = 0 ∧ urg (R.ms n) = u
      · rw [if_pos w] at h2
        exact ⟨n, by omega, w.1, w.2, by omega⟩
      · rw [if_neg w] at h2
        exact absurd h2 (by omega)
theorem rows_hit {R : RW} {k : Nat} : ∀ (u : Nat), cnt (ahd R u 0) R.told ≤ k → k < cnt (ahd R 0 R.told) R.told → ∃ i, i < R.told ∧ (R.ms i).phase = 0 ∧ cnt (ahd R (urg (R.ms i)) i) R.told = k
  | 0, h1, h2 => by
    obtain ⟨i, i1, i2, i3, i4⟩ := row_hit R.told (Nat.le_refl _) h1 h2
    exact ⟨i, i1, i2, by rw [i3]; exact i4⟩
  | u + 1, h1, h2 => by
    by_cases c : k < cnt (ahd R (u + 1) R.told) R.told
    · obtain ⟨i, i1, i2, i3, i4⟩ := row_hit R.told (Nat.le_refl _) h1 c
      exact ⟨i, i1, i2, by rw [i3]; exact i4⟩
    · rw [ahd_next] at c
      exact rows_hit u (Nat.not_lt.mp c) h2
theorem count0 {R : RW} (h : R.inv) : R.count 0 = nI (cnt (ahd R 0 R.told) R.told) := by
  unfold RW.count
  rw [up_cnt0]
  congr 1
  refine cnt_congr (fun j hj => ?_)
  unfold ahd
  rw [Bool.eq_iff_iff]
  simp only [decide_eq_true_eq, Bool.and_eq_true, Bool.or_eq_true]
  exact ⟨fun z => ⟨z, by omega⟩, fun z => z.1⟩
theorem served_iff {R : RW} (h : R.inv) (k : Int32) : R.servedAs k ≠ none ↔ 0 ≤ k ∧ k < R.count 0 := by
  have t8 := h.1
  have nth := servedAs_n h k
  rw [count0 h]
  have c8 := cnt_le (ahd R 0 R.told) R.told
  constructor
  · intro hs
    cases e : R.servedAs k with
    | none => exact absurd e hs
    | some i =>
      rw [e] at nth
      rcases nth with ⟨j, j1, j2, j3, -⟩ | ⟨j1, -⟩
      · have q : cnt (ahd R (urg (R.ms j)) j) R.told < cnt (ahd R 0 R.told) R.told := by
          refine cnt_lt (fun i hi hp => ?_) j j1 ?_ ?_
          · simp only [ahd, Bool.and_eq_true, Bool.or_eq_true, decide_eq_true_eq] at hp ⊢
            exact ⟨hp.1, by omega⟩
          · simp only [ahd, Bool.and_eq_false_iff, Bool.or_eq_false_iff, decide_eq_false_iff_not]
            exact Or.inr ⟨by omega, Or.inr (by omega)⟩
          · simp only [ahd, Bool.and_eq_true, Bool.or_eq_true, decide_eq_true_eq]
            exact ⟨j2, by omega⟩
        rw [j3]
        exact ⟨nI_pos' (by omega), nI_lt q (by omega)⟩
      · have hi := servedAs_lt e
        exact absurd j1 (nI_neN (by omega))
  · intro ⟨h0, h1⟩
    obtain ⟨j, hj, rfl⟩ := rngT (by omega) ⟨h0, h1⟩
    obtain ⟨i, i1, i2, i3⟩ := rows_hit (R := R) (k := j) 9 (by rw [ahd_9 h]; omega) hj
    intro e
    rw [e] at nth
    rcases nth with ⟨g, g1, -, -, g4⟩ | ⟨-, g2⟩
    · exact absurd g4.symm (nI_neN (by omega))
    · exact g2 i i1 i2 (by rw [i3])
theorem op_next (hI : cInv a t h) (x1 : Int32) : lw_S (cInv a (t + 1)) (a + 614) (a + 628) (fun r => r.toInt64) (f_L_next h a x1 (a + 628)) (fun h9 => f_X8_next h9 (a + 614) x1) := by
  obtain ⟨F, R, hf, hm, hq, hr, ef, ew, g7, gn, gw⟩ := cH_of hI
  have z10 : ((1 : Int32) = 0) = False := eq_false (by decide)
  have t8 := hr.now.inv.1
  have sv := servedAs_wd (h := h) (w := a + 2) (R := F.now) t8 x1
  rw [ew] at sv
  have si := served_iff hr.now.inv x1
  have cc : F.now.count 0 = nI (cnt (ahd F.now 0 F.now.told) F.now.told) := count0 hr.now.inv
  have c8 := cnt_le (ahd F.now 0 F.now.told) F.now.told
  have is0 : ∀ x, f_X8_inState (mP x (a + 614) (R.s_th 0)) (a + 614) 0 = some (F.now.count 0) := fun x => of_d (f := fun h => f_X8_inState h (a + 614) 0) (inState_d (isM_m _ _ _) hr.now 0)
  have nx : ∀ x, f_X8_nextMessage (mP x (a + 614) (R.s_th 0)) (a + 614) x1 = some (oI (F.now.servedAs x1)) := fun x => of_d (f := fun h => f_X8_nextMessage h (a + 614) x1) (nextMessage_d (isM_m _ _ _) hr.now x1)
  have lp : (0 ≤ x1 ∧ x1 ≤ F.now.count 0 - 1) ↔ (0 ≤ x1 ∧ x1 < F.now.count 0) := by rw [cc, le_pred (by omega)]
  cases e : F.now.servedAs x1 with
  | none =>
    have nc : ¬ (0 ≤ x1 ∧ x1 < F.now.count 0) := fun z => si.mpr z e
    rw [e] at sv
    refine S_ex (R' := R.s_th 1) (c := 1) (r := 0) hf hm hq ?_ (by decide) (fun x => ?_) rfl (hr.later (by omega))
    · simp only [f_L_next, g7, cond_true, f_X7_next, gn, gw, sv, oI_none, if_true, Option.bind_some]
    · simp only [f_X8_next, f_X8_next_b26, mT_th, Option.bind_some, is0, f8, lp, nc, not_false_eq_true, if_true, mI, cond_true, fails_1 (R := R.s_th 0) rfl (show ¬ (1 : Int32) = 0 by decide), z10, if_false]
      rfl
  | some i =>
    have c := lp.mpr (si.mp (by rw [e]; exact fun z => nomatch z))
    rw [e] at sv
    have nk : ¬ nI i = -1 := nI_neN (by have := servedAs_lt e; omega)
    refine S_ok (F' := F) (R' := R.s_th 0) hf hm hq h (fun q _ => by rw [ef]) (v := nI i) ?_ (fun x => ?_) rfl (hr.later (by omega))
    · simp only [f_L_next, g7, cond_true, f_X7_next, gn, gw, sv, oI_some, nk, if_false, Option.bind_some]
    · have q := nx x
      rw [e] at q
      simp only [f_X8_next, f_X8_next_b26, mT_th, Option.bind_some, is0, f8, c, and_self, not_true_eq_false, if_false, mI, cond_true, fails_0 (R := R.s_th 0) rfl, if_true, q, oI_some]
end READS
