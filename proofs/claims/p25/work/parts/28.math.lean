/-! the World's own methods -/
/-- what a World's numbers are good for -/
def RW.ok (R : RW) : Prop := (R.told ≤ 8) ∧ (∀ m, R.way = some m → m < R.told) ∧ (1 ≤ R.fsize) ∧ (R.fsize ≤ 8) ∧ (R.k0.told ≤ 8) ∧ (R.k1.told ≤ 8) ∧ (R.mi.told ≤ 12) ∧ (∀ i, i < R.told → (R.ms i).ok)
theorem RW.ok.told {R : RW} (H : RW.ok R) : R.told ≤ 8 := H.1
theorem RW.ok.way {R : RW} (H : RW.ok R) : ∀ m, R.way = some m → m < R.told := H.2.1
theorem RW.ok.fs1 {R : RW} (H : RW.ok R) : 1 ≤ R.fsize := H.2.2.1
theorem RW.ok.fs8 {R : RW} (H : RW.ok R) : R.fsize ≤ 8 := H.2.2.2.1
theorem RW.ok.k0 {R : RW} (H : RW.ok R) : R.k0.told ≤ 8 := H.2.2.2.2.1
theorem RW.ok.k1 {R : RW} (H : RW.ok R) : R.k1.told ≤ 8 := H.2.2.2.2.2.1
theorem RW.ok.mi {R : RW} (H : RW.ok R) : R.mi.told ≤ 12 := H.2.2.2.2.2.2.1
theorem RW.ok.ms {R : RW} (H : RW.ok R) : ∀ i, i < R.told → (R.ms i).ok := H.2.2.2.2.2.2.2
def RW.count (R : RW) (p : Int32) : Int32 := up (fun i x => if (R.ms i).phase = p then x + 1 else x) R.told 0 0
def RW.agreeing (R : RW) : Int32 := up (fun i x => if (R.ms i).agrees then x + 1 else x) R.told 0 0
def RW.busy (R : RW) : Bool := decide (R.way ≠ none ∨ 0 < R.count 0)
def RW.before (R : RW) (m : Nat) : Int32 := up (fun i x => if (R.ms i).phase = 0 ∧ ((R.ms m).urgency < (R.ms i).urgency ∨ ((R.ms i).urgency = (R.ms m).urgency ∧ i < m)) then x + 1 else x) R.told 0 0
def RW.servedAs (R : RW) (rank : Int32) : Option Nat := fnd (fun i => (R.ms i).phase = 0 ∧ R.before i = rank) R.told 0
def RW.figure (R : RW) (w : Int32) : Int32 := if w = 0 then nI R.time else if w = 1 then nI R.told else if w = 2 then oI R.way else if w = 3 then R.count 0 else if w = 4 then R.count 2 else if w = 5 then R.agreeing else if w = 6 then R.sent else if w = 7 then R.lost else if w = 8 then R.garbled else if w = 9 then R.given else if w = 10 then nI R.mi.told else if w = 11 then nI R.fsize else R.limit
theorem count_l {h : gH} {w : Nat} {R : RW} {p : Int32} (hR : R.told ≤ 8) : ∀ (d i fuel : Nat) (x : Int32), i + d = R.told → d < fuel → f_X6_messagesIn_b4 (wdP h w R) fuel w p x (nI i) = some (up (fun i x => if (R.ms i).phase = p then x + 1 else x) d i x) := by
  intro d
  induction d with
  | zero =>
    intro i fuel x hi hf
    obtain ⟨fu, rfl⟩ := Nat.exists_eq_succ_of_ne_zero (Nat.ne_of_gt hf)
    simp [RCh_s, RKp_s, RMs_s, RMi_s, RW_s, bI_t, bI_f, oI_none, oI_some, SIM_m40, SIM_m45, SIM_m46, f_X6_messagesIn_b4, up, nI_nlt (show R.told ≤ i by omega) (by omega)]
  | succ d ih =>
    intro i fuel x hi hf
    obtain ⟨fu, rfl⟩ := Nat.exists_eq_succ_of_ne_zero (Nat.ne_of_gt (Nat.zero_lt_of_lt hf))
    have h8 : i < 8 := by omega
    simp only [RCh_s, RKp_s, RMs_s, RMi_s, RW_s, f_X6_messagesIn_b4, wdG_told, wdP_g, cond_true, msgNo h w R h8, w_ms_Gphase h w R h8, Option.bind_some, if_pos (nI_lt (show i < R.told by omega) (by omega)), ← nI_succ, up, f_X6_messagesIn_b27]
    by_cases c : (R.ms i).phase = p
    · simp only [RCh_s, RKp_s, RMs_s, RMi_s, RW_s, c, if_true]; exact ih (i + 1) fu _ (by omega) (by omega)
    · simp only [RCh_s, RKp_s, RMs_s, RMi_s, RW_s, c, if_false]; exact ih (i + 1) fu _ (by omega) (by omega)
theorem count_wd {h : gH} {w : Nat} {R : RW} (hR : R.told ≤ 8) (p : Int32) : f_X6_messagesIn (wdP h w R) w p = some (R.count p) := by
  unfold f_X6_messagesIn
  rw [show f_X6_messagesIn_b4 (wdP h w R) g_N w p 0 0 = f_X6_messagesIn_b4 (wdP h w R) g_N w p 0 (nI 0) by rw [nI_0]]
  exact count_l hR R.told 0 g_N 0 (by omega) (by unfold g_N; omega)
theorem agreeing_l {h : gH} {w : Nat} {R : RW} (hR : R.ok) : ∀ (d i fuel : Nat) (x : Int32), i + d = R.told → d < fuel → f_X6_agreeing_b4 (wdP h w R) fuel w x (nI i) = some (up (fun i x => if (R.ms i).agrees then x + 1 else x) d i x) := by
  have h9 := hR.told
  intro d
  induction d with
  | zero =>
    intro i fuel x hi hf
    obtain ⟨fu, rfl⟩ := Nat.exists_eq_succ_of_ne_zero (Nat.ne_of_gt hf)
    simp [RCh_s, RKp_s, RMs_s, RMi_s, RW_s, bI_t, bI_f, oI_none, oI_some, SIM_m40, SIM_m45, SIM_m46, f_X6_agreeing_b4, up, nI_nlt (show R.told ≤ i by omega) (by omega)]
  | succ d ih =>
    intro i fuel x hi hf
    obtain ⟨fu, rfl⟩ := Nat.exists_eq_succ_of_ne_zero (Nat.ne_of_gt (Nat.zero_lt_of_lt hf))
    have h8 : i < 8 := by omega
    simp only [RCh_s, RKp_s, RMs_s, RMi_s, RW_s, f_X6_agreeing_b4, wdG_told, wdP_g, cond_true, msgNo h w R h8, w_ms_g h w R h8, w_ms_agrees h w R h8 (hR.ms i (by omega)), Option.bind_some, if_pos (nI_lt (show i < R.told by omega) (by omega)), ← nI_succ, up, f_X6_agreeing_b26]
    have h10 : ((1 : Int32) = 0) = False := eq_false (by decide)
    cases c : (R.ms i).agrees
    · simp only [RCh_s, RKp_s, RMs_s, RMi_s, RW_s, bI_f, if_true]; exact ih (i + 1) fu _ (by omega) (by omega)
    · simp only [RCh_s, RKp_s, RMs_s, RMi_s, RW_s, bI_t, h10, if_false, if_true]; exact ih (i + 1) fu _ (by omega) (by omega)
theorem agreeing_wd {h : gH} {w : Nat} {R : RW} (hR : R.ok) : f_X6_agreeing (wdP h w R) w = some R.agreeing := by
  have := hR.told
  unfold f_X6_agreeing
  rw [show f_X6_agreeing_b4 (wdP h w R) g_N w 0 0 = f_X6_agreeing_b4 (wdP h w R) g_N w 0 (nI 0) by rw [nI_0]]
  exact agreeing_l hR R.told 0 g_N 0 (by omega) (by unfold g_N; omega)
theorem figure_wd {h : gH} {w : Nat} {R : RW} (hR : R.ok) (x : Int32) : f_X6_figure (wdP h w R) w x = some (R.figure x) := by
  simp only [RCh_s, RKp_s, RMs_s, RMi_s, RW_s, f_X6_figure, RW.figure, wdG_time, wdG_told, wdG_way, wdP_g, cond_true, count_wd hR.told, agreeing_wd hR, wdG_sent, wdG_lost, wdG_garbled, wdG_given, wdG_mi, w_mi_Gtold, wdG_fsize, wdG_limit, Option.bind_some, apply_ite (some (α := Int32))]
theorem way_eq {R : RW} (hR : R.ok) : oI R.way = -1 ↔ R.way = none := oI_eqN fun i e => by have := hR.way i e; have := hR.told; omega
theorem busy_wd {h : gH} {w : Nat} {R : RW} (hR : R.ok) : f_X6_isBusy (wdP h w R) w = some (bI R.busy) := by
  simp only [RCh_s, RKp_s, RMs_s, RMi_s, RW_s, f_X6_isBusy, f_X6_isBusy_b16, wdG_way, wdP_g, cond_true, count_wd hR.told, Option.bind_some, way_eq hR, RW.busy]
  by_cases c : R.way = none
  · by_cases c2 : 0 < R.count 0 <;> simp [RCh_s, RKp_s, RMs_s, RMi_s, RW_s, bI_t, bI_f, oI_none, oI_some, SIM_m40, SIM_m45, SIM_m46, c, c2]
  · simp [RCh_s, RKp_s, RMs_s, RMi_s, RW_s, bI_t, bI_f, oI_none, oI_some, SIM_m40, SIM_m45, SIM_m46, c]
theorem before_l {h : gH} {w : Nat} {R : RW} {m : Nat} (hR : R.told ≤ 8) (hm : m < 8) : ∀ (d i fuel : Nat) (x : Int32), i + d = R.told → d < fuel → f_X6_servedBefore_b14 (wdP h w R) fuel w (nI m) (R.ms m).urgency x (nI i) = some (up (fun i x => if (R.ms i).phase = 0 ∧ ((R.ms m).urgency < (R.ms i).urgency ∨ ((R.ms i).urgency = (R.ms m).urgency ∧ i < m)) then x + 1 else x) d i x) := by
  intro d
  induction d with
  | zero =>
    intro i fuel x hi hf
    obtain ⟨fu, rfl⟩ := Nat.exists_eq_succ_of_ne_zero (Nat.ne_of_gt hf)
    simp [RCh_s, RKp_s, RMs_s, RMi_s, RW_s, bI_t, bI_f, oI_none, oI_some, SIM_m40, SIM_m45, SIM_m46, f_X6_servedBefore_b14, up, nI_nlt (show R.told ≤ i by omega) (by omega)]
  | succ d ih =>
    intro i fuel x hi hf
    obtain ⟨fu, rfl⟩ := Nat.exists_eq_succ_of_ne_zero (Nat.ne_of_gt (Nat.zero_lt_of_lt hf))
    have h8 : i < 8 := by omega
    simp only [RCh_s, RKp_s, RMs_s, RMi_s, RW_s, f_X6_servedBefore_b14, wdG_told, wdP_g, cond_true, msgNo h w R h8, w_ms_Gphase h w R h8, w_ms_Gurgency h w R h8, Option.bind_some, if_pos (nI_lt (show i < R.told by omega) (by omega)), ← nI_succ, up, f_X6_servedBefore_b66, f_X6_servedBefore_b63, nI_ltI (show i < 2 ^ 31 by omega) (show m < 2 ^ 31 by omega)]
    by_cases c : (R.ms i).phase = 0
    · by_cases c1 : (R.ms i).urgency ≤ (R.ms m).urgency
      · have c1' : ¬ (R.ms m).urgency < (R.ms i).urgency := Int32.not_lt.mpr c1
        by_cases c2 : (R.ms i).urgency = (R.ms m).urgency
        · by_cases c3 : i < m
          · simp only [RCh_s, RKp_s, RMs_s, RMi_s, RW_s, c, c2, c3, Int32.le_refl, Int32.lt_irrefl, if_true, and_self, or_true, true_and]; exact ih (i + 1) fu _ (by omega) (by omega)
          · simp only [RCh_s, RKp_s, RMs_s, RMi_s, RW_s, c, c2, c3, Int32.le_refl, Int32.lt_irrefl, if_true, if_false, and_false, or_self]; exact ih (i + 1) fu _ (by omega) (by omega)
        · simp only [RCh_s, RKp_s, RMs_s, RMi_s, RW_s, c, c1, c1', c2, if_true, if_false, false_and, or_self, and_false]; exact ih (i + 1) fu _ (by omega) (by omega)
      · have c1' : (R.ms m).urgency < (R.ms i).urgency := Int32.not_le.mp c1
        simp only [RCh_s, RKp_s, RMs_s, RMi_s, RW_s, c, c1, c1', if_true, if_false, true_or, and_self]; exact ih (i + 1) fu _ (by omega) (by omega)
    · simp only [RCh_s, RKp_s, RMs_s, RMi_s, RW_s, c, if_false, false_and]; exact ih (i + 1) fu _ (by omega) (by omega)
theorem before_wd {h : gH} {w : Nat} {R : RW} {m : Nat} (hR : R.told ≤ 8) (hm : m < 8) : f_X6_servedBefore (wdP h w R) w (nI m) = some (R.before m) := by
  simp only [RCh_s, RKp_s, RMs_s, RMi_s, RW_s, f_X6_servedBefore, wdP_g, cond_true, msgNo h w R hm, w_ms_Gurgency h w R hm, Option.bind_some]
  rw [show f_X6_servedBefore_b14 (wdP h w R) g_N w (nI m) (R.ms m).urgency 0 0 = f_X6_servedBefore_b14 (wdP h w R) g_N w (nI m) (R.ms m).urgency 0 (nI 0) by rw [nI_0]]
  exact before_l hR hm R.told 0 g_N 0 (by omega) (by unfold g_N; omega)
theorem servedAs_l {h : gH} {w : Nat} {R : RW} {rank : Int32} (hR : R.told ≤ 8) : ∀ (d i fuel : Nat), i + d = R.told → d < fuel → f_X6_servedAs_b2 (wdP h w R) fuel w rank (nI i) = some (oI (fnd (fun i => (R.ms i).phase = 0 ∧ R.before i = rank) d i)) := by
  intro d
  induction d with
  | zero =>
    intro i fuel hi hf
    obtain ⟨fu, rfl⟩ := Nat.exists_eq_succ_of_ne_zero (Nat.ne_of_gt hf)
    simp [RCh_s, RKp_s, RMs_s, RMi_s, RW_s, bI_t, bI_f, oI_none, oI_some, SIM_m40, SIM_m45, SIM_m46, f_X6_servedAs_b2, fnd, nI_nlt (show R.told ≤ i by omega) (by omega)]
  | succ d ih =>
    intro i fuel hi hf
    obtain ⟨fu, rfl⟩ := Nat.exists_eq_succ_of_ne_zero (Nat.ne_of_gt (Nat.zero_lt_of_lt hf))
    have h8 : i < 8 := by omega
    simp only [RCh_s, RKp_s, RMs_s, RMi_s, RW_s, f_X6_servedAs_b2, wdG_told, wdP_g, cond_true, msgNo h w R h8, w_ms_Gphase h w R h8, before_wd hR h8, Option.bind_some, if_pos (nI_lt (show i < R.told by omega) (by omega)), ← nI_succ, fnd, f_X6_servedAs_b32]
    by_cases c : (R.ms i).phase = 0
    · by_cases c2 : R.before i = rank
      · simp [RCh_s, RKp_s, RMs_s, RMi_s, RW_s, bI_t, bI_f, oI_none, oI_some, SIM_m40, SIM_m45, SIM_m46, c, c2]
      · simp only [RCh_s, RKp_s, RMs_s, RMi_s, RW_s, c, c2, if_true, if_false, and_false]; exact ih (i + 1) fu (by omega) (by omega)
    · simp only [RCh_s, RKp_s, RMs_s, RMi_s, RW_s, c, if_false, false_and]; exact ih (i + 1) fu (by omega) (by omega)
theorem servedAs_wd {h : gH} {w : Nat} {R : RW} (hR : R.told ≤ 8) (rank : Int32) : f_X6_servedAs (wdP h w R) w rank = some (oI (R.servedAs rank)) := by
  unfold f_X6_servedAs
  rw [show f_X6_servedAs_b2 (wdP h w R) g_N w rank 0 = f_X6_servedAs_b2 (wdP h w R) g_N w rank (nI 0) by rw [nI_0]]
  exact servedAs_l hR R.told 0 g_N (by omega) (by unfold g_N; omega)
theorem hasMessage_wd {h : gH} {w : Nat} {R : RW} (x : Int32) : f_X6_hasMessage (wdP h w R) w x = some (bI (decide (0 ≤ x ∧ x < nI R.told))) := by
  simp only [RCh_s, RKp_s, RMs_s, RMi_s, RW_s, f_X6_hasMessage, wdG_told, Option.bind_some]
  by_cases c1 : 0 ≤ x <;> by_cases c2 : x < nI R.told <;> simp [RCh_s, RKp_s, RMs_s, RMi_s, RW_s, bI_t, bI_f, oI_none, oI_some, SIM_m40, SIM_m45, SIM_m46, c1, c2]
def RW.start (R : RW) : RW := match R.servedAs 0 with
  | none => (RW.mk R.time R.told none R.fsize R.limit R.sent R.lost R.garbled R.given R.no R.c0 R.c1 R.k0 R.k1 R.mi R.ms)
  | some m => (RW.mk R.time R.told (some m) R.fsize R.limit R.sent R.lost R.garbled R.given R.no R.c0 R.c1 R.k0 R.k1 R.mi (updM R.ms m (((R.ms m).s_phase 1).s_began (nI R.time))))
theorem servedAs_lt {R : RW} {rank : Int32} {m : Nat} (h : R.servedAs rank = some m) : m < R.told := by
  have := fnd_some (show fnd (fun i => (R.ms i).phase = 0 ∧ R.before i = rank) R.told 0 = some m from h)
  omega
theorem start_wd {h : gH} {w : Nat} {R : RW} (hR : R.told ≤ 8) : f_X6_startFirstWaiting (wdP h w R) w = some (wdP h w R.start) := by
  simp only [RCh_s, RKp_s, RMs_s, RMi_s, RW_s, f_X6_startFirstWaiting, wdP_g, cond_true, servedAs_wd hR, Option.bind_some, wdT_way, wdG_way, RW.start]
  cases e : R.servedAs 0 with
  | none => simp [RCh_s, RKp_s, RMs_s, RMi_s, RW_s, bI_t, bI_f, oI_none, oI_some, SIM_m40, SIM_m45, SIM_m46]
  | some m =>
    have h1 := servedAs_lt e
    have h8 : m < 8 := by omega
    have hne : ¬ nI m = -1 := nI_neN (by omega)
    simp only [RCh_s, RKp_s, RMs_s, RMi_s, RW_s, oI_some, hne, if_false]
    simp only [RCh_s, RKp_s, RMs_s, RMi_s, RW_s, msgNo h w (RW.mk R.time R.told (some m) R.fsize R.limit R.sent R.lost R.garbled R.given R.no R.c0 R.c1 R.k0 R.k1 R.mi R.ms) h8, Option.bind_some, wdG_time, w_ms_g h w (RW.mk R.time R.told (some m) R.fsize R.limit R.sent R.lost R.garbled R.given R.no R.c0 R.c1 R.k0 R.k1 R.mi R.ms) h8, cond_true, w_ms_start h w (RW.mk R.time R.told (some m) R.fsize R.limit R.sent R.lost R.garbled R.given R.no R.c0 R.c1 R.k0 R.k1 R.mi R.ms) h8]
/-- a symbol is counted -/
def RW.counted (R : RW) (lost garbled : Bool) : RW := (RW.mk R.time R.told R.way R.fsize R.limit (R.sent + 1) (if lost then R.lost + 1 else R.lost) (if garbled then R.garbled + 1 else R.garbled) R.given R.no R.c0 R.c1 R.k0 R.k1 R.mi R.ms)
theorem counted_wd {h : gH} {w : Nat} {R : RW} (b c : Bool) : f_X6_countSymbol (wdP h w R) w (bI b) (bI c) = some (wdP h w (R.counted b c)) := by
  have h10 : ((1 : Int32) = 0) = False := eq_false (by decide)
  cases b <;> cases c <;> simp only [RCh_s, RKp_s, RMs_s, RMi_s, RW_s, f_X6_countSymbol, f_X6_countSymbol_b24, wdG_sent, wdT_sent, wdG_lost, wdT_lost, wdG_garbled, wdT_garbled, Option.bind_some, bI_t, bI_f, h10, if_true, if_false, RW.counted] <;> rfl
