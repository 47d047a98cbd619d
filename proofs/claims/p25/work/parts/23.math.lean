/-! numbers -/
theorem nI_mul (a b : Nat) : nI a * nI b = nI (a * b) := (Int32.ofNat_mul a b).symm
theorem nI_sub {a b : Nat} (h : b ≤ a) : nI a - nI b = nI (a - b) := by
  have : nI a = nI (a - b) + nI b := by rw [nI_add]; congr 1; omega
  rw [this]
  exact Int32.add_sub_cancel _ _
theorem nI_div {a b : Nat} (ha : a < 2 ^ 31) (hb : b < 2 ^ 31) (h0 : 0 < b) : nI a / nI b = nI (a / b) := by
  apply Int32.toInt_inj.mp
  rw [Int32.toInt_div, nI_toInt ha, nI_toInt hb, nI_toInt (Nat.lt_of_le_of_lt (Nat.div_le_self a b) ha)]
  rw [show (a : Int).tdiv b = ((a / b : Nat) : Int) from rfl]
  have : a / b ≤ a := Nat.div_le_self a b
  generalize a / b = c at this ⊢
  exact Int.bmod_eq_of_le (by omega) (by omega)
/-! Channel -/
theorem chP_ne {h : gH} {a q : Nat} {C : RCh} (h1 : q ≠ a) (h2 : q ≠ a + 1) : (chP h a C).2 q = h.2 q := by simp [RCh_s, RKp_s, RMs_s, RMi_s, bI_t, bI_f, oI_none, oI_some, SIM_m40, chP, h1, h2]
theorem kpP_ne {h : gH} {a q : Nat} {C : RKp} (h1 : q ≠ a) (h2 : q ≠ a + 1) (h3 : q ≠ a + 2) : (kpP h a C).2 q = h.2 q := by simp [RCh_s, RKp_s, RMs_s, RMi_s, bI_t, bI_f, oI_none, oI_some, SIM_m40, kpP, h1, h2, h3]
theorem miP_ne {h : gH} {a q : Nat} {C : RMi} (h1 : q ≠ a) (h2 : q ≠ a + 1) (h3 : q ≠ a + 2) (h4 : q ≠ a + 3) : (miP h a C).2 q = h.2 q := by simp [RCh_s, RKp_s, RMs_s, RMi_s, bI_t, bI_f, oI_none, oI_some, SIM_m40, miP, h1, h2, h3, h4]
theorem msP_ne {h : gH} {a q : Nat} {C : RMs} (h1 : q ≠ a) (h2 : q ≠ a + 1) (h3 : q ≠ a + 2) (h4 : q ≠ a + 3) (h5 : q ≠ a + 4) : (msP h a C).2 q = h.2 q := by simp [RCh_s, RKp_s, RMs_s, RMi_s, bI_t, bI_f, oI_none, oI_some, SIM_m40, msP, h1, h2, h3, h4, h5]
def RCh.take (C : RCh) (f : Int32) : RCh := (RCh.mk C.power C.opening C.closing f 0 0 0 C.heard false false)
def RCh.clear (C : RCh) : RCh := (RCh.mk 5 0 0 (-1) 0 0 0 C.heard false false)
def RCh.isOpen (C : RCh) (t : Int32) : Bool := if C.opening < C.closing then decide (C.opening ≤ g_rem t 24 ∧ g_rem t 24 < C.closing) else decide (C.opening = C.closing ∨ C.opening ≤ g_rem t 24 ∨ g_rem t 24 < C.closing)
def RCh.hear (C : RCh) (v : Int32) : RCh := (RCh.mk C.power C.opening C.closing C.frame C.step C.number (C.n + 1) (rowSet 8 C.heard (nI C.n) v) C.lost C.good)
def RCh.judge (C : RCh) (k : Nat) (check : Int32) : RCh := (RCh.mk C.power C.opening C.closing C.frame C.step C.number C.n C.heard C.lost (!C.lost && decide (g_rem (up (fun i s => s + C.heard i) k 0 C.number) 26 = check)))
def RCh.figure (C : RCh) (w t : Int32) : Int32 := if w = 0 then C.power else if w = 1 then C.opening else if w = 2 then C.closing else if w = 3 then bI (C.isOpen t) else if w = 4 then C.frame else if C.frame = -1 then -1 else C.step
theorem take_ch (h : gH) (a : Nat) (C : RCh) (f : Int32) : f_X0_take (chP h a C) a f = some (chP h a (C.take f)) := by
  have e0 : (0 : Int32) = bI false := rfl
  have e1 : (0 : Int32) = nI 0 := nI_0.symm
  simp only [RCh_s, RKp_s, RMs_s, RMi_s, f_X0_take, chT_frame, chT_step, chT_number, Option.bind_some]
  rw [show (Value.int 0 : Value) = .int (nI 0) by rw [nI_0]]
  simp only [RCh_s, RKp_s, RMs_s, RMi_s, chT_n, Option.bind_some]
  rw [show (Value.int (nI 0) : Value) = .int (bI false) by rw [nI_0]; rfl]
  simp only [RCh_s, RKp_s, RMs_s, RMi_s, chT_lost, chT_good, Option.bind_some]
  rfl
theorem becomeIdle_ch (h : gH) (a : Nat) (C : RCh) : f_X0_becomeIdle (chP h a C) a = some (chP h a (C.take (-1))) := by
  simp only [RCh_s, RKp_s, RMs_s, RMi_s, f_X0_becomeIdle, chP_g, cond_true, take_ch, Option.bind_some]
theorem clear_ch (h : gH) (a : Nat) (C : RCh) : f_X0_clear (chP h a C) a = some (chP h a C.clear) := by
  simp only [RCh_s, RKp_s, RMs_s, RMi_s, f_X0_clear, chP_g, cond_true, chT_power, chT_opening, chT_closing, becomeIdle_ch, Option.bind_some]
  rfl
theorem isIdle_ch (h : gH) (a : Nat) (C : RCh) : f_X0_isIdle (chP h a C) a = some (bI (decide (C.frame = -1))) := by
  simp only [RCh_s, RKp_s, RMs_s, RMi_s, f_X0_isIdle, chG_frame, Option.bind_some]
  by_cases c : C.frame = -1 <;> simp [RCh_s, RKp_s, RMs_s, RMi_s, bI_t, bI_f, oI_none, oI_some, SIM_m40, c]
theorem isOpen_ch (h : gH) (a : Nat) (C : RCh) (t : Int32) : f_X0_isOpenAt (chP h a C) a t = some (bI (C.isOpen t)) := by
  simp only [RCh_s, RKp_s, RMs_s, RMi_s, f_X0_isOpenAt, chG_opening, chG_closing, Option.bind_some, f_X0_isOpenAt_b65, RCh.isOpen]
  by_cases c : C.opening < C.closing
  · by_cases c1 : C.opening ≤ g_rem t 24 <;> by_cases c2 : g_rem t 24 < C.closing <;> simp [RCh_s, RKp_s, RMs_s, RMi_s, bI_t, bI_f, oI_none, oI_some, SIM_m40, c, c1, c2]
  · by_cases c0 : C.opening = C.closing
    · simp [RCh_s, RKp_s, RMs_s, RMi_s, bI_t, bI_f, oI_none, oI_some, SIM_m40, c0]
    · by_cases c1 : g_rem t 24 < C.opening
      · have : ¬ C.opening ≤ g_rem t 24 := Int32.not_le.mpr c1
        by_cases c2 : g_rem t 24 < C.closing <;> simp [RCh_s, RKp_s, RMs_s, RMi_s, bI_t, bI_f, oI_none, oI_some, SIM_m40, c, c0, c1, c2, this]
      · have : C.opening ≤ g_rem t 24 := le_of_nlt c1
        simp [RCh_s, RKp_s, RMs_s, RMi_s, bI_t, bI_f, oI_none, oI_some, SIM_m40, c, c0, c1, this]
theorem figure_ch (h : gH) (a : Nat) (C : RCh) (w t : Int32) : f_X0_figure (chP h a C) a w t = some (C.figure w t) := by
  simp only [RCh_s, RKp_s, RMs_s, RMi_s, f_X0_figure, RCh.figure, chG_power, chG_opening, chG_closing, chP_g, cond_true, isOpen_ch, isIdle_ch, chG_frame, chG_step, Option.bind_some]
  repeat (split; · rfl)
  split
  · cases C.isOpen t <;> rfl
  split
  · rfl
  · by_cases c : C.frame = -1 <;> simp [RCh_s, RKp_s, RMs_s, RMi_s, bI_t, bI_f, oI_none, oI_some, SIM_m40, c]
theorem hear_ch (h : gH) (a : Nat) (C : RCh) (v : Int32) : f_X0_hear (chP h a C) a v = some (chP h a (C.hear v)) := by
  simp only [RCh_s, RKp_s, RMs_s, RMi_s, f_X0_hear, chG_heard, chG_n, chW_heard, Option.bind_some, ← nI_succ, chT_n]
  rfl
theorem judge_b53 (h : gH) (a : Nat) (C : RCh) (b : Bool) : f_X0_judge_b53 (chP h a C) (bI b) a = some (chP h a (RCh.mk C.power C.opening C.closing C.frame C.step C.number C.n C.heard C.lost b)) := by
  simp only [RCh_s, RKp_s, RMs_s, RMi_s, f_X0_judge_b53, g_z_bI, Option.bind_some, chT_good]
theorem judge_loop {h : gH} {a : Nat} {C : RCh} {k : Nat} {check : Int32} (hk : k ≤ 8) : ∀ (d i fuel : Nat) (s : Int32), i + d = k → d < fuel → f_X0_judge_b8 fuel (chP h a C) a (nI k) check s (nI i) = some (chP h a (RCh.mk C.power C.opening C.closing C.frame C.step C.number C.n C.heard C.lost (!C.lost && decide (g_rem (up (fun i s => s + C.heard i) d i s) 26 = check)))) := by
  intro d
  induction d with
  | zero =>
    intro i fuel s hi hf
    obtain ⟨fu, rfl⟩ := Nat.exists_eq_succ_of_ne_zero (Nat.ne_of_gt hf)
    have t := judge_b53 h a C true
    have f := judge_b53 h a C false
    simp only [RCh_s, RKp_s, RMs_s, RMi_s, bI_t, bI_f] at t f
    simp only [RCh_s, RKp_s, RMs_s, RMi_s, f_X0_judge_b8, if_neg (nI_nlt (show k ≤ i by omega) (show i < 2 ^ 31 by omega)), chG_lost, Option.bind_some, f_X0_judge_b52, up]
    cases hl : C.lost
    · by_cases c : g_rem s 26 = check <;> simp [RCh_s, RKp_s, RMs_s, RMi_s, bI_t, bI_f, oI_none, oI_some, SIM_m40, c, t, f, hl]
    · simp [RCh_s, RKp_s, RMs_s, RMi_s, bI_t, bI_f, oI_none, oI_some, SIM_m40, f, hl]
  | succ d ih =>
    intro i fuel s hi hf
    obtain ⟨fu, rfl⟩ := Nat.exists_eq_succ_of_ne_zero (Nat.ne_of_gt (Nat.zero_lt_of_lt hf))
    simp only [RCh_s, RKp_s, RMs_s, RMi_s, f_X0_judge_b8, if_pos (nI_lt (show i < k by omega) (by omega)), chG_heard, chV_heard, Option.bind_some, rowAt_in (show i < 8 by omega) (by decide), ← nI_succ, up]
    exact ih (i + 1) fu _ (by omega) (by omega)
theorem judge_ch {h : gH} {a : Nat} {C : RCh} {k : Nat} {check : Int32} (hk : k ≤ 8) : f_X0_judge (chP h a C) a (nI k) check = some (chP h a (C.judge k check)) := by
  simp only [RCh_s, RKp_s, RMs_s, RMi_s, f_X0_judge, chG_number, Option.bind_some]
  rw [show f_X0_judge_b8 g_N (chP h a C) a (nI k) check C.number 0 = f_X0_judge_b8 g_N (chP h a C) a (nI k) check C.number (nI 0) by rw [nI_0]]
  exact judge_loop hk k 0 g_N C.number (by omega) (by unfold g_N; omega)
def cpy (N : Nat) (f g : Nat → Int32) : Nat → Int32 := va_cpy f g 0 0 N
theorem cpy_in {N k : Nat} {f g : Nat → Int32} (h : k < N) : cpy N f g k = f k := by simp [RCh_s, RKp_s, RMs_s, RMi_s, bI_t, bI_f, oI_none, oI_some, SIM_m40, cpy, va_cpy, h]
theorem gI_ne {h : gH} {p ci j : Nat} {x : gH} (e : x.2 p = h.2 p) : g_gI x p ci j = g_gI h p ci j := by simp [RCh_s, RKp_s, RMs_s, RMi_s, bI_t, bI_f, oI_none, oI_some, SIM_m40, g_gI, g_fd, e]
theorem gA_ne {h : gH} {p ci j : Nat} {x : gH} (e : x.2 p = h.2 p) : g_gA x p ci j = g_gA h p ci j := by simp [RCh_s, RKp_s, RMs_s, RMi_s, bI_t, bI_f, oI_none, oI_some, SIM_m40, g_gA, g_fd, e]
theorem gI_chO {h : gH} {p j : Nat} {C : RCh} {v : Int32} (e : h.2 p = some (chO p C)) (hj : [Value.int C.power, .int C.opening, .int C.closing, .int C.frame, .int C.step, .int C.number, .int (nI C.n), .ref (p + 1), .int (bI C.lost), .int (bI C.good)][j]? = some (.int v)) : g_gI h p 0 j = some v := gI_of e hj
theorem copyFrom_ch {h : gH} {a p : Nat} {C K : RCh} (HK : chIs h p K) (h0 : p ≠ a) (h1 : p ≠ a + 1) (h2 : p + 1 ≠ a) : f_X0_copyFrom (chP h a C) a p = some (chP h a (RCh.mk K.power K.opening K.closing K.frame K.step K.number K.n (cpy 8 K.heard C.heard) K.lost K.good)) := by
  have E : ∀ C', (chP h a C').2 p = some (chO p K) := fun C' => by rw [chP_ne h0 h1]; exact HK.1
  have E1 : ∀ C', (chP h a C').2 (p + 1) = some (.inl (0, 8, .inl K.heard)) := fun C' => by rw [chP_ne h2 (by omega)]; exact HK.2
  have cp : ∀ C', f_X7_copyRow (chP h a C') (p + 1) (a + 1) = some (chP h a (RCh.mk C'.power C'.opening C'.closing C'.frame C'.step C'.number C'.n (cpy 8 K.heard C'.heard) C'.lost C'.good)) := fun C' => by
    rw [copyRow_of (E1 C') (chE_heard h a C') (by decide), chS_heard]
    rfl
  simp only [RCh_s, RKp_s, RMs_s, RMi_s, f_X0_copyFrom, gI_chO (j := 0) (E _) rfl, gI_chO (j := 1) (E _) rfl, gI_chO (j := 2) (E _) rfl, gI_chO (j := 3) (E _) rfl, gI_chO (j := 4) (E _) rfl, gI_chO (j := 5) (E _) rfl, gI_chO (j := 6) (E _) rfl, gI_chO (j := 8) (E _) rfl, gI_chO (j := 9) (E _) rfl, Option.bind_some, chT_power, chT_opening, chT_closing, chT_frame, chT_step, chT_number, chT_n, gA_of (j := 7) (E _) rfl, chG_heard, cp, g_z_bI, chT_lost, chT_good]
