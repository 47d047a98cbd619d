/-! Message -/
def RMs.empties (M : RMs) : Int32 := up (fun k x => if M.log k = -1 then x + 1 else x) M.len 0 0
def RMs.wrongs (M : RMs) : Int32 := up (fun k x => if M.log k = -1 then x else if M.log k = M.letters k then x else x + 1) M.len 0 0
def RMs.sumTries (M : RMs) : Int32 := up (fun k x => x + M.tries k) M.frames 0 0
def RMs.agrees (M : RMs) : Bool := decide (M.phase = 2 ∧ M.empties = 0 ∧ M.wrongs = 0)
def RMs.hasPlace (M : RMs) (k : Int32) : Bool := decide (0 ≤ k ∧ k < nI M.len)
def RMs.figure (M : RMs) (w : Int32) : Int32 := if w = 0 then M.sender else if w = 1 then M.urgency else if w = 2 then nI M.len else if w = 3 then nI M.frames else if w = 4 then M.phase else if w = 5 then M.empties else if w = 6 then M.wrongs else if w = 7 then M.sumTries else if w = 8 then M.began else M.ended
def RMs.reason (M : RMs) (k : Nat) : Int32 := if M.log k = M.letters k then 0 else if M.log k = -1 then (if M.fst (k / M.fsize) = 0 ∨ M.fst (k / M.fsize) = 1 then 1 else 2) else 3
/-- what a message's numbers are good for -/
def RMs.ok (M : RMs) : Prop := M.len ≤ 24 ∧ M.frames ≤ 24 ∧ 1 ≤ M.fsize ∧ M.fsize ≤ 8
theorem loggedAt_ms {h : gH} {a : Nat} {M : RMs} (k : Int32) : f_X3_loggedAt (msP h a M) a k = some (rowAt 24 M.log k) := by
  simp only [RCh_s, RKp_s, RMs_s, RMi_s, f_X3_loggedAt, msG_log, msV_log, Option.bind_some]
theorem letterAt_ms {h : gH} {a : Nat} {M : RMs} (k : Int32) : f_X3_letterAt (msP h a M) a k = some (rowAt 24 M.letters k) := by
  simp only [RCh_s, RKp_s, RMs_s, RMi_s, f_X3_letterAt, msG_letters, msV_letters, Option.bind_some]
theorem empties_l {h : gH} {a : Nat} {M : RMs} (hn : M.len ≤ 24) : ∀ (d i fuel : Nat) (x : Int32), i + d = M.len → d < fuel → f_X3_emptyPlaces_b4 (msP h a M) fuel a x (nI i) = some (up (fun k x => if M.log k = -1 then x + 1 else x) d i x) := by
  intro d
  induction d with
  | zero =>
    intro i fuel x hi hf
    obtain ⟨fu, rfl⟩ := Nat.exists_eq_succ_of_ne_zero (Nat.ne_of_gt hf)
    simp [RCh_s, RKp_s, RMs_s, RMi_s, bI_t, bI_f, oI_none, oI_some, SIM_m40, f_X3_emptyPlaces_b4, up, nI_nlt (show M.len ≤ i by omega) (by omega)]
  | succ d ih =>
    intro i fuel x hi hf
    obtain ⟨fu, rfl⟩ := Nat.exists_eq_succ_of_ne_zero (Nat.ne_of_gt (Nat.zero_lt_of_lt hf))
    simp only [RCh_s, RKp_s, RMs_s, RMi_s, f_X3_emptyPlaces_b4, msG_len, msP_g, cond_true, loggedAt_ms, Option.bind_some, rowAt_in (show i < 24 by omega) (by decide), if_pos (nI_lt (show i < M.len by omega) (by omega)), ← nI_succ, up, f_X3_emptyPlaces_b24]
    by_cases c : M.log i = -1
    · simp only [RCh_s, RKp_s, RMs_s, RMi_s, c, if_true]; exact ih (i + 1) fu _ (by omega) (by omega)
    · simp only [RCh_s, RKp_s, RMs_s, RMi_s, c, if_false]; exact ih (i + 1) fu _ (by omega) (by omega)
theorem empties_ms {h : gH} {a : Nat} {M : RMs} (hn : M.len ≤ 24) : f_X3_emptyPlaces (msP h a M) a = some M.empties := by
  unfold f_X3_emptyPlaces
  rw [show f_X3_emptyPlaces_b4 (msP h a M) g_N a 0 0 = f_X3_emptyPlaces_b4 (msP h a M) g_N a 0 (nI 0) by rw [nI_0]]
  exact empties_l hn M.len 0 g_N 0 (by omega) (by unfold g_N; omega)
theorem wrongs_l {h : gH} {a : Nat} {M : RMs} (hn : M.len ≤ 24) : ∀ (d i fuel : Nat) (x : Int32), i + d = M.len → d < fuel → f_X3_wrongPlaces_b4 (msP h a M) fuel a x (nI i) = some (up (fun k x => if M.log k = -1 then x else if M.log k = M.letters k then x else x + 1) d i x) := by
  intro d
  induction d with
  | zero =>
    intro i fuel x hi hf
    obtain ⟨fu, rfl⟩ := Nat.exists_eq_succ_of_ne_zero (Nat.ne_of_gt hf)
    simp [RCh_s, RKp_s, RMs_s, RMi_s, bI_t, bI_f, oI_none, oI_some, SIM_m40, f_X3_wrongPlaces_b4, up, nI_nlt (show M.len ≤ i by omega) (by omega)]
  | succ d ih =>
    intro i fuel x hi hf
    obtain ⟨fu, rfl⟩ := Nat.exists_eq_succ_of_ne_zero (Nat.ne_of_gt (Nat.zero_lt_of_lt hf))
    simp only [RCh_s, RKp_s, RMs_s, RMi_s, f_X3_wrongPlaces_b4, msG_len, msP_g, cond_true, loggedAt_ms, letterAt_ms, Option.bind_some, rowAt_in (show i < 24 by omega) (by decide), if_pos (nI_lt (show i < M.len by omega) (by omega)), ← nI_succ, up, f_X3_wrongPlaces_b37]
    by_cases c : M.log i = -1
    · simp only [RCh_s, RKp_s, RMs_s, RMi_s, c, if_true]; exact ih (i + 1) fu _ (by omega) (by omega)
    · simp only [RCh_s, RKp_s, RMs_s, RMi_s, c, if_false]
      by_cases c2 : M.log i = M.letters i
      · simp only [RCh_s, RKp_s, RMs_s, RMi_s, c2, if_true]; exact ih (i + 1) fu _ (by omega) (by omega)
      · simp only [RCh_s, RKp_s, RMs_s, RMi_s, c2, if_false]; exact ih (i + 1) fu _ (by omega) (by omega)
theorem wrongs_ms {h : gH} {a : Nat} {M : RMs} (hn : M.len ≤ 24) : f_X3_wrongPlaces (msP h a M) a = some M.wrongs := by
  unfold f_X3_wrongPlaces
  rw [show f_X3_wrongPlaces_b4 (msP h a M) g_N a 0 0 = f_X3_wrongPlaces_b4 (msP h a M) g_N a 0 (nI 0) by rw [nI_0]]
  exact wrongs_l hn M.len 0 g_N 0 (by omega) (by unfold g_N; omega)
theorem tries_l {h : gH} {a : Nat} {M : RMs} (hn : M.frames ≤ 24) : ∀ (d i fuel : Nat) (x : Int32), i + d = M.frames → d < fuel → f_X3_allTries_b4 (msP h a M) fuel a x (nI i) = some (up (fun k x => x + M.tries k) d i x) := by
  intro d
  induction d with
  | zero =>
    intro i fuel x hi hf
    obtain ⟨fu, rfl⟩ := Nat.exists_eq_succ_of_ne_zero (Nat.ne_of_gt hf)
    simp [RCh_s, RKp_s, RMs_s, RMi_s, bI_t, bI_f, oI_none, oI_some, SIM_m40, f_X3_allTries_b4, up, nI_nlt (show M.frames ≤ i by omega) (by omega)]
  | succ d ih =>
    intro i fuel x hi hf
    obtain ⟨fu, rfl⟩ := Nat.exists_eq_succ_of_ne_zero (Nat.ne_of_gt (Nat.zero_lt_of_lt hf))
    simp only [RCh_s, RKp_s, RMs_s, RMi_s, f_X3_allTries_b4, msG_frames, msG_tries, msV_tries, Option.bind_some, rowAt_in (show i < 24 by omega) (by decide), if_pos (nI_lt (show i < M.frames by omega) (by omega)), ← nI_succ, up]
    exact ih (i + 1) fu _ (by omega) (by omega)
theorem tries_ms {h : gH} {a : Nat} {M : RMs} (hn : M.frames ≤ 24) : f_X3_allTries (msP h a M) a = some M.sumTries := by
  unfold f_X3_allTries
  rw [show f_X3_allTries_b4 (msP h a M) g_N a 0 0 = f_X3_allTries_b4 (msP h a M) g_N a 0 (nI 0) by rw [nI_0]]
  exact tries_l hn M.frames 0 g_N 0 (by omega) (by unfold g_N; omega)
theorem figure_ms {h : gH} {a : Nat} {M : RMs} (hM : M.ok) (w : Int32) : f_X3_figure (msP h a M) a w = some (M.figure w) := by
  simp only [RCh_s, RKp_s, RMs_s, RMi_s, f_X3_figure, RMs.figure, msG_sender, msG_urgency, msG_len, msG_frames, msG_phase, msG_began, msG_ended, msP_g, cond_true, empties_ms hM.1, wrongs_ms hM.1, tries_ms hM.2.1, Option.bind_some]
  repeat (split; · rfl)
  rfl
theorem agrees_ms {h : gH} {a : Nat} {M : RMs} (hM : M.ok) : f_X3_agrees (msP h a M) a = some (bI M.agrees) := by
  simp only [RCh_s, RKp_s, RMs_s, RMi_s, f_X3_agrees, RMs.agrees, msG_phase, msP_g, cond_true, empties_ms hM.1, wrongs_ms hM.1, Option.bind_some]
  by_cases c1 : M.phase = 2 <;> by_cases c2 : M.empties = 0 <;> by_cases c3 : M.wrongs = 0 <;> simp [RCh_s, RKp_s, RMs_s, RMi_s, bI_t, bI_f, oI_none, oI_some, SIM_m40, c1, c2, c3]
theorem canBeCancelled_ms {h : gH} {a : Nat} {M : RMs} : f_X3_canBeCancelled (msP h a M) a = some (bI (decide (M.phase = 0 ∨ M.phase = 1))) := by
  simp only [RCh_s, RKp_s, RMs_s, RMi_s, f_X3_canBeCancelled, f_X3_canBeCancelled_b15, msG_phase, Option.bind_some]
  by_cases c1 : M.phase = 0 <;> by_cases c2 : M.phase = 1 <;> simp [RCh_s, RKp_s, RMs_s, RMi_s, bI_t, bI_f, oI_none, oI_some, SIM_m40, c1, c2]
theorem hasPlace_ms {h : gH} {a : Nat} {M : RMs} (k : Int32) : f_X3_hasPlace (msP h a M) a k = some (bI (M.hasPlace k)) := by
  simp only [RCh_s, RKp_s, RMs_s, RMi_s, f_X3_hasPlace, RMs.hasPlace, msG_len, Option.bind_some]
  by_cases c1 : 0 ≤ k <;> by_cases c2 : k < nI M.len <;> simp [RCh_s, RKp_s, RMs_s, RMi_s, bI_t, bI_f, oI_none, oI_some, SIM_m40, c1, c2]
theorem hasPlace_nI {M : RMs} {k : Nat} (hn : M.len ≤ 24) (hk : k < 2 ^ 31) : M.hasPlace (nI k) = decide (k < M.len) := by
  unfold RMs.hasPlace
  by_cases c : k < M.len
  · simp [RCh_s, RKp_s, RMs_s, RMi_s, bI_t, bI_f, oI_none, oI_some, SIM_m40, c, nI_pos' hk, nI_lt c (by omega)]
  · have := nI_nlt (Nat.not_lt.mp c) hk
    simp [RCh_s, RKp_s, RMs_s, RMi_s, bI_t, bI_f, oI_none, oI_some, SIM_m40, c, this]
theorem reason_b51 (h : gH) (s : Int32) : f_X3_reasonAt_b51 h s = some (if s = 0 ∨ s = 1 then 1 else 2) := by
  simp only [RCh_s, RKp_s, RMs_s, RMi_s, f_X3_reasonAt_b51, f_X3_reasonAt_b61]
  by_cases c1 : s = 0 <;> by_cases c2 : s = 1 <;> simp [RCh_s, RKp_s, RMs_s, RMi_s, bI_t, bI_f, oI_none, oI_some, SIM_m40, c1, c2]
theorem reason_ms {h : gH} {a : Nat} {M : RMs} (hM : M.ok) {k : Nat} (hk : k < M.len) : f_X3_reasonAt (msP h a M) a (nI k) = some (M.reason k) := by
  obtain ⟨m1, m2, m3, m4⟩ := hM
  have h0 : ¬ nI M.fsize < 1 := by
    rw [show (1 : Int32) = nI 1 by decide]
    exact nI_nlt m3 (by omega)
  have hd : k / M.fsize ≤ k := Nat.div_le_self _ _
  simp only [RCh_s, RKp_s, RMs_s, RMi_s, f_X3_reasonAt, RMs.reason, msP_g, cond_true, loggedAt_ms, letterAt_ms, Option.bind_some, rowAt_in (show k < 24 by omega) (by decide), msG_fsize, if_neg h0, if_neg (nI_ne0 (show 0 < M.fsize by omega) (by omega)), nI_div (show k < 2 ^ 31 by omega) (show M.fsize < 2 ^ 31 by omega) (by omega), msG_fst, msV_fst, rowAt_in (show k / M.fsize < 24 by omega) (by decide), reason_b51]
  by_cases c1 : M.log k = M.letters k
  · simp [RCh_s, RKp_s, RMs_s, RMi_s, bI_t, bI_f, oI_none, oI_some, SIM_m40, c1]
  · by_cases c2 : M.log k = -1
    · simp only [RCh_s, RKp_s, RMs_s, RMi_s, c1, c2, if_true, if_false]
      split <;> rfl
    · simp only [RCh_s, RKp_s, RMs_s, RMi_s, c1, c2, if_false]
/-- the part of the checksum that a message gives -/
def RMs.added (M : RMs) (s : Int64) : Int64 := up (fun k x => (31 * ((31 * x) + (M.log k).toInt64)) + (M.reason k).toInt64) M.len 0 (up (fun w x => 31 * x + (M.figure (nI w)).toInt64) 10 0 s)
theorem added_l2 {h : gH} {a : Nat} {M : RMs} (hM : M.ok) : ∀ (d i fuel : Nat) (x : Int64), i + d = M.len → d < fuel → f_X3_addedTo_b35 (msP h a M) fuel a x (nI i) = some (up (fun k x => (31 * ((31 * x) + (M.log k).toInt64)) + (M.reason k).toInt64) d i x) := by
  have hn := hM.1
  intro d
  induction d with
  | zero =>
    intro i fuel x hi hf
    obtain ⟨fu, rfl⟩ := Nat.exists_eq_succ_of_ne_zero (Nat.ne_of_gt hf)
    simp [RCh_s, RKp_s, RMs_s, RMi_s, bI_t, bI_f, oI_none, oI_some, SIM_m40, f_X3_addedTo_b35, up, nI_nlt (show M.len ≤ i by omega) (by omega)]
  | succ d ih =>
    intro i fuel x hi hf
    obtain ⟨fu, rfl⟩ := Nat.exists_eq_succ_of_ne_zero (Nat.ne_of_gt (Nat.zero_lt_of_lt hf))
    simp only [RCh_s, RKp_s, RMs_s, RMi_s, f_X3_addedTo_b35, msG_len, msP_g, cond_true, loggedAt_ms, reason_ms hM (show i < M.len by omega), Option.bind_some, rowAt_in (show i < 24 by omega) (by decide), if_pos (nI_lt (show i < M.len by omega) (by omega)), ← nI_succ, up]
    exact ih (i + 1) fu _ (by omega) (by omega)
theorem added_l1 {h : gH} {a : Nat} {M : RMs} (hM : M.ok) : ∀ (d i fuel : Nat) (x : Int64), i + d = 10 → d < fuel → f_X3_addedTo_b5 (msP h a M) fuel a x (nI i) = some (up (fun k x => (31 * ((31 * x) + (M.log k).toInt64)) + (M.reason k).toInt64) M.len 0 (up (fun w x => 31 * x + (M.figure (nI w)).toInt64) d i x)) := by
  intro d
  induction d with
  | zero =>
    intro i fuel x hi hf
    obtain ⟨fu, rfl⟩ := Nat.exists_eq_succ_of_ne_zero (Nat.ne_of_gt hf)
    have : i = 10 := by omega
    subst this
    simp only [RCh_s, RKp_s, RMs_s, RMi_s, f_X3_addedTo_b5, up]
    rw [if_neg (by decide), show (0 : Int32) = nI 0 from nI_0.symm]
    exact added_l2 hM M.len 0 g_N _ (by omega) (by have := hM.1; unfold g_N; omega)
  | succ d ih =>
    intro i fuel x hi hf
    obtain ⟨fu, rfl⟩ := Nat.exists_eq_succ_of_ne_zero (Nat.ne_of_gt (Nat.zero_lt_of_lt hf))
    simp only [RCh_s, RKp_s, RMs_s, RMi_s, f_X3_addedTo_b5, msP_g, cond_true, figure_ms hM, Option.bind_some, show (10 : Int32) = nI 10 by decide, if_pos (nI_lt (show i < 10 by omega) (by decide)), ← nI_succ, up]
    exact ih (i + 1) fu _ (by omega) (by omega)
theorem added_ms {h : gH} {a : Nat} {M : RMs} (hM : M.ok) (s : Int64) : f_X3_addedTo (msP h a M) a s = some (M.added s) := by
  unfold f_X3_addedTo
  rw [show f_X3_addedTo_b5 (msP h a M) g_N a s 0 = f_X3_addedTo_b5 (msP h a M) g_N a s (nI 0) by rw [nI_0]]
  exact added_l1 hM 10 0 g_N s (by omega) (by unfold g_N; omega)
theorem start_ms {h : gH} {a : Nat} {M : RMs} (t : Int32) : f_X3_start (msP h a M) a t = some (msP h a (RMs.mk M.sender M.urgency M.len M.fsize M.frames 1 t M.ended M.unf M.letters M.log M.fst M.tries)) := by
  simp only [RCh_s, RKp_s, RMs_s, RMi_s, f_X3_start, msT_phase, msT_began, Option.bind_some]
theorem end_ms {h : gH} {a : Nat} {M : RMs} (p t : Int32) : f_X3_end (msP h a M) a p t = some (msP h a (RMs.mk M.sender M.urgency M.len M.fsize M.frames p M.began t M.unf M.letters M.log M.fst M.tries)) := by
  simp only [RCh_s, RKp_s, RMs_s, RMi_s, f_X3_end, msT_phase, msT_ended, Option.bind_some]
def RMs.openFrame (M : RMs) : Option Nat := fnd (fun f => M.fst f = 0) M.frames 0
def RMs.takeOpen (M : RMs) : Int32 × RMs := match M.openFrame with
  | none => (-1, M)
  | some f => (nI f, (RMs.mk M.sender M.urgency M.len M.fsize M.frames M.phase M.began M.ended M.unf M.letters M.log (upd M.fst f 1) M.tries))
theorem takeOpen_l {h : gH} {a : Nat} {M : RMs} (hn : M.frames ≤ 24) : ∀ (d i fuel : Nat), i + d = M.frames → d < fuel → f_X3_takeOpenFrame_b2 fuel (msP h a M) a (nI i) = some (match fnd (fun f => M.fst f = 0) d i with | none => (-1, msP h a M) | some f => (nI f, msP h a (RMs.mk M.sender M.urgency M.len M.fsize M.frames M.phase M.began M.ended M.unf M.letters M.log (upd M.fst f 1) M.tries))) := by
  intro d
  induction d with
  | zero =>
    intro i fuel hi hf
    obtain ⟨fu, rfl⟩ := Nat.exists_eq_succ_of_ne_zero (Nat.ne_of_gt hf)
    simp [RCh_s, RKp_s, RMs_s, RMi_s, bI_t, bI_f, oI_none, oI_some, SIM_m40, f_X3_takeOpenFrame_b2, fnd, nI_nlt (show M.frames ≤ i by omega) (by omega)]
  | succ d ih =>
    intro i fuel hi hf
    obtain ⟨fu, rfl⟩ := Nat.exists_eq_succ_of_ne_zero (Nat.ne_of_gt (Nat.zero_lt_of_lt hf))
    simp only [RCh_s, RKp_s, RMs_s, RMi_s, f_X3_takeOpenFrame_b2, msG_frames, msG_fst, msV_fst, Option.bind_some, rowAt_in (show i < 24 by omega) (by decide), if_pos (nI_lt (show i < M.frames by omega) (by omega)), ← nI_succ, fnd, msW_fst, rowSet_in (show i < 24 by omega) (by decide)]
    by_cases c : M.fst i = 0
    · simp [RCh_s, RKp_s, RMs_s, RMi_s, bI_t, bI_f, oI_none, oI_some, SIM_m40, c]
    · simp only [RCh_s, RKp_s, RMs_s, RMi_s, c, if_false]; exact ih (i + 1) fu (by omega) (by omega)
theorem takeOpen_ms {h : gH} {a : Nat} {M : RMs} (hn : M.frames ≤ 24) : f_X3_takeOpenFrame (msP h a M) a = some (M.takeOpen.1, msP h a M.takeOpen.2) := by
  unfold f_X3_takeOpenFrame
  rw [show f_X3_takeOpenFrame_b2 g_N (msP h a M) a 0 = f_X3_takeOpenFrame_b2 g_N (msP h a M) a (nI 0) by rw [nI_0], takeOpen_l hn M.frames 0 g_N (by omega) (by unfold g_N; omega)]
  unfold RMs.takeOpen RMs.openFrame
  cases fnd (fun f => M.fst f = 0) M.frames 0 <;> rfl
theorem firstPlace_ms {h : gH} {a : Nat} {M : RMs} (f : Int32) : f_X3_firstPlaceOf (msP h a M) a f = some (f * nI M.fsize) := by
  simp only [RCh_s, RKp_s, RMs_s, RMi_s, f_X3_firstPlaceOf, msG_fsize, Option.bind_some]
/-- the letters in a frame -/
def RMs.many (M : RMs) (f : Nat) : Nat := min M.fsize (M.len - f * M.fsize)
theorem lettersIn_ms {h : gH} {a : Nat} {M : RMs} (hM : M.ok) {f : Nat} (hf : f * M.fsize ≤ M.len) : f_X3_lettersIn (msP h a M) a (nI f) = some (nI (M.many f)) := by
  obtain ⟨m1, m2, m3, m4⟩ := hM
  simp only [RCh_s, RKp_s, RMs_s, RMi_s, f_X3_lettersIn, msG_fsize, msG_len, msP_g, cond_true, firstPlace_ms, Option.bind_some, nI_mul, nI_sub hf]
  rw [g_min_nI (by omega) (by omega)]
  rfl
def RMs.check (M : RMs) (f : Nat) : Int32 := g_rem (up (fun i x => x + M.letters (f * M.fsize + i)) (M.many f) 0 (nI f)) 26
theorem check_l {h : gH} {a : Nat} {M : RMs} (hM : M.ok) {f : Nat} (hf : f * M.fsize ≤ M.len) : ∀ (d i fuel : Nat) (x : Int32), i + d = M.many f → d < fuel → f_X3_checkOf_b11 (msP h a M) fuel a (nI f) x (nI (f * M.fsize)) (nI i) = some (g_rem (up (fun i x => x + M.letters (f * M.fsize + i)) d i x) 26) := by
  have hm : f * M.fsize + M.many f ≤ 24 := by have := hM.1; unfold RMs.many; omega
  intro d
  induction d with
  | zero =>
    intro i fuel x hi hf9
    obtain ⟨fu, rfl⟩ := Nat.exists_eq_succ_of_ne_zero (Nat.ne_of_gt hf9)
    simp [RCh_s, RKp_s, RMs_s, RMi_s, bI_t, bI_f, oI_none, oI_some, SIM_m40, f_X3_checkOf_b11, up, lettersIn_ms hM hf, nI_nlt (show M.many f ≤ i by omega) (by omega)]
  | succ d ih =>
    intro i fuel x hi hf9
    obtain ⟨fu, rfl⟩ := Nat.exists_eq_succ_of_ne_zero (Nat.ne_of_gt (Nat.zero_lt_of_lt hf9))
    simp only [RCh_s, RKp_s, RMs_s, RMi_s, f_X3_checkOf_b11, lettersIn_ms hM hf, msP_g, cond_true, Option.bind_some, if_pos (nI_lt (show i < M.many f by omega) (by omega)), nI_add, letterAt_ms, rowAt_in (show f * M.fsize + i < 24 by omega) (by decide), ← nI_succ, up]
    exact ih (i + 1) fu _ (by omega) (by omega)
theorem check_ms {h : gH} {a : Nat} {M : RMs} (hM : M.ok) {f : Nat} (hf : f * M.fsize ≤ M.len) : f_X3_checkOf (msP h a M) a (nI f) = some (M.check f) := by
  have hm : M.many f ≤ 24 := by have := hM.1; unfold RMs.many; omega
  simp only [RCh_s, RKp_s, RMs_s, RMi_s, f_X3_checkOf, msP_g, cond_true, firstPlace_ms, Option.bind_some, nI_mul]
  rw [show f_X3_checkOf_b11 (msP h a M) g_N a (nI f) (nI f) (nI (f * M.fsize)) 0 = f_X3_checkOf_b11 (msP h a M) g_N a (nI f) (nI f) (nI (f * M.fsize)) (nI 0) by rw [nI_0]]
  exact check_l hM hf (M.many f) 0 g_N _ (by omega) (by unfold g_N; omega)
