def RRd.semi (R : RRd) (T : Nat → Int32) : Bool × RRd := let R1 := R.found T; if R1.pos < R.len ∧ T R1.pos = 59 then (true, (RRd.mk R1.text R1.len (R1.pos + 1) R1.tok R1.told R1.code R1.err)) else (false, R1.fail (-2))
theorem semi_b20 {h : gH} {a : Nat} {R : RRd} : f_X5_readSemicolon_b20 (rdP h a R) a = some (0, rdP h a (R.fail (-2))) := by
  have z0 : g_z 0 = some 0 := rfl
  simp only [RCh_s, RKp_s, RMs_s, RMi_s, RW_s, RRd_s, f_X5_readSemicolon_b20, rdP_g, cond_true, fail_rd, Option.bind_some, z0]
theorem semi_rd {h : gH} {a : Nat} {R : RRd} {T : Nat → Int32} (hR : R.ok h a T) : f_X5_readSemicolon (rdP h a R) a = some (bI (R.semi T).1, rdP h a (R.semi T).2) := by
  have q := (found_ok hR).1
  have e : (R.found T).len = R.len := rfl
  simp only [RCh_s, RKp_s, RMs_s, RMi_s, RW_s, RRd_s, f_X5_readSemicolon, rdP_g, cond_true, found_rd hR, Option.bind_some, bI_0, RRd.semi]
  by_cases c : (R.found T).pos < R.len
  · rw [if_neg (by simp [RCh_s, RKp_s, RMs_s, RMi_s, RW_s, RRd_s, bI_t, bI_f, oI_none, oI_some, SIM_m40, SIM_m45, SIM_m46, SIM_m54_3, c])]
    simp only [RCh_s, RKp_s, RMs_s, RMi_s, RW_s, RRd_s, rdG_pos, byteAt_rd q (show (R.found T).pos < (R.found T).len from c), Option.bind_some, ← nI_succ, rdT_pos, semi_b20]
    by_cases c2 : T (R.found T).pos = 59
    · simp [RCh_s, RKp_s, RMs_s, RMi_s, RW_s, RRd_s, bI_t, bI_f, oI_none, oI_some, SIM_m40, SIM_m45, SIM_m46, SIM_m54_3, c, c2]
    · simp [RCh_s, RKp_s, RMs_s, RMi_s, RW_s, RRd_s, bI_t, bI_f, oI_none, oI_some, SIM_m40, SIM_m45, SIM_m46, SIM_m54_3, c, c2]
  · rw [if_pos (by simp [RCh_s, RKp_s, RMs_s, RMi_s, RW_s, RRd_s, bI_t, bI_f, oI_none, oI_some, SIM_m40, SIM_m45, SIM_m46, SIM_m54_3, c])]
    simp [RCh_s, RKp_s, RMs_s, RMi_s, RW_s, RRd_s, bI_t, bI_f, oI_none, oI_some, SIM_m40, SIM_m45, SIM_m46, SIM_m54_3, semi_b20, c]
def als (p : Nat → Bool) : Nat → Nat → Bool
  | 0, _ => true
  | d + 1, j => p j && als p d (j + 1)
theorem als_iff (p : Nat → Bool) : ∀ d j, als p d j = true ↔ ∀ k, j ≤ k → k < j + d → p k = true
  | 0, j => ⟨fun _ k h1 h2 => by omega, fun _ => rfl⟩
  | d + 1, j => by
    rw [als, Bool.and_eq_true, als_iff p d (j + 1)]
    exact ⟨fun q k h1 h2 => if e : k = j then e ▸ q.1 else q.2 k (by omega) (by omega), fun q => ⟨q j (Nat.le_refl _) (by omega), fun k h1 h2 => q k (by omega) (by omega)⟩⟩
/-- the token of R is the word i -/
def RRd.isTok (R : RRd) (T : Nat → Int32) (i : Nat) : Bool := decide (R.pos = R.tok + g_len.getD i 0) && als (fun j => decide (T (R.tok + j) = (g_byt.getD i []).getD j 0)) (g_len.getD i 0) 0
theorem slen_of {i : Nat} (hi : i < 5) : g_slen i = some (nI (g_len.getD i 0)) := by
  unfold g_slen nI
  rw [if_pos (by omega)]
theorem glen_le : ∀ i, i < 5 → g_len.getD i 0 ≤ 7 := by decide
theorem sch_of {i j : Nat} (hi : i < 5) (hj : j < g_len.getD i 0) : g_sch i (nI j) = some ((g_byt.getD i []).getD j 0) := by
  have := glen_le i hi
  unfold g_sch
  rw [if_pos (show i < 24 by omega), if_neg (nI_in hj (by omega)), nI_clamp (by omega)]
theorem tok_l {h : gH} {a : Nat} {T : Nat → Int32} {R : RRd} {i : Nat} (hi : i < 5) (hR : R.ok h a T) (hl : R.pos = R.tok + g_len.getD i 0) : ∀ (d j fuel : Nat), j + d = g_len.getD i 0 → d < fuel → f_X5_isToken_b20 (rdP h a R) fuel a i (nI j) = some (bI (als (fun j => decide (T (R.tok + j) = (g_byt.getD i []).getD j 0)) d j)) := by
  have g7 := glen_le i hi
  have h5 := hR.len
  have h6 := hR.pos
  intro d
  induction d with
  | zero =>
    intro j fuel hj hf
    obtain ⟨fu, rfl⟩ := Nat.exists_eq_succ_of_ne_zero (Nat.ne_of_gt hf)
    simp only [RCh_s, RKp_s, RMs_s, RMi_s, RW_s, RRd_s, f_X5_isToken_b20, slen_of hi, Option.bind_some, if_neg (nI_nlt (show g_len.getD i 0 ≤ j by omega) (show j < 2 ^ 31 by omega)), als, bI_t]
  | succ d ih =>
    intro j fuel hj hf
    obtain ⟨fu, rfl⟩ := Nat.exists_eq_succ_of_ne_zero (Nat.ne_of_gt (Nat.zero_lt_of_lt hf))
    have hjl : j < g_len.getD i 0 := by omega
    simp only [RCh_s, RKp_s, RMs_s, RMi_s, RW_s, RRd_s, f_X5_isToken_b20, slen_of hi, Option.bind_some, if_pos (nI_lt hjl (show g_len.getD i 0 < 2 ^ 31 by omega)), rdG_tok, rdP_g, cond_true, nI_add, byteAt_rd hR (show R.tok + j < R.len by omega), sch_of hi hjl, ← nI_succ, als]
    by_cases c : T (R.tok + j) = (g_byt.getD i []).getD j 0
    · rw [if_pos c, ih (j + 1) fu (by omega) (by omega), decide_eq_true c, Bool.true_and]
    · rw [if_neg c, decide_eq_false c, Bool.false_and]
      rfl
theorem tok_rd {h : gH} {a : Nat} {T : Nat → Int32} {R : RRd} {i : Nat} (hi : i < 5) (hR : R.ok h a T) (ht : R.tok ≤ R.pos) : f_X5_isToken (rdP h a R) a i = some (bI (R.isTok T i)) := by
  have g7 := glen_le i hi
  have h5 := hR.len
  have h6 := hR.pos
  simp only [RCh_s, RKp_s, RMs_s, RMi_s, RW_s, RRd_s, f_X5_isToken, rdG_pos, rdG_tok, slen_of hi, Option.bind_some, nI_sub ht, nI_eq (show R.pos - R.tok < 2 ^ 31 by omega) (show g_len.getD i 0 < 2 ^ 31 by omega)]
  unfold RRd.isTok
  by_cases c : R.pos = R.tok + g_len.getD i 0
  · rw [if_pos (by omega), decide_eq_true c, Bool.true_and]
    have q := tok_l hi hR c (g_len.getD i 0) 0 g_N (by omega) (by unfold g_N; omega)
    rw [nI_0] at q
    exact q
  · rw [if_neg (by omega), decide_eq_false c, Bool.false_and]
    rfl
/-! reader and World together -/
theorem rd_wd {h : gH} {a w : Nat} (hd : a < w ∨ w + 61 ≤ a) (R : RRd) (W : RW) : rdP (wdP h w W) a R = wdP (rdP h a R) w W := by
  refine Prod.ext rfl (funext fun q => ?_)
  by_cases c : q = a
  · subst c
    rw [rd0, wdP_out _ _ _ hd, rd0]
  · rw [rdP_ne c]
    by_cases c2 : w ≤ q ∧ q < w + 61
    · simp [RCh_s, RKp_s, RMs_s, RMi_s, RW_s, RRd_s, bI_t, bI_f, oI_none, oI_some, SIM_m40, SIM_m45, SIM_m46, SIM_m54_3, wdP, c2]
    · rw [wdP_out _ _ _ (by omega), wdP_out _ _ _ (by omega), rdP_ne c]
