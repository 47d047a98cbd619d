/-! one World copied into another -/
def copM (n : Nat) (S R : Nat → RMs) : Nat → RMs := fun j => if j < n then (S j).cop (R j) else R j
theorem copM_0 (S R : Nat → RMs) : copM 0 S R = R := funext fun j => by simp [RCh_s, RKp_s, RMs_s, RMi_s, RW_s, bI_t, bI_f, oI_none, oI_some, SIM_m40, SIM_m45, SIM_m46, copM]
theorem copM_s (n : Nat) (S R : Nat → RMs) : updM (copM n S R) n ((S n).cop (R n)) = copM (n + 1) S R := funext fun j => by
  unfold updM copM
  by_cases c : j = n
  · subst c; simp [RCh_s, RKp_s, RMs_s, RMi_s, RW_s, bI_t, bI_f, oI_none, oI_some, SIM_m40, SIM_m45, SIM_m46]
  · by_cases c2 : j < n
    · simp [RCh_s, RKp_s, RMs_s, RMi_s, RW_s, bI_t, bI_f, oI_none, oI_some, SIM_m40, SIM_m45, SIM_m46, c, c2, show j < n + 1 by omega]
    · simp [RCh_s, RKp_s, RMs_s, RMi_s, RW_s, bI_t, bI_f, oI_none, oI_some, SIM_m40, SIM_m45, SIM_m46, c, c2, show ¬ j < n + 1 by omega]
theorem copM_at (n : Nat) (S R : Nat → RMs) : copM n S R n = R n := by simp [RCh_s, RKp_s, RMs_s, RMi_s, RW_s, bI_t, bI_f, oI_none, oI_some, SIM_m40, SIM_m45, SIM_m46, copM]
def RCh.cop (S R : RCh) : RCh := (RCh.mk S.power S.opening S.closing S.frame S.step S.number S.n (cpy 8 S.heard R.heard) S.lost S.good)
def RW.copy (S R : RW) : RW := (RW.mk S.time S.told S.way S.fsize S.limit S.sent S.lost S.garbled S.given R.no (S.c0.cop R.c0) (S.c1.cop R.c1) (S.k0.cop R.k0) (S.k1.cop R.k1) (S.mi.cop R.mi) (copM S.told S.ms R.ms))
theorem wdP_two {h : gH} {a p : Nat} {S : RW} (HS : wdIs h p S) (hd : p + 61 ≤ a ∨ a + 61 ≤ p) (R : RW) : wdIs (wdP h a R) p S := fun j hj => by rw [wdP_out h a R (by omega)]; exact HS j hj
theorem copy_l {h : gH} {a p : Nat} {S R : RW} (HS : wdIs h p S) (hd : p + 61 ≤ a ∨ a + 61 ≤ p) (hn : S.told ≤ 8) : ∀ (d i fuel : Nat), i + d = S.told → d < fuel → f_X6_copyFrom_b74 fuel (wdP h a (RW.mk S.time S.told S.way S.fsize S.limit S.sent S.lost S.garbled S.given R.no R.c0 R.c1 R.k0 R.k1 R.mi (copM i S.ms R.ms))) a p (nI i) = some (wdP h a (S.copy R)) := by
  have HP := wdP_two HS hd
  have E : ∀ R', (wdP h a R').2 p = some (wdO p S) := fun R' => HP R' 0 (by decide)
  have PG : ∀ R', g_is (wdP h a R') p 6 = true := fun R' => by have := wdP_g (wdP h a R') p S; rwa [wdP_self (HP R')] at this
  have PM : ∀ R' i, i < 8 → f_X6_messageNumbered (wdP h a R') p (nI i) = some (p + 21 + 5 * i) := fun R' i hi => by have := msgNo (wdP h a R') p S hi; rwa [wdP_self (HP R')] at this
  have CM : ∀ R' i, i < 8 → f_X3_copyFrom (wdP h a R') (a + 21 + 5 * i) (p + 21 + 5 * i) = some (wdP h a (RW.mk R'.time R'.told R'.way R'.fsize R'.limit R'.sent R'.lost R'.garbled R'.given R'.no R'.c0 R'.c1 R'.k0 R'.k1 R'.mi (updM R'.ms i ((S.ms i).cop (R'.ms i))))) := fun R' i hi => by
    have q := copyFrom_ms (h := wdP h a R') (a := a + 21 + 5 * i) (p := p + 21 + 5 * i) (K := R'.ms i) (M := S.ms i) (wdI_ms (HP R') hi) (by omega)
    rw [wL_ms h a R' hi, wdU_ms _ _ _ hi] at q
    exact q
  have C0 : ∀ R', f_X0_copyFrom (wdP h a R') (a + 7) (p + 7) = some (wdP h a (RW.mk R'.time R'.told R'.way R'.fsize R'.limit R'.sent R'.lost R'.garbled R'.given R'.no (S.c0.cop R'.c0) R'.c1 R'.k0 R'.k1 R'.mi R'.ms)) := fun R' => by
    have q := copyFrom_ch (h := wdP h a R') (a := a + 7) (p := p + 7) (C := R'.c0) (K := S.c0) (wdI_c0 (HP R')) (by omega) (by omega) (by omega)
    rw [wL_c0 h a R', wdU_c0] at q
    exact q
  have C1 : ∀ R', f_X0_copyFrom (wdP h a R') (a + 9) (p + 9) = some (wdP h a (RW.mk R'.time R'.told R'.way R'.fsize R'.limit R'.sent R'.lost R'.garbled R'.given R'.no R'.c0 (S.c1.cop R'.c1) R'.k0 R'.k1 R'.mi R'.ms)) := fun R' => by
    have q := copyFrom_ch (h := wdP h a R') (a := a + 9) (p := p + 9) (C := R'.c1) (K := S.c1) (wdI_c1 (HP R')) (by omega) (by omega) (by omega)
    rw [wL_c1 h a R', wdU_c1] at q
    exact q
  have K0 : ∀ R', f_X2_copyFrom (wdP h a R') (a + 11) (p + 11) = some (wdP h a (RW.mk R'.time R'.told R'.way R'.fsize R'.limit R'.sent R'.lost R'.garbled R'.given R'.no R'.c0 R'.c1 (S.k0.cop R'.k0) R'.k1 R'.mi R'.ms)) := fun R' => by
    have q := copyFrom_kp (h := wdP h a R') (a := a + 11) (p := p + 11) (K := R'.k0) (M := S.k0) (wdI_k0 (HP R')) (by omega)
    rw [wL_k0 h a R', wdU_k0] at q
    exact q
  have K1 : ∀ R', f_X2_copyFrom (wdP h a R') (a + 14) (p + 14) = some (wdP h a (RW.mk R'.time R'.told R'.way R'.fsize R'.limit R'.sent R'.lost R'.garbled R'.given R'.no R'.c0 R'.c1 R'.k0 (S.k1.cop R'.k1) R'.mi R'.ms)) := fun R' => by
    have q := copyFrom_kp (h := wdP h a R') (a := a + 14) (p := p + 14) (K := R'.k1) (M := S.k1) (wdI_k1 (HP R')) (by omega)
    rw [wL_k1 h a R', wdU_k1] at q
    exact q
  have MI : ∀ R', f_X4_copyFrom (wdP h a R') (a + 17) (p + 17) = some (wdP h a (RW.mk R'.time R'.told R'.way R'.fsize R'.limit R'.sent R'.lost R'.garbled R'.given R'.no R'.c0 R'.c1 R'.k0 R'.k1 (S.mi.cop R'.mi) R'.ms)) := fun R' => by
    have q := copyFrom_mi (h := wdP h a R') (a := a + 17) (p := p + 17) (K := R'.mi) (M := S.mi) (wdI_mi (HP R')) (by omega)
    rw [wL_mi h a R', wdU_mi] at q
    exact q
  intro d
  induction d with
  | zero =>
    intro i fuel hi hf
    obtain ⟨fu, rfl⟩ := Nat.exists_eq_succ_of_ne_zero (Nat.ne_of_gt hf)
    have : i = S.told := by omega
    subst this
    simp only [RCh_s, RKp_s, RMs_s, RMi_s, RW_s, f_X6_copyFrom_b74, wdG_told, if_neg (nI_nlt (Nat.le_refl S.told) (show S.told < 2 ^ 31 by omega)), Option.bind_some, wdG_c0, wdG_c1, wdG_k0, wdG_k1, wdG_mi, gA_of (j := 11) (E _) rfl, gA_of (j := 12) (E _) rfl, gA_of (j := 13) (E _) rfl, gA_of (j := 14) (E _) rfl, gA_of (j := 15) (E _) rfl, w_c0_g, w_c1_g, w_k0_g, w_k1_g, w_mi_g, cond_true, C0, C1, K0, K1, MI]
    rfl
  | succ d ih =>
    intro i fuel hi hf
    obtain ⟨fu, rfl⟩ := Nat.exists_eq_succ_of_ne_zero (Nat.ne_of_gt (Nat.zero_lt_of_lt hf))
    have q := ih (i + 1) fu (by omega) (by omega)
    have h8 : i < 8 := by omega
    simp only [RCh_s, RKp_s, RMs_s, RMi_s, RW_s, f_X6_copyFrom_b74, wdG_told, if_pos (nI_lt (show i < S.told by omega) (by omega)), Option.bind_some, wdP_g, cond_true, msgNo _ _ _ h8, PG, PM _ i h8, w_ms_g _ _ _ h8, CM _ i h8, ← nI_succ]
    rw [copM_at, copM_s]
    exact q
theorem copy_wd {h : gH} {a p : Nat} {S R : RW} (HS : wdIs h p S) (hd : p + 61 ≤ a ∨ a + 61 ≤ p) (hn : S.told ≤ 8) : f_X6_copyFrom (wdP h a R) a p = some (wdP h a (S.copy R)) := by
  have HP := wdP_two HS hd
  have E : ∀ R', (wdP h a R').2 p = some (wdO p S) := fun R' => HP R' 0 (by decide)
  simp only [RCh_s, RKp_s, RMs_s, RMi_s, RW_s, f_X6_copyFrom, gI_of (j := 0) (E _) rfl, gI_of (j := 1) (E _) rfl, gI_of (j := 2) (E _) rfl, gI_of (j := 3) (E _) rfl, gI_of (j := 4) (E _) rfl, gI_of (j := 5) (E _) rfl, gI_of (j := 6) (E _) rfl, gI_of (j := 7) (E _) rfl, gI_of (j := 8) (E _) rfl, Option.bind_some, wdT_time, wdT_told, wdT_way, wdT_fsize, wdT_limit, wdT_sent, wdT_lost, wdT_garbled, wdT_given]
  have q := copy_l (R := R) HS hd hn S.told 0 g_N (by omega) (by unfold g_N; omega)
  rw [copM_0, nI_0] at q
  exact q
