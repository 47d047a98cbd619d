/-! checksum -/
def cS (R : RW) : Nat → Int64 → Int64 := fun i x => 31 * x + (R.figure (nI i)).toInt64
def cC (R : RW) (b : Bool) : Nat → Int64 → Int64 := fun i x => 31 * x + ((R.ch b).figure (nI i) (nI R.time)).toInt64
def bO (i : Nat) : Bool := i == 1
theorem bO_cn {i : Nat} (hi : i < 2) : nI i = nI (cn (bO i)) := by
  have : i = 0 ∨ i = 1 := by omega
  rcases this with rfl | rfl <;> rfl
def cB (R : RW) : Nat → Int64 → Int64 := fun i x => up (cC R (bO i)) 6 0 x
def cM (R : RW) : Nat → Int64 → Int64 := fun i x => (R.ms i).added x
def RW.sum (R : RW) : Int64 := up (cM R) R.told 0 (up (cB R) 2 0 (up (cS R) 13 0 0))
theorem i13 {i : Nat} (hi : i < 13) : nI i < 13 := by rw [show (13 : Int32) = nI 13 by decide]; exact nI_lt hi (by decide)
theorem i6 {i : Nat} (hi : i < 6) : nI i < 6 := by rw [show (6 : Int32) = nI 6 by decide]; exact nI_lt hi (by decide)
theorem i10 {i : Nat} (hi : i < 10) : nI i < 10 := by rw [show (10 : Int32) = nI 10 by decide]; exact nI_lt hi (by decide)
theorem i2 {i : Nat} (hi : i < 2) : nI i < 2 := by rw [show (2 : Int32) = nI 2 by decide]; exact nI_lt hi (by decide)
theorem n13 : ¬ nI 13 < 13 := by decide
theorem n6 : ¬ nI 6 < 6 := by decide
theorem n10 : ¬ nI 10 < 10 := by decide
theorem n2 : ¬ nI 2 < 2 := by decide
def lstp (M : RMs) : Nat → Int64 → Int64 := fun k x => (31 * ((31 * x) + (M.log k).toInt64)) + (M.reason k).toInt64
def fstp (M : RMs) : Nat → Int64 → Int64 := fun w x => 31 * x + (M.figure (nI w)).toInt64
theorem added_eq (M : RMs) (s : Int64) : M.added s = up (lstp M) M.len 0 (up (fstp M) 10 0 s) := rfl
section LSUM
variable {G : gG} {h : gH} {S : RS} {D : Nat → Int32} {R : RW}
theorem sum_r5 (L : lnR h S D R) {i : Nat} (hi : i < R.told) (K : Nat → Int64 → Int32 → Option Int64) : ∀ (d k fuel : Nat) (s : Int64), k + d = (R.ms i).len → d < fuel → f_X10_checksum_b118 G (lnP h S D) K fuel S.B s (nI i) (nI k) = K S.B (up (lstp (R.ms i)) d k s) (nI (i + 1)) := by
  have h24 := L.len24 hi
  intro d
  induction d with
  | zero =>
    intro k fuel s hk hf
    obtain ⟨fu, rfl⟩ := Nat.exists_eq_succ_of_ne_zero (Nat.ne_of_gt hf)
    simp only [f_X10_checksum_b118, ln_talks L.1, talk_r L hi, tk_log L.1 hi, logN_r L hi, Option.bind_some, if_neg (nI_nlt (show (R.ms i).len ≤ k by omega) (show k < 2 ^ 31 by omega)), up, ← nI_succ]
  | succ d ih =>
    intro k fuel s hk hf
    obtain ⟨fu, rfl⟩ := Nat.exists_eq_succ_of_ne_zero (Nat.ne_of_gt (Nat.zero_lt_of_lt hf))
    have hk2 : k < (R.ms i).len := by omega
    simp only [f_X10_checksum_b118, ln_talks L.1, talk_r L hi, tk_log L.1 hi, logN_r L hi, Option.bind_some, if_pos (nI_lt hk2 (show (R.ms i).len < 2 ^ 31 by omega)), log_r L hi hk2, ln_gB L.1, cond_true, why_r L hi hk2, up, ← nI_succ]
    exact ih (k + 1) fu _ (by omega) (by omega)
theorem sum_r4 (L : lnR h S D R) {i : Nat} (hi : i < R.told) (K : Nat → Int64 → Int32 → Option Int64) : ∀ (d k fuel : Nat) (s : Int64), k + d = 10 → d < fuel → f_X10_checksum_b87 G (lnP h S D) K fuel S.B s (nI i) (nI k) = K S.B (up (lstp (R.ms i)) (R.ms i).len 0 (up (fstp (R.ms i)) d k s)) (nI (i + 1)) := by
  have h24 := L.len24 hi
  intro d
  induction d with
  | zero =>
    intro k fuel s hk hf
    obtain ⟨fu, rfl⟩ := Nat.exists_eq_succ_of_ne_zero (Nat.ne_of_gt hf)
    have : k = 10 := by omega
    subst this
    have q := sum_r5 (G := G) L hi K (R.ms i).len 0 g_N s (by omega) (by unfold g_N; omega)
    rw [nI_0] at q
    simp only [f_X10_checksum_b87, n10, if_false, q, up]
  | succ d ih =>
    intro k fuel s hk hf
    obtain ⟨fu, rfl⟩ := Nat.exists_eq_succ_of_ne_zero (Nat.ne_of_gt (Nat.zero_lt_of_lt hf))
    simp only [f_X10_checksum_b87, i10 (show k < 10 by omega), if_true, ln_gB L.1, cond_true, ofTalk_r L hi, Option.bind_some, up, ← nI_succ]
    exact ih (k + 1) fu _ (by omega) (by omega)
theorem sum_r3 (L : lnR h S D R) : ∀ (d i fuel : Nat) (s : Int64), i + d = R.told → d < fuel → f_X10_checksum_b75 G (lnP h S D) fuel S.B s (nI i) = some (up (cM R) d i s) := by
  have t8 := L.2.2.1.inv.1
  intro d
  induction d with
  | zero =>
    intro i fuel s hi hf
    obtain ⟨fu, rfl⟩ := Nat.exists_eq_succ_of_ne_zero (Nat.ne_of_gt hf)
    simp only [f_X10_checksum_b75, ln_talks L.1, talkN_r L, Option.bind_some, if_neg (nI_nlt (show R.told ≤ i by omega) (show i < 2 ^ 31 by omega)), up]
  | succ d ih =>
    intro i fuel s hi hf
    obtain ⟨fu, rfl⟩ := Nat.exists_eq_succ_of_ne_zero (Nat.ne_of_gt (Nat.zero_lt_of_lt hf))
    have hi2 : i < R.told := by omega
    have q := sum_r4 (G := G) L hi2 (f_X10_checksum_b75 G (lnP h S D) fu) 10 0 g_N s (by omega) (by unfold g_N; omega)
    rw [nI_0, ← added_eq] at q
    simp only [f_X10_checksum_b75, ln_talks L.1, talkN_r L, Option.bind_some, if_pos (nI_lt hi2 (show R.told < 2 ^ 31 by omega)), q, up]
    exact ih (i + 1) fu _ (by omega) (by omega)
theorem sum_r2a (L : lnR h S D R) (ht : R.time < 2 ^ 31) (K : Nat → Int64 → Int32 → Option Int64) (b : Bool) : ∀ (d k fuel : Nat) (s : Int64), k + d = 6 → d < fuel → f_X10_checksum_b39 G (lnP h S D) K fuel S.B s (nI (cn b)) (nI k) = K S.B (up (cC R b) d k s) (nI (cn b) + 1) := by
  intro d
  induction d with
  | zero =>
    intro k fuel s hk hf
    obtain ⟨fu, rfl⟩ := Nat.exists_eq_succ_of_ne_zero (Nat.ne_of_gt hf)
    have : k = 6 := by omega
    subst this
    simp only [f_X10_checksum_b39, n6, if_false, up]
  | succ d ih =>
    intro k fuel s hk hf
    obtain ⟨fu, rfl⟩ := Nat.exists_eq_succ_of_ne_zero (Nat.ne_of_gt (Nat.zero_lt_of_lt hf))
    simp only [f_X10_checksum_b39, i6 (show k < 6 by omega), if_true, ln_gB L.1, cond_true, ofLamp_r L b _ ht, Option.bind_some, up, ← nI_succ k]
    exact ih (k + 1) fu _ (by omega) (by omega)
theorem sum_r2 (L : lnR h S D R) (ht : R.time < 2 ^ 31) : ∀ (d i fuel : Nat) (s : Int64), i + d = 2 → d < fuel → f_X10_checksum_b31 G (lnP h S D) fuel S.B s (nI i) = some (up (cM R) R.told 0 (up (cB R) d i s)) := by
  have t8 := L.2.2.1.inv.1
  intro d
  induction d with
  | zero =>
    intro i fuel s hi hf
    obtain ⟨fu, rfl⟩ := Nat.exists_eq_succ_of_ne_zero (Nat.ne_of_gt hf)
    have : i = 2 := by omega
    subst this
    have q := sum_r3 (G := G) L R.told 0 g_N s (by omega) (by unfold g_N; omega)
    rw [nI_0] at q
    simp only [f_X10_checksum_b31, n2, if_false, up, q]
  | succ d ih =>
    intro i fuel s hi hf
    obtain ⟨fu, rfl⟩ := Nat.exists_eq_succ_of_ne_zero (Nat.ne_of_gt (Nat.zero_lt_of_lt hf))
    have q := sum_r2a (G := G) L ht (f_X10_checksum_b31 G (lnP h S D) fu) (bO i) 6 0 g_N s (by omega) (by unfold g_N; omega)
    rw [nI_0, ← bO_cn (show i < 2 by omega), ← nI_succ] at q
    simp only [f_X10_checksum_b31, i2 (show i < 2 by omega), if_true, q, up]
    exact ih (i + 1) fu _ (by omega) (by omega)
theorem sum_r1 (L : lnR h S D R) (ht : R.time < 2 ^ 31) : ∀ (d i fuel : Nat) (s : Int64), i + d = 13 → d < fuel → f_X10_checksum_b4 G (lnP h S D) fuel S.B s (nI i) = some (up (cM R) R.told 0 (up (cB R) 2 0 (up (cS R) d i s))) := by
  intro d
  induction d with
  | zero =>
    intro i fuel s hi hf
    obtain ⟨fu, rfl⟩ := Nat.exists_eq_succ_of_ne_zero (Nat.ne_of_gt hf)
    have : i = 13 := by omega
    subst this
    have q := sum_r2 (G := G) L ht 2 0 g_N s (by omega) (by unfold g_N; omega)
    rw [nI_0] at q
    simp only [f_X10_checksum_b4, n13, if_false, q]
    rfl
  | succ d ih =>
    intro i fuel s hi hf
    obtain ⟨fu, rfl⟩ := Nat.exists_eq_succ_of_ne_zero (Nat.ne_of_gt (Nat.zero_lt_of_lt hf))
    have e := ih (i + 1) fu (31 * s + (R.figure (nI i)).toInt64) (by omega) (by omega)
    simp only [f_X10_checksum_b4, i13 (show i < 13 by omega), if_true, ln_gB L.1, cond_true, told_r L, Option.bind_some, ← nI_succ, e]
    rfl
theorem checksum_r (L : lnR h S D R) (ht : R.time < 2 ^ 31) : f_X10_checksum G (lnP h S D) S.B = some R.sum := by
  have q := sum_r1 (G := G) L ht 13 0 g_N 0 (by omega) (by unfold g_N; omega)
  rw [nI_0] at q
  exact q
end LSUM
