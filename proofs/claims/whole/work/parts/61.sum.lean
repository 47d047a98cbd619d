/-! quality -/
theorem q_nn (x : Int32) {y : Int32} (hy : ¬ y = 0) : (FP.ddiv (FP.i2d x) (FP.i2d y)) &&& 0x7fffffffffffffff ≤ 0x7ff0000000000000 ∧ Op.cmpValue (FP.dcmp (FP.ddiv (FP.i2d x) (FP.i2d y)) (FP.ddiv (FP.i2d x) (FP.i2d y))) .l = 0 := by
  have nz : ¬ Jvm.FP.Core.DZero (Jvm.FP.Core.i2d y) := fun z => Jvm.FP.Core.i2d_ne_zero hy ((Jvm.FP.Core.zero_bits2 _).mp z)
  have nn : Jvm.FP.Core.dIsNaN (Jvm.FP.Core.ddiv (Jvm.FP.Core.i2d x) (Jvm.FP.Core.i2d y)) = false := Jvm.FP.Core.ddiv_out (Jvm.FP.Core.i2d_fin x).notNaN (Jvm.FP.Core.i2d_fin y) nz
  rw [Jvm.FP.ddiv_core, Jvm.FP.i2d_core, Jvm.FP.dcmp_core]
  generalize Jvm.FP.Core.ddiv (Jvm.FP.Core.i2d x) (Jvm.FP.Core.i2d y) = r at nn
  refine ⟨?_, ?_⟩
  · rw [UInt64.le_iff_toNat_le, UInt64.toNat_and]
    have b := fun z => (Bool.eq_false_iff.mp nn) ((Jvm.FP.Core.isNaN_bits r).mpr z)
    have e : (0x7fffffffffffffff : UInt64).toNat = 2 ^ 63 - 1 := by decide
    rw [e, Nat.and_two_pow_sub_one_eq_mod]
    exact Nat.not_lt.mp b
  · rw [Jvm.FP.Core.dcmp_refl nn]
    rfl
section SUM
variable {a t : Nat} {h : gH}
theorem cInv_th {F : RFc} {R : RMo} (hf : fIs h.2 a F) (hm : mIs h.2 (a + 614) R) (hq : ∃ g : Nat → Int64, h.2 (a + 628) = some (.inl (2, 1, .inr (.inl g)))) (hr : RelAll t F R) : cInv a (t + 1) (mP h (a + 614) (R.s_th 0)) := by
  obtain ⟨g, hq⟩ := hq
  refine ⟨F, R.s_th 0, fun j hj => ?_, mP_is _ _ _, ⟨g, ?_⟩, hr.later (by omega)⟩
  · rw [mP_out _ _ _ (by omega)]; exact hf j hj
  · rw [mP_out _ _ _ (by omega)]; exact hq
theorem op_quality (hI : cInv a t h) : g_is h a 7 = true ∧ g_is h (a + 614) 8 = true ∧ ∃ (r : UInt64) (h2 : gH), f_X7_quality h a = some r ∧ f_X8_quality h (a + 614) = some (r, h2) ∧ cInv a (t + 1) h2 ∧ Op.cmpValue (FP.dcmp r r) .l = 0 := by
  obtain ⟨F, R, hf, hm, hq, hr, ef, ew, g7, gn, gw⟩ := cH_of hI
  have em := mP_self hm
  have s1 := wdG_sent h (a + 2) F.now
  have s2 := wdG_lost h (a + 2) F.now
  have s3 := wdG_garbled h (a + 2) F.now
  rw [ew] at s1 s2 s3
  have d3 : g_ald (mP h (a + 614) (R.s_th 0)) (a + 614 + 2) 3 = some F.now.sent := (mLl (R := R.s_th 0) 3 3).trans (congrArg some hr.now.n.2.2.2.1)
  have d4 : g_ald (mP h (a + 614) (R.s_th 0)) (a + 614 + 2) 4 = some F.now.lost := (mLl (R := R.s_th 0) 4 4).trans (congrArg some hr.now.n.2.2.2.2.1)
  have d5 : g_ald (mP h (a + 614) (R.s_th 0)) (a + 614 + 2) 5 = some F.now.garbled := (mLl (R := R.s_th 0) 5 5).trans (congrArg some hr.now.n.2.2.2.2.2.1)
  have tt : g_put h (a + 614) 8 0 (.int 0) = some (mP h (a + 614) (R.s_th 0)) := by
    have q := mT_th h (a + 614) R 0
    rwa [em] at q
  by_cases c : F.now.sent = 0
  · refine ⟨g7, mIs_g hm, 0, mP h (a + 614) (R.s_th 0), ?_, ?_, cInv_th hf hm hq hr, by decide +kernel⟩
    · simp only [f_X7_quality, gn, s1, Option.bind_some, c, if_true]
    · simp only [f_X8_quality, tt, mG_data, d3, Option.bind_some, c, if_true]
  · obtain ⟨q1, q2⟩ := q_nn (F.now.sent - F.now.lost - F.now.garbled) c
    refine ⟨g7, mIs_g hm, FP.ddiv (FP.i2d (F.now.sent - F.now.lost - F.now.garbled)) (FP.i2d F.now.sent), mP h (a + 614) (R.s_th 0), ?_, ?_, cInv_th hf hm hq hr, q2⟩
    · simp only [f_X7_quality, gn, s1, s2, s3, Option.bind_some, c, if_false, q1, dite_true, if_true]
    · simp only [f_X8_quality, tt, mG_data, d3, d4, d5, Option.bind_some, c, if_false, q1, dite_true, if_true]
/-! checksum -/
def cS (R : RW) : Nat → Int64 → Int64 := fun i x => 31 * x + (R.figure (nI i)).toInt64
def cC (R : RW) (b : Bool) : Nat → Int64 → Int64 := fun i x => 31 * x + ((R.ch b).figure (nI i) (nI R.time)).toInt64
def bO (i : Nat) : Bool := i == 1
theorem bO_cn {i : Nat} (hi : i < 2) : nI i = nI (cn (bO i)) := by
  have : i = 0 ∨ i = 1 := by omega
  rcases this with rfl | rfl <;> rfl
def cB (R : RW) : Nat → Int64 → Int64 := fun i x => up (cC R (bO i)) 6 0 x
def cM (R : RW) : Nat → Int64 → Int64 := fun i x => (R.ms i).added x
def RW.sum (R : RW) : Int64 := up (cM R) R.told 0 (up (cB R) 2 0 (up (cS R) 13 0 0))
theorem i13 {i : Nat} (hi : i < 13) : nI i < 13 := by rw [show (13 : Int32) = nI 13 by decide]; exact nI_lt hi (by decide)
theorem i6 {i : Nat} (hi : i < 6) : nI i < 6 := by rw [show (6 : Int32) = nI 6 by decide]; exact nI_lt hi (by decide)
theorem i10 {i : Nat} (hi : i < 10) : nI i < 10 := by rw [show (10 : Int32) = nI 10 by decide]; exact nI_lt hi (by decide)
theorem i2 {i : Nat} (hi : i < 2) : nI i < 2 := by rw [show (2 : Int32) = nI 2 by decide]; exact nI_lt hi (by decide)
theorem n13 : ¬ nI 13 < 13 := by decide
theorem n6 : ¬ nI 6 < 6 := by decide
theorem n10 : ¬ nI 10 < 10 := by decide
theorem n2 : ¬ nI 2 < 2 := by decide
section CLS
variable {w : Nat} {R : RW}
theorem sum_c3 (gn : g_gA h a 7 3 = some w) (ew : wdP h w R = h) (ok : R.ok) (t8 : R.told ≤ 8) : ∀ (d i fuel : Nat) (x : Int64), i + d = R.told → d < fuel → f_X7_checksum_b91 h fuel a x (nI i) = some (up (cM R) d i x) := by
  have tl := wdG_told h w R
  have gw := wdP_g h w R
  rw [ew] at tl gw
  intro d
  induction d with
  | zero =>
    intro i fuel x hi hf
    obtain ⟨fu, rfl⟩ := Nat.exists_eq_succ_of_ne_zero (Nat.ne_of_gt hf)
    simp only [f_X7_checksum_b91, gn, tl, Option.bind_some, if_neg (nI_nlt (show R.told ≤ i by omega) (show i < 2 ^ 31 by omega)), up]
  | succ d ih =>
    intro i fuel x hi hf
    obtain ⟨fu, rfl⟩ := Nat.exists_eq_succ_of_ne_zero (Nat.ne_of_gt (Nat.zero_lt_of_lt hf))
    have mN := msgNo h w R (show i < 8 by omega)
    have mA := w_ms_added h w R (show i < 8 by omega) (ok.ms i (by omega)) x
    have mG := w_ms_g h w R (show i < 8 by omega)
    rw [ew] at mN mA mG
    simp only [f_X7_checksum_b91, gn, tl, gw, cond_true, mN, mG, mA, Option.bind_some, if_pos (nI_lt (show i < R.told by omega) (show R.told < 2 ^ 31 by omega)), ← nI_succ, up]
    exact ih (i + 1) fu _ (by omega) (by omega)
theorem sum_c2a (gn : g_gA h a 7 3 = some w) (ew : wdP h w R = h) (K : Nat → Int64 → Int32 → Option Int64) (b : Bool) : ∀ (d i fuel : Nat) (x : Int64), i + d = 6 → d < fuel → f_X7_checksum_b42 h K fuel a x (nI (cn b)) (nI i) = K a (up (cC R b) d i x) (nI (cn b) + 1) := by
  have tm := wdG_time h w R
  have gw := wdP_g h w R
  have cN := chanN h w R b
  rw [ew] at tm gw cN
  intro d
  induction d with
  | zero =>
    intro i fuel x hi hf
    obtain ⟨fu, rfl⟩ := Nat.exists_eq_succ_of_ne_zero (Nat.ne_of_gt hf)
    have : i = 6 := by omega
    subst this
    simp only [f_X7_checksum_b42, n6, if_false, up]
  | succ d ih =>
    intro i fuel x hi hf
    obtain ⟨fu, rfl⟩ := Nat.exists_eq_succ_of_ne_zero (Nat.ne_of_gt (Nat.zero_lt_of_lt hf))
    have cF := chanF h w R b (nI i) (nI R.time)
    rw [ew] at cF
    simp only [f_X7_checksum_b42, i6 (show i < 6 by omega), if_true, gn, gw, tm, cN, cF.1, cF.2, cond_true, Option.bind_some, ← nI_succ i, up]
    exact ih (i + 1) fu _ (by omega) (by omega)
theorem sum_c2 (gn : g_gA h a 7 3 = some w) (ew : wdP h w R = h) (ok : R.ok) (t8 : R.told ≤ 8) : ∀ (d i fuel : Nat) (x : Int64), i + d = 2 → d < fuel → f_X7_checksum_b34 h fuel a x (nI i) = some (up (cM R) R.told 0 (up (cB R) d i x)) := by
  intro d
  induction d with
  | zero =>
    intro i fuel x hi hf
    obtain ⟨fu, rfl⟩ := Nat.exists_eq_succ_of_ne_zero (Nat.ne_of_gt hf)
    have : i = 2 := by omega
    subst this
    have q := sum_c3 gn ew ok t8 R.told 0 g_N x (by omega) (by unfold g_N; omega)
    rw [nI_0] at q
    simp only [f_X7_checksum_b34, n2, if_false, up, q]
  | succ d ih =>
    intro i fuel x hi hf
    obtain ⟨fu, rfl⟩ := Nat.exists_eq_succ_of_ne_zero (Nat.ne_of_gt (Nat.zero_lt_of_lt hf))
    have q := sum_c2a gn ew (f_X7_checksum_b34 h fu) (bO i) 6 0 g_N x (by omega) (by unfold g_N; omega)
    rw [nI_0, ← bO_cn (show i < 2 by omega), ← nI_succ] at q
    simp only [f_X7_checksum_b34, i2 (show i < 2 by omega), if_true, q, up]
    exact ih (i + 1) fu _ (by omega) (by omega)
theorem sum_c1 (gn : g_gA h a 7 3 = some w) (ew : wdP h w R = h) (ok : R.ok) (t8 : R.told ≤ 8) : ∀ (d i fuel : Nat) (x : Int64), i + d = 13 → d < fuel → f_X7_checksum_b4 h fuel a x (nI i) = some (up (cM R) R.told 0 (up (cB R) 2 0 (up (cS R) d i x))) := by
  have gw := wdP_g h w R
  rw [ew] at gw
  intro d
  induction d with
  | zero =>
    intro i fuel x hi hf
    obtain ⟨fu, rfl⟩ := Nat.exists_eq_succ_of_ne_zero (Nat.ne_of_gt hf)
    have : i = 13 := by omega
    subst this
    have q := sum_c2 gn ew ok t8 2 0 g_N x (by omega) (by unfold g_N; omega)
    rw [nI_0] at q
    simp only [f_X7_checksum_b4, n13, if_false, q]
    rfl
  | succ d ih =>
    intro i fuel x hi hf
    obtain ⟨fu, rfl⟩ := Nat.exists_eq_succ_of_ne_zero (Nat.ne_of_gt (Nat.zero_lt_of_lt hf))
    have fg := figure_wd (h := h) (w := w) (R := R) ok (nI i)
    rw [ew] at fg
    have e := ih (i + 1) fu (31 * x + (R.figure (nI i)).toInt64) (by omega) (by omega)
    simp only [f_X7_checksum_b4, i13 (show i < 13 by omega), if_true, gn, gw, cond_true, fg, Option.bind_some, ← nI_succ, e]
    rfl
end CLS
section RFS
variable {x : gH} {m : Nat} {D : Nat → Int32} {R : RW}
theorem sum_r5 (hx : isM x m) (hr : Rel R D) {i : Nat} (hi : i < R.told) (K : gH → Nat → Int64 → Int32 → Option (Int64 × gH)) (K2 : gH → Nat → Int64 → Int32 → Int32 → Option (Int64 × gH)) : ∀ (d k fuel : Nat) (s : Int64), k + d = (R.ms i).len → d < fuel → f_X8_checksum_b124 K K2 fuel (dP x m D) m s (nI i) (nI k) = K (dP x m D) m (up (fun k x => (31 * ((31 * x) + ((R.ms i).log k).toInt64)) + ((R.ms i).reason k).toInt64) d k s) (nI (i + 1)) := by
  obtain ⟨v1, v2, v3, ⟨l, l1, l2, l3, l4⟩, v5, v6⟩ := hr.inv
  have h24 := (l4 i hi).2.2.1
  have rS := hr.ms i hi
  have ln : f_X8_of (dP x m D) m (nI i) 2 = some (nI (R.ms i).len) := (msL2 hx (show i < 8 by omega)).trans (congrArg some rS.2.2.1)
  intro d
  induction d with
  | zero =>
    intro k fuel s hk hf
    obtain ⟨fu, rfl⟩ := Nat.exists_eq_succ_of_ne_zero (Nat.ne_of_gt hf)
    simp only [f_X8_checksum_b124, dI hx, cond_true, ln, Option.bind_some, if_neg (nI_nlt (show (R.ms i).len ≤ k by omega) (show k < 2 ^ 31 by omega)), up, ← nI_succ]
  | succ d ih =>
    intro k fuel s hk hf
    obtain ⟨fu, rfl⟩ := Nat.exists_eq_succ_of_ne_zero (Nat.ne_of_gt (Nat.zero_lt_of_lt hf))
    have lg : f_X8_of (dP x m D) m (nI i) (30 + nI k) = some ((R.ms i).log k) := by
      rw [msL30 hx (show i < 8 by omega) (show k < 24 by omega), ← rS.2.2.2.2.2.2.2.1 k (by omega)]
    have rn := reason_d hx (show i < 8 by omega) v2 v3 hr.n.2.2.2.2.2.2.2.1 (l4 i hi) rS (show k < (R.ms i).len by omega)
    simp only [f_X8_checksum_b124, dI hx, cond_true, ln, lg, rn, Option.bind_some, if_pos (nI_lt (show k < (R.ms i).len by omega) (show (R.ms i).len < 2 ^ 31 by omega)), up, ← nI_succ]
    exact ih (k + 1) fu _ (by omega) (by omega)
theorem sum_r4 (hx : isM x m) (hr : Rel R D) {i : Nat} (hi : i < R.told) (K : gH → Nat → Int64 → Int32 → Option (Int64 × gH)) : ∀ (d k fuel : Nat) (s : Int64), k + d = 10 → d < fuel → f_X8_checksum_b93 K fuel (dP x m D) m s (nI i) (nI k) = K (dP x m D) m (up (fun k x => (31 * ((31 * x) + ((R.ms i).log k).toInt64)) + ((R.ms i).reason k).toInt64) (R.ms i).len 0 (up (fun w x => 31 * x + ((R.ms i).figure (nI w)).toInt64) d k s)) (nI (i + 1)) := by
  obtain ⟨v1, v2, v3, ⟨l, l1, l2, l3, l4⟩, v5, v6⟩ := hr.inv
  have h24 := (l4 i hi).2.2.1
  have rS := hr.ms i hi
  intro d
  induction d with
  | zero =>
    intro k fuel s hk hf
    obtain ⟨fu, rfl⟩ := Nat.exists_eq_succ_of_ne_zero (Nat.ne_of_gt hf)
    have : k = 10 := by omega
    subst this
    have q := sum_r5 hx hr hi K (f_X8_checksum_b93 K fu) (R.ms i).len 0 g_N s (by omega) (by unfold g_N; omega)
    rw [nI_0] at q
    simp only [f_X8_checksum_b93, n10, if_false, q]
    rfl
  | succ d ih =>
    intro k fuel s hk hf
    obtain ⟨fu, rfl⟩ := Nat.exists_eq_succ_of_ne_zero (Nat.ne_of_gt (Nat.zero_lt_of_lt hf))
    have tm := toldMessage_d hx (show i < 8 by omega) v2 v3 hr.n.2.2.2.2.2.2.2.1 (l4 i hi) rS (show k < 10 by omega)
    have e := ih (k + 1) fu (31 * s + ((R.ms i).figure (nI k)).toInt64) (by omega) (by omega)
    simp only [f_X8_checksum_b93, i10 (show k < 10 by omega), if_true, dI hx, cond_true, tm, Option.bind_some, ← nI_succ, e]
    rfl
theorem sum_r3 (hx : isM x m) (hr : Rel R D) : ∀ (d i fuel : Nat) (s : Int64), i + d = R.told → d < fuel → f_X8_checksum_b80 fuel (dP x m D) m s (nI i) = some (up (cM R) d i s, dP x m D) := by
  have t8 := hr.inv.1
  have n1 : D 1 = nI R.told := hr.n.2.1
  intro d
  induction d with
  | zero =>
    intro i fuel s hi hf
    obtain ⟨fu, rfl⟩ := Nat.exists_eq_succ_of_ne_zero (Nat.ne_of_gt hf)
    simp only [f_X8_checksum_b80, dG hx, dL1, n1, Option.bind_some, if_neg (nI_nlt (show R.told ≤ i by omega) (show i < 2 ^ 31 by omega)), up]
  | succ d ih =>
    intro i fuel s hi hf
    obtain ⟨fu, rfl⟩ := Nat.exists_eq_succ_of_ne_zero (Nat.ne_of_gt (Nat.zero_lt_of_lt hf))
    have q := sum_r4 hx hr (show i < R.told by omega) (f_X8_checksum_b80 fu) 10 0 g_N s (by omega) (by unfold g_N; omega)
    rw [nI_0] at q
    have e := ih (i + 1) fu (cM R i s) (by omega) (by omega)
    simp only [f_X8_checksum_b80, dG hx, dL1, n1, Option.bind_some, if_pos (nI_lt (show i < R.told by omega) (show R.told < 2 ^ 31 by omega)), q]
    exact e
theorem sum_r2a (hx : isM x m) (hr : Rel R D) (b : Bool) (K : gH → Nat → Int64 → Int32 → Option (Int64 × gH)) : ∀ (d k fuel : Nat) (s : Int64), k + d = 6 → d < fuel → f_X8_checksum_b44 K fuel (dP x m D) m s (nI (cn b)) (nI k) = K (dP x m D) m (up (cC R b) d k s) (nI (cn b) + 1) := by
  intro d
  induction d with
  | zero =>
    intro k fuel s hk hf
    obtain ⟨fu, rfl⟩ := Nat.exists_eq_succ_of_ne_zero (Nat.ne_of_gt hf)
    have : k = 6 := by omega
    subst this
    simp only [f_X8_checksum_b44, n6, if_false, up]
  | succ d ih =>
    intro k fuel s hk hf
    obtain ⟨fu, rfl⟩ := Nat.exists_eq_succ_of_ne_zero (Nat.ne_of_gt (Nat.zero_lt_of_lt hf))
    have tc := toldChannel_d hx hr b (show k < 6 by omega)
    have e := ih (k + 1) fu (31 * s + ((R.ch b).figure (nI k) (nI R.time)).toInt64) (by omega) (by omega)
    simp only [f_X8_checksum_b44, i6 (show k < 6 by omega), if_true, dI hx, cond_true, tc, Option.bind_some, ← nI_succ k, e]
    rfl
theorem sum_r2 (hx : isM x m) (hr : Rel R D) : ∀ (d i fuel : Nat) (s : Int64), i + d = 2 → d < fuel → f_X8_checksum_b36 fuel (dP x m D) m s (nI i) = some (up (cM R) R.told 0 (up (cB R) d i s), dP x m D) := by
  have t8 := hr.inv.1
  intro d
  induction d with
  | zero =>
    intro i fuel s hi hf
    obtain ⟨fu, rfl⟩ := Nat.exists_eq_succ_of_ne_zero (Nat.ne_of_gt hf)
    have : i = 2 := by omega
    subst this
    have q := sum_r3 hx hr R.told 0 g_N s (by omega) (by unfold g_N; omega)
    rw [nI_0] at q
    simp only [f_X8_checksum_b36, n2, if_false, q]
    rfl
  | succ d ih =>
    intro i fuel s hi hf
    obtain ⟨fu, rfl⟩ := Nat.exists_eq_succ_of_ne_zero (Nat.ne_of_gt (Nat.zero_lt_of_lt hf))
    have q := sum_r2a hx hr (bO i) (f_X8_checksum_b36 fu) 6 0 g_N s (by omega) (by unfold g_N; omega)
    rw [nI_0, ← bO_cn (show i < 2 by omega), ← nI_succ] at q
    simp only [f_X8_checksum_b36, i2 (show i < 2 by omega), if_true, q]
    exact ih (i + 1) fu _ (by omega) (by omega)
theorem sum_r1 (hx : isM x m) (hr : Rel R D) : ∀ (d i fuel : Nat) (s : Int64), i + d = 13 → d < fuel → f_X8_checksum_b9 fuel (dP x m D) m s (nI i) = some (up (cM R) R.told 0 (up (cB R) 2 0 (up (cS R) d i s)), dP x m D) := by
  intro d
  induction d with
  | zero =>
    intro i fuel s hi hf
    obtain ⟨fu, rfl⟩ := Nat.exists_eq_succ_of_ne_zero (Nat.ne_of_gt hf)
    have : i = 13 := by omega
    subst this
    have q := sum_r2 hx hr 2 0 g_N s (by omega) (by unfold g_N; omega)
    rw [nI_0] at q
    simp only [f_X8_checksum_b9, n13, if_false, q]
    rfl
  | succ d ih =>
    intro i fuel s hi hf
    obtain ⟨fu, rfl⟩ := Nat.exists_eq_succ_of_ne_zero (Nat.ne_of_gt (Nat.zero_lt_of_lt hf))
    have tl := told_d hx hr (show i < 13 by omega)
    have e := ih (i + 1) fu (31 * s + (R.figure (nI i)).toInt64) (by omega) (by omega)
    simp only [f_X8_checksum_b9, i13 (show i < 13 by omega), if_true, dI hx, cond_true, tl, Option.bind_some, ← nI_succ, e]
    rfl
end RFS
theorem op_checksum (hI : cInv a t h) : g_is h a 7 = true ∧ g_is h (a + 614) 8 = true ∧ ∃ (r : Int64) (h2 : gH), f_X7_checksum h a = some r ∧ f_X8_checksum h (a + 614) = some (r, h2) ∧ cInv a (t + 1) h2 := by
  obtain ⟨F, R, hf, hm, hq, hr, ef, ew, g7, gn, gw⟩ := cH_of hI
  have em := mP_self hm
  have tt : g_put h (a + 614) 8 0 (.int 0) = some (mP h (a + 614) (R.s_th 0)) := by
    have q := mT_th h (a + 614) R 0
    rwa [em] at q
  have q1 := sum_c1 gn ew hr.now.ok hr.now.inv.1 13 0 g_N 0 (by omega) (by unfold g_N; omega)
  rw [nI_0] at q1
  have q2 := sum_r1 (isM_m h (a + 614) (R.s_th 0)) hr.now 13 0 g_N 0 (by omega) (by unfold g_N; omega)
  have ed : dP (mP h (a + 614) (R.s_th 0)) (a + 614) (R.rows 0) = mP h (a + 614) (R.s_th 0) := mE_d h (a + 614) (R.s_th 0)
  rw [nI_0, ed] at q2
  refine ⟨g7, mIs_g hm, F.now.sum, mP h (a + 614) (R.s_th 0), q1, ?_, cInv_th hf hm hq hr⟩
  simp only [f_X8_checksum, tt, Option.bind_some, q2]
  rfl
end SUM
