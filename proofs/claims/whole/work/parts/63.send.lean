/-! send -/
section SEND
variable {a t : Nat} {h : gH}
def isL (v : Int32) : Prop := 97 ≤ v ∧ v ≤ 122
theorem isL_rel {u v : Int32} (h : relB u v) : (isL u ↔ isL v) ∧ (isL v → u = v) := by
  rcases h with ⟨k, hk, rfl, rfl⟩ | ⟨k, h1, h2, rfl, hv⟩
  · exact ⟨Iff.rfl, fun _ => rfl⟩
  · have e1 : ¬ isL (nI k) := fun z => by
      have := z.2
      rw [show (122 : Int32) = nI 122 by decide, nI_leI (by omega) (by decide)] at this
      omega
    have e2 : ¬ isL v := fun z => by
      have := z.1
      rw [Int32.le_iff_toInt_le, show (97 : Int32).toInt = 97 by decide] at this
      rw [Int32.lt_iff_toInt_lt, show (0 : Int32).toInt = 0 by decide] at hv
      omega
    exact ⟨⟨fun z => absurd z e1, fun z => absurd z e2⟩, fun z => absurd z e2⟩
theorem isL_l {v : Int32} (h : isL v) : lOf (v - 97) := by
  have h1 := h.1
  have h2 := h.2
  rw [Int32.le_iff_toInt_le, show (97 : Int32).toInt = 97 by decide] at h1
  rw [Int32.le_iff_toInt_le, show (122 : Int32).toInt = 122 by decide] at h2
  refine ⟨(v.toInt - 97).toNat, by omega, Int32.toInt.inj ?_⟩
  rw [Int32.toInt_sub, nI_toInt (by omega), show (97 : Int32).toInt = 97 by decide, Int.bmod_eq_of_le (by omega) (by omega)]
  omega
theorem bl_c {F : RFc} (ef : fP h a F = h) {n : Nat} (hn : n ≤ 500) : ∀ (d i fuel : Nat), i + d = n → d < fuel → (∀ j, j < i → isL (F.B j)) → ∃ b : Bool, f_X7_buffersLetters_b22 h fuel a (nI n) (nI i) = some (bI b) ∧ (b = true ↔ ∀ j, j < n → isL (F.B j)) := by
  have g2 := fG_B h a F
  have g3 := fL_B h a F
  rw [ef] at g2 g3
  intro d
  induction d with
  | zero =>
    intro i fuel hi hf hp
    obtain ⟨fu, rfl⟩ := Nat.exists_eq_succ_of_ne_zero (Nat.ne_of_gt hf)
    refine ⟨true, ?_, ⟨fun _ => by rw [← hi]; exact hp, fun _ => rfl⟩⟩
    simp only [f_X7_buffersLetters_b22, if_neg (nI_nlt (show n ≤ i by omega) (show i < 2 ^ 31 by omega)), bI_t]
  | succ d ih =>
    intro i fuel hi hf hp
    obtain ⟨fu, rfl⟩ := Nat.exists_eq_succ_of_ne_zero (Nat.ne_of_gt (Nat.zero_lt_of_lt hf))
    have ld := fB_ld h a F (show i < 500 by omega)
    rw [ef] at ld
    have c500 : nI i < 500 := by rw [show (500 : Int32) = nI 500 by decide]; exact nI_lt (by omega) (by decide)
    by_cases c : 97 ≤ F.B i ∧ F.B i ≤ 122
    · obtain ⟨b, q1, q2⟩ := ih (i + 1) fu (by omega) (by omega) (fun j hj => by
        by_cases e : j = i
        · subst e; exact c
        · exact hp j (by omega))
      refine ⟨b, ?_, q2⟩
      simp only [f_X7_buffersLetters_b22, if_pos (nI_lt (show i < n by omega) (show n < 2 ^ 31 by omega)), g2, g3, c500, if_true, ld, f7, c, and_self, not_true_eq_false, if_false, Option.bind_some, ← nI_succ]
      exact q1
    · refine ⟨false, ?_, ⟨(fun z => nomatch z), fun z => absurd (z i (by omega)) c⟩⟩
      simp only [f_X7_buffersLetters_b22, if_pos (nI_lt (show i < n by omega) (show n < 2 ^ 31 by omega)), g2, g3, c500, if_true, ld, f7, c, not_false_eq_true, Option.bind_some, bI_f]
theorem al_r (x : gH) (m : Nat) (R : RMo) {n : Nat} (hn : n ≤ 500) : ∀ (d i fuel : Nat), i + d = n → d < fuel → (∀ j, j < i → isL (R.buf j)) → ∃ b : Bool, f_X8_areLetters_b2 (mP x m R) fuel m (nI n) (nI i) = some (bI b) ∧ (b = true ↔ ∀ j, j < n → isL (R.buf j)) := by
  intro d
  induction d with
  | zero =>
    intro i fuel hi hf hp
    obtain ⟨fu, rfl⟩ := Nat.exists_eq_succ_of_ne_zero (Nat.ne_of_gt hf)
    refine ⟨true, ?_, ⟨fun _ => by rw [← hi]; exact hp, fun _ => rfl⟩⟩
    simp only [f_X8_areLetters_b2, if_neg (nI_nlt (show n ≤ i by omega) (show i < 2 ^ 31 by omega)), bI_t]
  | succ d ih =>
    intro i fuel hi hf hp
    obtain ⟨fu, rfl⟩ := Nat.exists_eq_succ_of_ne_zero (Nat.ne_of_gt (Nat.zero_lt_of_lt hf))
    have ld := mB_ld x m R (show i < 500 by omega)
    by_cases c : 97 ≤ R.buf i ∧ R.buf i ≤ 122
    · obtain ⟨b, q1, q2⟩ := ih (i + 1) fu (by omega) (by omega) (fun j hj => by
        by_cases e : j = i
        · subst e; exact c
        · exact hp j (by omega))
      refine ⟨b, ?_, q2⟩
      simp only [f_X8_areLetters_b2, if_pos (nI_lt (show i < n by omega) (show n < 2 ^ 31 by omega)), mG_buf, ld, f8, c, and_self, not_true_eq_false, if_false, Option.bind_some, ← nI_succ]
      exact q1
    · refine ⟨false, ?_, ⟨(fun z => nomatch z), fun z => absurd (z i (by omega)) c⟩⟩
      simp only [f_X8_areLetters_b2, if_pos (nI_lt (show i < n by omega) (show n < 2 ^ 31 by omega)), mG_buf, ld, f8, c, not_false_eq_true, if_true, Option.bind_some, bI_f]
/-- what the reference's row holds once a message is told -/
def laid (D D' : Nat → Int32) (i : Nat) (s u n : Int32) : Prop := D' 1 = nI (i + 1) ∧ D' (112 + 102 * i) = s ∧ D' (112 + 102 * i + 1) = u ∧ D' (112 + 102 * i + 2) = n ∧ D' (112 + 102 * i + 3) = 0 ∧ D' (112 + 102 * i + 4) = -1 ∧ D' (112 + 102 * i + 5) = -1 ∧ (∀ g, g < 24 → D' (112 + 102 * i + (30 + g)) = -1 ∧ D' (112 + 102 * i + (54 + g)) = 0 ∧ D' (112 + 102 * i + (78 + g)) = 0) ∧ ∀ j, j ≠ 1 → (j < 112 + 102 * i ∨ 214 + 102 * i ≤ j) → D' j = D j
theorem updR_R (f : Nat → Nat → Int32) (A B : Nat → Int32) : updR (updR f 0 A) 0 B = updR f 0 B := funext fun k => by
  unfold updR
  by_cases c : k = 0 <;> simp [c]
theorem sl_r (x : gH) (m : Nat) {n i : Nat} (hn : n ≤ 24) (hi : i < 8) (s u : Int32) : ∀ (d k fuel : Nat) (R : RMo), k + d = n → d < fuel → R.rows 0 1 = nI i → ∃ D', f_X8_send_b102 fuel (mP x m R) m s u (nI n) (nI i) (nI k) = some (nI i, mP x m ((R.s_rows (updR R.rows 0 D')).s_bl 0)) ∧ laid (R.rows 0) D' i s u (nI n) ∧ (∀ g, k ≤ g → g < n → D' (112 + 102 * i + (6 + g)) = R.buf g - 97) ∧ ∀ g, g < k → D' (112 + 102 * i + (6 + g)) = R.rows 0 (112 + 102 * i + (6 + g)) := by
  intro d
  induction d with
  | zero =>
    intro k fuel R hk hf h1
    obtain ⟨fu, rfl⟩ := Nat.exists_eq_succ_of_ne_zero (Nat.ne_of_gt hf)
    obtain ⟨D', d0, d1, d2, d3, d4, d5, d6, d7, d8, d9⟩ := layMessage_r (x := mP x m R) (p := m + 2) (D := R.rows 0) hi h1 s u (nI n)
    have d0' := row_of (f := fun x p => f_X8_layMessage x p s u (nI n)) d0
    have bt := mT_bl x m (R.s_rows (updR R.rows 0 D')) 0
    refine ⟨D', ?_, ⟨d1, d2, d3, d4, d5, d6, d7, fun g hg => (d8 g hg).2, d9⟩, fun g g1 g2 => absurd g2 (by omega), fun g hg => (d8 g (by omega)).1⟩
    simp only [f_X8_send_b102, if_neg (nI_nlt (show n ≤ k by omega) (show k < 2 ^ 31 by omega)), mG_data, Option.bind_some]
    rw [d0']
    simp only [Option.bind_some, bt]
  | succ d ih =>
    intro k fuel R hk hf h1
    obtain ⟨fu, rfl⟩ := Nat.exists_eq_succ_of_ne_zero (Nat.ne_of_gt (Nat.zero_lt_of_lt hf))
    have ld := mB_ld x m R (show k < 500 by omega)
    have st : f_X8_set (mP x m R) m (nI i) (6 + nI k) (R.buf k - 97) = some (mP x m (R.s_rows (updR R.rows 0 (upd (R.rows 0) (112 + 102 * i + (6 + k)) (R.buf k - 97))))) := of_dU (f := fun h => f_X8_set h m (nI i) (6 + nI k) (R.buf k - 97)) (msS6 (isM_m x m R) hi (by omega) _)
    obtain ⟨D', q1, q2, q3, q4⟩ := ih (k + 1) fu (R.s_rows (updR R.rows 0 (upd (R.rows 0) (112 + 102 * i + (6 + k)) (R.buf k - 97)))) (by omega) (by omega) (by show updR R.rows 0 (upd (R.rows 0) (112 + 102 * i + (6 + k)) (R.buf k - 97)) 0 1 = _; rw [updR_at, upd_ne (by omega), h1])
    rw [rows_s, s_rows_s, updR_R] at q1
    rw [rows_s, updR_at] at q2 q4
    have b' : (R.s_rows (updR R.rows 0 (upd (R.rows 0) (112 + 102 * i + (6 + k)) (R.buf k - 97)))).buf = R.buf := rfl
    rw [b'] at q3
    obtain ⟨d1, d2, d3, d4, d5, d6, d7, d8, d9⟩ := q2
    refine ⟨D', ?_, ⟨d1, d2, d3, d4, d5, d6, d7, d8, fun j j1 j2 => by rw [d9 j j1 j2, upd_ne (by omega)]⟩, fun g g1 g2 => ?_, fun g hg => ?_⟩
    · simp only [f_X8_send_b102, if_pos (nI_lt (show k < n by omega) (show n < 2 ^ 31 by omega)), mG_buf, ld, mI, cond_true, st, Option.bind_some, ← nI_succ k, q1]
    · by_cases e : g = k
      · subst e
        rw [q4 g (by omega), upd_at]
      · exact q3 g (by omega) g2
    · rw [q4 g (by omega), upd_ne (by omega)]
theorem emptied {F : RFc} {R : RMo} (hr : RelAll t F R) : RelAll t (F.s_n 0) (R.s_bl 0) :=
  ⟨Nat.zero_le _, nI_0.symm, fun i (hi : i < 0) => absurd hi (Nat.not_lt_zero i), hr.eo, hr.now, hr.live, hr.time, hr.pl, hr.ct, hr.ud, hr.hist⟩
/-- the bytes at the head of the buffer, judged on both sides -/
theorem judged {F : RFc} {R : RMo} (ef : fP h a F = h) (hr : RelAll t F R) (x3 : Int32) : ∃ ok : Bool, f_X7_buffersLetters h a x3 = some (bI ok) ∧ (∀ (x : gH) (m : Nat) (x1 x2 : Int32) (c2 : 0 ≤ x2 ∧ x2 ≤ 9) (y : Int32 × gH), y = (0, mP x m (R.s_th 0)) → (if f_X8_in x3 1 (f_X8_min 24 R.bl) = 0 then f_X8_send_b49 y.2 m x1 x2 x3 m else bif g_is y.2 m 8 then (f_X8_areLetters y.2 m x3).bind fun v43 => (if v43 = 0 then f_X8_send_b49 y.2 m x1 x2 x3 m else f_X8_send_b54 y.2 m x1 x2 x3 0 m) else none) = f_X8_send_b54 (mP x m (R.s_th 0)) m x1 x2 x3 (if ok then 0 else 1) m) ∧ (ok = true → ∃ n, 1 ≤ n ∧ n ≤ 24 ∧ n ≤ F.n ∧ x3 = nI n ∧ ∀ j, j < n → isL (F.B j) ∧ R.buf j = F.B j) := by
  have n5 := hr.n
  have g1 := fG_n h a F
  rw [ef] at g1
  have z10 : ((1 : Int32) = 0) = False := eq_false (by decide)
  by_cases c : 1 ≤ x3 ∧ x3 ≤ 24
  · obtain ⟨n, hn, rfl⟩ := rng (n := 24) (by decide) ⟨Int32.le_trans (by decide) c.1, c.2⟩
    have n1 : 1 ≤ n := by
      have := c.1
      rw [show (1 : Int32) = nI 1 by decide, nI_leI (by decide) (by omega)] at this
      exact this
    by_cases cn' : n ≤ F.n
    · have lt : ¬ nI F.n < nI n := fun z => by have := (nI_ltI (by omega) (by omega)).mp z; omega
      have mn : f_X8_in (nI n) 1 (f_X8_min 24 R.bl) = 0 ↔ False := by
        rw [f8, hr.bl]
        unfold f_X8_min
        refine ⟨fun z => z ⟨c.1, ?_⟩, fun z => z.elim⟩
        split
        · exact c.2
        · exact (nI_leI (by omega) (by omega)).mpr cn'
      obtain ⟨b, q1, q2⟩ := bl_c ef (show n ≤ 500 by omega) n 0 g_N (by omega) (by unfold g_N; omega) (fun j hj => absurd hj (Nat.not_lt_zero j))
      rw [nI_0] at q1
      refine ⟨b, ?_, fun x m x1 x2 c2 y hy => ?_, fun hb => ⟨n, n1, hn, cn', rfl, fun j hj => ?_⟩⟩
      · simp only [f_X7_buffersLetters, f7, c, and_self, not_true_eq_false, if_false, g1, lt, Option.bind_some, q1]
      · subst hy
        obtain ⟨b2, r1, r2⟩ := al_r x m (R.s_th 0) (show n ≤ 500 by omega) n 0 g_N (by omega) (by unfold g_N; omega) (fun j hj => absurd hj (Nat.not_lt_zero j))
        have eb : b2 = b := by
          rw [Bool.eq_iff_iff, q2, r2]
          exact ⟨fun z j hj => (isL_rel (hr.buf j (by omega))).1.mp (z j hj), fun z j hj => (isL_rel (hr.buf j (by omega))).1.mpr (z j hj)⟩
        subst eb
        have r1' : f_X8_areLetters (mP x m (R.s_th 0)) m (nI n) = some (bI b2) := by rw [nI_0] at r1; exact r1
        simp only [mn, if_false, mI, cond_true, r1', Option.bind_some]
        cases b2
        · simp only [bI_f, if_true, f_X8_send_b49, Bool.false_eq_true, if_false]
        · simp only [bI_t, z10, if_true, if_false]
      · have := (q2.mp hb) j hj
        exact ⟨this, (isL_rel (hr.buf j (by omega))).2 this⟩
    · have lt : nI F.n < nI n := nI_lt (by omega) (by omega)
      have mn : f_X8_in (nI n) 1 (f_X8_min 24 R.bl) = 0 ↔ True := by
        rw [f8, hr.bl]
        unfold f_X8_min
        refine ⟨fun _ => trivial, fun _ z => ?_⟩
        have z2 := z.2
        rw [if_neg (by rw [show (24 : Int32) = nI 24 by decide, nI_ltI (by decide) (by omega)]; omega), nI_leI (by omega) (by omega)] at z2
        omega
      refine ⟨false, ?_, fun x m x1 x2 c2 y hy => ?_, fun z => nomatch z⟩
      · simp only [f_X7_buffersLetters, f7, c, and_self, not_true_eq_false, if_false, g1, lt, if_true, Option.bind_some, bI_f]
      · subst hy
        simp only [mn, if_true, f_X8_send_b49, Bool.false_eq_true, if_false]
  · have mn : f_X8_in x3 1 (f_X8_min 24 R.bl) = 0 ↔ True := by
      rw [f8, hr.bl]
      unfold f_X8_min
      refine ⟨fun _ => trivial, fun _ z => c ⟨z.1, ?_⟩⟩
      have z2 := z.2
      split at z2
      · exact z2
      · rename_i e
        exact Int32.le_trans z2 (Int32.not_lt.mp e)
    refine ⟨false, ?_, fun x m x1 x2 c2 y hy => ?_, fun z => nomatch z⟩
    · simp only [f_X7_buffersLetters, f7, c, not_false_eq_true, if_true, bI_f]
    · subst hy
      simp only [mn, if_true, f_X8_send_b49, Bool.false_eq_true, if_false]
theorem op_send (hI : cInv a t h) (x1 x2 x3 : Int32) : lw_S (cInv a (t + 1)) (a + 614) (a + 628) (fun r => r.toInt64) (f_L_send h a x1 x2 x3 (a + 628)) (fun h9 => f_X8_send h9 (a + 614) x1 x2 x3) := by
  obtain ⟨F, R, hf, hm, hq, hr, ef, ew, g7, gn, gw⟩ := cH_of hI
  have z10 : ((1 : Int32) = 0) = False := eq_false (by decide)
  by_cases c : 0 ≤ x1 ∧ x1 ≤ 1
  · obtain ⟨ok, k1, k2, k3⟩ := judged ef hr x3
    -- the reference up to the judgement of the arguments
    have bl0 : ∀ x, g_gI (mP x (a + 614) (R.s_th 0)) (a + 614) 8 2 = some R.bl := fun x => mG_bl x (a + 614) (R.s_th 0)
    have pre : ∀ x, f_X8_send (mP x (a + 614) R) (a + 614) x1 x2 x3 = f_X8_send_b54 (mP x (a + 614) (R.s_th 0)) (a + 614) x1 x2 x3 (if (0 ≤ x2 ∧ x2 ≤ 9) ∧ ok = true then 0 else 1) (a + 614) := fun x => by
      by_cases c2 : 0 ≤ x2 ∧ x2 ≤ 9
      · have q := k2 x (a + 614) x1 x2 c2 (0, mP x (a + 614) (R.s_th 0)) rfl
        simp only [f_X8_send, mT_th, Option.bind_some, mI, cond_true, noStation_m (R := R.s_th 0) rfl, c, and_self, if_true, f8 x2, c2, not_true_eq_false, if_false, bl0, true_and]
        simp only [mI, cond_true] at q
        exact q
      · simp only [f_X8_send, mT_th, Option.bind_some, mI, cond_true, noStation_m (R := R.s_th 0) rfl, c, and_self, if_true, f8 x2, c2, not_false_eq_true, if_false, f_X8_send_b49, false_and]
    by_cases cb : (0 ≤ x2 ∧ x2 ≤ 9) ∧ ok = true
    · obtain ⟨c2, ck⟩ := cb
      obtain ⟨n, n1, n24, nF, rfl, lets⟩ := k3 ck
      have t8 := hr.now.inv.1
      have tl := wdG_told h (a + 2) F.now
      rw [ew] at tl
      have n1' : R.rows 0 1 = nI F.now.told := hr.now.n.2.1
      have d1 : ∀ x, g_ald (mP x (a + 614) (R.s_th 0)) (a + 614 + 2) 1 = some (nI F.now.told) := fun x => (mLl (R := R.s_th 0) 1 1).trans (congrArg some n1')
      by_cases c8 : 8 ≤ F.now.told
      · have e8 : F.now.told = 8 := by omega
        have l8 : (8 : Int32) ≤ nI F.now.told := by rw [e8]; decide
        have q8 : nI F.now.told = 8 := by rw [e8]; decide
        refine S_ex (R' := R.s_th 3) (c := 3) (r := 0) hf hm hq ?_ (by decide) (fun x => ?_) rfl (hr.later (by omega))
        · simp only [f_L_send, g7, cond_true, f_X7_send, f7, c, c2, and_self, not_true_eq_false, if_false, k1, ck, bI_t, z10, gn, tl, l8, if_true, Option.bind_some]
        · rw [pre]
          simp only [c2, ck, and_self, if_true, f_X8_send_b54, f_X8_send_b78, mI, cond_true, fails_0 (R := R.s_th 0) rfl, Option.bind_some, mG_data, d1, q8, fails_1 (R := R.s_th 0) rfl (show ¬ (3 : Int32) = 0 by decide), z10, if_false]
          rfl
      · have l8 : ¬ (8 : Int32) ≤ nI F.now.told := by rw [show (8 : Int32) = nI 8 by decide, nI_leI (by decide) (by omega)]; exact c8
        have q8 : ¬ nI F.now.told = 8 := by rw [show (8 : Int32) = nI 8 by decide]; exact fun z => c8 (by have := (nI_eq (by omega) (by decide)).mp z; omega)
        have n5 := hr.n
        have kp := keep_h (a := a) hr h
        rw [ef] at kp
        have gF := gA h a F
        rw [ef] at gF
        have gB := fG_B h a F.keep
        have ad := addMsg_wd (h := fP h a F.keep) (w := a + 2) (R := F.now) hr.now.ok x1 x2 (t := a + 1) (p := 0) (n := n) (T := F.B) n24 (by omega) (f1 h a F.keep) (Or.inl (by omega))
        have e9' : wdP (fP h a F.keep) (a + 2) F.now = fP h a F.keep := fE_now h a F.keep
        rw [e9', fU_now, nI_0] at ad
        generalize hW : F.now.addMsg x1 x2 F.B 0 n = W at ad
        have Wt : W.told = F.now.told + 1 ∧ W.time = F.now.time := by
          rw [← hW]; unfold RW.addMsg; rw [if_pos (by omega)]; exact ⟨rfl, rfl⟩
        have sn := fT_n h a (F.keep.s_now W) 0
        rw [nI_0] at sn
        have gl := wdG_told (fP h a ((F.keep.s_now W).s_n 0)) (a + 2) W
        have e10 : wdP (fP h a ((F.keep.s_now W).s_n 0)) (a + 2) W = fP h a ((F.keep.s_now W).s_n 0) := fE_now h a ((F.keep.s_now W).s_n 0)
        rw [e10, Wt.1] at gl
        have sb : nI (F.now.told + 1) - 1 = nI F.now.told := by rw [show (1 : Int32) = nI 1 by decide, nI_sub (by omega)]; rfl
        refine S_okx (F' := (F.keep.s_now W).s_n 0) hf hm hq _ (fun q _ => rfl) (v := nI F.now.told) ?_ (fun x => ?_)
        · simp only [f_L_send, g7, cond_true, f_X7_send, f7, c, c2, and_self, not_true_eq_false, if_false, k1, ck, bI_t, z10, gn, tl, l8, gF.2.1, gF.2.2.1, kp, (gA h a F.keep).1, (gA h a F.keep).2.2.2, gB, ad, sn, (gA h a ((F.keep.s_now W).s_n 0)).1, gl, sb, Option.bind_some]
        · obtain ⟨rows', q1, q2⟩ := rem_m hr x (a + 614) 0
          have r0 : rows' 0 = R.rows 0 := q2.1 0 (by decide)
          generalize hR1 : ((R.s_th 0).s_rows rows').s_ud (nI (min (F.ct + 1) 8)) = R1 at q1
          have R1r : R1.rows = rows' := by rw [← hR1]; rfl
          have R1b : R1.buf = R.buf := by rw [← hR1]; rfl
          have R1t : R1.th = 0 := by rw [← hR1]; rfl
          have d1' : g_ald (mP x (a + 614) R1) (a + 614 + 2) 1 = some (nI F.now.told) := (mLl (R := R1) 1 1).trans (congrArg some (by rw [R1r, r0]; exact n1'))
          obtain ⟨D', s1, s2, s3, -⟩ := sl_r x (a + 614) n24 (show F.now.told < 8 by omega) x1 x2 n 0 g_N R1 (by omega) (by unfold g_N; omega) (by rw [R1r, r0]; exact n1')
          rw [nI_0] at s1
          refine ⟨(R1.s_rows (updR R1.rows 0 D')).s_bl 0, ?_, R1t, ?_⟩
          · rw [pre]
            simp only [c2, ck, and_self, if_true, f_X8_send_b54, f_X8_send_b78, mI, cond_true, fails_0 (R := R.s_th 0) rfl, Option.bind_some, mG_data, d1, q8, if_false, q1, d1', s1]
          · have all := chg_all (W' := W) (D' := D') (c := 0) hr q2 (by
              obtain ⟨e1, e2, e3, e4, e5, e6, e7, e8, e9⟩ := s2
              obtain ⟨k9, kk, rfl⟩ := rng (n := 9) (by decide) c2
              have mr := hr.now.msg (D' := D') hr.live (show F.now.told < 8 by omega) (s := x1) (u := nI k9) (p := 0) (n := n) (T := F.B) n1 n24 (by
                obtain ⟨b, rfl⟩ := nI_cn x1 c
                cases b
                · exact Or.inl rfl
                · exact Or.inr rfl) ⟨k9, by omega, rfl⟩ (fun k hk => by rw [Nat.zero_add]; exact isL_l (lets k hk).1) e1 e2 e3 e4 e5 e6 e7 (fun g hg => ⟨fun gn' => by rw [s3 g (by omega) gn', R1b, Nat.zero_add, (lets g gn').2], e8 g hg⟩) (fun j j0 j1 j2 => by rw [e9 j j1 j2, R1r, r0])
              rw [hW] at mr
              exact mr.1) (by
              rw [← hW]
              obtain ⟨e1, e2, e3, e4, e5, e6, e7, e8, e9⟩ := s2
              obtain ⟨k9, kk, rfl⟩ := rng (n := 9) (by decide) c2
              exact (hr.now.msg (D' := D') hr.live (show F.now.told < 8 by omega) (s := x1) (u := nI k9) (p := 0) (n := n) (T := F.B) n1 n24 (by
                obtain ⟨b, rfl⟩ := nI_cn x1 c
                cases b
                · exact Or.inl rfl
                · exact Or.inr rfl) ⟨k9, by omega, rfl⟩ (fun k hk => by rw [Nat.zero_add]; exact isL_l (lets k hk).1) e1 e2 e3 e4 e5 e6 e7 (fun g hg => ⟨fun gn' => by rw [s3 g (by omega) gn', R1b, Nat.zero_add, (lets g gn').2], e8 g hg⟩) (fun j j0 j1 j2 => by rw [e9 j j1 j2, R1r, r0])).2) (by have := hr.time; rw [Wt.2]; omega)
            have em := emptied all
            rw [← hR1]
            exact em
    · have pre1 : ∀ x, f_X8_send (mP x (a + 614) R) (a + 614) x1 x2 x3 = some (0, mP x (a + 614) (R.s_th 2)) := fun x => by
        rw [pre, if_neg cb]
        simp only [f_X8_send_b54, mI, cond_true, fails_1 (R := R.s_th 0) rfl (show ¬ (2 : Int32) = 0 by decide), Option.bind_some, z10, if_false]
        rfl
      refine S_ex (R' := R.s_th 2) (c := 2) (r := 0) hf hm hq ?_ (by decide) pre1 rfl (hr.later (by omega))
      by_cases c2 : 0 ≤ x2 ∧ x2 ≤ 9
      · have ck : ok = false := by
          cases ok with
          | false => rfl
          | true => exact absurd ⟨c2, rfl⟩ cb
        simp only [f_L_send, g7, cond_true, f_X7_send, f_X7_send_b37, f7, c, c2, and_self, not_true_eq_false, if_false, k1, ck, bI_f, if_true, Option.bind_some]
      · simp only [f_L_send, g7, cond_true, f_X7_send, f_X7_send_b37, f7, c, c2, and_self, not_true_eq_false, not_false_eq_true, if_false, if_true]
  · refine S_ex (R' := R.s_th 1) (c := 1) (r := 0) hf hm hq ?_ (by decide) (fun x => ?_) rfl (hr.later (by omega))
    · simp only [f_L_send, g7, cond_true, f_X7_send, f7, c, not_false_eq_true, if_true]
    · simp only [f_X8_send, mT_th, Option.bind_some, mI, cond_true, noStation_m (R := R.s_th 0) rfl, c, if_false, z10]
      rfl
end SEND
