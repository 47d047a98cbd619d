/-! the reference's parser -/
theorem relB_in {u v : Int32} (h : relB u v) {lo hi : Nat} (hl : lo < 2 ^ 31) (h128 : hi < 128) : (nI lo ≤ u ∧ u ≤ nI hi ↔ nI lo ≤ v ∧ v ≤ nI hi) ∧ (nI lo ≤ v ∧ v ≤ nI hi → u = v) := by
  rcases h with ⟨k, hk, rfl, rfl⟩ | ⟨k, h1, h2, rfl, hv⟩
  · exact ⟨Iff.rfl, fun _ => rfl⟩
  · have e1 : ¬ nI k ≤ nI hi := fun z => by
      rw [nI_leI (by omega) (by omega)] at z
      omega
    have e2 : ¬ nI lo ≤ v := fun z => by
      rw [Int32.le_iff_toInt_le, nI_toInt hl] at z
      rw [Int32.lt_iff_toInt_lt, show (0 : Int32).toInt = 0 by decide] at hv
      omega
    exact ⟨⟨fun z => absurd z.2 e1, fun z => absurd z.1 e2⟩, fun z => absurd z.1 e2⟩
theorem updR_RR (f : Nat → Nat → Int32) (j : Nat) (A B : Nat → Int32) : updR (updR f j A) j B = updR f j B := funext fun k => by
  unfold updR
  by_cases c : k = j <;> simp [c]
/-- the reference while it reads: position, error, its offset, a number's start, the channels told, the draft -/
def sS (R0 : RMo) (N : Nat) (p e o ns tc : Int32) (D : Nat → Int32) : RMo := RMo.mk R0.th R0.bl (nI N) p e o R0.eo R0.ud ns tc R0.buf (updR R0.rows 1 D)
def rb (R0 : RMo) (N i : Nat) : Int32 := if i < N then R0.buf i else -1
section PARS
variable {x : gH} {m : Nat} {R0 : RMo} {N : Nat} {T : Nat → Int32} {p e o ns tc : Int32} {D : Nat → Int32}
theorem sI : g_is (mP x m (sS R0 N p e o ns tc D)) m 8 = true := mI x m _
theorem sG_buf : g_gA (mP x m (sS R0 N p e o ns tc D)) m 8 1 = some (m + 1) := mG_buf x m _
theorem sG_draft : g_gA (mP x m (sS R0 N p e o ns tc D)) m 8 9 = some (m + 3) := mG_draft x m _
theorem sG_tl : g_gI (mP x m (sS R0 N p e o ns tc D)) m 8 3 = some (nI N) := mG_tl x m _
theorem sG_pos : g_gI (mP x m (sS R0 N p e o ns tc D)) m 8 4 = some p := mG_pos x m _
theorem sT_pos (v : Int32) : g_put (mP x m (sS R0 N p e o ns tc D)) m 8 4 (.int v) = some (mP x m (sS R0 N v e o ns tc D)) := mT_pos x m _ v
theorem sG_err : g_gI (mP x m (sS R0 N p e o ns tc D)) m 8 5 = some e := mG_err x m _
theorem sT_err (v : Int32) : g_put (mP x m (sS R0 N p e o ns tc D)) m 8 5 (.int v) = some (mP x m (sS R0 N p v o ns tc D)) := mT_err x m _ v
theorem sT_ea (v : Int32) : g_put (mP x m (sS R0 N p e o ns tc D)) m 8 6 (.int v) = some (mP x m (sS R0 N p e v ns tc D)) := mT_ea x m _ v
theorem sG_ns : g_gI (mP x m (sS R0 N p e o ns tc D)) m 8 13 = some ns := mG_ns x m _
theorem sT_ns (v : Int32) : g_put (mP x m (sS R0 N p e o ns tc D)) m 8 13 (.int v) = some (mP x m (sS R0 N p e o v tc D)) := mT_ns x m _ v
theorem sG_tc : g_gI (mP x m (sS R0 N p e o ns tc D)) m 8 14 = some tc := mG_tc x m _
theorem sT_tc (v : Int32) : g_put (mP x m (sS R0 N p e o ns tc D)) m 8 14 (.int v) = some (mP x m (sS R0 N p e o ns v D)) := mT_tc x m _ v
theorem sB {i : Nat} (hi : i < 500) : g_ald (mP x m (sS R0 N p e o ns tc D)) (m + 1) (nI i) = some (R0.buf i) := mB_ld x m _ hi
theorem sRE : rP (mP x m (sS R0 N p e o ns tc D)) (m + 3) D = mP x m (sS R0 N p e o ns tc D) := by
  have q := mE_row x m (sS R0 N p e o ns tc D) (j := 1) (by decide) (by decide)
  have e1 : (sS R0 N p e o ns tc D).rows 1 = D := updR_at R0.rows 1 D
  rw [e1] at q
  exact q
theorem sRU (D' : Nat → Int32) : rP (mP x m (sS R0 N p e o ns tc D)) (m + 3) D' = mP x m (sS R0 N p e o ns tc D') := by
  have q := mU_row x m (sS R0 N p e o ns tc D) (j := 1) (by decide) (by decide) D'
  have e1 : (sS R0 N p e o ns tc D).s_rows (updR (sS R0 N p e o ns tc D).rows 1 D') = sS R0 N p e o ns tc D' := by
    show (sS R0 N p e o ns tc D).s_rows (updR (updR R0.rows 1 D) 1 D') = _
    rw [updR_RR]
    rfl
  rw [e1] at q
  exact q
theorem s_row {D' : Nat → Int32} {f : gH → Nat → Option gH} (h : f (rP (mP x m (sS R0 N p e o ns tc D)) (m + 3) D) (m + 3) = some (rP (mP x m (sS R0 N p e o ns tc D)) (m + 3) D')) : f (mP x m (sS R0 N p e o ns tc D)) (m + 3) = some (mP x m (sS R0 N p e o ns tc D')) := by
  rwa [sRE, sRU] at h
theorem s_rowV {β : Type} {v : β} {f : gH → Nat → Option β} (h : f (rP (mP x m (sS R0 N p e o ns tc D)) (m + 3) D) (m + 3) = some v) : f (mP x m (sS R0 N p e o ns tc D)) (m + 3) = some v := by
  rwa [sRE] at h
/-! bytes -/
theorem byteAt_s (hN : N ≤ 500) {i : Nat} (hi : i < 2 ^ 31) : f_X8_byteAt (mP x m (sS R0 N p e o ns tc D)) m (nI i) = some (rb R0 N i) := by
  unfold rb
  by_cases c : i < N
  · simp only [f_X8_byteAt, sG_tl, sG_buf, Option.bind_some, nI_ltI hi (show N < 2 ^ 31 by omega), c, if_true, sB (show i < 500 by omega)]
  · simp only [f_X8_byteAt, sG_tl, Option.bind_some, nI_ltI hi (show N < 2 ^ 31 by omega), c, if_false]
theorem rb_in (hB : ∀ i, i < N → relB (R0.buf i) (T i)) {lo hi : Nat} (hl : lo < 2 ^ 31) (h128 : hi < 128) (i : Nat) : (nI lo ≤ rb R0 N i ∧ rb R0 N i ≤ nI hi ↔ i < N ∧ nI lo ≤ T i ∧ T i ≤ nI hi) ∧ (i < N → nI lo ≤ T i ∧ T i ≤ nI hi → rb R0 N i = T i) := by
  unfold rb
  by_cases c : i < N
  · rw [if_pos c]
    have q := relB_in (hB i c) hl h128
    exact ⟨⟨fun z => ⟨c, q.1.mp z⟩, fun z => q.1.mpr z.2⟩, fun _ => q.2⟩
  · rw [if_neg c]
    refine ⟨⟨fun z => ?_, fun z => absurd z.1 c⟩, fun z => absurd z c⟩
    have := z.1
    rw [Int32.le_iff_toInt_le, nI_toInt hl, show (-1 : Int32).toInt = -1 by decide] at this
    omega
theorem rb_eq (hB : ∀ i, i < N → relB (R0.buf i) (T i)) {c : Nat} (hc : c < 128) (i : Nat) : rb R0 N i = nI c ↔ i < N ∧ T i = nI c := by
  have q := (rb_in hB (lo := c) (hi := c) (by omega) hc i).1
  have a : ∀ v : Int32, (nI c ≤ v ∧ v ≤ nI c) ↔ v = nI c := fun v => ⟨fun z => Int32.le_antisymm z.2 z.1, fun z => by rw [z]; exact ⟨Int32.le_refl _, Int32.le_refl _⟩⟩
  rw [a, a] at q
  exact q
theorem rb_no {i : Nat} (hi : N ≤ i) : rb R0 N i = -1 := by
  unfold rb
  rw [if_neg (by omega)]
theorem rb_ne (hB : ∀ i, i < N → relB (R0.buf i) (T i)) {i : Nat} (hi : i < N) : rb R0 N i ≠ -1 := by
  unfold rb
  rw [if_pos hi]
  rcases hB i hi with ⟨k, hk, e, -⟩ | ⟨k, h1, h2, e, -⟩
  · rw [e]; exact nI_neN (by omega)
  · rw [e]; exact nI_neN (by omega)
/-! runs -/
theorem run_at (P : Nat → Prop) [DecidablePred P] : ∀ d i, run P d i < i + d → ¬ P (run P d i)
  | 0, i, h => absurd h (Nat.lt_irrefl _)
  | d + 1, i, h => by
    rw [run] at h ⊢
    by_cases c : P i
    · rw [if_pos c] at h ⊢
      exact run_at P d (i + 1) (by omega)
    · rw [if_neg c]; exact c
theorem run_is (P : Nat → Prop) [DecidablePred P] : ∀ (n d i : Nat), n ≤ d → (∀ j, i ≤ j → j < i + n → P j) → (n = d ∨ ¬ P (i + n)) → run P d i = i + n
  | 0, 0, i, _, _, _ => rfl
  | 0, d + 1, i, _, _, h => by
    have h' : ¬ P i := h.resolve_left (by omega)
    rw [run, if_neg h']
    rfl
  | n + 1, 0, i, hn, _, _ => absurd hn (by omega)
  | n + 1, d + 1, i, hn, h1, h2 => by
    rw [run, if_pos (h1 i (Nat.le_refl _) (by omega)), run_is P n d (i + 1) (by omega) (fun j j1 j2 => h1 j (by omega) (by omega)) (h2.imp (fun z => by omega) (fun z => by rwa [show i + 1 + n = i + (n + 1) by omega]))]
    omega
theorem run_all (P : Nat → Prop) [DecidablePred P] : ∀ (d i j : Nat), i ≤ j → j < run P d i → P j
  | 0, i, j, h1, h2 => absurd h2 (by rw [run]; omega)
  | d + 1, i, j, h1, h2 => by
    rw [run] at h2
    by_cases c : P i
    · rw [if_pos c] at h2
      by_cases e : j = i
      · rw [e]; exact c
      · exact run_all P d (i + 1) j (by omega) h2
    · rw [if_neg c] at h2
      omega
/-- where the spaces at i end -/
def spc (T : Nat → Int32) (N i : Nat) : Nat := run (fun i => T i = 32) (N - i) i
theorem spc_le {i : Nat} (hi : i ≤ N) : i ≤ spc T N i ∧ spc T N i ≤ N := by
  have := run_le (fun i => T i = 32) (N - i) i
  unfold spc
  omega
theorem spc_at {i : Nat} (hi : i ≤ N) (h : spc T N i < N) : ¬ T (spc T N i) = 32 := run_at (fun i => T i = 32) (N - i) i (by unfold spc at h; omega)
theorem spc_spc {i : Nat} (hi : i ≤ N) : spc T N (spc T N i) = spc T N i := by
  have q := spc_le (T := T) hi
  have r := run_is (fun i => T i = 32) 0 (N - spc T N i) (spc T N i) (Nat.zero_le _) (fun j j1 j2 => absurd j2 (by omega)) (by
    by_cases c : spc T N i < N
    · exact Or.inr (spc_at hi c)
    · exact Or.inl (by omega))
  exact r
theorem ahead_l (hN : N ≤ 500) (hB : ∀ i, i < N → relB (R0.buf i) (T i)) : ∀ (d i fuel : Nat), i + d = N → d < fuel → f_X8_ahead_b0 fuel (mP x m (sS R0 N (nI i) e o ns tc D)) m = some (rb R0 N (run (fun i => T i = 32) d i), mP x m (sS R0 N (nI (run (fun i => T i = 32) d i)) e o ns tc D)) := by
  intro d
  induction d with
  | zero =>
    intro i fuel hi hf
    obtain ⟨fu, rfl⟩ := Nat.exists_eq_succ_of_ne_zero (Nat.ne_of_gt hf)
    have c : ¬ rb R0 N i = 32 := by rw [rb_no (by omega)]; decide
    simp only [f_X8_ahead_b0, sG_pos, sI, cond_true, byteAt_s hN (show i < 2 ^ 31 by omega), Option.bind_some, c, if_false, run]
  | succ d ih =>
    intro i fuel hi hf
    obtain ⟨fu, rfl⟩ := Nat.exists_eq_succ_of_ne_zero (Nat.ne_of_gt (Nat.zero_lt_of_lt hf))
    have q := rb_eq hB (c := 32) (by decide) i
    rw [show nI 32 = (32 : Int32) by decide] at q
    simp only [f_X8_ahead_b0, sG_pos, sI, cond_true, byteAt_s hN (show i < 2 ^ 31 by omega), Option.bind_some, run, q, sT_pos, ← nI_succ]
    by_cases c : T i = 32
    · rw [if_pos ⟨by omega, c⟩, if_pos c]
      exact ih (i + 1) fu (by omega) (by omega)
    · rw [if_neg (fun z => c z.2), if_neg c]
theorem ahead_s (hN : N ≤ 500) (hB : ∀ i, i < N → relB (R0.buf i) (T i)) {i : Nat} (hi : i ≤ N) : f_X8_ahead (mP x m (sS R0 N (nI i) e o ns tc D)) m = some (rb R0 N (spc T N i), mP x m (sS R0 N (nI (spc T N i)) e o ns tc D)) := ahead_l hN hB (N - i) i g_N (by omega) (by unfold g_N; omega)
theorem good_s : f_X8_isGood (mP x m (sS R0 N p e o ns tc D)) m = some (if e = 0 then 1 else 0) := by
  simp only [f_X8_isGood, sG_err, Option.bind_some]
  split <;> rfl
theorem good_0 : f_X8_isGood (mP x m (sS R0 N p 0 o ns tc D)) m = some 1 := good_s
theorem good_1 (he : ¬ e = 0) : f_X8_isGood (mP x m (sS R0 N p e o ns tc D)) m = some 0 := by rw [good_s, if_neg he]
theorem rep_0 (c q : Int32) : f_X8_report (mP x m (sS R0 N p 0 o ns tc D)) m c q = some (mP x m (sS R0 N p c q ns tc D)) := by
  simp only [f_X8_report, sG_err, Option.bind_some, if_true, sT_err, sT_ea]
theorem rep_1 (he : ¬ e = 0) (c q : Int32) : f_X8_report (mP x m (sS R0 N p e o ns tc D)) m c q = some (mP x m (sS R0 N p e o ns tc D)) := by
  simp only [f_X8_report, sG_err, Option.bind_some, he, if_false]
theorem z10' : ((1 : Int32) = 0) = False := eq_false (by decide)
/-! after an error nothing is read -/
theorem num_1 (he : ¬ e = 0) (lo hi : Int32) : f_X8_number (mP x m (sS R0 N p e o ns tc D)) m lo hi = some (0, mP x m (sS R0 N p e o ns tc D)) := by
  simp only [f_X8_number, sI, cond_true, good_1 he, Option.bind_some, if_true]
theorem exp_1 (he : ¬ e = 0) (c : Int32) : f_X8_expect (mP x m (sS R0 N p e o ns tc D)) m c = some (mP x m (sS R0 N p e o ns tc D)) := by
  simp only [f_X8_expect, sI, cond_true, good_1 he, Option.bind_some, if_true]
theorem word_1 (he : ¬ e = 0) (i : Nat) : f_X8_takeWord (mP x m (sS R0 N p e o ns tc D)) m i = some (0, mP x m (sS R0 N p e o ns tc D)) := by
  simp only [f_X8_takeWord, sI, cond_true, good_1 he, Option.bind_some, if_true]
/-! a semicolon -/
theorem exp_0 (hN : N ≤ 500) (hB : ∀ i, i < N → relB (R0.buf i) (T i)) {i : Nat} (hi : i ≤ N) : f_X8_expect (mP x m (sS R0 N (nI i) 0 o ns tc D)) m 59 = some (if spc T N i < N ∧ T (spc T N i) = 59 then mP x m (sS R0 N (nI (spc T N i + 1)) 0 o ns tc D) else mP x m (sS R0 N (nI (spc T N i)) (-2) (nI (spc T N i)) ns tc D)) := by
  have q := rb_eq hB (c := 59) (by decide) (spc T N i)
  rw [show nI 59 = (59 : Int32) by decide] at q
  simp only [f_X8_expect, sI, cond_true, good_0, Option.bind_some, z10', if_false, ahead_s hN hB hi, q, sG_pos, sT_pos, ← nI_succ, rep_0]
  split <;> rfl
/-! a word -/
theorem tword_l (hN : N ≤ 500) (hB : ∀ i, i < N → relB (R0.buf i) (T i)) {w k : Nat} (hw : w < 5) (hk : k ≤ N) : ∀ (d j fuel : Nat), j + d = g_len.getD w 0 → d < fuel → ∃ b : Bool, f_X8_takeWord_b16 fuel (mP x m (sS R0 N (nI k) e o ns tc D)) m w (nI j) = some (bI b, mP x m (sS R0 N (nI (if b then k + g_len.getD w 0 else k)) e o ns tc D)) ∧ (b = true ↔ (∀ r, j ≤ r → r < g_len.getD w 0 → k + r < N ∧ T (k + r) = (g_byt.getD w []).getD r 0) ∧ ¬ (k + g_len.getD w 0 < N ∧ 97 ≤ T (k + g_len.getD w 0) ∧ T (k + g_len.getD w 0) ≤ 122)) := by
  have gl := glen_le w hw
  have bb : ∀ r, r < g_len.getD w 0 → ∃ c : Nat, c < 128 ∧ (g_byt.getD w []).getD r 0 = nI c := by
    have : ∀ w, w < 5 → ∀ r, r < g_len.getD w 0 → ((g_byt.getD w []).getD r 0).toNatClampNeg < 128 ∧ (g_byt.getD w []).getD r 0 = nI ((g_byt.getD w []).getD r 0).toNatClampNeg := by decide +kernel
    exact fun r hr => ⟨_, (this w hw r hr).1, (this w hw r hr).2⟩
  intro d
  induction d with
  | zero =>
    intro j fuel hj hf
    obtain ⟨fu, rfl⟩ := Nat.exists_eq_succ_of_ne_zero (Nat.ne_of_gt hf)
    have ej : j = g_len.getD w 0 := by omega
    have li := (rb_in hB (lo := 97) (hi := 122) (by decide) (by decide) (k + g_len.getD w 0)).1
    rw [show nI 97 = (97 : Int32) by decide, show nI 122 = (122 : Int32) by decide] at li
    have c1 : ¬ nI (g_len.getD w 0) < nI (g_len.getD w 0) := Int32.lt_irrefl
    subst ej
    simp only [f_X8_takeWord_b16, f_X8_takeWord_b48, slen_of hw, Option.bind_some, c1, if_false, Int32.le_refl, if_true, sG_pos, sI, cond_true, nI_add, byteAt_s hN (show k + g_len.getD w 0 < 2 ^ 31 by omega), f8, li, sT_pos]
    by_cases c : k + g_len.getD w 0 < N ∧ 97 ≤ T (k + g_len.getD w 0) ∧ T (k + g_len.getD w 0) ≤ 122
    · refine ⟨false, ?_, ⟨(fun z => nomatch z), fun z => absurd c z.2⟩⟩
      rw [if_neg (fun z => z c)]
      rfl
    · refine ⟨true, ?_, ⟨fun _ => ⟨fun r r1 r2 => absurd r2 (by omega), c⟩, fun _ => rfl⟩⟩
      rw [if_pos c]
      rfl
  | succ d ih =>
    intro j fuel hj hf
    obtain ⟨fu, rfl⟩ := Nat.exists_eq_succ_of_ne_zero (Nat.ne_of_gt (Nat.zero_lt_of_lt hf))
    obtain ⟨c, c128, ec⟩ := bb j (by omega)
    have c1 : nI j < nI (g_len.getD w 0) := nI_lt (by omega) (by omega)
    have c2 : ¬ nI (g_len.getD w 0) ≤ nI j := fun z => by have := (nI_leI (by omega) (by omega)).mp z; omega
    have q := rb_eq hB c128 (k + j)
    rw [← ec] at q
    simp only [f_X8_takeWord_b16, f_X8_takeWord_b48, slen_of hw, Option.bind_some, c1, if_true, c2, if_false, sG_pos, sI, cond_true, nI_add, byteAt_s hN (show k + j < 2 ^ 31 by omega), sch_of hw (show j < g_len.getD w 0 by omega), q, ← nI_succ]
    by_cases cc : k + j < N ∧ T (k + j) = (g_byt.getD w []).getD j 0
    · obtain ⟨b, b1, b2⟩ := ih (j + 1) fu (by omega) (by omega)
      refine ⟨b, ?_, b2.trans ⟨fun z => ⟨fun r r1 r2 => ?_, z.2⟩, fun z => ⟨fun r r1 r2 => z.1 r (by omega) r2, z.2⟩⟩⟩
      · rw [if_pos cc, b1]
      · by_cases er : r = j
        · rw [er]; exact cc
        · exact z.1 r (by omega) r2
    · refine ⟨false, ?_, ⟨(fun z => nomatch z), fun z => absurd (z.1 j (Nat.le_refl _) (by omega)) cc⟩⟩
      rw [if_neg cc]
      rfl
theorem byt_l : ∀ w, w < 5 → ∀ r, r < g_len.getD w 0 → 97 ≤ (g_byt.getD w []).getD r 0 ∧ (g_byt.getD w []).getD r 0 ≤ 122 := by decide +kernel
theorem word_go1 (w : Nat) : f_X8_takeWord (mP x m (sS R0 N p 0 o ns tc D)) m w = (f_X8_ahead (mP x m (sS R0 N p 0 o ns tc D)) m).bind fun y => f_X8_takeWord_b16 g_N y.2 m w 0 := by
  unfold f_X8_takeWord
  simp only [sI, cond_true, good_0, Option.bind_some, z10', if_false]
theorem word_go2 (w : Nat) (y : Int32 × gH) (z : Option (Int32 × gH)) (e : z = some y) (G : Nat) : (z.bind fun y => f_X8_takeWord_b16 G y.2 m w 0) = f_X8_takeWord_b16 G y.2 m w 0 := by
  rw [e, Option.bind_some]
theorem word_go (hN : N ≤ 500) (hB : ∀ i, i < N → relB (R0.buf i) (T i)) (w : Nat) {i : Nat} (hi : i ≤ N) : f_X8_takeWord (mP x m (sS R0 N (nI i) 0 o ns tc D)) m w = f_X8_takeWord_b16 g_N (mP x m (sS R0 N (nI (spc T N i)) 0 o ns tc D)) m w 0 := by
  rw [word_go1]
  exact word_go2 w _ _ (ahead_s hN hB hi) g_N
theorem word_0 (hN : N ≤ 500) (hB : ∀ i, i < N → relB (R0.buf i) (T i)) {w : Nat} (hw : w < 5) {R : RRd} (hl : R.len = N) (hp : R.pos ≤ N) {p0 : Nat} (h0 : p0 = R.pos ∨ p0 = spc T N R.pos) : f_X8_takeWord (mP x m (sS R0 N (nI p0) 0 o ns tc D)) m w = some (bI ((R.word T).isTok T w), mP x m (sS R0 N (nI (if (R.word T).isTok T w then (R.word T).pos else spc T N R.pos)) 0 o ns tc D)) := by
  subst hl
  have sp := spc_le (T := T) hp
  have e0 : p0 ≤ R.len ∧ spc T R.len p0 = spc T R.len R.pos := by
    rcases h0 with rfl | rfl
    · exact ⟨hp, rfl⟩
    · exact ⟨sp.2, spc_spc hp⟩
  obtain ⟨b, b1, b2⟩ := tword_l (x := x) (m := m) (e := 0) (o := o) (ns := ns) (tc := tc) (D := D) hN hB hw sp.2 (g_len.getD w 0) 0 g_N (by omega) (by have := glen_le w hw; unfold g_N; omega)
  have wt : (R.word T).tok = spc T R.len R.pos := rfl
  have wp : (R.word T).pos = run (fun i => 97 ≤ T i ∧ T i ≤ 122) (R.len - spc T R.len R.pos) (spc T R.len R.pos) := rfl
  have key : (R.word T).isTok T w = b := by
    rw [Bool.eq_iff_iff, b2]
    unfold RRd.isTok
    rw [Bool.and_eq_true, decide_eq_true_iff, als_iff, wt, wp]
    refine ⟨fun z => ⟨fun r _ r2 => ⟨?_, of_decide_eq_true (z.2 r (Nat.zero_le _) (by omega))⟩, fun y => ?_⟩, fun z => ⟨?_, fun r r1 r2 => decide_eq_true (z.1 r r1 (by omega)).2⟩⟩
    · have := (run_le (fun i => 97 ≤ T i ∧ T i ≤ 122) (R.len - spc T R.len R.pos) (spc T R.len R.pos)).2
      omega
    · have := run_at (fun i => 97 ≤ T i ∧ T i ≤ 122) (R.len - spc T R.len R.pos) (spc T R.len R.pos) (by omega)
      rw [z.1] at this
      exact this y.2
    · refine run_is (fun i => 97 ≤ T i ∧ T i ≤ 122) (g_len.getD w 0) _ _ ?_ (fun j j1 j2 => ?_) ?_
      · by_cases c0 : g_len.getD w 0 = 0
        · omega
        · have := (z.1 (g_len.getD w 0 - 1) (Nat.zero_le _) (by omega)).1
          omega
      · have := (z.1 (j - spc T R.len R.pos) (Nat.zero_le _) (by omega)).2
        rw [show spc T R.len R.pos + (j - spc T R.len R.pos) = j by omega] at this
        rw [this]
        exact byt_l w hw _ (by omega)
      · by_cases c : spc T R.len R.pos + g_len.getD w 0 < R.len
        · exact Or.inr (fun y => z.2 ⟨c, y⟩)
        · by_cases c0 : g_len.getD w 0 = 0
          · omega
          · have := (z.1 (g_len.getD w 0 - 1) (Nat.zero_le _) (by omega)).1
            omega
  have pos : b = true → (R.word T).pos = spc T R.len R.pos + g_len.getD w 0 := fun hb => by
    rw [hb] at key
    unfold RRd.isTok at key
    rw [Bool.and_eq_true, decide_eq_true_iff, wt] at key
    exact key.1
  rw [nI_0] at b1
  rw [key]
  rw [word_go hN hB w e0.1, e0.2, b1]
  cases b with
  | false => rw [if_neg (fun z => nomatch z), if_neg (fun z => nomatch z)]
  | true => rw [if_pos rfl, if_pos rfl, pos rfl]
/-! a number -/
theorem min_c {v c t : Nat} (hc : 10 ≤ c) (hc2 : c ≤ 100000000) (ht : t ≤ 9) : f_X8_min (nI c) (((10 * nI (min v c)) + nI (t + 48)) - 48) = nI (min (10 * v + t) c) := by
  have e1 : ((10 * nI (min v c)) + nI (t + 48)) - 48 = nI (10 * min v c + t) := by
    rw [show (10 : Int32) = nI 10 by decide, nI_mul, nI_add, show (48 : Int32) = nI 48 by decide, nI_sub (by omega)]
    rfl
  rw [e1]
  unfold f_X8_min
  by_cases c1 : c < 10 * min v c + t
  · rw [if_pos (nI_lt c1 (by omega)), show min (10 * v + t) c = c by omega]
  · rw [if_neg (nI_nlt (by omega) (by omega)), show min (10 * v + t) c = 10 * min v c + t by omega]
theorem min_g {v t : Nat} (ht : t ≤ 9) : g_min (((10 * nI (min v 1000000)) + nI (t + 48)) - 48) 1000000 = nI (min (10 * v + t) 1000000) := by
  have e1 : ((10 * nI (min v 1000000)) + nI (t + 48)) - 48 = nI (10 * min v 1000000 + t) := by
    rw [show (10 : Int32) = nI 10 by decide, nI_mul, nI_add, show (48 : Int32) = nI 48 by decide, nI_sub (by omega)]
    rfl
  rw [e1]
  unfold g_min
  rw [show (1000000 : Int32) = nI 1000000 by decide]
  by_cases c1 : 1000000 < 10 * min v 1000000 + t
  · rw [if_pos (nI_lt c1 (by omega)), show min (10 * v + t) 1000000 = 1000000 by omega]
  · rw [if_neg (nI_nlt (by omega) (by omega)), show min (10 * v + t) 1000000 = 10 * min v 1000000 + t by omega]
end PARS
