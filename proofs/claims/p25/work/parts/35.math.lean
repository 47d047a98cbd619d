/-! the reader of a setup text -/
def RRd : Type := Nat × Nat × Nat × Nat × Int32 × Int32 × Int32
def RRd.mk (text : Nat) (len : Nat) (pos : Nat) (tok : Nat) (told : Int32) (code : Int32) (err : Int32) : RRd := (text, len, pos, tok, told, code, err)
def RRd.text (R : RRd) : Nat := R.1
def RRd.len (R : RRd) : Nat := R.2.1
def RRd.pos (R : RRd) : Nat := R.2.2.1
def RRd.tok (R : RRd) : Nat := R.2.2.2.1
def RRd.told (R : RRd) : Int32 := R.2.2.2.2.1
def RRd.code (R : RRd) : Int32 := R.2.2.2.2.2.1
def RRd.err (R : RRd) : Int32 := R.2.2.2.2.2.2
def RRd.s_text (R : RRd) (v : Nat) : RRd := RRd.mk v R.len R.pos R.tok R.told R.code R.err
theorem RRd_u_text (R : RRd) (v : Nat) : R.s_text v = RRd.mk v R.len R.pos R.tok R.told R.code R.err := rfl
def RRd.s_len (R : RRd) (v : Nat) : RRd := RRd.mk R.text v R.pos R.tok R.told R.code R.err
theorem RRd_u_len (R : RRd) (v : Nat) : R.s_len v = RRd.mk R.text v R.pos R.tok R.told R.code R.err := rfl
def RRd.s_pos (R : RRd) (v : Nat) : RRd := RRd.mk R.text R.len v R.tok R.told R.code R.err
theorem RRd_u_pos (R : RRd) (v : Nat) : R.s_pos v = RRd.mk R.text R.len v R.tok R.told R.code R.err := rfl
def RRd.s_tok (R : RRd) (v : Nat) : RRd := RRd.mk R.text R.len R.pos v R.told R.code R.err
theorem RRd_u_tok (R : RRd) (v : Nat) : R.s_tok v = RRd.mk R.text R.len R.pos v R.told R.code R.err := rfl
def RRd.s_told (R : RRd) (v : Int32) : RRd := RRd.mk R.text R.len R.pos R.tok v R.code R.err
theorem RRd_u_told (R : RRd) (v : Int32) : R.s_told v = RRd.mk R.text R.len R.pos R.tok v R.code R.err := rfl
def RRd.s_code (R : RRd) (v : Int32) : RRd := RRd.mk R.text R.len R.pos R.tok R.told v R.err
theorem RRd_u_code (R : RRd) (v : Int32) : R.s_code v = RRd.mk R.text R.len R.pos R.tok R.told v R.err := rfl
def RRd.s_err (R : RRd) (v : Int32) : RRd := RRd.mk R.text R.len R.pos R.tok R.told R.code v
theorem RRd_u_err (R : RRd) (v : Int32) : R.s_err v = RRd.mk R.text R.len R.pos R.tok R.told R.code v := rfl
theorem RRd_text (text : Nat) (len : Nat) (pos : Nat) (tok : Nat) (told : Int32) (code : Int32) (err : Int32) : (RRd.mk text len pos tok told code err).text = text := rfl
theorem RRd_len (text : Nat) (len : Nat) (pos : Nat) (tok : Nat) (told : Int32) (code : Int32) (err : Int32) : (RRd.mk text len pos tok told code err).len = len := rfl
theorem RRd_pos (text : Nat) (len : Nat) (pos : Nat) (tok : Nat) (told : Int32) (code : Int32) (err : Int32) : (RRd.mk text len pos tok told code err).pos = pos := rfl
theorem RRd_tok (text : Nat) (len : Nat) (pos : Nat) (tok : Nat) (told : Int32) (code : Int32) (err : Int32) : (RRd.mk text len pos tok told code err).tok = tok := rfl
theorem RRd_told (text : Nat) (len : Nat) (pos : Nat) (tok : Nat) (told : Int32) (code : Int32) (err : Int32) : (RRd.mk text len pos tok told code err).told = told := rfl
theorem RRd_code (text : Nat) (len : Nat) (pos : Nat) (tok : Nat) (told : Int32) (code : Int32) (err : Int32) : (RRd.mk text len pos tok told code err).code = code := rfl
theorem RRd_err (text : Nat) (len : Nat) (pos : Nat) (tok : Nat) (told : Int32) (code : Int32) (err : Int32) : (RRd.mk text len pos tok told code err).err = err := rfl
theorem RRd_eta (R : RRd) : RRd.mk R.text R.len R.pos R.tok R.told R.code R.err = R := rfl
theorem RRd_s : (∀ (text : Nat) (len : Nat) (pos : Nat) (tok : Nat) (told : Int32) (code : Int32) (err : Int32), (RRd.mk text len pos tok told code err).text = text) ∧ (∀ (text : Nat) (len : Nat) (pos : Nat) (tok : Nat) (told : Int32) (code : Int32) (err : Int32), (RRd.mk text len pos tok told code err).len = len) ∧ (∀ (text : Nat) (len : Nat) (pos : Nat) (tok : Nat) (told : Int32) (code : Int32) (err : Int32), (RRd.mk text len pos tok told code err).pos = pos) ∧ (∀ (text : Nat) (len : Nat) (pos : Nat) (tok : Nat) (told : Int32) (code : Int32) (err : Int32), (RRd.mk text len pos tok told code err).tok = tok) ∧ (∀ (text : Nat) (len : Nat) (pos : Nat) (tok : Nat) (told : Int32) (code : Int32) (err : Int32), (RRd.mk text len pos tok told code err).told = told) ∧ (∀ (text : Nat) (len : Nat) (pos : Nat) (tok : Nat) (told : Int32) (code : Int32) (err : Int32), (RRd.mk text len pos tok told code err).code = code) ∧ (∀ (text : Nat) (len : Nat) (pos : Nat) (tok : Nat) (told : Int32) (code : Int32) (err : Int32), (RRd.mk text len pos tok told code err).err = err) ∧ (∀ (R : RRd) (v : Nat), R.s_text v = RRd.mk v R.len R.pos R.tok R.told R.code R.err) ∧ (∀ (R : RRd) (v : Nat), R.s_len v = RRd.mk R.text v R.pos R.tok R.told R.code R.err) ∧ (∀ (R : RRd) (v : Nat), R.s_pos v = RRd.mk R.text R.len v R.tok R.told R.code R.err) ∧ (∀ (R : RRd) (v : Nat), R.s_tok v = RRd.mk R.text R.len R.pos v R.told R.code R.err) ∧ (∀ (R : RRd) (v : Int32), R.s_told v = RRd.mk R.text R.len R.pos R.tok v R.code R.err) ∧ (∀ (R : RRd) (v : Int32), R.s_code v = RRd.mk R.text R.len R.pos R.tok R.told v R.err) ∧ (∀ (R : RRd) (v : Int32), R.s_err v = RRd.mk R.text R.len R.pos R.tok R.told R.code v) ∧ (∀ R : RRd, RRd.mk R.text R.len R.pos R.tok R.told R.code R.err = R) := ⟨RRd_text, RRd_len, RRd_pos, RRd_tok, RRd_told, RRd_code, RRd_err, RRd_u_text, RRd_u_len, RRd_u_pos, RRd_u_tok, RRd_u_told, RRd_u_code, RRd_u_err, RRd_eta⟩
def rdO (R : RRd) : gC := .inr (5, [.ref R.text, .int (nI R.len), .int (nI R.pos), .int (nI R.tok), .int R.told, .int R.code, .int R.err])
def rdP (h : gH) (a : Nat) (R : RRd) : gH := g_set h a (rdO R)
theorem rd0 (h : gH) (a : Nat) (R : RRd) : (rdP h a R).2 a = some (rdO R) := set_at
theorem rdP_ne {h : gH} {a q : Nat} {R : RRd} (n : q ≠ a) : (rdP h a R).2 q = h.2 q := set_ne n
theorem rdP_g (h : gH) (a : Nat) (R : RRd) : g_is (rdP h a R) a 5 = true := is_of (rd0 h a R)
theorem rdG_text (h : gH) (a : Nat) (R : RRd) : g_gA (rdP h a R) a 5 0 = some R.text := gA_of (rd0 h a R) rfl
theorem rdP_P (h : gH) (a : Nat) (R R' : RRd) : g_set (rdP h a R) a (rdO R') = rdP h a R' := by
  refine Prod.ext rfl (funext fun q => ?_)
  simp only [RCh_s, RKp_s, RMs_s, RMi_s, RW_s, RRd_s, rdP, g_set]
  split <;> rfl
theorem rdG_len (h : gH) (a : Nat) (R : RRd) : g_gI (rdP h a R) a 5 1 = some (nI R.len) := gI_of (rd0 h a R) rfl
theorem rdT_len (h : gH) (a : Nat) (R : RRd) (v : Nat) : g_put (rdP h a R) a 5 1 (.int (nI v)) = some (rdP h a (RRd.mk R.text v R.pos R.tok R.told R.code R.err)) := by
  rw [put_of (rd0 h a R) (by simp [RCh_s, RKp_s, RMs_s, RMi_s, RW_s, RRd_s, bI_t, bI_f, oI_none, oI_some, SIM_m40, SIM_m45, SIM_m46])]
  exact congrArg some (rdP_P h a R (RRd.mk R.text v R.pos R.tok R.told R.code R.err))
theorem rdG_pos (h : gH) (a : Nat) (R : RRd) : g_gI (rdP h a R) a 5 2 = some (nI R.pos) := gI_of (rd0 h a R) rfl
theorem rdT_pos (h : gH) (a : Nat) (R : RRd) (v : Nat) : g_put (rdP h a R) a 5 2 (.int (nI v)) = some (rdP h a (RRd.mk R.text R.len v R.tok R.told R.code R.err)) := by
  rw [put_of (rd0 h a R) (by simp [RCh_s, RKp_s, RMs_s, RMi_s, RW_s, RRd_s, bI_t, bI_f, oI_none, oI_some, SIM_m40, SIM_m45, SIM_m46])]
  exact congrArg some (rdP_P h a R (RRd.mk R.text R.len v R.tok R.told R.code R.err))
theorem rdG_tok (h : gH) (a : Nat) (R : RRd) : g_gI (rdP h a R) a 5 3 = some (nI R.tok) := gI_of (rd0 h a R) rfl
theorem rdT_tok (h : gH) (a : Nat) (R : RRd) (v : Nat) : g_put (rdP h a R) a 5 3 (.int (nI v)) = some (rdP h a (RRd.mk R.text R.len R.pos v R.told R.code R.err)) := by
  rw [put_of (rd0 h a R) (by simp [RCh_s, RKp_s, RMs_s, RMi_s, RW_s, RRd_s, bI_t, bI_f, oI_none, oI_some, SIM_m40, SIM_m45, SIM_m46])]
  exact congrArg some (rdP_P h a R (RRd.mk R.text R.len R.pos v R.told R.code R.err))
theorem rdG_told (h : gH) (a : Nat) (R : RRd) : g_gI (rdP h a R) a 5 4 = some (R.told) := gI_of (rd0 h a R) rfl
theorem rdT_told (h : gH) (a : Nat) (R : RRd) (v : Int32) : g_put (rdP h a R) a 5 4 (.int (v)) = some (rdP h a (RRd.mk R.text R.len R.pos R.tok v R.code R.err)) := by
  rw [put_of (rd0 h a R) (by simp [RCh_s, RKp_s, RMs_s, RMi_s, RW_s, RRd_s, bI_t, bI_f, oI_none, oI_some, SIM_m40, SIM_m45, SIM_m46])]
  exact congrArg some (rdP_P h a R (RRd.mk R.text R.len R.pos R.tok v R.code R.err))
theorem rdG_code (h : gH) (a : Nat) (R : RRd) : g_gI (rdP h a R) a 5 5 = some (R.code) := gI_of (rd0 h a R) rfl
theorem rdT_code (h : gH) (a : Nat) (R : RRd) (v : Int32) : g_put (rdP h a R) a 5 5 (.int (v)) = some (rdP h a (RRd.mk R.text R.len R.pos R.tok R.told v R.err)) := by
  rw [put_of (rd0 h a R) (by simp [RCh_s, RKp_s, RMs_s, RMi_s, RW_s, RRd_s, bI_t, bI_f, oI_none, oI_some, SIM_m40, SIM_m45, SIM_m46])]
  exact congrArg some (rdP_P h a R (RRd.mk R.text R.len R.pos R.tok R.told v R.err))
theorem rdG_err (h : gH) (a : Nat) (R : RRd) : g_gI (rdP h a R) a 5 6 = some (R.err) := gI_of (rd0 h a R) rfl
theorem rdT_err (h : gH) (a : Nat) (R : RRd) (v : Int32) : g_put (rdP h a R) a 5 6 (.int (v)) = some (rdP h a (RRd.mk R.text R.len R.pos R.tok R.told R.code v)) := by
  rw [put_of (rd0 h a R) (by simp [RCh_s, RKp_s, RMs_s, RMi_s, RW_s, RRd_s, bI_t, bI_f, oI_none, oI_some, SIM_m40, SIM_m45, SIM_m46])]
  exact congrArg some (rdP_P h a R (RRd.mk R.text R.len R.pos R.tok R.told R.code v))
/-- the text T of 500 bytes lies at R.text, and the reader is well -/
def RRd.ok (R : RRd) (h : gH) (a : Nat) (T : Nat → Int32) : Prop := (h.2 R.text = some (.inl (1, 500, .inl T))) ∧ (R.text ≠ a) ∧ (R.len ≤ 500) ∧ (R.pos ≤ R.len) ∧ (R.tok ≤ R.len)
theorem RRd.ok.at' {R : RRd} {h : gH} {a : Nat} {T : Nat → Int32} (H : RRd.ok R h a T) : h.2 R.text = some (.inl (1, 500, .inl T)) := H.1
theorem RRd.ok.ne {R : RRd} {h : gH} {a : Nat} {T : Nat → Int32} (H : RRd.ok R h a T) : R.text ≠ a := H.2.1
theorem RRd.ok.len {R : RRd} {h : gH} {a : Nat} {T : Nat → Int32} (H : RRd.ok R h a T) : R.len ≤ 500 := H.2.2.1
theorem RRd.ok.pos {R : RRd} {h : gH} {a : Nat} {T : Nat → Int32} (H : RRd.ok R h a T) : R.pos ≤ R.len := H.2.2.2.1
theorem RRd.ok.tok {R : RRd} {h : gH} {a : Nat} {T : Nat → Int32} (H : RRd.ok R h a T) : R.tok ≤ R.len := H.2.2.2.2
/-- on while p holds -/
theorem SIM_m54_3 : (∀ (h : gH) (a : Nat) (R : RRd), g_is (rdP h a R) a 5 = true) ∧ (∀ (h : gH) (a : Nat) (R : RRd), g_gA (rdP h a R) a 5 0 = some R.text) ∧ (∀ (h : gH) (a : Nat) (R R' : RRd), g_set (rdP h a R) a (rdO R') = rdP h a R') ∧ (∀ (h : gH) (a : Nat) (R : RRd), g_gI (rdP h a R) a 5 1 = some (nI R.len)) ∧ (∀ (h : gH) (a : Nat) (R : RRd) (v : Nat), g_put (rdP h a R) a 5 1 (.int (nI v)) = some (rdP h a (RRd.mk R.text v R.pos R.tok R.told R.code R.err))) ∧ (∀ (h : gH) (a : Nat) (R : RRd), g_gI (rdP h a R) a 5 2 = some (nI R.pos)) ∧ (∀ (h : gH) (a : Nat) (R : RRd) (v : Nat), g_put (rdP h a R) a 5 2 (.int (nI v)) = some (rdP h a (RRd.mk R.text R.len v R.tok R.told R.code R.err))) ∧ (∀ (h : gH) (a : Nat) (R : RRd), g_gI (rdP h a R) a 5 3 = some (nI R.tok)) ∧ (∀ (h : gH) (a : Nat) (R : RRd) (v : Nat), g_put (rdP h a R) a 5 3 (.int (nI v)) = some (rdP h a (RRd.mk R.text R.len R.pos v R.told R.code R.err))) ∧ (∀ (h : gH) (a : Nat) (R : RRd), g_gI (rdP h a R) a 5 4 = some (R.told)) ∧ (∀ (h : gH) (a : Nat) (R : RRd) (v : Int32), g_put (rdP h a R) a 5 4 (.int (v)) = some (rdP h a (RRd.mk R.text R.len R.pos R.tok v R.code R.err))) ∧ (∀ (h : gH) (a : Nat) (R : RRd), g_gI (rdP h a R) a 5 5 = some (R.code)) ∧ (∀ (h : gH) (a : Nat) (R : RRd) (v : Int32), g_put (rdP h a R) a 5 5 (.int (v)) = some (rdP h a (RRd.mk R.text R.len R.pos R.tok R.told v R.err))) ∧ (∀ (h : gH) (a : Nat) (R : RRd), g_gI (rdP h a R) a 5 6 = some (R.err)) ∧ (∀ (h : gH) (a : Nat) (R : RRd) (v : Int32), g_put (rdP h a R) a 5 6 (.int (v)) = some (rdP h a (RRd.mk R.text R.len R.pos R.tok R.told R.code v))) := ⟨rdP_g, rdG_text, rdP_P, rdG_len, rdT_len, rdG_pos, rdT_pos, rdG_tok, rdT_tok, rdG_told, rdT_told, rdG_code, rdT_code, rdG_err, rdT_err⟩
def run (p : Nat → Prop) [DecidablePred p] : Nat → Nat → Nat
  | 0, i => i
  | d + 1, i => if p i then run p d (i + 1) else i
theorem run_le (p : Nat → Prop) [DecidablePred p] : ∀ d i, i ≤ run p d i ∧ run p d i ≤ i + d
  | 0, i => ⟨Nat.le_refl _, Nat.le_refl _⟩
  | d + 1, i => by
    rw [run]
    split
    · have := run_le p d (i + 1)
      omega
    · omega
theorem byteAt_rd {h : gH} {a : Nat} {R : RRd} {T : Nat → Int32} (hR : R.ok h a T) {i : Nat} (hi : i < R.len) : f_X5_byteAt (rdP h a R) a (nI i) = some (T i) := by
  have h5 := hR.len
  have e : (rdP h a R).2 R.text = some (.inl (1, 500, .inl T)) := by rw [rdP_ne hR.ne]; exact hR.at'
  simp only [RCh_s, RKp_s, RMs_s, RMi_s, RW_s, RRd_s, f_X5_byteAt, if_pos (nI_pos' (show i < 2 ^ 31 by omega)), rdG_len, Option.bind_some, if_pos (nI_lt hi (by omega)), rdG_text, aln_of e, if_pos (nI_lt (show i < 500 by omega) (by decide)), bld_of e (show i < 500 by omega) (by decide)]
theorem byteAt_no {h : gH} {a : Nat} {R : RRd} {T : Nat → Int32} (hR : R.ok h a T) {i : Nat} (hi : R.len ≤ i) (h31 : i < 2 ^ 31) : f_X5_byteAt (rdP h a R) a (nI i) = some (-1) := by
  simp only [RCh_s, RKp_s, RMs_s, RMi_s, RW_s, RRd_s, f_X5_byteAt, if_pos (nI_pos' h31), rdG_len, Option.bind_some, if_neg (nI_nlt hi h31)]
theorem within_eq (x y z : Int32) : f_X7_isWithin x y z = bI (decide (y ≤ x ∧ x ≤ z)) := by
  unfold f_X7_isWithin
  by_cases c1 : y ≤ x <;> by_cases c2 : x ≤ z <;> simp [RCh_s, RKp_s, RMs_s, RMi_s, RW_s, RRd_s, bI_t, bI_f, oI_none, oI_some, SIM_m40, SIM_m45, SIM_m46, SIM_m54_3, c1, c2]
theorem bI_0 (b : Bool) : (bI b = 0) = (b = false) := by cases b <;> simp [RCh_s, RKp_s, RMs_s, RMi_s, RW_s, RRd_s, bI_t, bI_f, oI_none, oI_some, SIM_m40, SIM_m45, SIM_m46, SIM_m54_3]
def RRd.found (R : RRd) (T : Nat → Int32) : RRd := let k := run (fun i => T i = 32) (R.len - R.pos) R.pos; (RRd.mk R.text R.len k k R.told R.code R.err)
theorem found_l {h : gH} {a : Nat} {T : Nat → Int32} : ∀ (d fuel : Nat) (R : RRd), R.ok h a T → R.pos + d = R.len → d < fuel → f_X5_findToken_b0 fuel (rdP h a R) a = some (bI (decide (run (fun i => T i = 32) d R.pos < R.len)), rdP h a (RRd.mk R.text R.len (run (fun i => T i = 32) d R.pos) (run (fun i => T i = 32) d R.pos) R.told R.code R.err)) := by
  intro d
  induction d with
  | zero =>
    intro fuel R hR hd hf
    have h5 := hR.len
    obtain ⟨fu, rfl⟩ := Nat.exists_eq_succ_of_ne_zero (Nat.ne_of_gt hf)
    have c : ¬ nI R.pos < nI R.len := nI_nlt (by omega) (by omega)
    simp [RCh_s, RKp_s, RMs_s, RMi_s, RW_s, RRd_s, bI_t, bI_f, oI_none, oI_some, SIM_m40, SIM_m45, SIM_m46, SIM_m54_3, f_X5_findToken_b0, f_X5_findToken_b37, run, c, show ¬ R.pos < R.len by omega]
  | succ d ih =>
    intro fuel R hR hd hf
    have h5 := hR.len
    obtain ⟨fu, rfl⟩ := Nat.exists_eq_succ_of_ne_zero (Nat.ne_of_gt (Nat.zero_lt_of_lt hf))
    have c : nI R.pos < nI R.len := nI_lt (by omega) (by omega)
    simp only [RCh_s, RKp_s, RMs_s, RMi_s, RW_s, RRd_s, f_X5_findToken_b0, f_X5_findToken_b37, rdG_pos, rdG_len, Option.bind_some, c, if_true, rdP_g, cond_true, byteAt_rd hR (show R.pos < R.len by omega), ← nI_succ, rdT_pos, run, rdT_tok]
    by_cases c2 : T R.pos = 32
    · simp only [RCh_s, RKp_s, RMs_s, RMi_s, RW_s, RRd_s, c2, if_true]
      exact ih fu (RRd.mk R.text R.len (R.pos + 1) R.tok R.told R.code R.err) ⟨hR.at', hR.ne, hR.len, by show R.pos + 1 ≤ R.len; omega, hR.tok⟩ (by show R.pos + 1 + d = R.len; omega) (by omega)
    · simp [RCh_s, RKp_s, RMs_s, RMi_s, RW_s, RRd_s, bI_t, bI_f, oI_none, oI_some, SIM_m40, SIM_m45, SIM_m46, SIM_m54_3, c2, c, show R.pos < R.len by omega]
theorem found_rd {h : gH} {a : Nat} {R : RRd} {T : Nat → Int32} (hR : R.ok h a T) : f_X5_findToken (rdP h a R) a = some (bI (decide ((R.found T).pos < R.len)), rdP h a (R.found T)) := by
  have h5 := hR.len
  have h6 := hR.pos
  exact found_l (R.len - R.pos) g_N R hR (by omega) (by unfold g_N; omega)
theorem found_ok {h : gH} {a : Nat} {R : RRd} {T : Nat → Int32} (hR : R.ok h a T) : (R.found T).ok h a T ∧ (R.found T).tok = (R.found T).pos ∧ R.pos ≤ (R.found T).pos := by
  have h6 := hR.pos
  have q := run_le (fun i => T i = 32) (R.len - R.pos) R.pos
  have q1 : (R.found T).pos ≤ R.len := by show run _ _ _ ≤ _; omega
  exact ⟨⟨hR.at', hR.ne, hR.len, q1, q1⟩, rfl, q.1⟩
def isLtr (T : Nat → Int32) (i : Nat) : Prop := 97 ≤ T i ∧ T i ≤ 122
def isDig (T : Nat → Int32) (i : Nat) : Prop := 48 ≤ T i ∧ T i ≤ 57
theorem word_l {h : gH} {a : Nat} {T : Nat → Int32} : ∀ (d fuel : Nat) (R : RRd), R.ok h a T → R.pos + d = R.len → d < fuel → f_X5_readWord_b5 fuel (rdP h a R) a = some (rdP h a (RRd.mk R.text R.len (run (fun i => 97 ≤ T i ∧ T i ≤ 122) d R.pos) R.tok R.told R.code R.err)) := by
  intro d
  induction d with
  | zero =>
    intro fuel R hR hd hf
    have h5 := hR.len
    obtain ⟨fu, rfl⟩ := Nat.exists_eq_succ_of_ne_zero (Nat.ne_of_gt hf)
    have c : ¬ nI R.pos < nI R.len := nI_nlt (by omega) (by omega)
    simp [RCh_s, RKp_s, RMs_s, RMi_s, RW_s, RRd_s, bI_t, bI_f, oI_none, oI_some, SIM_m40, SIM_m45, SIM_m46, SIM_m54_3, f_X5_readWord_b5, run, c]
  | succ d ih =>
    intro fuel R hR hd hf
    have h5 := hR.len
    obtain ⟨fu, rfl⟩ := Nat.exists_eq_succ_of_ne_zero (Nat.ne_of_gt (Nat.zero_lt_of_lt hf))
    have c : nI R.pos < nI R.len := nI_lt (by omega) (by omega)
    simp only [RCh_s, RKp_s, RMs_s, RMi_s, RW_s, RRd_s, f_X5_readWord_b5, rdG_pos, rdG_len, Option.bind_some, c, if_true, rdP_g, cond_true, byteAt_rd hR (show R.pos < R.len by omega), ← nI_succ, rdT_pos, run, within_eq, bI_0]
    by_cases c2 : 97 ≤ T R.pos ∧ T R.pos ≤ 122
    · rw [if_neg (by simp [RCh_s, RKp_s, RMs_s, RMi_s, RW_s, RRd_s, bI_t, bI_f, oI_none, oI_some, SIM_m40, SIM_m45, SIM_m46, SIM_m54_3, c2]), if_pos c2]
      exact ih fu (RRd.mk R.text R.len (R.pos + 1) R.tok R.told R.code R.err) ⟨hR.at', hR.ne, hR.len, by show R.pos + 1 ≤ R.len; omega, hR.tok⟩ (by show R.pos + 1 + d = R.len; omega) (by omega)
    · rw [if_pos (by simpa using c2), if_neg c2]
      rfl
def RRd.word (R : RRd) (T : Nat → Int32) : RRd := ((R.found T).s_pos (run (fun i => 97 ≤ T i ∧ T i ≤ 122) (R.len - (R.found T).pos) (R.found T).pos))
theorem word_rd {h : gH} {a : Nat} {R : RRd} {T : Nat → Int32} (hR : R.ok h a T) : f_X5_readWord (rdP h a R) a = some (rdP h a (R.word T)) := by
  have q := (found_ok hR).1
  have h5 := q.len
  have h6 := q.pos
  simp only [RCh_s, RKp_s, RMs_s, RMi_s, RW_s, RRd_s, f_X5_readWord, rdP_g, cond_true, found_rd hR, Option.bind_some]
  exact word_l (R.len - (R.found T).pos) g_N (R.found T) q (by show _ = (R.found T).len; have : (R.found T).len = R.len := rfl; omega) (by have : (R.found T).len = R.len := rfl; unfold g_N; omega)
theorem word_ok {h : gH} {a : Nat} {R : RRd} {T : Nat → Int32} (hR : R.ok h a T) : (R.word T).ok h a T ∧ (R.word T).tok ≤ (R.word T).pos := by
  have q := (found_ok hR).1
  have h6 : (R.found T).pos ≤ R.len := q.pos
  have r := run_le (fun i => 97 ≤ T i ∧ T i ≤ 122) (R.len - (R.found T).pos) (R.found T).pos
  have q1 : (R.word T).pos ≤ R.len := by show run _ _ _ ≤ _; omega
  exact ⟨⟨hR.at', hR.ne, hR.len, q1, q.tok⟩, r.1⟩
def RRd.fail (R : RRd) (c : Int32) : RRd := (RRd.mk R.text R.len R.pos R.tok R.told c (nI R.tok))
theorem fail_rd {h : gH} {a : Nat} {R : RRd} (c : Int32) : f_X5_isError (rdP h a R) a c = some (0, rdP h a (R.fail c)) := by
  simp only [RCh_s, RKp_s, RMs_s, RMi_s, RW_s, RRd_s, f_X5_isError, rdT_code, rdG_tok, rdT_err, Option.bind_some]
  rfl
/-- digits are read: where, and the number -/
def dig (T : Nat → Int32) : Nat → Nat → Int32 → Nat × Int32
  | 0, i, x => (i, x)
  | d + 1, i, x => if 48 ≤ T i ∧ T i ≤ 57 then dig T d (i + 1) (g_min (10 * x + T i - 48) 1000000) else (i, x)
def RRd.numEnd (R : RRd) (lo hi x : Int32) : Int32 × RRd := if R.pos = R.tok then (-1, R.fail (-2)) else if lo ≤ x ∧ x ≤ hi then (x, R) else (-1, R.fail (-3))
theorem numEnd_rd {h : gH} {a : Nat} {R : RRd} (h1 : R.pos < 2 ^ 31) (h2 : R.tok < 2 ^ 31) (lo hi x : Int32) : f_X5_readNumber_b71 (rdP h a R) a lo hi x = some ((R.numEnd lo hi x).1, rdP h a (R.numEnd lo hi x).2) := by
  simp only [RCh_s, RKp_s, RMs_s, RMi_s, RW_s, RRd_s, f_X5_readNumber_b71, rdG_pos, rdG_tok, Option.bind_some, nI_eq h1 h2, rdP_g, cond_true, fail_rd, within_eq, bI_0, RRd.numEnd]
  by_cases c : R.pos = R.tok
  · simp [RCh_s, RKp_s, RMs_s, RMi_s, RW_s, RRd_s, bI_t, bI_f, oI_none, oI_some, SIM_m40, SIM_m45, SIM_m46, SIM_m54_3, c]
  · by_cases c2 : lo ≤ x ∧ x ≤ hi
    · simp [RCh_s, RKp_s, RMs_s, RMi_s, RW_s, RRd_s, bI_t, bI_f, oI_none, oI_some, SIM_m40, SIM_m45, SIM_m46, SIM_m54_3, c, c2]
    · rw [if_neg c, if_neg c, if_pos (by simpa using c2), if_neg c2]
theorem num_l {h : gH} {a : Nat} {T : Nat → Int32} (lo hi : Int32) : ∀ (d fuel : Nat) (R : RRd) (x : Int32), R.ok h a T → R.pos + d = R.len → d < fuel → f_X5_readNumber_b7 fuel (rdP h a R) a lo hi x = some (let y := dig T d R.pos x; ((((RRd.mk R.text R.len y.1 R.tok R.told R.code R.err) : RRd).numEnd lo hi y.2).1, rdP h a (((RRd.mk R.text R.len y.1 R.tok R.told R.code R.err) : RRd).numEnd lo hi y.2).2)) := by
  intro d
  induction d with
  | zero =>
    intro fuel R x hR hd hf
    have h5 := hR.len
    have h6 := hR.tok
    obtain ⟨fu, rfl⟩ := Nat.exists_eq_succ_of_ne_zero (Nat.ne_of_gt hf)
    have c : ¬ nI R.pos < nI R.len := nI_nlt (by omega) (by omega)
    simp only [RCh_s, RKp_s, RMs_s, RMi_s, RW_s, RRd_s, f_X5_readNumber_b7, rdG_pos, rdG_len, Option.bind_some, c, if_false, dig, numEnd_rd (show R.pos < 2 ^ 31 by omega) (show R.tok < 2 ^ 31 by omega)]
  | succ d ih =>
    intro fuel R x hR hd hf
    have h5 := hR.len
    have h6 := hR.tok
    obtain ⟨fu, rfl⟩ := Nat.exists_eq_succ_of_ne_zero (Nat.ne_of_gt (Nat.zero_lt_of_lt hf))
    have c : nI R.pos < nI R.len := nI_lt (by omega) (by omega)
    simp only [RCh_s, RKp_s, RMs_s, RMi_s, RW_s, RRd_s, f_X5_readNumber_b7, rdG_pos, rdG_len, Option.bind_some, c, if_true, rdP_g, cond_true, byteAt_rd hR (show R.pos < R.len by omega), ← nI_succ, rdT_pos, within_eq, bI_0, dig]
    by_cases c2 : 48 ≤ T R.pos ∧ T R.pos ≤ 57
    · rw [if_neg (by simp [RCh_s, RKp_s, RMs_s, RMi_s, RW_s, RRd_s, bI_t, bI_f, oI_none, oI_some, SIM_m40, SIM_m45, SIM_m46, SIM_m54_3, c2]), if_pos c2]
      exact ih fu (RRd.mk R.text R.len (R.pos + 1) R.tok R.told R.code R.err) _ ⟨hR.at', hR.ne, hR.len, by show R.pos + 1 ≤ R.len; omega, hR.tok⟩ (by show R.pos + 1 + d = R.len; omega) (by omega)
    · rw [if_pos (by simpa using c2), if_neg c2, numEnd_rd (show R.pos < 2 ^ 31 by omega) (show R.tok < 2 ^ 31 by omega)]
      rfl
def RRd.num (R : RRd) (T : Nat → Int32) (lo hi : Int32) : Int32 × RRd := let y := dig T (R.len - (R.found T).pos) (R.found T).pos 0; (((R.found T).s_pos y.1) : RRd).numEnd lo hi y.2
theorem num_rd {h : gH} {a : Nat} {R : RRd} {T : Nat → Int32} (hR : R.ok h a T) (lo hi : Int32) : f_X5_readNumber (rdP h a R) a lo hi = some ((R.num T lo hi).1, rdP h a (R.num T lo hi).2) := by
  have q := (found_ok hR).1
  have h5 := q.len
  have h6 := q.pos
  have e : (R.found T).len = R.len := rfl
  simp only [RCh_s, RKp_s, RMs_s, RMi_s, RW_s, RRd_s, f_X5_readNumber, rdP_g, cond_true, found_rd hR, Option.bind_some]
  exact num_l lo hi (R.len - (R.found T).pos) g_N (R.found T) 0 q (by omega) (by unfold g_N; omega)

