/-! the class's objects as records -/
def bI (b : Bool) : Int32 := if b then 1 else 0
theorem bI_t : bI true = 1 := rfl
theorem bI_f : bI false = 0 := rfl
theorem g_z_bI (b : Bool) : g_z (bI b) = some (bI b) := by cases b <;> rfl
def rowSet (n : Nat) (f : Nat → Int32) (i v : Int32) : Nat → Int32 := if i < 0 ∨ n ≤ i.toNatClampNeg then f else upd f i.toNatClampNeg v
theorem rowSet_in {n i : Nat} {f : Nat → Int32} {v : Int32} (hi : i < n) (hn : n < 2 ^ 31) : rowSet n f (nI i) v = upd f i v := by
  unfold rowSet
  rw [if_neg (nI_in hi hn), nI_clamp (by omega)]
theorem setAt_gen {h : gH} {a n : Nat} {f : Nat → Int32} (e : h.2 a = some (.inl (0, n, .inl f))) (hn : n < 2 ^ 31) (i v : Int32) : f_X7_setAt h a i v = some (if i < 0 ∨ n ≤ i.toNatClampNeg then h else g_set h a (.inl (0, n, .inl (upd f i.toNatClampNeg v)))) := by
  by_cases h0 : i < 0
  · unfold f_X7_setAt
    rw [if_neg (Int32.not_le.mpr h0), if_pos (Or.inl h0)]
  · obtain ⟨j, hj, rfl⟩ := nI_of h0
    by_cases h1 : j < n
    · rw [setAt_of e h1 hn, if_neg (nI_in h1 hn), nI_clamp hj]
    · unfold f_X7_setAt
      rw [if_pos (le_of_nlt h0), aln_of e]
      simp only [Option.bind_some]
      rw [if_neg (nI_nlt (Nat.not_lt.mp h1) hj), if_pos (Or.inr (by rw [nI_clamp hj]; omega))]
def arrC (n : Nat) (f : Nat → Int32) : gC := .inl (0, n, .inl f)
def RCh : Type := Int32 × Int32 × Int32 × Int32 × Int32 × Int32 × Nat × (Nat → Int32) × Bool × Bool
def RCh.mk (power : Int32) (opening : Int32) (closing : Int32) (frame : Int32) (step : Int32) (number : Int32) (n : Nat) (heard : Nat → Int32) (lost : Bool) (good : Bool) : RCh := (power, opening, closing, frame, step, number, n, heard, lost, good)
def RCh.power (R : RCh) : Int32 := R.1
def RCh.opening (R : RCh) : Int32 := R.2.1
def RCh.closing (R : RCh) : Int32 := R.2.2.1
def RCh.frame (R : RCh) : Int32 := R.2.2.2.1
def RCh.step (R : RCh) : Int32 := R.2.2.2.2.1
def RCh.number (R : RCh) : Int32 := R.2.2.2.2.2.1
def RCh.n (R : RCh) : Nat := R.2.2.2.2.2.2.1
def RCh.heard (R : RCh) : Nat → Int32 := R.2.2.2.2.2.2.2.1
def RCh.lost (R : RCh) : Bool := R.2.2.2.2.2.2.2.2.1
def RCh.good (R : RCh) : Bool := R.2.2.2.2.2.2.2.2.2
def RCh.s_power (R : RCh) (v : Int32) : RCh := RCh.mk v R.opening R.closing R.frame R.step R.number R.n R.heard R.lost R.good
theorem RCh_u_power (R : RCh) (v : Int32) : R.s_power v = RCh.mk v R.opening R.closing R.frame R.step R.number R.n R.heard R.lost R.good := rfl
def RCh.s_opening (R : RCh) (v : Int32) : RCh := RCh.mk R.power v R.closing R.frame R.step R.number R.n R.heard R.lost R.good
theorem RCh_u_opening (R : RCh) (v : Int32) : R.s_opening v = RCh.mk R.power v R.closing R.frame R.step R.number R.n R.heard R.lost R.good := rfl
def RCh.s_closing (R : RCh) (v : Int32) : RCh := RCh.mk R.power R.opening v R.frame R.step R.number R.n R.heard R.lost R.good
theorem RCh_u_closing (R : RCh) (v : Int32) : R.s_closing v = RCh.mk R.power R.opening v R.frame R.step R.number R.n R.heard R.lost R.good := rfl
def RCh.s_frame (R : RCh) (v : Int32) : RCh := RCh.mk R.power R.opening R.closing v R.step R.number R.n R.heard R.lost R.good
theorem RCh_u_frame (R : RCh) (v : Int32) : R.s_frame v = RCh.mk R.power R.opening R.closing v R.step R.number R.n R.heard R.lost R.good := rfl
def RCh.s_step (R : RCh) (v : Int32) : RCh := RCh.mk R.power R.opening R.closing R.frame v R.number R.n R.heard R.lost R.good
theorem RCh_u_step (R : RCh) (v : Int32) : R.s_step v = RCh.mk R.power R.opening R.closing R.frame v R.number R.n R.heard R.lost R.good := rfl
def RCh.s_number (R : RCh) (v : Int32) : RCh := RCh.mk R.power R.opening R.closing R.frame R.step v R.n R.heard R.lost R.good
theorem RCh_u_number (R : RCh) (v : Int32) : R.s_number v = RCh.mk R.power R.opening R.closing R.frame R.step v R.n R.heard R.lost R.good := rfl
def RCh.s_n (R : RCh) (v : Nat) : RCh := RCh.mk R.power R.opening R.closing R.frame R.step R.number v R.heard R.lost R.good
theorem RCh_u_n (R : RCh) (v : Nat) : R.s_n v = RCh.mk R.power R.opening R.closing R.frame R.step R.number v R.heard R.lost R.good := rfl
def RCh.s_heard (R : RCh) (v : Nat → Int32) : RCh := RCh.mk R.power R.opening R.closing R.frame R.step R.number R.n v R.lost R.good
theorem RCh_u_heard (R : RCh) (v : Nat → Int32) : R.s_heard v = RCh.mk R.power R.opening R.closing R.frame R.step R.number R.n v R.lost R.good := rfl
def RCh.s_lost (R : RCh) (v : Bool) : RCh := RCh.mk R.power R.opening R.closing R.frame R.step R.number R.n R.heard v R.good
theorem RCh_u_lost (R : RCh) (v : Bool) : R.s_lost v = RCh.mk R.power R.opening R.closing R.frame R.step R.number R.n R.heard v R.good := rfl
def RCh.s_good (R : RCh) (v : Bool) : RCh := RCh.mk R.power R.opening R.closing R.frame R.step R.number R.n R.heard R.lost v
theorem RCh_u_good (R : RCh) (v : Bool) : R.s_good v = RCh.mk R.power R.opening R.closing R.frame R.step R.number R.n R.heard R.lost v := rfl
theorem RCh_power (power : Int32) (opening : Int32) (closing : Int32) (frame : Int32) (step : Int32) (number : Int32) (n : Nat) (heard : Nat → Int32) (lost : Bool) (good : Bool) : (RCh.mk power opening closing frame step number n heard lost good).power = power := rfl
theorem RCh_opening (power : Int32) (opening : Int32) (closing : Int32) (frame : Int32) (step : Int32) (number : Int32) (n : Nat) (heard : Nat → Int32) (lost : Bool) (good : Bool) : (RCh.mk power opening closing frame step number n heard lost good).opening = opening := rfl
theorem RCh_closing (power : Int32) (opening : Int32) (closing : Int32) (frame : Int32) (step : Int32) (number : Int32) (n : Nat) (heard : Nat → Int32) (lost : Bool) (good : Bool) : (RCh.mk power opening closing frame step number n heard lost good).closing = closing := rfl
theorem RCh_frame (power : Int32) (opening : Int32) (closing : Int32) (frame : Int32) (step : Int32) (number : Int32) (n : Nat) (heard : Nat → Int32) (lost : Bool) (good : Bool) : (RCh.mk power opening closing frame step number n heard lost good).frame = frame := rfl
theorem RCh_step (power : Int32) (opening : Int32) (closing : Int32) (frame : Int32) (step : Int32) (number : Int32) (n : Nat) (heard : Nat → Int32) (lost : Bool) (good : Bool) : (RCh.mk power opening closing frame step number n heard lost good).step = step := rfl
theorem RCh_number (power : Int32) (opening : Int32) (closing : Int32) (frame : Int32) (step : Int32) (number : Int32) (n : Nat) (heard : Nat → Int32) (lost : Bool) (good : Bool) : (RCh.mk power opening closing frame step number n heard lost good).number = number := rfl
theorem RCh_n (power : Int32) (opening : Int32) (closing : Int32) (frame : Int32) (step : Int32) (number : Int32) (n : Nat) (heard : Nat → Int32) (lost : Bool) (good : Bool) : (RCh.mk power opening closing frame step number n heard lost good).n = n := rfl
theorem RCh_heard (power : Int32) (opening : Int32) (closing : Int32) (frame : Int32) (step : Int32) (number : Int32) (n : Nat) (heard : Nat → Int32) (lost : Bool) (good : Bool) : (RCh.mk power opening closing frame step number n heard lost good).heard = heard := rfl
theorem RCh_lost (power : Int32) (opening : Int32) (closing : Int32) (frame : Int32) (step : Int32) (number : Int32) (n : Nat) (heard : Nat → Int32) (lost : Bool) (good : Bool) : (RCh.mk power opening closing frame step number n heard lost good).lost = lost := rfl
theorem RCh_good (power : Int32) (opening : Int32) (closing : Int32) (frame : Int32) (step : Int32) (number : Int32) (n : Nat) (heard : Nat → Int32) (lost : Bool) (good : Bool) : (RCh.mk power opening closing frame step number n heard lost good).good = good := rfl
theorem RCh_eta (R : RCh) : RCh.mk R.power R.opening R.closing R.frame R.step R.number R.n R.heard R.lost R.good = R := rfl
theorem RCh_s : (∀ (power : Int32) (opening : Int32) (closing : Int32) (frame : Int32) (step : Int32) (number : Int32) (n : Nat) (heard : Nat → Int32) (lost : Bool) (good : Bool), (RCh.mk power opening closing frame step number n heard lost good).power = power) ∧ (∀ (power : Int32) (opening : Int32) (closing : Int32) (frame : Int32) (step : Int32) (number : Int32) (n : Nat) (heard : Nat → Int32) (lost : Bool) (good : Bool), (RCh.mk power opening closing frame step number n heard lost good).opening = opening) ∧ (∀ (power : Int32) (opening : Int32) (closing : Int32) (frame : Int32) (step : Int32) (number : Int32) (n : Nat) (heard : Nat → Int32) (lost : Bool) (good : Bool), (RCh.mk power opening closing frame step number n heard lost good).closing = closing) ∧ (∀ (power : Int32) (opening : Int32) (closing : Int32) (frame : Int32) (step : Int32) (number : Int32) (n : Nat) (heard : Nat → Int32) (lost : Bool) (good : Bool), (RCh.mk power opening closing frame step number n heard lost good).frame = frame) ∧ (∀ (power : Int32) (opening : Int32) (closing : Int32) (frame : Int32) (step : Int32) (number : Int32) (n : Nat) (heard : Nat → Int32) (lost : Bool) (good : Bool), (RCh.mk power opening closing frame step number n heard lost good).step = step) ∧ (∀ (power : Int32) (opening : Int32) (closing : Int32) (frame : Int32) (step : Int32) (number : Int32) (n : Nat) (heard : Nat → Int32) (lost : Bool) (good : Bool), (RCh.mk power opening closing frame step number n heard lost good).number = number) ∧ (∀ (power : Int32) (opening : Int32) (closing : Int32) (frame : Int32) (step : Int32) (number : Int32) (n : Nat) (heard : Nat → Int32) (lost : Bool) (good : Bool), (RCh.mk power opening closing frame step number n heard lost good).n = n) ∧ (∀ (power : Int32) (opening : Int32) (closing : Int32) (frame : Int32) (step : Int32) (number : Int32) (n : Nat) (heard : Nat → Int32) (lost : Bool) (good : Bool), (RCh.mk power opening closing frame step number n heard lost good).heard = heard) ∧ (∀ (power : Int32) (opening : Int32) (closing : Int32) (frame : Int32) (step : Int32) (number : Int32) (n : Nat) (heard : Nat → Int32) (lost : Bool) (good : Bool), (RCh.mk power opening closing frame step number n heard lost good).lost = lost) ∧ (∀ (power : Int32) (opening : Int32) (closing : Int32) (frame : Int32) (step : Int32) (number : Int32) (n : Nat) (heard : Nat → Int32) (lost : Bool) (good : Bool), (RCh.mk power opening closing frame step number n heard lost good).good = good) ∧ (∀ (R : RCh) (v : Int32), R.s_power v = RCh.mk v R.opening R.closing R.frame R.step R.number R.n R.heard R.lost R.good) ∧ (∀ (R : RCh) (v : Int32), R.s_opening v = RCh.mk R.power v R.closing R.frame R.step R.number R.n R.heard R.lost R.good) ∧ (∀ (R : RCh) (v : Int32), R.s_closing v = RCh.mk R.power R.opening v R.frame R.step R.number R.n R.heard R.lost R.good) ∧ (∀ (R : RCh) (v : Int32), R.s_frame v = RCh.mk R.power R.opening R.closing v R.step R.number R.n R.heard R.lost R.good) ∧ (∀ (R : RCh) (v : Int32), R.s_step v = RCh.mk R.power R.opening R.closing R.frame v R.number R.n R.heard R.lost R.good) ∧ (∀ (R : RCh) (v : Int32), R.s_number v = RCh.mk R.power R.opening R.closing R.frame R.step v R.n R.heard R.lost R.good) ∧ (∀ (R : RCh) (v : Nat), R.s_n v = RCh.mk R.power R.opening R.closing R.frame R.step R.number v R.heard R.lost R.good) ∧ (∀ (R : RCh) (v : Nat → Int32), R.s_heard v = RCh.mk R.power R.opening R.closing R.frame R.step R.number R.n v R.lost R.good) ∧ (∀ (R : RCh) (v : Bool), R.s_lost v = RCh.mk R.power R.opening R.closing R.frame R.step R.number R.n R.heard v R.good) ∧ (∀ (R : RCh) (v : Bool), R.s_good v = RCh.mk R.power R.opening R.closing R.frame R.step R.number R.n R.heard R.lost v) ∧ (∀ R : RCh, RCh.mk R.power R.opening R.closing R.frame R.step R.number R.n R.heard R.lost R.good = R) := ⟨RCh_power, RCh_opening, RCh_closing, RCh_frame, RCh_step, RCh_number, RCh_n, RCh_heard, RCh_lost, RCh_good, RCh_u_power, RCh_u_opening, RCh_u_closing, RCh_u_frame, RCh_u_step, RCh_u_number, RCh_u_n, RCh_u_heard, RCh_u_lost, RCh_u_good, RCh_eta⟩
def chO (a : Nat) (R : RCh) : gC := .inr (0, [.int R.power, .int R.opening, .int R.closing, .int R.frame, .int R.step, .int R.number, .int (nI R.n), .ref (a + 1), .int (bI R.lost), .int (bI R.good)])
def chC (a : Nat) (R : RCh) : Nat → Option gC
  | 0 => some (chO a R)
  | 1 => some (arrC 8 R.heard)
  | _ => none
def chIs (h : gH) (a : Nat) (R : RCh) : Prop := h.2 a = some (chO a R) ∧ h.2 (a + 1) = some (arrC 8 R.heard)
def chP (h : gH) (a : Nat) (R : RCh) : gH := (h.1, fun q => if q = a then some (chO a R) else if q = a + 1 then some (arrC 8 R.heard) else h.2 q)
theorem chP_is (h : gH) (a : Nat) (R : RCh) : chIs (chP h a R) a R := by simp [RCh_s, bI_t, bI_f, chIs, chP]
theorem chP_self {h : gH} {a : Nat} {R : RCh} (H : chIs h a R) : chP h a R = h := by
  obtain ⟨e0, e1⟩ := H
  refine Prod.ext rfl (funext fun q => ?_)
  simp only [RCh_s, chP]
  repeat (split; · rename_i e; subst e; simp [RCh_s, bI_t, bI_f, *])
  rfl
theorem chP_P (h : gH) (a : Nat) (R R' : RCh) : chP (chP h a R) a R' = chP h a R' := by
  refine Prod.ext rfl (funext fun q => ?_)
  simp only [RCh_s, chP]
  repeat (split; · rfl)
  rfl
theorem chP_g (h : gH) (a : Nat) (R : RCh) : g_is (chP h a R) a 0 = true := by simp [RCh_s, bI_t, bI_f, g_is, chP, chO]
theorem chG_power (h : gH) (a : Nat) (R : RCh) : g_gI (chP h a R) a 0 0 = some (R.power) := by simp [RCh_s, bI_t, bI_f, g_gI, g_fd, chP, chO]
theorem chT_power (h : gH) (a : Nat) (R : RCh) (v : Int32) : g_put (chP h a R) a 0 0 (.int (v)) = some (chP h a (R.s_power v)) := by
  have e : (chP h a R).2 a = some (chO a R) := by simp [RCh_s, bI_t, bI_f, chP]
  unfold chO at e
  rw [put_of e (by simp [RCh_s, bI_t, bI_f])]
  refine congrArg some (Prod.ext rfl (funext fun q => ?_))
  simp only [RCh_s, g_set, chP]
  by_cases e : q = a
  · subst e; simp [RCh_s, bI_t, bI_f, chO]
  · simp [RCh_s, bI_t, bI_f, e]
theorem chG_opening (h : gH) (a : Nat) (R : RCh) : g_gI (chP h a R) a 0 1 = some (R.opening) := by simp [RCh_s, bI_t, bI_f, g_gI, g_fd, chP, chO]
theorem chT_opening (h : gH) (a : Nat) (R : RCh) (v : Int32) : g_put (chP h a R) a 0 1 (.int (v)) = some (chP h a (R.s_opening v)) := by
  have e : (chP h a R).2 a = some (chO a R) := by simp [RCh_s, bI_t, bI_f, chP]
  unfold chO at e
  rw [put_of e (by simp [RCh_s, bI_t, bI_f])]
  refine congrArg some (Prod.ext rfl (funext fun q => ?_))
  simp only [RCh_s, g_set, chP]
  by_cases e : q = a
  · subst e; simp [RCh_s, bI_t, bI_f, chO]
  · simp [RCh_s, bI_t, bI_f, e]
theorem chG_closing (h : gH) (a : Nat) (R : RCh) : g_gI (chP h a R) a 0 2 = some (R.closing) := by simp [RCh_s, bI_t, bI_f, g_gI, g_fd, chP, chO]
theorem chT_closing (h : gH) (a : Nat) (R : RCh) (v : Int32) : g_put (chP h a R) a 0 2 (.int (v)) = some (chP h a (R.s_closing v)) := by
  have e : (chP h a R).2 a = some (chO a R) := by simp [RCh_s, bI_t, bI_f, chP]
  unfold chO at e
  rw [put_of e (by simp [RCh_s, bI_t, bI_f])]
  refine congrArg some (Prod.ext rfl (funext fun q => ?_))
  simp only [RCh_s, g_set, chP]
  by_cases e : q = a
  · subst e; simp [RCh_s, bI_t, bI_f, chO]
  · simp [RCh_s, bI_t, bI_f, e]
theorem chG_frame (h : gH) (a : Nat) (R : RCh) : g_gI (chP h a R) a 0 3 = some (R.frame) := by simp [RCh_s, bI_t, bI_f, g_gI, g_fd, chP, chO]
theorem chT_frame (h : gH) (a : Nat) (R : RCh) (v : Int32) : g_put (chP h a R) a 0 3 (.int (v)) = some (chP h a (R.s_frame v)) := by
  have e : (chP h a R).2 a = some (chO a R) := by simp [RCh_s, bI_t, bI_f, chP]
  unfold chO at e
  rw [put_of e (by simp [RCh_s, bI_t, bI_f])]
  refine congrArg some (Prod.ext rfl (funext fun q => ?_))
  simp only [RCh_s, g_set, chP]
  by_cases e : q = a
  · subst e; simp [RCh_s, bI_t, bI_f, chO]
  · simp [RCh_s, bI_t, bI_f, e]
theorem chG_step (h : gH) (a : Nat) (R : RCh) : g_gI (chP h a R) a 0 4 = some (R.step) := by simp [RCh_s, bI_t, bI_f, g_gI, g_fd, chP, chO]
theorem chT_step (h : gH) (a : Nat) (R : RCh) (v : Int32) : g_put (chP h a R) a 0 4 (.int (v)) = some (chP h a (R.s_step v)) := by
  have e : (chP h a R).2 a = some (chO a R) := by simp [RCh_s, bI_t, bI_f, chP]
  unfold chO at e
  rw [put_of e (by simp [RCh_s, bI_t, bI_f])]
  refine congrArg some (Prod.ext rfl (funext fun q => ?_))
  simp only [RCh_s, g_set, chP]
  by_cases e : q = a
  · subst e; simp [RCh_s, bI_t, bI_f, chO]
  · simp [RCh_s, bI_t, bI_f, e]
theorem chG_number (h : gH) (a : Nat) (R : RCh) : g_gI (chP h a R) a 0 5 = some (R.number) := by simp [RCh_s, bI_t, bI_f, g_gI, g_fd, chP, chO]
theorem chT_number (h : gH) (a : Nat) (R : RCh) (v : Int32) : g_put (chP h a R) a 0 5 (.int (v)) = some (chP h a (R.s_number v)) := by
  have e : (chP h a R).2 a = some (chO a R) := by simp [RCh_s, bI_t, bI_f, chP]
  unfold chO at e
  rw [put_of e (by simp [RCh_s, bI_t, bI_f])]
  refine congrArg some (Prod.ext rfl (funext fun q => ?_))
  simp only [RCh_s, g_set, chP]
  by_cases e : q = a
  · subst e; simp [RCh_s, bI_t, bI_f, chO]
  · simp [RCh_s, bI_t, bI_f, e]
theorem chG_n (h : gH) (a : Nat) (R : RCh) : g_gI (chP h a R) a 0 6 = some (nI R.n) := by simp [RCh_s, bI_t, bI_f, g_gI, g_fd, chP, chO]
theorem chT_n (h : gH) (a : Nat) (R : RCh) (v : Nat) : g_put (chP h a R) a 0 6 (.int (nI v)) = some (chP h a (R.s_n v)) := by
  have e : (chP h a R).2 a = some (chO a R) := by simp [RCh_s, bI_t, bI_f, chP]
  unfold chO at e
  rw [put_of e (by simp [RCh_s, bI_t, bI_f])]
  refine congrArg some (Prod.ext rfl (funext fun q => ?_))
  simp only [RCh_s, g_set, chP]
  by_cases e : q = a
  · subst e; simp [RCh_s, bI_t, bI_f, chO]
  · simp [RCh_s, bI_t, bI_f, e]
theorem chG_heard (h : gH) (a : Nat) (R : RCh) : g_gA (chP h a R) a 0 7 = some (a + 1) := by simp [RCh_s, bI_t, bI_f, g_gA, g_fd, chP, chO]
theorem chE_heard (h : gH) (a : Nat) (R : RCh) : (chP h a R).2 (a + 1) = some (.inl (0, 8, .inl R.heard)) := by simp [RCh_s, bI_t, bI_f, chP, arrC]
theorem chS_heard (h : gH) (a : Nat) (R : RCh) (f : Nat → Int32) : g_set (chP h a R) (a + 1) (.inl (0, 8, .inl f)) = chP h a (R.s_heard f) := by
  refine Prod.ext rfl (funext fun q => ?_)
  simp only [RCh_s, g_set, chP, arrC, chO]
  by_cases e : q = a + 1
  · subst e; simp [RCh_s, bI_t, bI_f]
  · simp [RCh_s, bI_t, bI_f, e]
theorem chV_heard (h : gH) (a : Nat) (R : RCh) (i : Int32) : f_X7_valueAt (chP h a R) (a + 1) i = some (rowAt 8 R.heard i) := valueAt_of (chE_heard h a R) (by decide) i
theorem chW_heard (h : gH) (a : Nat) (R : RCh) (i v : Int32) : f_X7_setAt (chP h a R) (a + 1) i v = some (chP h a (R.s_heard (rowSet 8 R.heard i v))) := by
  rw [setAt_gen (chE_heard h a R) (by decide), chS_heard]
  unfold rowSet
  split <;> rfl
theorem chG_lost (h : gH) (a : Nat) (R : RCh) : g_gI (chP h a R) a 0 8 = some (bI R.lost) := by simp [RCh_s, bI_t, bI_f, g_gI, g_fd, chP, chO]
theorem chT_lost (h : gH) (a : Nat) (R : RCh) (v : Bool) : g_put (chP h a R) a 0 8 (.int (bI v)) = some (chP h a (R.s_lost v)) := by
  have e : (chP h a R).2 a = some (chO a R) := by simp [RCh_s, bI_t, bI_f, chP]
  unfold chO at e
  rw [put_of e (by simp [RCh_s, bI_t, bI_f])]
  refine congrArg some (Prod.ext rfl (funext fun q => ?_))
  simp only [RCh_s, g_set, chP]
  by_cases e : q = a
  · subst e; simp [RCh_s, bI_t, bI_f, chO]
  · simp [RCh_s, bI_t, bI_f, e]
theorem chG_good (h : gH) (a : Nat) (R : RCh) : g_gI (chP h a R) a 0 9 = some (bI R.good) := by simp [RCh_s, bI_t, bI_f, g_gI, g_fd, chP, chO]
theorem chT_good (h : gH) (a : Nat) (R : RCh) (v : Bool) : g_put (chP h a R) a 0 9 (.int (bI v)) = some (chP h a (R.s_good v)) := by
  have e : (chP h a R).2 a = some (chO a R) := by simp [RCh_s, bI_t, bI_f, chP]
  unfold chO at e
  rw [put_of e (by simp [RCh_s, bI_t, bI_f])]
  refine congrArg some (Prod.ext rfl (funext fun q => ?_))
  simp only [RCh_s, g_set, chP]
  by_cases e : q = a
  · subst e; simp [RCh_s, bI_t, bI_f, chO]
  · simp [RCh_s, bI_t, bI_f, e]
def RKp : Type := Nat × (Nat → Int32) × (Nat → Int32)
def RKp.mk (told : Nat) (ticks : Nat → Int32) (keys : Nat → Int32) : RKp := (told, ticks, keys)
def RKp.told (R : RKp) : Nat := R.1
def RKp.ticks (R : RKp) : Nat → Int32 := R.2.1
def RKp.keys (R : RKp) : Nat → Int32 := R.2.2
def RKp.s_told (R : RKp) (v : Nat) : RKp := RKp.mk v R.ticks R.keys
theorem RKp_u_told (R : RKp) (v : Nat) : R.s_told v = RKp.mk v R.ticks R.keys := rfl
def RKp.s_ticks (R : RKp) (v : Nat → Int32) : RKp := RKp.mk R.told v R.keys
theorem RKp_u_ticks (R : RKp) (v : Nat → Int32) : R.s_ticks v = RKp.mk R.told v R.keys := rfl
def RKp.s_keys (R : RKp) (v : Nat → Int32) : RKp := RKp.mk R.told R.ticks v
theorem RKp_u_keys (R : RKp) (v : Nat → Int32) : R.s_keys v = RKp.mk R.told R.ticks v := rfl
theorem RKp_told (told : Nat) (ticks : Nat → Int32) (keys : Nat → Int32) : (RKp.mk told ticks keys).told = told := rfl
theorem RKp_ticks (told : Nat) (ticks : Nat → Int32) (keys : Nat → Int32) : (RKp.mk told ticks keys).ticks = ticks := rfl
theorem RKp_keys (told : Nat) (ticks : Nat → Int32) (keys : Nat → Int32) : (RKp.mk told ticks keys).keys = keys := rfl
theorem RKp_eta (R : RKp) : RKp.mk R.told R.ticks R.keys = R := rfl
theorem RKp_s : (∀ (told : Nat) (ticks : Nat → Int32) (keys : Nat → Int32), (RKp.mk told ticks keys).told = told) ∧ (∀ (told : Nat) (ticks : Nat → Int32) (keys : Nat → Int32), (RKp.mk told ticks keys).ticks = ticks) ∧ (∀ (told : Nat) (ticks : Nat → Int32) (keys : Nat → Int32), (RKp.mk told ticks keys).keys = keys) ∧ (∀ (R : RKp) (v : Nat), R.s_told v = RKp.mk v R.ticks R.keys) ∧ (∀ (R : RKp) (v : Nat → Int32), R.s_ticks v = RKp.mk R.told v R.keys) ∧ (∀ (R : RKp) (v : Nat → Int32), R.s_keys v = RKp.mk R.told R.ticks v) ∧ (∀ R : RKp, RKp.mk R.told R.ticks R.keys = R) := ⟨RKp_told, RKp_ticks, RKp_keys, RKp_u_told, RKp_u_ticks, RKp_u_keys, RKp_eta⟩
def kpO (a : Nat) (R : RKp) : gC := .inr (2, [.int (nI R.told), .ref (a + 1), .ref (a + 2)])
def kpC (a : Nat) (R : RKp) : Nat → Option gC
  | 0 => some (kpO a R)
  | 1 => some (arrC 8 R.ticks)
  | 2 => some (arrC 8 R.keys)
  | _ => none
def kpIs (h : gH) (a : Nat) (R : RKp) : Prop := h.2 a = some (kpO a R) ∧ h.2 (a + 1) = some (arrC 8 R.ticks) ∧ h.2 (a + 2) = some (arrC 8 R.keys)
def kpP (h : gH) (a : Nat) (R : RKp) : gH := (h.1, fun q => if q = a then some (kpO a R) else if q = a + 1 then some (arrC 8 R.ticks) else if q = a + 2 then some (arrC 8 R.keys) else h.2 q)
theorem kpP_is (h : gH) (a : Nat) (R : RKp) : kpIs (kpP h a R) a R := by simp [RCh_s, RKp_s, bI_t, bI_f, kpIs, kpP]
theorem kpP_self {h : gH} {a : Nat} {R : RKp} (H : kpIs h a R) : kpP h a R = h := by
  obtain ⟨e0, e1, e2⟩ := H
  refine Prod.ext rfl (funext fun q => ?_)
  simp only [RCh_s, RKp_s, kpP]
  repeat (split; · rename_i e; subst e; simp [RCh_s, RKp_s, bI_t, bI_f, *])
  rfl
theorem kpP_P (h : gH) (a : Nat) (R R' : RKp) : kpP (kpP h a R) a R' = kpP h a R' := by
  refine Prod.ext rfl (funext fun q => ?_)
  simp only [RCh_s, RKp_s, kpP]
  repeat (split; · rfl)
  rfl
theorem kpP_g (h : gH) (a : Nat) (R : RKp) : g_is (kpP h a R) a 2 = true := by simp [RCh_s, RKp_s, bI_t, bI_f, g_is, kpP, kpO]
theorem kpG_told (h : gH) (a : Nat) (R : RKp) : g_gI (kpP h a R) a 2 0 = some (nI R.told) := by simp [RCh_s, RKp_s, bI_t, bI_f, g_gI, g_fd, kpP, kpO]
theorem kpT_told (h : gH) (a : Nat) (R : RKp) (v : Nat) : g_put (kpP h a R) a 2 0 (.int (nI v)) = some (kpP h a (R.s_told v)) := by
  have e : (kpP h a R).2 a = some (kpO a R) := by simp [RCh_s, RKp_s, bI_t, bI_f, kpP]
  unfold kpO at e
  rw [put_of e (by simp [RCh_s, RKp_s, bI_t, bI_f])]
  refine congrArg some (Prod.ext rfl (funext fun q => ?_))
  simp only [RCh_s, RKp_s, g_set, kpP]
  by_cases e : q = a
  · subst e; simp [RCh_s, RKp_s, bI_t, bI_f, kpO]
  · simp [RCh_s, RKp_s, bI_t, bI_f, e]
theorem kpG_ticks (h : gH) (a : Nat) (R : RKp) : g_gA (kpP h a R) a 2 1 = some (a + 1) := by simp [RCh_s, RKp_s, bI_t, bI_f, g_gA, g_fd, kpP, kpO]
theorem kpE_ticks (h : gH) (a : Nat) (R : RKp) : (kpP h a R).2 (a + 1) = some (.inl (0, 8, .inl R.ticks)) := by simp [RCh_s, RKp_s, bI_t, bI_f, kpP, arrC]
theorem kpS_ticks (h : gH) (a : Nat) (R : RKp) (f : Nat → Int32) : g_set (kpP h a R) (a + 1) (.inl (0, 8, .inl f)) = kpP h a (R.s_ticks f) := by
  refine Prod.ext rfl (funext fun q => ?_)
  simp only [RCh_s, RKp_s, g_set, kpP, arrC, kpO]
  by_cases e : q = a + 1
  · subst e; simp [RCh_s, RKp_s, bI_t, bI_f]
  · simp [RCh_s, RKp_s, bI_t, bI_f, e]
theorem kpV_ticks (h : gH) (a : Nat) (R : RKp) (i : Int32) : f_X7_valueAt (kpP h a R) (a + 1) i = some (rowAt 8 R.ticks i) := valueAt_of (kpE_ticks h a R) (by decide) i
theorem kpW_ticks (h : gH) (a : Nat) (R : RKp) (i v : Int32) : f_X7_setAt (kpP h a R) (a + 1) i v = some (kpP h a (R.s_ticks (rowSet 8 R.ticks i v))) := by
  rw [setAt_gen (kpE_ticks h a R) (by decide), kpS_ticks]
  unfold rowSet
  split <;> rfl
theorem kpG_keys (h : gH) (a : Nat) (R : RKp) : g_gA (kpP h a R) a 2 2 = some (a + 2) := by simp [RCh_s, RKp_s, bI_t, bI_f, g_gA, g_fd, kpP, kpO]
theorem kpE_keys (h : gH) (a : Nat) (R : RKp) : (kpP h a R).2 (a + 2) = some (.inl (0, 8, .inl R.keys)) := by simp [RCh_s, RKp_s, bI_t, bI_f, kpP, arrC]
theorem kpS_keys (h : gH) (a : Nat) (R : RKp) (f : Nat → Int32) : g_set (kpP h a R) (a + 2) (.inl (0, 8, .inl f)) = kpP h a (R.s_keys f) := by
  refine Prod.ext rfl (funext fun q => ?_)
  simp only [RCh_s, RKp_s, g_set, kpP, arrC, kpO]
  by_cases e : q = a + 2
  · subst e; simp [RCh_s, RKp_s, bI_t, bI_f]
  · simp [RCh_s, RKp_s, bI_t, bI_f, e]
theorem kpV_keys (h : gH) (a : Nat) (R : RKp) (i : Int32) : f_X7_valueAt (kpP h a R) (a + 2) i = some (rowAt 8 R.keys i) := valueAt_of (kpE_keys h a R) (by decide) i
theorem kpW_keys (h : gH) (a : Nat) (R : RKp) (i v : Int32) : f_X7_setAt (kpP h a R) (a + 2) i v = some (kpP h a (R.s_keys (rowSet 8 R.keys i v))) := by
  rw [setAt_gen (kpE_keys h a R) (by decide), kpS_keys]
  unfold rowSet
  split <;> rfl
def RMs : Type := Int32 × Int32 × Nat × Nat × Nat × Int32 × Int32 × Int32 × Int32 × (Nat → Int32) × (Nat → Int32) × (Nat → Int32) × (Nat → Int32)
def RMs.mk (sender : Int32) (urgency : Int32) (len : Nat) (fsize : Nat) (frames : Nat) (phase : Int32) (began : Int32) (ended : Int32) (unf : Int32) (letters : Nat → Int32) (log : Nat → Int32) (fst : Nat → Int32) (tries : Nat → Int32) : RMs := (sender, urgency, len, fsize, frames, phase, began, ended, unf, letters, log, fst, tries)
def RMs.sender (R : RMs) : Int32 := R.1
def RMs.urgency (R : RMs) : Int32 := R.2.1
def RMs.len (R : RMs) : Nat := R.2.2.1
def RMs.fsize (R : RMs) : Nat := R.2.2.2.1
def RMs.frames (R : RMs) : Nat := R.2.2.2.2.1
def RMs.phase (R : RMs) : Int32 := R.2.2.2.2.2.1
def RMs.began (R : RMs) : Int32 := R.2.2.2.2.2.2.1
def RMs.ended (R : RMs) : Int32 := R.2.2.2.2.2.2.2.1
def RMs.unf (R : RMs) : Int32 := R.2.2.2.2.2.2.2.2.1
def RMs.letters (R : RMs) : Nat → Int32 := R.2.2.2.2.2.2.2.2.2.1
def RMs.log (R : RMs) : Nat → Int32 := R.2.2.2.2.2.2.2.2.2.2.1
def RMs.fst (R : RMs) : Nat → Int32 := R.2.2.2.2.2.2.2.2.2.2.2.1
def RMs.tries (R : RMs) : Nat → Int32 := R.2.2.2.2.2.2.2.2.2.2.2.2
def RMs.s_sender (R : RMs) (v : Int32) : RMs := RMs.mk v R.urgency R.len R.fsize R.frames R.phase R.began R.ended R.unf R.letters R.log R.fst R.tries
theorem RMs_u_sender (R : RMs) (v : Int32) : R.s_sender v = RMs.mk v R.urgency R.len R.fsize R.frames R.phase R.began R.ended R.unf R.letters R.log R.fst R.tries := rfl
def RMs.s_urgency (R : RMs) (v : Int32) : RMs := RMs.mk R.sender v R.len R.fsize R.frames R.phase R.began R.ended R.unf R.letters R.log R.fst R.tries
theorem RMs_u_urgency (R : RMs) (v : Int32) : R.s_urgency v = RMs.mk R.sender v R.len R.fsize R.frames R.phase R.began R.ended R.unf R.letters R.log R.fst R.tries := rfl
def RMs.s_len (R : RMs) (v : Nat) : RMs := RMs.mk R.sender R.urgency v R.fsize R.frames R.phase R.began R.ended R.unf R.letters R.log R.fst R.tries
theorem RMs_u_len (R : RMs) (v : Nat) : R.s_len v = RMs.mk R.sender R.urgency v R.fsize R.frames R.phase R.began R.ended R.unf R.letters R.log R.fst R.tries := rfl
def RMs.s_fsize (R : RMs) (v : Nat) : RMs := RMs.mk R.sender R.urgency R.len v R.frames R.phase R.began R.ended R.unf R.letters R.log R.fst R.tries
theorem RMs_u_fsize (R : RMs) (v : Nat) : R.s_fsize v = RMs.mk R.sender R.urgency R.len v R.frames R.phase R.began R.ended R.unf R.letters R.log R.fst R.tries := rfl
def RMs.s_frames (R : RMs) (v : Nat) : RMs := RMs.mk R.sender R.urgency R.len R.fsize v R.phase R.began R.ended R.unf R.letters R.log R.fst R.tries
theorem RMs_u_frames (R : RMs) (v : Nat) : R.s_frames v = RMs.mk R.sender R.urgency R.len R.fsize v R.phase R.began R.ended R.unf R.letters R.log R.fst R.tries := rfl
def RMs.s_phase (R : RMs) (v : Int32) : RMs := RMs.mk R.sender R.urgency R.len R.fsize R.frames v R.began R.ended R.unf R.letters R.log R.fst R.tries
theorem RMs_u_phase (R : RMs) (v : Int32) : R.s_phase v = RMs.mk R.sender R.urgency R.len R.fsize R.frames v R.began R.ended R.unf R.letters R.log R.fst R.tries := rfl
def RMs.s_began (R : RMs) (v : Int32) : RMs := RMs.mk R.sender R.urgency R.len R.fsize R.frames R.phase v R.ended R.unf R.letters R.log R.fst R.tries
theorem RMs_u_began (R : RMs) (v : Int32) : R.s_began v = RMs.mk R.sender R.urgency R.len R.fsize R.frames R.phase v R.ended R.unf R.letters R.log R.fst R.tries := rfl
def RMs.s_ended (R : RMs) (v : Int32) : RMs := RMs.mk R.sender R.urgency R.len R.fsize R.frames R.phase R.began v R.unf R.letters R.log R.fst R.tries
theorem RMs_u_ended (R : RMs) (v : Int32) : R.s_ended v = RMs.mk R.sender R.urgency R.len R.fsize R.frames R.phase R.began v R.unf R.letters R.log R.fst R.tries := rfl
def RMs.s_unf (R : RMs) (v : Int32) : RMs := RMs.mk R.sender R.urgency R.len R.fsize R.frames R.phase R.began R.ended v R.letters R.log R.fst R.tries
theorem RMs_u_unf (R : RMs) (v : Int32) : R.s_unf v = RMs.mk R.sender R.urgency R.len R.fsize R.frames R.phase R.began R.ended v R.letters R.log R.fst R.tries := rfl
def RMs.s_letters (R : RMs) (v : Nat → Int32) : RMs := RMs.mk R.sender R.urgency R.len R.fsize R.frames R.phase R.began R.ended R.unf v R.log R.fst R.tries
theorem RMs_u_letters (R : RMs) (v : Nat → Int32) : R.s_letters v = RMs.mk R.sender R.urgency R.len R.fsize R.frames R.phase R.began R.ended R.unf v R.log R.fst R.tries := rfl
def RMs.s_log (R : RMs) (v : Nat → Int32) : RMs := RMs.mk R.sender R.urgency R.len R.fsize R.frames R.phase R.began R.ended R.unf R.letters v R.fst R.tries
theorem RMs_u_log (R : RMs) (v : Nat → Int32) : R.s_log v = RMs.mk R.sender R.urgency R.len R.fsize R.frames R.phase R.began R.ended R.unf R.letters v R.fst R.tries := rfl
def RMs.s_fst (R : RMs) (v : Nat → Int32) : RMs := RMs.mk R.sender R.urgency R.len R.fsize R.frames R.phase R.began R.ended R.unf R.letters R.log v R.tries
theorem RMs_u_fst (R : RMs) (v : Nat → Int32) : R.s_fst v = RMs.mk R.sender R.urgency R.len R.fsize R.frames R.phase R.began R.ended R.unf R.letters R.log v R.tries := rfl
def RMs.s_tries (R : RMs) (v : Nat → Int32) : RMs := RMs.mk R.sender R.urgency R.len R.fsize R.frames R.phase R.began R.ended R.unf R.letters R.log R.fst v
theorem RMs_u_tries (R : RMs) (v : Nat → Int32) : R.s_tries v = RMs.mk R.sender R.urgency R.len R.fsize R.frames R.phase R.began R.ended R.unf R.letters R.log R.fst v := rfl
theorem RMs_sender (sender : Int32) (urgency : Int32) (len : Nat) (fsize : Nat) (frames : Nat) (phase : Int32) (began : Int32) (ended : Int32) (unf : Int32) (letters : Nat → Int32) (log : Nat → Int32) (fst : Nat → Int32) (tries : Nat → Int32) : (RMs.mk sender urgency len fsize frames phase began ended unf letters log fst tries).sender = sender := rfl
theorem RMs_urgency (sender : Int32) (urgency : Int32) (len : Nat) (fsize : Nat) (frames : Nat) (phase : Int32) (began : Int32) (ended : Int32) (unf : Int32) (letters : Nat → Int32) (log : Nat → Int32) (fst : Nat → Int32) (tries : Nat → Int32) : (RMs.mk sender urgency len fsize frames phase began ended unf letters log fst tries).urgency = urgency := rfl
theorem RMs_len (sender : Int32) (urgency : Int32) (len : Nat) (fsize : Nat) (frames : Nat) (phase : Int32) (began : Int32) (ended : Int32) (unf : Int32) (letters : Nat → Int32) (log : Nat → Int32) (fst : Nat → Int32) (tries : Nat → Int32) : (RMs.mk sender urgency len fsize frames phase began ended unf letters log fst tries).len = len := rfl
theorem RMs_fsize (sender : Int32) (urgency : Int32) (len : Nat) (fsize : Nat) (frames : Nat) (phase : Int32) (began : Int32) (ended : Int32) (unf : Int32) (letters : Nat → Int32) (log : Nat → Int32) (fst : Nat → Int32) (tries : Nat → Int32) : (RMs.mk sender urgency len fsize frames phase began ended unf letters log fst tries).fsize = fsize := rfl
theorem RMs_frames (sender : Int32) (urgency : Int32) (len : Nat) (fsize : Nat) (frames : Nat) (phase : Int32) (began : Int32) (ended : Int32) (unf : Int32) (letters : Nat → Int32) (log : Nat → Int32) (fst : Nat → Int32) (tries : Nat → Int32) : (RMs.mk sender urgency len fsize frames phase began ended unf letters log fst tries).frames = frames := rfl
theorem RMs_phase (sender : Int32) (urgency : Int32) (len : Nat) (fsize : Nat) (frames : Nat) (phase : Int32) (began : Int32) (ended : Int32) (unf : Int32) (letters : Nat → Int32) (log : Nat → Int32) (fst : Nat → Int32) (tries : Nat → Int32) : (RMs.mk sender urgency len fsize frames phase began ended unf letters log fst tries).phase = phase := rfl
theorem RMs_began (sender : Int32) (urgency : Int32) (len : Nat) (fsize : Nat) (frames : Nat) (phase : Int32) (began : Int32) (ended : Int32) (unf : Int32) (letters : Nat → Int32) (log : Nat → Int32) (fst : Nat → Int32) (tries : Nat → Int32) : (RMs.mk sender urgency len fsize frames phase began ended unf letters log fst tries).began = began := rfl
theorem RMs_ended (sender : Int32) (urgency : Int32) (len : Nat) (fsize : Nat) (frames : Nat) (phase : Int32) (began : Int32) (ended : Int32) (unf : Int32) (letters : Nat → Int32) (log : Nat → Int32) (fst : Nat → Int32) (tries : Nat → Int32) : (RMs.mk sender urgency len fsize frames phase began ended unf letters log fst tries).ended = ended := rfl
theorem RMs_unf (sender : Int32) (urgency : Int32) (len : Nat) (fsize : Nat) (frames : Nat) (phase : Int32) (began : Int32) (ended : Int32) (unf : Int32) (letters : Nat → Int32) (log : Nat → Int32) (fst : Nat → Int32) (tries : Nat → Int32) : (RMs.mk sender urgency len fsize frames phase began ended unf letters log fst tries).unf = unf := rfl
theorem RMs_letters (sender : Int32) (urgency : Int32) (len : Nat) (fsize : Nat) (frames : Nat) (phase : Int32) (began : Int32) (ended : Int32) (unf : Int32) (letters : Nat → Int32) (log : Nat → Int32) (fst : Nat → Int32) (tries : Nat → Int32) : (RMs.mk sender urgency len fsize frames phase began ended unf letters log fst tries).letters = letters := rfl
theorem RMs_log (sender : Int32) (urgency : Int32) (len : Nat) (fsize : Nat) (frames : Nat) (phase : Int32) (began : Int32) (ended : Int32) (unf : Int32) (letters : Nat → Int32) (log : Nat → Int32) (fst : Nat → Int32) (tries : Nat → Int32) : (RMs.mk sender urgency len fsize frames phase began ended unf letters log fst tries).log = log := rfl
theorem RMs_fst (sender : Int32) (urgency : Int32) (len : Nat) (fsize : Nat) (frames : Nat) (phase : Int32) (began : Int32) (ended : Int32) (unf : Int32) (letters : Nat → Int32) (log : Nat → Int32) (fst : Nat → Int32) (tries : Nat → Int32) : (RMs.mk sender urgency len fsize frames phase began ended unf letters log fst tries).fst = fst := rfl
theorem RMs_tries (sender : Int32) (urgency : Int32) (len : Nat) (fsize : Nat) (frames : Nat) (phase : Int32) (began : Int32) (ended : Int32) (unf : Int32) (letters : Nat → Int32) (log : Nat → Int32) (fst : Nat → Int32) (tries : Nat → Int32) : (RMs.mk sender urgency len fsize frames phase began ended unf letters log fst tries).tries = tries := rfl
theorem RMs_eta (R : RMs) : RMs.mk R.sender R.urgency R.len R.fsize R.frames R.phase R.began R.ended R.unf R.letters R.log R.fst R.tries = R := rfl
theorem RMs_s : (∀ (sender : Int32) (urgency : Int32) (len : Nat) (fsize : Nat) (frames : Nat) (phase : Int32) (began : Int32) (ended : Int32) (unf : Int32) (letters : Nat → Int32) (log : Nat → Int32) (fst : Nat → Int32) (tries : Nat → Int32), (RMs.mk sender urgency len fsize frames phase began ended unf letters log fst tries).sender = sender) ∧ (∀ (sender : Int32) (urgency : Int32) (len : Nat) (fsize : Nat) (frames : Nat) (phase : Int32) (began : Int32) (ended : Int32) (unf : Int32) (letters : Nat → Int32) (log : Nat → Int32) (fst : Nat → Int32) (tries : Nat → Int32), (RMs.mk sender urgency len fsize frames phase began ended unf letters log fst tries).urgency = urgency) ∧ (∀ (sender : Int32) (urgency : Int32) (len : Nat) (fsize : Nat) (frames : Nat) (phase : Int32) (began : Int32) (ended : Int32) (unf : Int32) (letters : Nat → Int32) (log : Nat → Int32) (fst : Nat → Int32) (tries : Nat → Int32), (RMs.mk sender urgency len fsize frames phase began ended unf letters log fst tries).len = len) ∧ (∀ (sender : Int32) (urgency : Int32) (len : Nat) (fsize : Nat) (frames : Nat) (phase : Int32) (began : Int32) (ended : Int32) (unf : Int32) (letters : Nat → Int32) (log : Nat → Int32) (fst : Nat → Int32) (tries : Nat → Int32), (RMs.mk sender urgency len fsize frames phase began ended unf letters log fst tries).fsize = fsize) ∧ (∀ (sender : Int32) (urgency : Int32) (len : Nat) (fsize : Nat) (frames : Nat) (phase : Int32) (began : Int32) (ended : Int32) (unf : Int32) (letters : Nat → Int32) (log : Nat → Int32) (fst : Nat → Int32) (tries : Nat → Int32), (RMs.mk sender urgency len fsize frames phase began ended unf letters log fst tries).frames = frames) ∧ (∀ (sender : Int32) (urgency : Int32) (len : Nat) (fsize : Nat) (frames : Nat) (phase : Int32) (began : Int32) (ended : Int32) (unf : Int32) (letters : Nat → Int32) (log : Nat → Int32) (fst : Nat → Int32) (tries : Nat → Int32), (RMs.mk sender urgency len fsize frames phase began ended unf letters log fst tries).phase = phase) ∧ (∀ (sender : Int32) (urgency : Int32) (len : Nat) (fsize : Nat) (frames : Nat) (phase : Int32) (began : Int32) (ended : Int32) (unf : Int32) (letters : Nat → Int32) (log : Nat → Int32) (fst : Nat → Int32) (tries : Nat → Int32), (RMs.mk sender urgency len fsize frames phase began ended unf letters log fst tries).began = began) ∧ (∀ (sender : Int32) (urgency : Int32) (len : Nat) (fsize : Nat) (frames : Nat) (phase : Int32) (began : Int32) (ended : Int32) (unf : Int32) (letters : Nat → Int32) (log : Nat → Int32) (fst : Nat → Int32) (tries : Nat → Int32), (RMs.mk sender urgency len fsize frames phase began ended unf letters log fst tries).ended = ended) ∧ (∀ (sender : Int32) (urgency : Int32) (len : Nat) (fsize : Nat) (frames : Nat) (phase : Int32) (began : Int32) (ended : Int32) (unf : Int32) (letters : Nat → Int32) (log : Nat → Int32) (fst : Nat → Int32) (tries : Nat → Int32), (RMs.mk sender urgency len fsize frames phase began ended unf letters log fst tries).unf = unf) ∧ (∀ (sender : Int32) (urgency : Int32) (len : Nat) (fsize : Nat) (frames : Nat) (phase : Int32) (began : Int32) (ended : Int32) (unf : Int32) (letters : Nat → Int32) (log : Nat → Int32) (fst : Nat → Int32) (tries : Nat → Int32), (RMs.mk sender urgency len fsize frames phase began ended unf letters log fst tries).letters = letters) ∧ (∀ (sender : Int32) (urgency : Int32) (len : Nat) (fsize : Nat) (frames : Nat) (phase : Int32) (began : Int32) (ended : Int32) (unf : Int32) (letters : Nat → Int32) (log : Nat → Int32) (fst : Nat → Int32) (tries : Nat → Int32), (RMs.mk sender urgency len fsize frames phase began ended unf letters log fst tries).log = log) ∧ (∀ (sender : Int32) (urgency : Int32) (len : Nat) (fsize : Nat) (frames : Nat) (phase : Int32) (began : Int32) (ended : Int32) (unf : Int32) (letters : Nat → Int32) (log : Nat → Int32) (fst : Nat → Int32) (tries : Nat → Int32), (RMs.mk sender urgency len fsize frames phase began ended unf letters log fst tries).fst = fst) ∧ (∀ (sender : Int32) (urgency : Int32) (len : Nat) (fsize : Nat) (frames : Nat) (phase : Int32) (began : Int32) (ended : Int32) (unf : Int32) (letters : Nat → Int32) (log : Nat → Int32) (fst : Nat → Int32) (tries : Nat → Int32), (RMs.mk sender urgency len fsize frames phase began ended unf letters log fst tries).tries = tries) ∧ (∀ (R : RMs) (v : Int32), R.s_sender v = RMs.mk v R.urgency R.len R.fsize R.frames R.phase R.began R.ended R.unf R.letters R.log R.fst R.tries) ∧ (∀ (R : RMs) (v : Int32), R.s_urgency v = RMs.mk R.sender v R.len R.fsize R.frames R.phase R.began R.ended R.unf R.letters R.log R.fst R.tries) ∧ (∀ (R : RMs) (v : Nat), R.s_len v = RMs.mk R.sender R.urgency v R.fsize R.frames R.phase R.began R.ended R.unf R.letters R.log R.fst R.tries) ∧ (∀ (R : RMs) (v : Nat), R.s_fsize v = RMs.mk R.sender R.urgency R.len v R.frames R.phase R.began R.ended R.unf R.letters R.log R.fst R.tries) ∧ (∀ (R : RMs) (v : Nat), R.s_frames v = RMs.mk R.sender R.urgency R.len R.fsize v R.phase R.began R.ended R.unf R.letters R.log R.fst R.tries) ∧ (∀ (R : RMs) (v : Int32), R.s_phase v = RMs.mk R.sender R.urgency R.len R.fsize R.frames v R.began R.ended R.unf R.letters R.log R.fst R.tries) ∧ (∀ (R : RMs) (v : Int32), R.s_began v = RMs.mk R.sender R.urgency R.len R.fsize R.frames R.phase v R.ended R.unf R.letters R.log R.fst R.tries) ∧ (∀ (R : RMs) (v : Int32), R.s_ended v = RMs.mk R.sender R.urgency R.len R.fsize R.frames R.phase R.began v R.unf R.letters R.log R.fst R.tries) ∧ (∀ (R : RMs) (v : Int32), R.s_unf v = RMs.mk R.sender R.urgency R.len R.fsize R.frames R.phase R.began R.ended v R.letters R.log R.fst R.tries) ∧ (∀ (R : RMs) (v : Nat → Int32), R.s_letters v = RMs.mk R.sender R.urgency R.len R.fsize R.frames R.phase R.began R.ended R.unf v R.log R.fst R.tries) ∧ (∀ (R : RMs) (v : Nat → Int32), R.s_log v = RMs.mk R.sender R.urgency R.len R.fsize R.frames R.phase R.began R.ended R.unf R.letters v R.fst R.tries) ∧ (∀ (R : RMs) (v : Nat → Int32), R.s_fst v = RMs.mk R.sender R.urgency R.len R.fsize R.frames R.phase R.began R.ended R.unf R.letters R.log v R.tries) ∧ (∀ (R : RMs) (v : Nat → Int32), R.s_tries v = RMs.mk R.sender R.urgency R.len R.fsize R.frames R.phase R.began R.ended R.unf R.letters R.log R.fst v) ∧ (∀ R : RMs, RMs.mk R.sender R.urgency R.len R.fsize R.frames R.phase R.began R.ended R.unf R.letters R.log R.fst R.tries = R) := ⟨RMs_sender, RMs_urgency, RMs_len, RMs_fsize, RMs_frames, RMs_phase, RMs_began, RMs_ended, RMs_unf, RMs_letters, RMs_log, RMs_fst, RMs_tries, RMs_u_sender, RMs_u_urgency, RMs_u_len, RMs_u_fsize, RMs_u_frames, RMs_u_phase, RMs_u_began, RMs_u_ended, RMs_u_unf, RMs_u_letters, RMs_u_log, RMs_u_fst, RMs_u_tries, RMs_eta⟩
def msO (a : Nat) (R : RMs) : gC := .inr (3, [.int R.sender, .int R.urgency, .int (nI R.len), .int (nI R.fsize), .int (nI R.frames), .int R.phase, .int R.began, .int R.ended, .int R.unf, .ref (a + 1), .ref (a + 2), .ref (a + 3), .ref (a + 4)])
def msC (a : Nat) (R : RMs) : Nat → Option gC
  | 0 => some (msO a R)
  | 1 => some (arrC 24 R.letters)
  | 2 => some (arrC 24 R.log)
  | 3 => some (arrC 24 R.fst)
  | 4 => some (arrC 24 R.tries)
  | _ => none
def msIs (h : gH) (a : Nat) (R : RMs) : Prop := h.2 a = some (msO a R) ∧ h.2 (a + 1) = some (arrC 24 R.letters) ∧ h.2 (a + 2) = some (arrC 24 R.log) ∧ h.2 (a + 3) = some (arrC 24 R.fst) ∧ h.2 (a + 4) = some (arrC 24 R.tries)
def msP (h : gH) (a : Nat) (R : RMs) : gH := (h.1, fun q => if q = a then some (msO a R) else if q = a + 1 then some (arrC 24 R.letters) else if q = a + 2 then some (arrC 24 R.log) else if q = a + 3 then some (arrC 24 R.fst) else if q = a + 4 then some (arrC 24 R.tries) else h.2 q)
theorem msP_is (h : gH) (a : Nat) (R : RMs) : msIs (msP h a R) a R := by simp [RCh_s, RKp_s, RMs_s, bI_t, bI_f, msIs, msP]
theorem msP_self {h : gH} {a : Nat} {R : RMs} (H : msIs h a R) : msP h a R = h := by
  obtain ⟨e0, e1, e2, e3, e4⟩ := H
  refine Prod.ext rfl (funext fun q => ?_)
  simp only [RCh_s, RKp_s, RMs_s, msP]
  repeat (split; · rename_i e; subst e; simp [RCh_s, RKp_s, RMs_s, bI_t, bI_f, *])
  rfl
theorem msP_P (h : gH) (a : Nat) (R R' : RMs) : msP (msP h a R) a R' = msP h a R' := by
  refine Prod.ext rfl (funext fun q => ?_)
  simp only [RCh_s, RKp_s, RMs_s, msP]
  repeat (split; · rfl)
  rfl
theorem msP_g (h : gH) (a : Nat) (R : RMs) : g_is (msP h a R) a 3 = true := by simp [RCh_s, RKp_s, RMs_s, bI_t, bI_f, g_is, msP, msO]
theorem msG_sender (h : gH) (a : Nat) (R : RMs) : g_gI (msP h a R) a 3 0 = some (R.sender) := by simp [RCh_s, RKp_s, RMs_s, bI_t, bI_f, g_gI, g_fd, msP, msO]
theorem msT_sender (h : gH) (a : Nat) (R : RMs) (v : Int32) : g_put (msP h a R) a 3 0 (.int (v)) = some (msP h a (R.s_sender v)) := by
  have e : (msP h a R).2 a = some (msO a R) := by simp [RCh_s, RKp_s, RMs_s, bI_t, bI_f, msP]
  unfold msO at e
  rw [put_of e (by simp [RCh_s, RKp_s, RMs_s, bI_t, bI_f])]
  refine congrArg some (Prod.ext rfl (funext fun q => ?_))
  simp only [RCh_s, RKp_s, RMs_s, g_set, msP]
  by_cases e : q = a
  · subst e; simp [RCh_s, RKp_s, RMs_s, bI_t, bI_f, msO]
  · simp [RCh_s, RKp_s, RMs_s, bI_t, bI_f, e]
theorem msG_urgency (h : gH) (a : Nat) (R : RMs) : g_gI (msP h a R) a 3 1 = some (R.urgency) := by simp [RCh_s, RKp_s, RMs_s, bI_t, bI_f, g_gI, g_fd, msP, msO]
theorem msT_urgency (h : gH) (a : Nat) (R : RMs) (v : Int32) : g_put (msP h a R) a 3 1 (.int (v)) = some (msP h a (R.s_urgency v)) := by
  have e : (msP h a R).2 a = some (msO a R) := by simp [RCh_s, RKp_s, RMs_s, bI_t, bI_f, msP]
  unfold msO at e
  rw [put_of e (by simp [RCh_s, RKp_s, RMs_s, bI_t, bI_f])]
  refine congrArg some (Prod.ext rfl (funext fun q => ?_))
  simp only [RCh_s, RKp_s, RMs_s, g_set, msP]
  by_cases e : q = a
  · subst e; simp [RCh_s, RKp_s, RMs_s, bI_t, bI_f, msO]
  · simp [RCh_s, RKp_s, RMs_s, bI_t, bI_f, e]
theorem msG_len (h : gH) (a : Nat) (R : RMs) : g_gI (msP h a R) a 3 2 = some (nI R.len) := by simp [RCh_s, RKp_s, RMs_s, bI_t, bI_f, g_gI, g_fd, msP, msO]
theorem msT_len (h : gH) (a : Nat) (R : RMs) (v : Nat) : g_put (msP h a R) a 3 2 (.int (nI v)) = some (msP h a (R.s_len v)) := by
  have e : (msP h a R).2 a = some (msO a R) := by simp [RCh_s, RKp_s, RMs_s, bI_t, bI_f, msP]
  unfold msO at e
  rw [put_of e (by simp [RCh_s, RKp_s, RMs_s, bI_t, bI_f])]
  refine congrArg some (Prod.ext rfl (funext fun q => ?_))
  simp only [RCh_s, RKp_s, RMs_s, g_set, msP]
  by_cases e : q = a
  · subst e; simp [RCh_s, RKp_s, RMs_s, bI_t, bI_f, msO]
  · simp [RCh_s, RKp_s, RMs_s, bI_t, bI_f, e]
theorem msG_fsize (h : gH) (a : Nat) (R : RMs) : g_gI (msP h a R) a 3 3 = some (nI R.fsize) := by simp [RCh_s, RKp_s, RMs_s, bI_t, bI_f, g_gI, g_fd, msP, msO]
theorem msT_fsize (h : gH) (a : Nat) (R : RMs) (v : Nat) : g_put (msP h a R) a 3 3 (.int (nI v)) = some (msP h a (R.s_fsize v)) := by
  have e : (msP h a R).2 a = some (msO a R) := by simp [RCh_s, RKp_s, RMs_s, bI_t, bI_f, msP]
  unfold msO at e
  rw [put_of e (by simp [RCh_s, RKp_s, RMs_s, bI_t, bI_f])]
  refine congrArg some (Prod.ext rfl (funext fun q => ?_))
  simp only [RCh_s, RKp_s, RMs_s, g_set, msP]
  by_cases e : q = a
  · subst e; simp [RCh_s, RKp_s, RMs_s, bI_t, bI_f, msO]
  · simp [RCh_s, RKp_s, RMs_s, bI_t, bI_f, e]
theorem msG_frames (h : gH) (a : Nat) (R : RMs) : g_gI (msP h a R) a 3 4 = some (nI R.frames) := by simp [RCh_s, RKp_s, RMs_s, bI_t, bI_f, g_gI, g_fd, msP, msO]
theorem msT_frames (h : gH) (a : Nat) (R : RMs) (v : Nat) : g_put (msP h a R) a 3 4 (.int (nI v)) = some (msP h a (R.s_frames v)) := by
  have e : (msP h a R).2 a = some (msO a R) := by simp [RCh_s, RKp_s, RMs_s, bI_t, bI_f, msP]
  unfold msO at e
  rw [put_of e (by simp [RCh_s, RKp_s, RMs_s, bI_t, bI_f])]
  refine congrArg some (Prod.ext rfl (funext fun q => ?_))
  simp only [RCh_s, RKp_s, RMs_s, g_set, msP]
  by_cases e : q = a
  · subst e; simp [RCh_s, RKp_s, RMs_s, bI_t, bI_f, msO]
  · simp [RCh_s, RKp_s, RMs_s, bI_t, bI_f, e]
theorem msG_phase (h : gH) (a : Nat) (R : RMs) : g_gI (msP h a R) a 3 5 = some (R.phase) := by simp [RCh_s, RKp_s, RMs_s, bI_t, bI_f, g_gI, g_fd, msP, msO]
theorem msT_phase (h : gH) (a : Nat) (R : RMs) (v : Int32) : g_put (msP h a R) a 3 5 (.int (v)) = some (msP h a (R.s_phase v)) := by
  have e : (msP h a R).2 a = some (msO a R) := by simp [RCh_s, RKp_s, RMs_s, bI_t, bI_f, msP]
  unfold msO at e
  rw [put_of e (by simp [RCh_s, RKp_s, RMs_s, bI_t, bI_f])]
  refine congrArg some (Prod.ext rfl (funext fun q => ?_))
  simp only [RCh_s, RKp_s, RMs_s, g_set, msP]
  by_cases e : q = a
  · subst e; simp [RCh_s, RKp_s, RMs_s, bI_t, bI_f, msO]
  · simp [RCh_s, RKp_s, RMs_s, bI_t, bI_f, e]
theorem msG_began (h : gH) (a : Nat) (R : RMs) : g_gI (msP h a R) a 3 6 = some (R.began) := by simp [RCh_s, RKp_s, RMs_s, bI_t, bI_f, g_gI, g_fd, msP, msO]
theorem msT_began (h : gH) (a : Nat) (R : RMs) (v : Int32) : g_put (msP h a R) a 3 6 (.int (v)) = some (msP h a (R.s_began v)) := by
  have e : (msP h a R).2 a = some (msO a R) := by simp [RCh_s, RKp_s, RMs_s, bI_t, bI_f, msP]
  unfold msO at e
  rw [put_of e (by simp [RCh_s, RKp_s, RMs_s, bI_t, bI_f])]
  refine congrArg some (Prod.ext rfl (funext fun q => ?_))
  simp only [RCh_s, RKp_s, RMs_s, g_set, msP]
  by_cases e : q = a
  · subst e; simp [RCh_s, RKp_s, RMs_s, bI_t, bI_f, msO]
  · simp [RCh_s, RKp_s, RMs_s, bI_t, bI_f, e]
theorem msG_ended (h : gH) (a : Nat) (R : RMs) : g_gI (msP h a R) a 3 7 = some (R.ended) := by simp [RCh_s, RKp_s, RMs_s, bI_t, bI_f, g_gI, g_fd, msP, msO]
theorem msT_ended (h : gH) (a : Nat) (R : RMs) (v : Int32) : g_put (msP h a R) a 3 7 (.int (v)) = some (msP h a (R.s_ended v)) := by
  have e : (msP h a R).2 a = some (msO a R) := by simp [RCh_s, RKp_s, RMs_s, bI_t, bI_f, msP]
  unfold msO at e
  rw [put_of e (by simp [RCh_s, RKp_s, RMs_s, bI_t, bI_f])]
  refine congrArg some (Prod.ext rfl (funext fun q => ?_))
  simp only [RCh_s, RKp_s, RMs_s, g_set, msP]
  by_cases e : q = a
  · subst e; simp [RCh_s, RKp_s, RMs_s, bI_t, bI_f, msO]
  · simp [RCh_s, RKp_s, RMs_s, bI_t, bI_f, e]
theorem msG_unf (h : gH) (a : Nat) (R : RMs) : g_gI (msP h a R) a 3 8 = some (R.unf) := by simp [RCh_s, RKp_s, RMs_s, bI_t, bI_f, g_gI, g_fd, msP, msO]
theorem msT_unf (h : gH) (a : Nat) (R : RMs) (v : Int32) : g_put (msP h a R) a 3 8 (.int (v)) = some (msP h a (R.s_unf v)) := by
  have e : (msP h a R).2 a = some (msO a R) := by simp [RCh_s, RKp_s, RMs_s, bI_t, bI_f, msP]
  unfold msO at e
  rw [put_of e (by simp [RCh_s, RKp_s, RMs_s, bI_t, bI_f])]
  refine congrArg some (Prod.ext rfl (funext fun q => ?_))
  simp only [RCh_s, RKp_s, RMs_s, g_set, msP]
  by_cases e : q = a
  · subst e; simp [RCh_s, RKp_s, RMs_s, bI_t, bI_f, msO]
  · simp [RCh_s, RKp_s, RMs_s, bI_t, bI_f, e]
theorem msG_letters (h : gH) (a : Nat) (R : RMs) : g_gA (msP h a R) a 3 9 = some (a + 1) := by simp [RCh_s, RKp_s, RMs_s, bI_t, bI_f, g_gA, g_fd, msP, msO]
theorem msE_letters (h : gH) (a : Nat) (R : RMs) : (msP h a R).2 (a + 1) = some (.inl (0, 24, .inl R.letters)) := by simp [RCh_s, RKp_s, RMs_s, bI_t, bI_f, msP, arrC]
theorem msS_letters (h : gH) (a : Nat) (R : RMs) (f : Nat → Int32) : g_set (msP h a R) (a + 1) (.inl (0, 24, .inl f)) = msP h a (R.s_letters f) := by
  refine Prod.ext rfl (funext fun q => ?_)
  simp only [RCh_s, RKp_s, RMs_s, g_set, msP, arrC, msO]
  by_cases e : q = a + 1
  · subst e; simp [RCh_s, RKp_s, RMs_s, bI_t, bI_f]
  · simp [RCh_s, RKp_s, RMs_s, bI_t, bI_f, e]
theorem msV_letters (h : gH) (a : Nat) (R : RMs) (i : Int32) : f_X7_valueAt (msP h a R) (a + 1) i = some (rowAt 24 R.letters i) := valueAt_of (msE_letters h a R) (by decide) i
theorem msW_letters (h : gH) (a : Nat) (R : RMs) (i v : Int32) : f_X7_setAt (msP h a R) (a + 1) i v = some (msP h a (R.s_letters (rowSet 24 R.letters i v))) := by
  rw [setAt_gen (msE_letters h a R) (by decide), msS_letters]
  unfold rowSet
  split <;> rfl
theorem msG_log (h : gH) (a : Nat) (R : RMs) : g_gA (msP h a R) a 3 10 = some (a + 2) := by simp [RCh_s, RKp_s, RMs_s, bI_t, bI_f, g_gA, g_fd, msP, msO]
theorem msE_log (h : gH) (a : Nat) (R : RMs) : (msP h a R).2 (a + 2) = some (.inl (0, 24, .inl R.log)) := by simp [RCh_s, RKp_s, RMs_s, bI_t, bI_f, msP, arrC]
theorem msS_log (h : gH) (a : Nat) (R : RMs) (f : Nat → Int32) : g_set (msP h a R) (a + 2) (.inl (0, 24, .inl f)) = msP h a (R.s_log f) := by
  refine Prod.ext rfl (funext fun q => ?_)
  simp only [RCh_s, RKp_s, RMs_s, g_set, msP, arrC, msO]
  by_cases e : q = a + 2
  · subst e; simp [RCh_s, RKp_s, RMs_s, bI_t, bI_f]
  · simp [RCh_s, RKp_s, RMs_s, bI_t, bI_f, e]
theorem msV_log (h : gH) (a : Nat) (R : RMs) (i : Int32) : f_X7_valueAt (msP h a R) (a + 2) i = some (rowAt 24 R.log i) := valueAt_of (msE_log h a R) (by decide) i
theorem msW_log (h : gH) (a : Nat) (R : RMs) (i v : Int32) : f_X7_setAt (msP h a R) (a + 2) i v = some (msP h a (R.s_log (rowSet 24 R.log i v))) := by
  rw [setAt_gen (msE_log h a R) (by decide), msS_log]
  unfold rowSet
  split <;> rfl
theorem msG_fst (h : gH) (a : Nat) (R : RMs) : g_gA (msP h a R) a 3 11 = some (a + 3) := by simp [RCh_s, RKp_s, RMs_s, bI_t, bI_f, g_gA, g_fd, msP, msO]
theorem msE_fst (h : gH) (a : Nat) (R : RMs) : (msP h a R).2 (a + 3) = some (.inl (0, 24, .inl R.fst)) := by simp [RCh_s, RKp_s, RMs_s, bI_t, bI_f, msP, arrC]
theorem msS_fst (h : gH) (a : Nat) (R : RMs) (f : Nat → Int32) : g_set (msP h a R) (a + 3) (.inl (0, 24, .inl f)) = msP h a (R.s_fst f) := by
  refine Prod.ext rfl (funext fun q => ?_)
  simp only [RCh_s, RKp_s, RMs_s, g_set, msP, arrC, msO]
  by_cases e : q = a + 3
  · subst e; simp [RCh_s, RKp_s, RMs_s, bI_t, bI_f]
  · simp [RCh_s, RKp_s, RMs_s, bI_t, bI_f, e]
theorem msV_fst (h : gH) (a : Nat) (R : RMs) (i : Int32) : f_X7_valueAt (msP h a R) (a + 3) i = some (rowAt 24 R.fst i) := valueAt_of (msE_fst h a R) (by decide) i
theorem msW_fst (h : gH) (a : Nat) (R : RMs) (i v : Int32) : f_X7_setAt (msP h a R) (a + 3) i v = some (msP h a (R.s_fst (rowSet 24 R.fst i v))) := by
  rw [setAt_gen (msE_fst h a R) (by decide), msS_fst]
  unfold rowSet
  split <;> rfl
theorem msG_tries (h : gH) (a : Nat) (R : RMs) : g_gA (msP h a R) a 3 12 = some (a + 4) := by simp [RCh_s, RKp_s, RMs_s, bI_t, bI_f, g_gA, g_fd, msP, msO]
theorem msE_tries (h : gH) (a : Nat) (R : RMs) : (msP h a R).2 (a + 4) = some (.inl (0, 24, .inl R.tries)) := by simp [RCh_s, RKp_s, RMs_s, bI_t, bI_f, msP, arrC]
theorem msS_tries (h : gH) (a : Nat) (R : RMs) (f : Nat → Int32) : g_set (msP h a R) (a + 4) (.inl (0, 24, .inl f)) = msP h a (R.s_tries f) := by
  refine Prod.ext rfl (funext fun q => ?_)
  simp only [RCh_s, RKp_s, RMs_s, g_set, msP, arrC, msO]
  by_cases e : q = a + 4
  · subst e; simp [RCh_s, RKp_s, RMs_s, bI_t, bI_f]
  · simp [RCh_s, RKp_s, RMs_s, bI_t, bI_f, e]
theorem msV_tries (h : gH) (a : Nat) (R : RMs) (i : Int32) : f_X7_valueAt (msP h a R) (a + 4) i = some (rowAt 24 R.tries i) := valueAt_of (msE_tries h a R) (by decide) i
theorem msW_tries (h : gH) (a : Nat) (R : RMs) (i v : Int32) : f_X7_setAt (msP h a R) (a + 4) i v = some (msP h a (R.s_tries (rowSet 24 R.tries i v))) := by
  rw [setAt_gen (msE_tries h a R) (by decide), msS_tries]
  unfold rowSet
  split <;> rfl
def RMi : Type := Nat × (Nat → Int32) × (Nat → Int32) × (Nat → Int32)
def RMi.mk (told : Nat) (firsts : Nat → Int32) (lasts : Nat → Int32) (levels : Nat → Int32) : RMi := (told, firsts, lasts, levels)
def RMi.told (R : RMi) : Nat := R.1
def RMi.firsts (R : RMi) : Nat → Int32 := R.2.1
def RMi.lasts (R : RMi) : Nat → Int32 := R.2.2.1
def RMi.levels (R : RMi) : Nat → Int32 := R.2.2.2
def RMi.s_told (R : RMi) (v : Nat) : RMi := RMi.mk v R.firsts R.lasts R.levels
theorem RMi_u_told (R : RMi) (v : Nat) : R.s_told v = RMi.mk v R.firsts R.lasts R.levels := rfl
def RMi.s_firsts (R : RMi) (v : Nat → Int32) : RMi := RMi.mk R.told v R.lasts R.levels
theorem RMi_u_firsts (R : RMi) (v : Nat → Int32) : R.s_firsts v = RMi.mk R.told v R.lasts R.levels := rfl
def RMi.s_lasts (R : RMi) (v : Nat → Int32) : RMi := RMi.mk R.told R.firsts v R.levels
theorem RMi_u_lasts (R : RMi) (v : Nat → Int32) : R.s_lasts v = RMi.mk R.told R.firsts v R.levels := rfl
def RMi.s_levels (R : RMi) (v : Nat → Int32) : RMi := RMi.mk R.told R.firsts R.lasts v
theorem RMi_u_levels (R : RMi) (v : Nat → Int32) : R.s_levels v = RMi.mk R.told R.firsts R.lasts v := rfl
theorem RMi_told (told : Nat) (firsts : Nat → Int32) (lasts : Nat → Int32) (levels : Nat → Int32) : (RMi.mk told firsts lasts levels).told = told := rfl
theorem RMi_firsts (told : Nat) (firsts : Nat → Int32) (lasts : Nat → Int32) (levels : Nat → Int32) : (RMi.mk told firsts lasts levels).firsts = firsts := rfl
theorem RMi_lasts (told : Nat) (firsts : Nat → Int32) (lasts : Nat → Int32) (levels : Nat → Int32) : (RMi.mk told firsts lasts levels).lasts = lasts := rfl
theorem RMi_levels (told : Nat) (firsts : Nat → Int32) (lasts : Nat → Int32) (levels : Nat → Int32) : (RMi.mk told firsts lasts levels).levels = levels := rfl
theorem RMi_eta (R : RMi) : RMi.mk R.told R.firsts R.lasts R.levels = R := rfl
theorem RMi_s : (∀ (told : Nat) (firsts : Nat → Int32) (lasts : Nat → Int32) (levels : Nat → Int32), (RMi.mk told firsts lasts levels).told = told) ∧ (∀ (told : Nat) (firsts : Nat → Int32) (lasts : Nat → Int32) (levels : Nat → Int32), (RMi.mk told firsts lasts levels).firsts = firsts) ∧ (∀ (told : Nat) (firsts : Nat → Int32) (lasts : Nat → Int32) (levels : Nat → Int32), (RMi.mk told firsts lasts levels).lasts = lasts) ∧ (∀ (told : Nat) (firsts : Nat → Int32) (lasts : Nat → Int32) (levels : Nat → Int32), (RMi.mk told firsts lasts levels).levels = levels) ∧ (∀ (R : RMi) (v : Nat), R.s_told v = RMi.mk v R.firsts R.lasts R.levels) ∧ (∀ (R : RMi) (v : Nat → Int32), R.s_firsts v = RMi.mk R.told v R.lasts R.levels) ∧ (∀ (R : RMi) (v : Nat → Int32), R.s_lasts v = RMi.mk R.told R.firsts v R.levels) ∧ (∀ (R : RMi) (v : Nat → Int32), R.s_levels v = RMi.mk R.told R.firsts R.lasts v) ∧ (∀ R : RMi, RMi.mk R.told R.firsts R.lasts R.levels = R) := ⟨RMi_told, RMi_firsts, RMi_lasts, RMi_levels, RMi_u_told, RMi_u_firsts, RMi_u_lasts, RMi_u_levels, RMi_eta⟩
def miO (a : Nat) (R : RMi) : gC := .inr (4, [.int (nI R.told), .ref (a + 1), .ref (a + 2), .ref (a + 3)])
def miC (a : Nat) (R : RMi) : Nat → Option gC
  | 0 => some (miO a R)
  | 1 => some (arrC 12 R.firsts)
  | 2 => some (arrC 12 R.lasts)
  | 3 => some (arrC 12 R.levels)
  | _ => none
def miIs (h : gH) (a : Nat) (R : RMi) : Prop := h.2 a = some (miO a R) ∧ h.2 (a + 1) = some (arrC 12 R.firsts) ∧ h.2 (a + 2) = some (arrC 12 R.lasts) ∧ h.2 (a + 3) = some (arrC 12 R.levels)
def miP (h : gH) (a : Nat) (R : RMi) : gH := (h.1, fun q => if q = a then some (miO a R) else if q = a + 1 then some (arrC 12 R.firsts) else if q = a + 2 then some (arrC 12 R.lasts) else if q = a + 3 then some (arrC 12 R.levels) else h.2 q)
theorem miP_is (h : gH) (a : Nat) (R : RMi) : miIs (miP h a R) a R := by simp [RCh_s, RKp_s, RMs_s, RMi_s, bI_t, bI_f, miIs, miP]
theorem miP_self {h : gH} {a : Nat} {R : RMi} (H : miIs h a R) : miP h a R = h := by
  obtain ⟨e0, e1, e2, e3⟩ := H
  refine Prod.ext rfl (funext fun q => ?_)
  simp only [RCh_s, RKp_s, RMs_s, RMi_s, miP]
  repeat (split; · rename_i e; subst e; simp [RCh_s, RKp_s, RMs_s, RMi_s, bI_t, bI_f, *])
  rfl
theorem miP_P (h : gH) (a : Nat) (R R' : RMi) : miP (miP h a R) a R' = miP h a R' := by
  refine Prod.ext rfl (funext fun q => ?_)
  simp only [RCh_s, RKp_s, RMs_s, RMi_s, miP]
  repeat (split; · rfl)
  rfl
theorem miP_g (h : gH) (a : Nat) (R : RMi) : g_is (miP h a R) a 4 = true := by simp [RCh_s, RKp_s, RMs_s, RMi_s, bI_t, bI_f, g_is, miP, miO]
theorem miG_told (h : gH) (a : Nat) (R : RMi) : g_gI (miP h a R) a 4 0 = some (nI R.told) := by simp [RCh_s, RKp_s, RMs_s, RMi_s, bI_t, bI_f, g_gI, g_fd, miP, miO]
theorem miT_told (h : gH) (a : Nat) (R : RMi) (v : Nat) : g_put (miP h a R) a 4 0 (.int (nI v)) = some (miP h a (R.s_told v)) := by
  have e : (miP h a R).2 a = some (miO a R) := by simp [RCh_s, RKp_s, RMs_s, RMi_s, bI_t, bI_f, miP]
  unfold miO at e
  rw [put_of e (by simp [RCh_s, RKp_s, RMs_s, RMi_s, bI_t, bI_f])]
  refine congrArg some (Prod.ext rfl (funext fun q => ?_))
  simp only [RCh_s, RKp_s, RMs_s, RMi_s, g_set, miP]
  by_cases e : q = a
  · subst e; simp [RCh_s, RKp_s, RMs_s, RMi_s, bI_t, bI_f, miO]
  · simp [RCh_s, RKp_s, RMs_s, RMi_s, bI_t, bI_f, e]
theorem miG_firsts (h : gH) (a : Nat) (R : RMi) : g_gA (miP h a R) a 4 1 = some (a + 1) := by simp [RCh_s, RKp_s, RMs_s, RMi_s, bI_t, bI_f, g_gA, g_fd, miP, miO]
theorem miE_firsts (h : gH) (a : Nat) (R : RMi) : (miP h a R).2 (a + 1) = some (.inl (0, 12, .inl R.firsts)) := by simp [RCh_s, RKp_s, RMs_s, RMi_s, bI_t, bI_f, miP, arrC]
theorem miS_firsts (h : gH) (a : Nat) (R : RMi) (f : Nat → Int32) : g_set (miP h a R) (a + 1) (.inl (0, 12, .inl f)) = miP h a (R.s_firsts f) := by
  refine Prod.ext rfl (funext fun q => ?_)
  simp only [RCh_s, RKp_s, RMs_s, RMi_s, g_set, miP, arrC, miO]
  by_cases e : q = a + 1
  · subst e; simp [RCh_s, RKp_s, RMs_s, RMi_s, bI_t, bI_f]
  · simp [RCh_s, RKp_s, RMs_s, RMi_s, bI_t, bI_f, e]
theorem miV_firsts (h : gH) (a : Nat) (R : RMi) (i : Int32) : f_X7_valueAt (miP h a R) (a + 1) i = some (rowAt 12 R.firsts i) := valueAt_of (miE_firsts h a R) (by decide) i
theorem miW_firsts (h : gH) (a : Nat) (R : RMi) (i v : Int32) : f_X7_setAt (miP h a R) (a + 1) i v = some (miP h a (R.s_firsts (rowSet 12 R.firsts i v))) := by
  rw [setAt_gen (miE_firsts h a R) (by decide), miS_firsts]
  unfold rowSet
  split <;> rfl
theorem miG_lasts (h : gH) (a : Nat) (R : RMi) : g_gA (miP h a R) a 4 2 = some (a + 2) := by simp [RCh_s, RKp_s, RMs_s, RMi_s, bI_t, bI_f, g_gA, g_fd, miP, miO]
theorem miE_lasts (h : gH) (a : Nat) (R : RMi) : (miP h a R).2 (a + 2) = some (.inl (0, 12, .inl R.lasts)) := by simp [RCh_s, RKp_s, RMs_s, RMi_s, bI_t, bI_f, miP, arrC]
theorem miS_lasts (h : gH) (a : Nat) (R : RMi) (f : Nat → Int32) : g_set (miP h a R) (a + 2) (.inl (0, 12, .inl f)) = miP h a (R.s_lasts f) := by
  refine Prod.ext rfl (funext fun q => ?_)
  simp only [RCh_s, RKp_s, RMs_s, RMi_s, g_set, miP, arrC, miO]
  by_cases e : q = a + 2
  · subst e; simp [RCh_s, RKp_s, RMs_s, RMi_s, bI_t, bI_f]
  · simp [RCh_s, RKp_s, RMs_s, RMi_s, bI_t, bI_f, e]
theorem miV_lasts (h : gH) (a : Nat) (R : RMi) (i : Int32) : f_X7_valueAt (miP h a R) (a + 2) i = some (rowAt 12 R.lasts i) := valueAt_of (miE_lasts h a R) (by decide) i
theorem miW_lasts (h : gH) (a : Nat) (R : RMi) (i v : Int32) : f_X7_setAt (miP h a R) (a + 2) i v = some (miP h a (R.s_lasts (rowSet 12 R.lasts i v))) := by
  rw [setAt_gen (miE_lasts h a R) (by decide), miS_lasts]
  unfold rowSet
  split <;> rfl
theorem miG_levels (h : gH) (a : Nat) (R : RMi) : g_gA (miP h a R) a 4 3 = some (a + 3) := by simp [RCh_s, RKp_s, RMs_s, RMi_s, bI_t, bI_f, g_gA, g_fd, miP, miO]
theorem miE_levels (h : gH) (a : Nat) (R : RMi) : (miP h a R).2 (a + 3) = some (.inl (0, 12, .inl R.levels)) := by simp [RCh_s, RKp_s, RMs_s, RMi_s, bI_t, bI_f, miP, arrC]
theorem miS_levels (h : gH) (a : Nat) (R : RMi) (f : Nat → Int32) : g_set (miP h a R) (a + 3) (.inl (0, 12, .inl f)) = miP h a (R.s_levels f) := by
  refine Prod.ext rfl (funext fun q => ?_)
  simp only [RCh_s, RKp_s, RMs_s, RMi_s, g_set, miP, arrC, miO]
  by_cases e : q = a + 3
  · subst e; simp [RCh_s, RKp_s, RMs_s, RMi_s, bI_t, bI_f]
  · simp [RCh_s, RKp_s, RMs_s, RMi_s, bI_t, bI_f, e]
theorem miV_levels (h : gH) (a : Nat) (R : RMi) (i : Int32) : f_X7_valueAt (miP h a R) (a + 3) i = some (rowAt 12 R.levels i) := valueAt_of (miE_levels h a R) (by decide) i
theorem miW_levels (h : gH) (a : Nat) (R : RMi) (i v : Int32) : f_X7_setAt (miP h a R) (a + 3) i v = some (miP h a (R.s_levels (rowSet 12 R.levels i v))) := by
  rw [setAt_gen (miE_levels h a R) (by decide), miS_levels]
  unfold rowSet
  split <;> rfl
theorem SIM_m40 : (∀ (h : gH) (a : Nat) (R R' : RCh), chP (chP h a R) a R' = chP h a R') ∧ (∀ (h : gH) (a : Nat) (R : RCh), g_is (chP h a R) a 0 = true) ∧ (∀ (h : gH) (a : Nat) (R : RCh), g_gI (chP h a R) a 0 0 = some (R.power)) ∧ (∀ (h : gH) (a : Nat) (R : RCh) (v : Int32), g_put (chP h a R) a 0 0 (.int (v)) = some (chP h a (R.s_power v))) ∧ (∀ (h : gH) (a : Nat) (R : RCh), g_gI (chP h a R) a 0 1 = some (R.opening)) ∧ (∀ (h : gH) (a : Nat) (R : RCh) (v : Int32), g_put (chP h a R) a 0 1 (.int (v)) = some (chP h a (R.s_opening v))) ∧ (∀ (h : gH) (a : Nat) (R : RCh), g_gI (chP h a R) a 0 2 = some (R.closing)) ∧ (∀ (h : gH) (a : Nat) (R : RCh) (v : Int32), g_put (chP h a R) a 0 2 (.int (v)) = some (chP h a (R.s_closing v))) ∧ (∀ (h : gH) (a : Nat) (R : RCh), g_gI (chP h a R) a 0 3 = some (R.frame)) ∧ (∀ (h : gH) (a : Nat) (R : RCh) (v : Int32), g_put (chP h a R) a 0 3 (.int (v)) = some (chP h a (R.s_frame v))) ∧ (∀ (h : gH) (a : Nat) (R : RCh), g_gI (chP h a R) a 0 4 = some (R.step)) ∧ (∀ (h : gH) (a : Nat) (R : RCh) (v : Int32), g_put (chP h a R) a 0 4 (.int (v)) = some (chP h a (R.s_step v))) ∧ (∀ (h : gH) (a : Nat) (R : RCh), g_gI (chP h a R) a 0 5 = some (R.number)) ∧ (∀ (h : gH) (a : Nat) (R : RCh) (v : Int32), g_put (chP h a R) a 0 5 (.int (v)) = some (chP h a (R.s_number v))) ∧ (∀ (h : gH) (a : Nat) (R : RCh), g_gI (chP h a R) a 0 6 = some (nI R.n)) ∧ (∀ (h : gH) (a : Nat) (R : RCh) (v : Nat), g_put (chP h a R) a 0 6 (.int (nI v)) = some (chP h a (R.s_n v))) ∧ (∀ (h : gH) (a : Nat) (R : RCh), g_gA (chP h a R) a 0 7 = some (a + 1)) ∧ (∀ (h : gH) (a : Nat) (R : RCh) (i : Int32), f_X7_valueAt (chP h a R) (a + 1) i = some (rowAt 8 R.heard i)) ∧ (∀ (h : gH) (a : Nat) (R : RCh) (i v : Int32), f_X7_setAt (chP h a R) (a + 1) i v = some (chP h a (R.s_heard (rowSet 8 R.heard i v)))) ∧ (∀ (h : gH) (a : Nat) (R : RCh), g_gI (chP h a R) a 0 8 = some (bI R.lost)) ∧ (∀ (h : gH) (a : Nat) (R : RCh) (v : Bool), g_put (chP h a R) a 0 8 (.int (bI v)) = some (chP h a (R.s_lost v))) ∧ (∀ (h : gH) (a : Nat) (R : RCh), g_gI (chP h a R) a 0 9 = some (bI R.good)) ∧ (∀ (h : gH) (a : Nat) (R : RCh) (v : Bool), g_put (chP h a R) a 0 9 (.int (bI v)) = some (chP h a (R.s_good v))) ∧ (∀ (h : gH) (a : Nat) (R R' : RKp), kpP (kpP h a R) a R' = kpP h a R') ∧ (∀ (h : gH) (a : Nat) (R : RKp), g_is (kpP h a R) a 2 = true) ∧ (∀ (h : gH) (a : Nat) (R : RKp), g_gI (kpP h a R) a 2 0 = some (nI R.told)) ∧ (∀ (h : gH) (a : Nat) (R : RKp) (v : Nat), g_put (kpP h a R) a 2 0 (.int (nI v)) = some (kpP h a (R.s_told v))) ∧ (∀ (h : gH) (a : Nat) (R : RKp), g_gA (kpP h a R) a 2 1 = some (a + 1)) ∧ (∀ (h : gH) (a : Nat) (R : RKp) (i : Int32), f_X7_valueAt (kpP h a R) (a + 1) i = some (rowAt 8 R.ticks i)) ∧ (∀ (h : gH) (a : Nat) (R : RKp) (i v : Int32), f_X7_setAt (kpP h a R) (a + 1) i v = some (kpP h a (R.s_ticks (rowSet 8 R.ticks i v)))) ∧ (∀ (h : gH) (a : Nat) (R : RKp), g_gA (kpP h a R) a 2 2 = some (a + 2)) ∧ (∀ (h : gH) (a : Nat) (R : RKp) (i : Int32), f_X7_valueAt (kpP h a R) (a + 2) i = some (rowAt 8 R.keys i)) ∧ (∀ (h : gH) (a : Nat) (R : RKp) (i v : Int32), f_X7_setAt (kpP h a R) (a + 2) i v = some (kpP h a (R.s_keys (rowSet 8 R.keys i v)))) ∧ (∀ (h : gH) (a : Nat) (R R' : RMs), msP (msP h a R) a R' = msP h a R') ∧ (∀ (h : gH) (a : Nat) (R : RMs), g_is (msP h a R) a 3 = true) ∧ (∀ (h : gH) (a : Nat) (R : RMs), g_gI (msP h a R) a 3 0 = some (R.sender)) ∧ (∀ (h : gH) (a : Nat) (R : RMs) (v : Int32), g_put (msP h a R) a 3 0 (.int (v)) = some (msP h a (R.s_sender v))) ∧ (∀ (h : gH) (a : Nat) (R : RMs), g_gI (msP h a R) a 3 1 = some (R.urgency)) ∧ (∀ (h : gH) (a : Nat) (R : RMs) (v : Int32), g_put (msP h a R) a 3 1 (.int (v)) = some (msP h a (R.s_urgency v))) ∧ (∀ (h : gH) (a : Nat) (R : RMs), g_gI (msP h a R) a 3 2 = some (nI R.len)) ∧ (∀ (h : gH) (a : Nat) (R : RMs) (v : Nat), g_put (msP h a R) a 3 2 (.int (nI v)) = some (msP h a (R.s_len v))) ∧ (∀ (h : gH) (a : Nat) (R : RMs), g_gI (msP h a R) a 3 3 = some (nI R.fsize)) ∧ (∀ (h : gH) (a : Nat) (R : RMs) (v : Nat), g_put (msP h a R) a 3 3 (.int (nI v)) = some (msP h a (R.s_fsize v))) ∧ (∀ (h : gH) (a : Nat) (R : RMs), g_gI (msP h a R) a 3 4 = some (nI R.frames)) ∧ (∀ (h : gH) (a : Nat) (R : RMs) (v : Nat), g_put (msP h a R) a 3 4 (.int (nI v)) = some (msP h a (R.s_frames v))) ∧ (∀ (h : gH) (a : Nat) (R : RMs), g_gI (msP h a R) a 3 5 = some (R.phase)) ∧ (∀ (h : gH) (a : Nat) (R : RMs) (v : Int32), g_put (msP h a R) a 3 5 (.int (v)) = some (msP h a (R.s_phase v))) ∧ (∀ (h : gH) (a : Nat) (R : RMs), g_gI (msP h a R) a 3 6 = some (R.began)) ∧ (∀ (h : gH) (a : Nat) (R : RMs) (v : Int32), g_put (msP h a R) a 3 6 (.int (v)) = some (msP h a (R.s_began v))) ∧ (∀ (h : gH) (a : Nat) (R : RMs), g_gI (msP h a R) a 3 7 = some (R.ended)) ∧ (∀ (h : gH) (a : Nat) (R : RMs) (v : Int32), g_put (msP h a R) a 3 7 (.int (v)) = some (msP h a (R.s_ended v))) ∧ (∀ (h : gH) (a : Nat) (R : RMs), g_gI (msP h a R) a 3 8 = some (R.unf)) ∧ (∀ (h : gH) (a : Nat) (R : RMs) (v : Int32), g_put (msP h a R) a 3 8 (.int (v)) = some (msP h a (R.s_unf v))) ∧ (∀ (h : gH) (a : Nat) (R : RMs), g_gA (msP h a R) a 3 9 = some (a + 1)) ∧ (∀ (h : gH) (a : Nat) (R : RMs) (i : Int32), f_X7_valueAt (msP h a R) (a + 1) i = some (rowAt 24 R.letters i)) ∧ (∀ (h : gH) (a : Nat) (R : RMs) (i v : Int32), f_X7_setAt (msP h a R) (a + 1) i v = some (msP h a (R.s_letters (rowSet 24 R.letters i v)))) ∧ (∀ (h : gH) (a : Nat) (R : RMs), g_gA (msP h a R) a 3 10 = some (a + 2)) ∧ (∀ (h : gH) (a : Nat) (R : RMs) (i : Int32), f_X7_valueAt (msP h a R) (a + 2) i = some (rowAt 24 R.log i)) ∧ (∀ (h : gH) (a : Nat) (R : RMs) (i v : Int32), f_X7_setAt (msP h a R) (a + 2) i v = some (msP h a (R.s_log (rowSet 24 R.log i v)))) ∧ (∀ (h : gH) (a : Nat) (R : RMs), g_gA (msP h a R) a 3 11 = some (a + 3)) ∧ (∀ (h : gH) (a : Nat) (R : RMs) (i : Int32), f_X7_valueAt (msP h a R) (a + 3) i = some (rowAt 24 R.fst i)) ∧ (∀ (h : gH) (a : Nat) (R : RMs) (i v : Int32), f_X7_setAt (msP h a R) (a + 3) i v = some (msP h a (R.s_fst (rowSet 24 R.fst i v)))) ∧ (∀ (h : gH) (a : Nat) (R : RMs), g_gA (msP h a R) a 3 12 = some (a + 4)) ∧ (∀ (h : gH) (a : Nat) (R : RMs) (i : Int32), f_X7_valueAt (msP h a R) (a + 4) i = some (rowAt 24 R.tries i)) ∧ (∀ (h : gH) (a : Nat) (R : RMs) (i v : Int32), f_X7_setAt (msP h a R) (a + 4) i v = some (msP h a (R.s_tries (rowSet 24 R.tries i v)))) ∧ (∀ (h : gH) (a : Nat) (R R' : RMi), miP (miP h a R) a R' = miP h a R') ∧ (∀ (h : gH) (a : Nat) (R : RMi), g_is (miP h a R) a 4 = true) ∧ (∀ (h : gH) (a : Nat) (R : RMi), g_gI (miP h a R) a 4 0 = some (nI R.told)) ∧ (∀ (h : gH) (a : Nat) (R : RMi) (v : Nat), g_put (miP h a R) a 4 0 (.int (nI v)) = some (miP h a (R.s_told v))) ∧ (∀ (h : gH) (a : Nat) (R : RMi), g_gA (miP h a R) a 4 1 = some (a + 1)) ∧ (∀ (h : gH) (a : Nat) (R : RMi) (i : Int32), f_X7_valueAt (miP h a R) (a + 1) i = some (rowAt 12 R.firsts i)) ∧ (∀ (h : gH) (a : Nat) (R : RMi) (i v : Int32), f_X7_setAt (miP h a R) (a + 1) i v = some (miP h a (R.s_firsts (rowSet 12 R.firsts i v)))) ∧ (∀ (h : gH) (a : Nat) (R : RMi), g_gA (miP h a R) a 4 2 = some (a + 2)) ∧ (∀ (h : gH) (a : Nat) (R : RMi) (i : Int32), f_X7_valueAt (miP h a R) (a + 2) i = some (rowAt 12 R.lasts i)) ∧ (∀ (h : gH) (a : Nat) (R : RMi) (i v : Int32), f_X7_setAt (miP h a R) (a + 2) i v = some (miP h a (R.s_lasts (rowSet 12 R.lasts i v)))) ∧ (∀ (h : gH) (a : Nat) (R : RMi), g_gA (miP h a R) a 4 3 = some (a + 3)) ∧ (∀ (h : gH) (a : Nat) (R : RMi) (i : Int32), f_X7_valueAt (miP h a R) (a + 3) i = some (rowAt 12 R.levels i)) ∧ (∀ (h : gH) (a : Nat) (R : RMi) (i v : Int32), f_X7_setAt (miP h a R) (a + 3) i v = some (miP h a (R.s_levels (rowSet 12 R.levels i v)))) := ⟨chP_P, chP_g, chG_power, chT_power, chG_opening, chT_opening, chG_closing, chT_closing, chG_frame, chT_frame, chG_step, chT_step, chG_number, chT_number, chG_n, chT_n, chG_heard, chV_heard, chW_heard, chG_lost, chT_lost, chG_good, chT_good, kpP_P, kpP_g, kpG_told, kpT_told, kpG_ticks, kpV_ticks, kpW_ticks, kpG_keys, kpV_keys, kpW_keys, msP_P, msP_g, msG_sender, msT_sender, msG_urgency, msT_urgency, msG_len, msT_len, msG_fsize, msT_fsize, msG_frames, msT_frames, msG_phase, msT_phase, msG_began, msT_began, msG_ended, msT_ended, msG_unf, msT_unf, msG_letters, msV_letters, msW_letters, msG_log, msV_log, msW_log, msG_fst, msV_fst, msW_fst, msG_tries, msV_tries, msW_tries, miP_P, miP_g, miG_told, miT_told, miG_firsts, miV_firsts, miW_firsts, miG_lasts, miV_lasts, miW_lasts, miG_levels, miV_levels, miW_levels⟩
