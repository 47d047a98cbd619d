/-! the object of the class, with its two worlds and its ring of worlds, as one record -/
theorem nI_eq0 {n : Nat} (h : n < 2 ^ 31) : nI n = 0 ↔ n = 0 := by
  rw [show (0 : Int32) = nI 0 from nI_0.symm]
  exact (nI_eq h (by decide))
def RFc : Type := (Nat → Int32) × Nat × Int32 × RW × RW × Nat × Nat × (Nat → RW)
def RFc.mk (B : Nat → Int32) (n : Nat) (err : Int32) (now : RW) (tr : RW) (pl : Nat) (ct : Nat) (K : Nat → RW) : RFc := (B, n, err, now, tr, pl, ct, K)
def RFc.B (R : RFc) : Nat → Int32 := R.1
def RFc.n (R : RFc) : Nat := R.2.1
def RFc.err (R : RFc) : Int32 := R.2.2.1
def RFc.now (R : RFc) : RW := R.2.2.2.1
def RFc.tr (R : RFc) : RW := R.2.2.2.2.1
def RFc.pl (R : RFc) : Nat := R.2.2.2.2.2.1
def RFc.ct (R : RFc) : Nat := R.2.2.2.2.2.2.1
def RFc.K (R : RFc) : Nat → RW := R.2.2.2.2.2.2.2
def RFc.s_B (R : RFc) (v : Nat → Int32) : RFc := RFc.mk v R.n R.err R.now R.tr R.pl R.ct R.K
theorem RFc_u_B (R : RFc) (v : Nat → Int32) : R.s_B v = RFc.mk v R.n R.err R.now R.tr R.pl R.ct R.K := rfl
def RFc.s_n (R : RFc) (v : Nat) : RFc := RFc.mk R.B v R.err R.now R.tr R.pl R.ct R.K
theorem RFc_u_n (R : RFc) (v : Nat) : R.s_n v = RFc.mk R.B v R.err R.now R.tr R.pl R.ct R.K := rfl
def RFc.s_err (R : RFc) (v : Int32) : RFc := RFc.mk R.B R.n v R.now R.tr R.pl R.ct R.K
theorem RFc_u_err (R : RFc) (v : Int32) : R.s_err v = RFc.mk R.B R.n v R.now R.tr R.pl R.ct R.K := rfl
def RFc.s_now (R : RFc) (v : RW) : RFc := RFc.mk R.B R.n R.err v R.tr R.pl R.ct R.K
theorem RFc_u_now (R : RFc) (v : RW) : R.s_now v = RFc.mk R.B R.n R.err v R.tr R.pl R.ct R.K := rfl
def RFc.s_tr (R : RFc) (v : RW) : RFc := RFc.mk R.B R.n R.err R.now v R.pl R.ct R.K
theorem RFc_u_tr (R : RFc) (v : RW) : R.s_tr v = RFc.mk R.B R.n R.err R.now v R.pl R.ct R.K := rfl
def RFc.s_pl (R : RFc) (v : Nat) : RFc := RFc.mk R.B R.n R.err R.now R.tr v R.ct R.K
theorem RFc_u_pl (R : RFc) (v : Nat) : R.s_pl v = RFc.mk R.B R.n R.err R.now R.tr v R.ct R.K := rfl
def RFc.s_ct (R : RFc) (v : Nat) : RFc := RFc.mk R.B R.n R.err R.now R.tr R.pl v R.K
theorem RFc_u_ct (R : RFc) (v : Nat) : R.s_ct v = RFc.mk R.B R.n R.err R.now R.tr R.pl v R.K := rfl
def RFc.s_K (R : RFc) (v : Nat → RW) : RFc := RFc.mk R.B R.n R.err R.now R.tr R.pl R.ct v
theorem RFc_u_K (R : RFc) (v : Nat → RW) : R.s_K v = RFc.mk R.B R.n R.err R.now R.tr R.pl R.ct v := rfl
theorem RFc_B (B : Nat → Int32) (n : Nat) (err : Int32) (now : RW) (tr : RW) (pl : Nat) (ct : Nat) (K : Nat → RW) : (RFc.mk B n err now tr pl ct K).B = B := rfl
theorem RFc_n (B : Nat → Int32) (n : Nat) (err : Int32) (now : RW) (tr : RW) (pl : Nat) (ct : Nat) (K : Nat → RW) : (RFc.mk B n err now tr pl ct K).n = n := rfl
theorem RFc_err (B : Nat → Int32) (n : Nat) (err : Int32) (now : RW) (tr : RW) (pl : Nat) (ct : Nat) (K : Nat → RW) : (RFc.mk B n err now tr pl ct K).err = err := rfl
theorem RFc_now (B : Nat → Int32) (n : Nat) (err : Int32) (now : RW) (tr : RW) (pl : Nat) (ct : Nat) (K : Nat → RW) : (RFc.mk B n err now tr pl ct K).now = now := rfl
theorem RFc_tr (B : Nat → Int32) (n : Nat) (err : Int32) (now : RW) (tr : RW) (pl : Nat) (ct : Nat) (K : Nat → RW) : (RFc.mk B n err now tr pl ct K).tr = tr := rfl
theorem RFc_pl (B : Nat → Int32) (n : Nat) (err : Int32) (now : RW) (tr : RW) (pl : Nat) (ct : Nat) (K : Nat → RW) : (RFc.mk B n err now tr pl ct K).pl = pl := rfl
theorem RFc_ct (B : Nat → Int32) (n : Nat) (err : Int32) (now : RW) (tr : RW) (pl : Nat) (ct : Nat) (K : Nat → RW) : (RFc.mk B n err now tr pl ct K).ct = ct := rfl
theorem RFc_K (B : Nat → Int32) (n : Nat) (err : Int32) (now : RW) (tr : RW) (pl : Nat) (ct : Nat) (K : Nat → RW) : (RFc.mk B n err now tr pl ct K).K = K := rfl
theorem RFc_eta (R : RFc) : RFc.mk R.B R.n R.err R.now R.tr R.pl R.ct R.K = R := rfl
theorem RFc_s : (∀ (B : Nat → Int32) (n : Nat) (err : Int32) (now : RW) (tr : RW) (pl : Nat) (ct : Nat) (K : Nat → RW), (RFc.mk B n err now tr pl ct K).B = B) ∧ (∀ (B : Nat → Int32) (n : Nat) (err : Int32) (now : RW) (tr : RW) (pl : Nat) (ct : Nat) (K : Nat → RW), (RFc.mk B n err now tr pl ct K).n = n) ∧ (∀ (B : Nat → Int32) (n : Nat) (err : Int32) (now : RW) (tr : RW) (pl : Nat) (ct : Nat) (K : Nat → RW), (RFc.mk B n err now tr pl ct K).err = err) ∧ (∀ (B : Nat → Int32) (n : Nat) (err : Int32) (now : RW) (tr : RW) (pl : Nat) (ct : Nat) (K : Nat → RW), (RFc.mk B n err now tr pl ct K).now = now) ∧ (∀ (B : Nat → Int32) (n : Nat) (err : Int32) (now : RW) (tr : RW) (pl : Nat) (ct : Nat) (K : Nat → RW), (RFc.mk B n err now tr pl ct K).tr = tr) ∧ (∀ (B : Nat → Int32) (n : Nat) (err : Int32) (now : RW) (tr : RW) (pl : Nat) (ct : Nat) (K : Nat → RW), (RFc.mk B n err now tr pl ct K).pl = pl) ∧ (∀ (B : Nat → Int32) (n : Nat) (err : Int32) (now : RW) (tr : RW) (pl : Nat) (ct : Nat) (K : Nat → RW), (RFc.mk B n err now tr pl ct K).ct = ct) ∧ (∀ (B : Nat → Int32) (n : Nat) (err : Int32) (now : RW) (tr : RW) (pl : Nat) (ct : Nat) (K : Nat → RW), (RFc.mk B n err now tr pl ct K).K = K) ∧ (∀ (R : RFc) (v : Nat → Int32), R.s_B v = RFc.mk v R.n R.err R.now R.tr R.pl R.ct R.K) ∧ (∀ (R : RFc) (v : Nat), R.s_n v = RFc.mk R.B v R.err R.now R.tr R.pl R.ct R.K) ∧ (∀ (R : RFc) (v : Int32), R.s_err v = RFc.mk R.B R.n v R.now R.tr R.pl R.ct R.K) ∧ (∀ (R : RFc) (v : RW), R.s_now v = RFc.mk R.B R.n R.err v R.tr R.pl R.ct R.K) ∧ (∀ (R : RFc) (v : RW), R.s_tr v = RFc.mk R.B R.n R.err R.now v R.pl R.ct R.K) ∧ (∀ (R : RFc) (v : Nat), R.s_pl v = RFc.mk R.B R.n R.err R.now R.tr v R.ct R.K) ∧ (∀ (R : RFc) (v : Nat), R.s_ct v = RFc.mk R.B R.n R.err R.now R.tr R.pl v R.K) ∧ (∀ (R : RFc) (v : Nat → RW), R.s_K v = RFc.mk R.B R.n R.err R.now R.tr R.pl R.ct v) ∧ (∀ R : RFc, RFc.mk R.B R.n R.err R.now R.tr R.pl R.ct R.K = R) := ⟨RFc_B, RFc_n, RFc_err, RFc_now, RFc_tr, RFc_pl, RFc_ct, RFc_K, RFc_u_B, RFc_u_n, RFc_u_err, RFc_u_now, RFc_u_tr, RFc_u_pl, RFc_u_ct, RFc_u_K, RFc_eta⟩
def fO (a : Nat) (F : RFc) : gC := .inr (7, [.ref (a + 1), .int (nI F.n), .int F.err, .ref (a + 2), .ref (a + 63), .ref (a + 124)])
def fHO (a : Nat) (F : RFc) : gC := .inr (1, [.ref (a + 125), .int (nI F.pl), .int (nI F.ct)])
def fHA (a : Nat) : gC := .inl (5, 8, .inr (.inr (.inr (.inr fun i => if i < 8 then some (a + 126 + 61 * i) else none))))
def fBC (f : Nat → Int32) : gC := .inl (1, 500, .inl f)
def fC (a : Nat) (F : RFc) (j : Nat) : Option gC :=
  if j = 0 then some (fO a F) else if j = 1 then some (fBC F.B) else if j < 63 then wdC (a + 2) F.now (j - 2) else if j < 124 then wdC (a + 63) F.tr (j - 63) else
  if j = 124 then some (fHO a F) else if j = 125 then some (fHA a) else wdC (a + 126 + 61 * ((j - 126) / 61)) (F.K ((j - 126) / 61)) ((j - 126) % 61)
def fP (h : gH) (a : Nat) (F : RFc) : gH := (h.1, fun q => if a ≤ q ∧ q < a + 614 then fC a F (q - a) else h.2 q)
def fIs (f : Nat → Option gC) (a : Nat) (F : RFc) : Prop := ∀ j, j < 614 → f (a + j) = fC a F j
theorem fP_in (h : gH) (a : Nat) (F : RFc) {j : Nat} (hj : j < 614) : (fP h a F).2 (a + j) = fC a F j := by
  show (if a ≤ a + j ∧ a + j < a + 614 then fC a F (a + j - a) else h.2 (a + j)) = _
  rw [if_pos ⟨by omega, by omega⟩, Nat.add_sub_cancel_left]
theorem fP_out (h : gH) (a : Nat) (F : RFc) {q : Nat} (hq : q < a ∨ a + 614 ≤ q) : (fP h a F).2 q = h.2 q := by
  show (if a ≤ q ∧ q < a + 614 then fC a F (q - a) else h.2 q) = _
  rw [if_neg (by omega)]
theorem fP_is (h : gH) (a : Nat) (F : RFc) : fIs (fP h a F).2 a F := fun _ hj => fP_in h a F hj
theorem fP_self {h : gH} {a : Nat} {F : RFc} (H : fIs h.2 a F) : fP h a F = h := by
  refine Prod.ext rfl (funext fun q => ?_)
  show (if a ≤ q ∧ q < a + 614 then fC a F (q - a) else h.2 q) = _
  split
  · rename_i c
    rw [← H (q - a) (by omega), show a + (q - a) = q by omega]
  · rfl
theorem fP_P (h : gH) (a : Nat) (F F' : RFc) : fP (fP h a F) a F' = fP h a F' := by
  refine Prod.ext rfl (funext fun q => ?_)
  show (if a ≤ q ∧ q < a + 614 then fC a F' (q - a) else if a ≤ q ∧ q < a + 614 then fC a F (q - a) else h.2 q) = (if a ≤ q ∧ q < a + 614 then fC a F' (q - a) else h.2 q)
  split <;> rfl
theorem fP_eq {h x : gH} {a : Nat} {F : RFc} (h1 : x.1 = h.1) (h2 : ∀ j, j < 614 → x.2 (a + j) = fC a F j) (h3 : ∀ q, q < a ∨ a + 614 ≤ q → x.2 q = h.2 q) : x = fP h a F := by
  refine Prod.ext h1 (funext fun q => ?_)
  by_cases c : a ≤ q ∧ q < a + 614
  · obtain ⟨j, rfl⟩ := Nat.exists_eq_add_of_le c.1
    rw [fP_in h a F (by omega), h2 j (by omega)]
  · rw [fP_out h a F (by omega), h3 q (by omega)]
section FC
variable (h : gH) (a : Nat) (F : RFc)
theorem f0 : (fP h a F).2 a = some (fO a F) := fP_in h a F (j := 0) (by decide)
theorem f1 : (fP h a F).2 (a + 1) = some (.inl (1, 500, .inl F.B)) := fP_in h a F (j := 1) (by decide)
theorem f124 : (fP h a F).2 (a + 124) = some (fHO a F) := fP_in h a F (j := 124) (by decide)
theorem f125 : (fP h a F).2 (a + 125) = some (fHA a) := fP_in h a F (j := 125) (by decide)
theorem fP_g : g_is (fP h a F) a 7 = true := by simp [g_is, f0, fO]
theorem fP_gH : g_is (fP h a F) (a + 124) 1 = true := by simp [g_is, f124, fHO]
theorem fG_n : g_gI (fP h a F) a 7 1 = some (nI F.n) := gI_of (f0 h a F) rfl
theorem fG_err : g_gI (fP h a F) a 7 2 = some F.err := gI_of (f0 h a F) rfl
theorem fG_B : g_gA (fP h a F) a 7 0 = some (a + 1) := gA_of (f0 h a F) rfl
theorem fG_now : g_gA (fP h a F) a 7 3 = some (a + 2) := gA_of (f0 h a F) rfl
theorem fG_tr : g_gA (fP h a F) a 7 4 = some (a + 63) := gA_of (f0 h a F) rfl
theorem fG_hi : g_gA (fP h a F) a 7 5 = some (a + 124) := gA_of (f0 h a F) rfl
theorem fG_ring : g_gA (fP h a F) (a + 124) 1 0 = some (a + 125) := gA_of (f124 h a F) rfl
theorem fG_pl : g_gI (fP h a F) (a + 124) 1 1 = some (nI F.pl) := gI_of (f124 h a F) rfl
theorem fG_ct : g_gI (fP h a F) (a + 124) 1 2 = some (nI F.ct) := gI_of (f124 h a F) rfl
theorem fL_B : g_aln (fP h a F) (a + 1) = some 500 := by
  rw [aln_of (f1 h a F)]
  decide
theorem fL_ring : g_aln (fP h a F) (a + 125) = some 8 := by
  rw [alnQ_of (t := 5) (n := 8) (f125 h a F)]
  decide
theorem fQ {i : Nat} (hi : i < 8) : g_qld (fP h a F) (a + 125) 5 (nI i) = some (some (a + 126 + 61 * i)) := by
  rw [qld_of (f125 h a F) hi (by decide), if_pos hi]
theorem fB_ld {i : Nat} (hi : i < 500) : g_bld (fP h a F) (a + 1) (nI i) = some (F.B i) := bld_of (f1 h a F) hi (by decide)
end FC
theorem fT_n (h : gH) (a : Nat) (F : RFc) (v : Nat) : g_put (fP h a F) a 7 1 (.int (nI v)) = some (fP h a (F.s_n v)) := by
  rw [put_of (f0 h a F) (by simp)]
  refine congrArg some (fP_eq rfl (fun j hj => ?_) (fun q hq => ?_))
  · by_cases c : j = 0
    · subst c; exact set_at
    · rw [set_ne (by omega), fP_in h a F hj]
      simp only [fC, c, if_false]
      rfl
  · rw [set_ne (by omega), fP_out h a F hq]
theorem fT_err (h : gH) (a : Nat) (F : RFc) (v : Int32) : g_put (fP h a F) a 7 2 (.int (v)) = some (fP h a (F.s_err v)) := by
  rw [put_of (f0 h a F) (by simp)]
  refine congrArg some (fP_eq rfl (fun j hj => ?_) (fun q hq => ?_))
  · by_cases c : j = 0
    · subst c; exact set_at
    · rw [set_ne (by omega), fP_in h a F hj]
      simp only [fC, c, if_false]
      rfl
  · rw [set_ne (by omega), fP_out h a F hq]
theorem fT_pl (h : gH) (a : Nat) (F : RFc) (v : Nat) : g_put (fP h a F) (a + 124) 1 1 (.int (nI v)) = some (fP h a (F.s_pl v)) := by
  rw [put_of (f124 h a F) (by simp)]
  refine congrArg some (fP_eq rfl (fun j hj => ?_) (fun q hq => ?_))
  · by_cases c : j = 124
    · subst c; exact set_at
    · rw [set_ne (by omega), fP_in h a F hj]
      simp only [fC, c, if_false]
      rfl
  · rw [set_ne (by omega), fP_out h a F hq]
theorem fT_ct (h : gH) (a : Nat) (F : RFc) (v : Nat) : g_put (fP h a F) (a + 124) 1 2 (.int (nI v)) = some (fP h a (F.s_ct v)) := by
  rw [put_of (f124 h a F) (by simp)]
  refine congrArg some (fP_eq rfl (fun j hj => ?_) (fun q hq => ?_))
  · by_cases c : j = 124
    · subst c; exact set_at
    · rw [set_ne (by omega), fP_in h a F hj]
      simp only [fC, c, if_false]
      rfl
  · rw [set_ne (by omega), fP_out h a F hq]
theorem fS_B (h : gH) (a : Nat) (F : RFc) (g : Nat → Int32) : g_set (fP h a F) (a + 1) (.inl (1, 500, .inl g)) = fP h a (F.s_B g) := by
  refine fP_eq rfl (fun j hj => ?_) (fun q hq => ?_)
  · by_cases c : j = 1
    · subst c; exact set_at
    · rw [set_ne (by omega), fP_in h a F hj]
      simp only [fC, c, if_false]
      rfl
  · rw [set_ne (by omega), fP_out h a F hq]
theorem fB_st (h : gH) (a : Nat) (F : RFc) {i : Nat} (hi : i < 500) (v : Int32) : g_bst (fP h a F) (a + 1) (nI i) v = some (fP h a (F.s_B (upd F.B i v.toInt8.toInt32))) := by
  rw [bst_of (f1 h a F) hi (by decide), fS_B]
theorem fW_now (h : gH) (a : Nat) (F : RFc) : wdIs (fP h a F) (a + 2) F.now := fun j hj => by
  rw [Nat.add_assoc, fP_in h a F (by omega)]
  unfold fC
  rw [if_neg (by omega), if_neg (by omega), if_pos (by omega), Nat.add_sub_cancel_left]
theorem fW_tr (h : gH) (a : Nat) (F : RFc) : wdIs (fP h a F) (a + 63) F.tr := fun j hj => by
  rw [Nat.add_assoc, fP_in h a F (by omega)]
  unfold fC
  rw [if_neg (by omega), if_neg (by omega), if_neg (by omega), if_pos (by omega), Nat.add_sub_cancel_left]
theorem fW_K (h : gH) (a : Nat) (F : RFc) {i : Nat} (hi : i < 8) : wdIs (fP h a F) (a + 126 + 61 * i) (F.K i) := fun j hj => by
  rw [show a + 126 + 61 * i + j = a + (126 + 61 * i + j) by omega, fP_in h a F (by omega)]
  unfold fC
  rw [if_neg (by omega), if_neg (by omega), if_neg (by omega), if_neg (by omega), if_neg (by omega), if_neg (by omega), show (126 + 61 * i + j - 126) / 61 = i by omega, show (126 + 61 * i + j - 126) % 61 = j by omega]
theorem fE_now (h : gH) (a : Nat) (F : RFc) : wdP (fP h a F) (a + 2) F.now = fP h a F := wdP_self (fW_now h a F)
theorem fE_tr (h : gH) (a : Nat) (F : RFc) : wdP (fP h a F) (a + 63) F.tr = fP h a F := wdP_self (fW_tr h a F)
theorem fE_K (h : gH) (a : Nat) (F : RFc) {i : Nat} (hi : i < 8) : wdP (fP h a F) (a + 126 + 61 * i) (F.K i) = fP h a F := wdP_self (fW_K h a F hi)
theorem fU_now (h : gH) (a : Nat) (F : RFc) (W : RW) : wdP (fP h a F) (a + 2) W = fP h a (F.s_now W) := by
  refine fP_eq rfl (fun j hj => ?_) (fun q hq => ?_)
  · by_cases c : 2 ≤ j ∧ j < 63
    · rw [show a + j = a + 2 + (j - 2) by omega, wdP_in _ _ _ (by omega)]
      unfold fC
      rw [if_neg (by omega), if_neg (by omega), if_pos (by omega)]
      rfl
    · rw [wdP_out _ _ _ (by omega), fP_in h a F hj]
      unfold fC
      by_cases c0 : j = 0
      · rw [if_pos c0, if_pos c0]; rfl
      · rw [if_neg c0, if_neg c0]
        by_cases c1 : j = 1
        · rw [if_pos c1, if_pos c1]; rfl
        · have h63 : ¬ j < 63 := by omega
          rw [if_neg c1, if_neg c1, if_neg h63, if_neg h63]; rfl
  · rw [wdP_out _ _ _ (by omega), fP_out h a F hq]
theorem fU_tr (h : gH) (a : Nat) (F : RFc) (W : RW) : wdP (fP h a F) (a + 63) W = fP h a (F.s_tr W) := by
  refine fP_eq rfl (fun j hj => ?_) (fun q hq => ?_)
  · by_cases c : 63 ≤ j ∧ j < 124
    · rw [show a + j = a + 63 + (j - 63) by omega, wdP_in _ _ _ (by omega)]
      unfold fC
      rw [if_neg (by omega), if_neg (by omega), if_neg (by omega), if_pos (by omega)]
      rfl
    · rw [wdP_out _ _ _ (by omega), fP_in h a F hj]
      unfold fC
      by_cases c0 : j = 0
      · rw [if_pos c0, if_pos c0]; rfl
      · rw [if_neg c0, if_neg c0]
        by_cases c1 : j = 1
        · rw [if_pos c1, if_pos c1]; rfl
        · rw [if_neg c1, if_neg c1]
          by_cases c2 : j < 63
          · rw [if_pos c2, if_pos c2]; rfl
          · have h124 : ¬ j < 124 := by omega
            rw [if_neg c2, if_neg c2, if_neg h124, if_neg h124]; rfl
  · rw [wdP_out _ _ _ (by omega), fP_out h a F hq]
def updW (f : Nat → RW) (i : Nat) (W : RW) : Nat → RW := fun j => if j = i then W else f j
theorem fU_K (h : gH) (a : Nat) (F : RFc) {i : Nat} (hi : i < 8) (W : RW) : wdP (fP h a F) (a + 126 + 61 * i) W = fP h a (F.s_K (updW F.K i W)) := by
  refine fP_eq rfl (fun j hj => ?_) (fun q hq => ?_)
  · by_cases c : 126 + 61 * i ≤ j ∧ j < 126 + 61 * i + 61
    · rw [show a + j = a + 126 + 61 * i + (j - 126 - 61 * i) by omega, wdP_in _ _ _ (by omega)]
      unfold fC
      rw [if_neg (by omega), if_neg (by omega), if_neg (by omega), if_neg (by omega), if_neg (by omega), if_neg (by omega), show (j - 126) / 61 = i by omega, show (j - 126) % 61 = j - 126 - 61 * i by omega]
      show _ = wdC (a + 126 + 61 * i) (updW F.K i W i) (j - 126 - 61 * i)
      simp [updW]
    · rw [wdP_out _ _ _ (by omega), fP_in h a F hj]
      unfold fC
      by_cases c0 : j = 0
      · rw [if_pos c0, if_pos c0]; rfl
      · rw [if_neg c0, if_neg c0]
        by_cases c1 : j = 1
        · rw [if_pos c1, if_pos c1]; rfl
        · rw [if_neg c1, if_neg c1]
          by_cases c2 : j < 63
          · rw [if_pos c2, if_pos c2]; rfl
          · rw [if_neg c2, if_neg c2]
            by_cases c3 : j < 124
            · rw [if_pos c3, if_pos c3]; rfl
            · rw [if_neg c3, if_neg c3]
              by_cases c4 : j = 124
              · rw [if_pos c4, if_pos c4]; rfl
              · rw [if_neg c4, if_neg c4]
                by_cases c5 : j = 125
                · rw [if_pos c5, if_pos c5]
                · rw [if_neg c5, if_neg c5]
                  show _ = wdC (a + 126 + 61 * ((j - 126) / 61)) (updW F.K i W ((j - 126) / 61)) ((j - 126) % 61)
                  have : ¬ (j - 126) / 61 = i := by omega
                  simp [updW, this]
  · rw [wdP_out _ _ _ (by omega), fP_out h a F hq]
/-! History -/
theorem keptAt_f (h : gH) (a : Nat) (F : RFc) {i : Nat} (hi : i < 8) : f_X1_keptAt (fP h a F) (a + 124) (nI i) = some (some (a + 126 + 61 * i)) := by
  simp only [f_X1_keptAt, if_pos (nI_pos' (show i < 2 ^ 31 by omega)), fG_ring, Option.bind_some, fL_ring, show (8 : Int32) = nI 8 by decide, if_pos (nI_lt hi (by decide)), fQ h a F hi]
theorem rem8 : ∀ n, n < 20 → g_rem (nI n) 8 = nI (n % 8) := by decide +kernel
def RFc.keep (F : RFc) : RFc := RFc.mk F.B F.n F.err F.now F.tr ((F.pl + 1) % 8) (min (F.ct + 1) 8) (updW F.K F.pl (F.now.copy (F.K F.pl)))
theorem keep_f (h : gH) (a : Nat) (F : RFc) (hpl : F.pl < 8) (hct : F.ct ≤ 8) (ht : F.now.told ≤ 8) : f_X1_keep (fP h a F) (a + 124) (a + 2) = some (fP h a F.keep) := by
  have cp : f_X6_copyFrom (fP h a F) (a + 126 + 61 * F.pl) (a + 2) = some (fP h a (F.s_K (updW F.K F.pl (F.now.copy (F.K F.pl))))) := by
    have q := copy_wd (h := fP h a F) (a := a + 126 + 61 * F.pl) (p := a + 2) (S := F.now) (R := F.K F.pl) (fW_now h a F) (by omega) ht
    rw [fE_K h a F hpl, fU_K h a F hpl] at q
    exact q
  have gK : g_is (fP h a F) (a + 126 + 61 * F.pl) 6 = true := by
    have q := wdP_g (fP h a F) (a + 126 + 61 * F.pl) (F.K F.pl)
    rwa [fE_K h a F hpl] at q
  have e1 : nI F.pl + 1 = nI (F.pl + 1) := (nI_succ _).symm
  have e2 : nI F.ct + 1 = nI (F.ct + 1) := (nI_succ _).symm
  have hmin : g_min (nI (F.ct + 1)) 8 = nI (min (F.ct + 1) 8) := by rw [show (8 : Int32) = nI 8 by decide, g_min_nI (by omega) (by decide)]
  simp only [f_X1_keep, fG_pl, Option.bind_some, fP_gH, cond_true, keptAt_f h a F hpl, Option.elim_some, gK, cp, RFc_s, e1, rem8 (F.pl + 1) (by omega), fT_pl, fG_ct, e2, hmin, fT_ct]
  rfl
def RFc.back (F : RFc) : RFc := RFc.mk F.B F.n F.err ((F.K ((F.pl + 7) % 8)).copy F.now) F.tr ((F.pl + 7) % 8) (F.ct - 1) F.K
theorem restore_f (h : gH) (a : Nat) (F : RFc) (hpl : F.pl < 8) (hct : F.ct ≤ 8) (ht : (F.K ((F.pl + 7) % 8)).told ≤ 8) : f_X1_restore (fP h a F) (a + 124) (a + 2) = some (if F.ct = 0 then (0, fP h a F) else (1, fP h a F.back)) := by
  have e1 : g_rem (nI F.pl + nI 8 - 1) 8 = nI ((F.pl + 7) % 8) := by
    rw [nI_add, show (1 : Int32) = nI 1 by decide, nI_sub (by omega), show F.pl + 8 - 1 = F.pl + 7 by omega, rem8 _ (by omega)]
  have hp : (F.pl + 7) % 8 < 8 := Nat.mod_lt _ (by decide)
  have cp : f_X6_copyFrom (fP h a F) (a + 2) (a + 126 + 61 * ((F.pl + 7) % 8)) = some (fP h a (F.s_now ((F.K ((F.pl + 7) % 8)).copy F.now))) := by
    have q := copy_wd (h := fP h a F) (a := a + 2) (p := a + 126 + 61 * ((F.pl + 7) % 8)) (S := F.K ((F.pl + 7) % 8)) (R := F.now) (fW_K h a F hp) (by omega) ht
    rw [fE_now, fU_now] at q
    exact q
  have gN : g_is (fP h a F) (a + 2) 6 = true := by
    have q := wdP_g (fP h a F) (a + 2) F.now
    rwa [fE_now] at q
  have e8 : (8 : Int32) = nI 8 := by decide
  simp only [f_X1_restore, fG_pl, Option.bind_some, fP_gH, cond_true]
  rw [show nI F.pl + 8 - 1 = nI F.pl + nI 8 - 1 by rw [e8], e1, keptAt_f h a F hp]
  simp only [Option.bind_some, fG_ct, nI_eq0 (show F.ct < 2 ^ 31 by omega)]
  by_cases c : F.ct = 0
  · simp only [c, if_true]
  · have e2 : nI F.ct - 1 = nI (F.ct - 1) := by rw [show (1 : Int32) = nI 1 by decide, nI_sub (by omega)]
    have e3 : nI F.ct + -1 = nI (F.ct - 1) := by rw [← e2, Int32.sub_eq_add_neg]
    simp only [c, if_false, Option.elim_some, gN, cond_true, cp, Option.bind_some, fT_pl, fG_ct, RFc_s, e2, e3, fT_ct]
    rfl
