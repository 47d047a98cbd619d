/-! THE RELATION between a World of the class and the reference's data row -/
def lOf (v : Int32) : Prop := ∃ n : Nat, n < 26 ∧ v = nI n
def cn (b : Bool) : Nat := if b then 1 else 0
theorem cn_lt (b : Bool) : cn b < 2 := by cases b <;> decide
/-- the number of the i below n with p i -/
def cnt (p : Nat → Bool) : Nat → Nat
  | 0 => 0
  | n + 1 => cnt p n + (if p n then 1 else 0)
def relKp (K : RKp) (a : Nat) (D : Nat → Int32) : Prop := K.told ≤ 8 ∧ D a = nI K.told ∧ ∀ i, i < K.told → D (a + (1 + 2 * i)) = K.ticks i ∧ D (a + (2 + 2 * i)) = K.keys i ∧ lOf (K.keys i) ∧ (∃ n : Nat, n < 10000 ∧ K.ticks i = nI n) ∧ ∀ j, j < i → K.ticks j ≠ K.ticks i
def relMi (K : RMi) (D : Nat → Int32) : Prop := K.told ≤ 12 ∧ D 7 = nI K.told ∧ ∀ i, i < K.told → D (76 + 3 * i) = K.firsts i ∧ D (77 + 3 * i) = K.lasts i ∧ D (78 + 3 * i) = K.levels i
def relCh (C : RCh) (a : Nat) (D : Nat → Int32) : Prop := D a = C.power ∧ D (a + 1) = C.opening ∧ D (a + 2) = C.closing ∧ D (a + 3) = C.frame ∧ (C.frame = -1 → D (a + 4) = -1)
/-- a channel, where a message M is on the way -/
def relWk (C : RCh) (M : RMs) (a : Nat) (D : Nat → Int32) : Prop := C.frame = -1 ∨ ∃ f s b : Nat, C.frame = nI f ∧ C.step = nI s ∧ C.number = nI b ∧ f < M.frames ∧ s ≤ M.many f + 2 ∧ b < 26 ∧ M.fst f = 1 ∧ C.n = min (s - 1) (M.many f) ∧ D (a + 4) = nI s ∧ (1 ≤ s → D (a + 5) = bI C.lost) ∧ (1 ≤ s → C.lost = false → D (a + 6) = C.number ∧ ∀ k, k < C.n → D (a + (8 + k)) = C.heard k) ∧ (s = M.many f + 2 → D (a + 7) = bI C.good) ∧ (s = 0 → C.lost = false)
def relMs (M : RMs) (a : Nat) (D : Nat → Int32) : Prop := D a = M.sender ∧ D (a + 1) = M.urgency ∧ D (a + 2) = nI M.len ∧ D (a + 3) = M.phase ∧ D (a + 4) = M.began ∧ D (a + 5) = M.ended ∧ (∀ k, k < M.len → D (a + (6 + k)) = M.letters k) ∧ (∀ k, k < 24 → D (a + (30 + k)) = M.log k) ∧ (∀ k, k < 24 → D (a + (54 + k)) = M.fst k) ∧ (∀ k, k < 24 → D (a + (78 + k)) = M.tries k)
/-- a message's numbers: z the frame size, l the limit of tries -/
def RMs.inv (M : RMs) (z l : Nat) : Prop := M.fsize = z ∧ 1 ≤ M.len ∧ M.len ≤ 24 ∧ M.frames = (M.len + z - 1) / z ∧ (M.sender = 0 ∨ M.sender = 1) ∧ (∃ u : Nat, u < 10 ∧ M.urgency = nI u) ∧ (∃ p : Nat, p < 4 ∧ M.phase = nI p) ∧ M.unf = nI (cnt (fun f => decide (M.fst f < 2)) M.frames) ∧ (∀ f, f < M.frames → (∃ s : Nat, s < 4 ∧ M.fst f = nI s) ∧ ∃ t : Nat, t ≤ l ∧ M.tries f = nI t ∧ (M.fst f < 2 → t < l)) ∧ (∀ k, k < M.len → lOf (M.letters k))
def RW.inv (R : RW) : Prop := R.told ≤ 8 ∧ 1 ≤ R.fsize ∧ R.fsize ≤ 8 ∧ (∃ l : Nat, 1 ≤ l ∧ l ≤ 9 ∧ R.limit = nI l ∧ ∀ i, i < R.told → (R.ms i).inv R.fsize l) ∧ (∀ m, R.way = some m → m < R.told) ∧ (∀ i, i < R.told → ((R.ms i).phase = 1 ↔ R.way = some i))
def relN (R : RW) (D : Nat → Int32) : Prop := D 0 = nI R.time ∧ D 1 = nI R.told ∧ D 2 = oI R.way ∧ D 3 = R.sent ∧ D 4 = R.lost ∧ D 5 = R.garbled ∧ D 6 = R.given ∧ D 8 = nI R.fsize ∧ D 9 = R.limit
def relWay (R : RW) (D : Nat → Int32) : Prop := (R.way = none → R.c0.frame = -1 ∧ R.c1.frame = -1) ∧ ∀ m, R.way = some m → (∀ b, relWk (R.ch b) (R.ms m) (10 + 16 * cn b) D) ∧ (R.c0.frame = R.c1.frame → R.c0.frame = -1)
def Rel (R : RW) (D : Nat → Int32) : Prop := R.inv ∧ relN R D ∧ (∀ b, relCh (R.ch b) (10 + 16 * cn b) D) ∧ relKp R.k0 42 D ∧ relKp R.k1 59 D ∧ relMi R.mi D ∧ (∀ i, i < R.told → relMs (R.ms i) (112 + 102 * i) D) ∧ relWay R D
theorem Rel.inv {R : RW} {D : Nat → Int32} (h : Rel R D) : R.inv := h.1
theorem Rel.n {R : RW} {D : Nat → Int32} (h : Rel R D) : relN R D := h.2.1
theorem Rel.ch {R : RW} {D : Nat → Int32} (h : Rel R D) : ∀ b, relCh (R.ch b) (10 + 16 * cn b) D := h.2.2.1
theorem Rel.k0 {R : RW} {D : Nat → Int32} (h : Rel R D) : relKp R.k0 42 D := h.2.2.2.1
theorem Rel.k1 {R : RW} {D : Nat → Int32} (h : Rel R D) : relKp R.k1 59 D := h.2.2.2.2.1
theorem Rel.mi {R : RW} {D : Nat → Int32} (h : Rel R D) : relMi R.mi D := h.2.2.2.2.2.1
theorem Rel.ms {R : RW} {D : Nat → Int32} (h : Rel R D) : ∀ i, i < R.told → relMs (R.ms i) (112 + 102 * i) D := h.2.2.2.2.2.2.1
theorem Rel.way {R : RW} {D : Nat → Int32} (h : Rel R D) : relWay R D := h.2.2.2.2.2.2.2
theorem Rel.kp {R : RW} {D : Nat → Int32} (h : Rel R D) {s : Nat} (hs : s < 2) : relKp (R.kp (nI s)) (42 + 17 * s) D := by
  have : s = 0 ∨ s = 1 := by omega
  rcases this with rfl | rfl
  · exact h.k0
  · exact h.k1
/-! what stays where other cells are written -/
theorem relKp.congr {K : RKp} {a : Nat} {D D' : Nat → Int32} (h : relKp K a D) (e : ∀ j, a ≤ j → j < a + 17 → D' j = D j) : relKp K a D' := by
  obtain ⟨h1, h2, h3⟩ := h
  refine ⟨h1, by rw [e a (by omega) (by omega)]; exact h2, fun i hi => ?_⟩
  rw [e _ (by omega) (by omega), e _ (by omega) (by omega)]
  exact h3 i hi
theorem relMi.congr {K : RMi} {D D' : Nat → Int32} (h : relMi K D) (e7 : D' 7 = D 7) (e : ∀ j, 76 ≤ j → j < 112 → D' j = D j) : relMi K D' := by
  obtain ⟨h1, h2, h3⟩ := h
  refine ⟨h1, by rw [e7]; exact h2, fun i hi => ?_⟩
  rw [e _ (by omega) (by omega), e _ (by omega) (by omega), e _ (by omega) (by omega)]
  exact h3 i hi
theorem relCh.congr {C : RCh} {a : Nat} {D D' : Nat → Int32} (h : relCh C a D) (e : ∀ j, a ≤ j → j < a + 5 → D' j = D j) : relCh C a D' := by
  obtain ⟨h1, h2, h3, h4, h5⟩ := h
  refine ⟨?_, ?_, ?_, ?_, ?_⟩ <;> rw [e _ (by omega) (by omega)]
  · exact h1
  · exact h2
  · exact h3
  · exact h4
  · exact h5
theorem relWk.congr {C : RCh} {M : RMs} {a : Nat} {D D' : Nat → Int32} (h : relWk C M a D) (hm : ∀ f, M.many f ≤ 8) (e : ∀ j, a ≤ j → j < a + 16 → D' j = D j) : relWk C M a D' := by
  rcases h with h | ⟨f, s, b, h1, h2, h3, h4, h5, h6, h7, h8, h9, h10, h11, h12, h13⟩
  · exact Or.inl h
  · refine Or.inr ⟨f, s, b, h1, h2, h3, h4, h5, h6, h7, h8, ?_, ?_, ?_, ?_, h13⟩
    · rw [e _ (by omega) (by omega)]; exact h9
    · rw [e _ (by omega) (by omega)]; exact h10
    · rw [e _ (by omega) (by omega)]
      intro q1 q2
      obtain ⟨q3, q4⟩ := h11 q1 q2
      refine ⟨q3, fun k hk => ?_⟩
      have := hm f
      rw [e _ (by omega) (by omega)]
      exact q4 k hk
    · rw [e _ (by omega) (by omega)]; exact h12
theorem relMs.congr {M : RMs} {a : Nat} {D D' : Nat → Int32} (h : relMs M a D) (hl : M.len ≤ 24) (e : ∀ j, a ≤ j → j < a + 102 → D' j = D j) : relMs M a D' := by
  obtain ⟨h1, h2, h3, h4, h5, h6, h7, h8, h9, h10⟩ := h
  refine ⟨?_, ?_, ?_, ?_, ?_, ?_, fun k hk => ?_, fun k hk => ?_, fun k hk => ?_, fun k hk => ?_⟩ <;> rw [e _ (by omega) (by omega)]
  · exact h1
  · exact h2
  · exact h3
  · exact h4
  · exact h5
  · exact h6
  · exact h7 k hk
  · exact h8 k hk
  · exact h9 k hk
  · exact h10 k hk
/-! mist and key -/
section REL1
variable {x : gH} {m : Nat} {D : Nat → Int32}
theorem in_eq (v lo hi : Int32) : f_X8_in v lo hi = bI (decide (lo ≤ v ∧ v ≤ hi)) := by
  unfold f_X8_in
  by_cases c1 : lo ≤ v <;> by_cases c2 : v ≤ hi <;> simp [c1, c2, bI]
theorem bI_eq0 (b : Bool) : (bI b = 0) = (b = false) := by cases b <;> simp [bI]
theorem mist_l (hx : isM x m) {K : RMi} (h : relMi K D) (t : Int32) : ∀ (d i fuel : Nat) (v : Int32), i + d = K.told → d < fuel → f_X8_mistOf_b4 (dP x m D) fuel m t v (nI i) = some (up (fun i (v : Int32) => if K.firsts i ≤ t ∧ t ≤ K.lasts i then K.levels i else v) d i v) := by
  obtain ⟨h1, h2, h3⟩ := h
  intro d
  induction d with
  | zero =>
    intro i fuel v hi hf
    obtain ⟨fu, rfl⟩ := Nat.exists_eq_succ_of_ne_zero (Nat.ne_of_gt hf)
    simp only [f_X8_mistOf_b4, dG hx, Option.bind_some, dL7, h2, if_neg (nI_nlt (show K.told ≤ i by omega) (show i < 2 ^ 31 by omega)), up]
  | succ d ih =>
    intro i fuel v hi hf
    obtain ⟨fu, rfl⟩ := Nat.exists_eq_succ_of_ne_zero (Nat.ne_of_gt (Nat.zero_lt_of_lt hf))
    obtain ⟨q1, q2, q3⟩ := h3 i (by omega)
    have e0 : (76 : Int32) + 3 * nI i = nI (76 + 3 * i) := by rw [show (76 : Int32) = nI 76 by decide, show (3 : Int32) = nI 3 by decide, nI_mul, nI_add]
    have e1 : nI (76 + 3 * i) + 1 = nI (77 + 3 * i) := by rw [show (1 : Int32) = nI 1 by decide, nI_add]; congr 1; omega
    have e2 : nI (76 + 3 * i) + 2 = nI (78 + 3 * i) := by rw [show (2 : Int32) = nI 2 by decide, nI_add]; congr 1; omega
    simp only [f_X8_mistOf_b4, dG hx, Option.bind_some, dL7, h2, if_pos (nI_lt (show i < K.told by omega) (show K.told < 2 ^ 31 by omega)), e0, e1, e2, dL (show 76 + 3 * i < 928 by omega), dL (show 77 + 3 * i < 928 by omega), dL (show 78 + 3 * i < 928 by omega), q1, q2, q3, in_eq, bI_eq0, f_X8_mistOf_b60, up, ← nI_succ]
    by_cases c : K.firsts i ≤ t ∧ t ≤ K.lasts i
    · simp only [c, and_self, decide_true, Bool.true_eq_false, if_false, if_true]
      exact ih (i + 1) fu _ (by omega) (by omega)
    · simp only [c, decide_false, if_true, if_false]
      exact ih (i + 1) fu _ (by omega) (by omega)
theorem mistOf_d (hx : isM x m) {K : RMi} (h : relMi K D) (t : Int32) : f_X8_mistOf (dP x m D) m t = some (K.levelAt t) := by
  unfold f_X8_mistOf
  rw [show f_X8_mistOf_b4 (dP x m D) g_N m t 0 0 = f_X8_mistOf_b4 (dP x m D) g_N m t 0 (nI 0) by rw [nI_0]]
  exact mist_l hx h t K.told 0 g_N 0 (by omega) (by have := h.1; unfold g_N; omega)
theorem key_l (hx : isM x m) {K : RKp} {a : Nat} (ha : a + 17 ≤ 928) (h : relKp K a D) (t : Int32) : ∀ (d i fuel : Nat) (v : Int32 × Int32), i + d = K.told → d < fuel → (v.1 = -1 ∨ ∃ j, j < i ∧ v.1 = K.ticks j) → f_X8_keyOf_b14 (dP x m D) fuel m t (nI a) v.1 v.2 (nI i) = some (up (fun i (v : Int32 × Int32) => if K.ticks i ≤ t ∧ v.1 < K.ticks i then (K.ticks i, K.keys i) else v) d i v).2 := by
  obtain ⟨h1, h2, h3⟩ := h
  intro d
  induction d with
  | zero =>
    intro i fuel v hi hf _
    obtain ⟨fu, rfl⟩ := Nat.exists_eq_succ_of_ne_zero (Nat.ne_of_gt hf)
    have e0 : nI a + 0 = nI a := by rw [show (0 : Int32) = nI 0 from nI_0.symm, nI_add]; rfl
    simp only [f_X8_keyOf_b14, dG hx, Option.bind_some, e0, dL (show a < 928 by omega), h2, if_neg (nI_nlt (show K.told ≤ i by omega) (show i < 2 ^ 31 by omega)), up]
  | succ d ih =>
    intro i fuel v hi hf hv
    obtain ⟨fu, rfl⟩ := Nat.exists_eq_succ_of_ne_zero (Nat.ne_of_gt (Nat.zero_lt_of_lt hf))
    obtain ⟨q1, q2, q3, ⟨n, q4, q5⟩, q6⟩ := h3 i (by omega)
    have e0 : nI a + 0 = nI a := by rw [show (0 : Int32) = nI 0 from nI_0.symm, nI_add]; rfl
    have e1 : nI a + 1 + 2 * nI i = nI (a + (1 + 2 * i)) := by rw [show (1 : Int32) = nI 1 by decide, show (2 : Int32) = nI 2 by decide, nI_mul, nI_add, nI_add]; congr 1; omega
    have e3 : nI i + 1 = nI (i + 1) := (nI_succ i).symm
    have e2 : nI (a + (1 + 2 * i)) + 1 = nI (a + (2 + 2 * i)) := by rw [show (1 : Int32) = nI 1 by decide, nI_add]; congr 1; omega
    simp only [f_X8_keyOf_b14, dG hx, Option.bind_some, e0, dL (show a < 928 by omega), h2, if_pos (nI_lt (show i < K.told by omega) (show K.told < 2 ^ 31 by omega)), e1, e2, dL (show a + (1 + 2 * i) < 928 by omega), dL (show a + (2 + 2 * i) < 928 by omega), q1, q2, f_X8_keyOf_b79, up, e3]
    have hne : v.1 ≠ K.ticks i := by
      rcases hv with e | ⟨j, hj, e⟩
      · rw [e, q5]
        exact fun e9 => nI_neN (i := n) (by omega) e9.symm
      · rw [e]
        exact q6 j hj
    by_cases c : K.ticks i ≤ t
    · by_cases c2 : v.1 < K.ticks i
      · have : ¬ K.ticks i < v.1 := Int32.not_lt.mpr (Int32.le_of_lt c2)
        simp only [c, c2, this, and_self, if_true, if_false]
        exact ih (i + 1) fu (K.ticks i, K.keys i) (by omega) (by omega) (Or.inr ⟨i, by omega, rfl⟩)
      · have : K.ticks i < v.1 := by
          rcases Int32.lt_or_eq_of_le (Int32.not_lt.mp c2) with z | z
          · exact z
          · exact absurd z.symm hne
        simp only [c, c2, this, and_false, if_true, if_false]
        exact ih (i + 1) fu v (by omega) (by omega) (hv.imp id fun ⟨j, hj, e⟩ => ⟨j, by omega, e⟩)
    · simp only [c, false_and, if_false]
      exact ih (i + 1) fu v (by omega) (by omega) (hv.imp id fun ⟨j, hj, e⟩ => ⟨j, by omega, e⟩)
theorem keyOf_d (hx : isM x m) {K : RKp} {s : Nat} (hs : s < 2) (h : relKp K (42 + 17 * s) D) (t : Int32) : f_X8_keyOf (dP x m D) m (nI s) t = some (K.keyAt t) := by
  unfold f_X8_keyOf
  rw [stAt, show f_X8_keyOf_b14 (dP x m D) g_N m t (nI (42 + 17 * s)) (-1) 0 0 = f_X8_keyOf_b14 (dP x m D) g_N m t (nI (42 + 17 * s)) (-1) 0 (nI 0) by rw [nI_0]]
  exact key_l hx (by omega) h t K.told 0 g_N (-1, 0) (by omega) (by have := h.1; unfold g_N; omega) (Or.inl rfl)
theorem keyAt_l (K : RKp) (t : Int32) : ∀ (d i : Nat) (v : Int32 × Int32), i + d = K.told → (∀ i, i < K.told → lOf (K.keys i)) → lOf v.2 → lOf (up (fun i (v : Int32 × Int32) => if K.ticks i ≤ t ∧ v.1 < K.ticks i then (K.ticks i, K.keys i) else v) d i v).2
  | 0, _, _, _, _, h => h
  | d + 1, i, v, hi, hk, h => by
    rw [up]
    refine keyAt_l K t d (i + 1) _ (by omega) hk ?_
    split
    · exact hk i (by omega)
    · exact h
theorem keyAt_lOf {K : RKp} {a : Nat} (h : relKp K a D) (t : Int32) : lOf (K.keyAt t) := keyAt_l K t K.told 0 (-1, 0) (by omega) (fun i hi => (h.2.2 i hi).2.2.1) ⟨0, by omega, nI_0.symm⟩
theorem isOpen_d (hx : isM x m) {C : RCh} {c : Nat} (hc : c < 2) (h : relCh C (10 + 16 * c) D) : f_X8_isOpen (dP x m D) m (nI c) = some (bI (C.isOpen (D 0))) := by
  obtain ⟨h1, h2, h3, h4, h5⟩ := h
  simp only [f_X8_isOpen, dG hx, dI hx, Option.bind_some, dL0, cond_true, chL1 hx hc, chL2 hx hc, h2, h3, f_X8_isOpen_b54, f_X8_isOpen_b69, RCh.isOpen]
  generalize g_rem (D 0) 24 = r
  by_cases c0 : C.opening = C.closing
  · simp [c0, bI]
  · by_cases c1 : C.opening < C.closing
    · by_cases c2 : C.opening ≤ r <;> by_cases c3 : r < C.closing <;> simp [c0, c1, c2, c3, bI]
    · by_cases c2 : r < C.opening
      · have : ¬ C.opening ≤ r := Int32.not_le.mpr c2
        by_cases c3 : r < C.closing <;> simp [c0, c1, c2, c3, this, bI]
      · have : C.opening ≤ r := Int32.not_lt.mp c2
        simp [c0, c1, c2, this, bI]
end REL1
