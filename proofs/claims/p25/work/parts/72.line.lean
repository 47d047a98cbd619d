/-! the model's Line: its cells told by a row D of numbers, laid out as S says -/
theorem upd_at (f : Nat → Int32) (i : Nat) (v : Int32) : upd f i v i = v := by simp [upd]
theorem upd_ne {f : Nat → Int32} {i j : Nat} {v : Int32} (h : j ≠ i) : upd f i v j = f j := by simp [upd, h]
/-- the layout: Line, lamps, rows of came, rows of talks, keepers and mists, talks, words, lengths, frames, whose each cell is, the cells that stay -/
def RS : Type := Nat × (Nat → Nat) × (Nat → Nat) × Nat × Nat × Nat × (Nat → Nat) × (Nat → Nat) × (Nat → Nat) × (Nat → Nat) × (Nat → Nat) × (Nat → Prop)
def RS.B (S : RS) : Nat := S.1
def RS.p (S : RS) : Nat → Nat := S.2.1
def RS.q (S : RS) : Nat → Nat := S.2.2.1
def RS.TA (S : RS) : Nat := S.2.2.2.1
def RS.KA (S : RS) : Nat := S.2.2.2.2.1
def RS.MA (S : RS) : Nat := S.2.2.2.2.2.1
def RS.t (S : RS) : Nat → Nat := S.2.2.2.2.2.2.1
def RS.w (S : RS) : Nat → Nat := S.2.2.2.2.2.2.2.1
def RS.len (S : RS) : Nat → Nat := S.2.2.2.2.2.2.2.2.1
def RS.fr (S : RS) : Nat → Nat := S.2.2.2.2.2.2.2.2.2.1
def RS.r (S : RS) : Nat → Nat := S.2.2.2.2.2.2.2.2.2.2.1
def RS.P (S : RS) : Nat → Prop := S.2.2.2.2.2.2.2.2.2.2.2
def RS.mk (B : Nat) (p q : Nat → Nat) (TA KA MA : Nat) (t w len fr r : Nat → Nat) (P : Nat → Prop) : RS := (B, p, q, TA, KA, MA, t, w, len, fr, r, P)
def lnO (S : RS) (D : Nat → Int32) : gC := .inr (10, [.ref (S.B + 1), .ref S.TA, .ref S.KA, .ref S.MA, .int (D 8), .int (D 9), .int (D 0), .int (D 2), .int (D 3), .int (D 4), .int (D 5), .int (D 6)])
def lmO (S : RS) (D : Nat → Int32) (c : Nat) : gC := .inr (9, [.int (D (10 + 16 * c)), .int (D (10 + 16 * c + 1)), .int (D (10 + 16 * c + 2)), .int (D (10 + 16 * c + 3)), .int (D (10 + 16 * c + 4)), .int (D (10 + 16 * c + 5)), .int (D (10 + 16 * c + 6)), .ref (S.q c), .int (D (10 + 16 * c + 7))])
def cmF (D : Nat → Int32) (c : Nat) : Nat → Int32 := fun k => if k < 8 then D (10 + 16 * c + 8 + k) else 0
def tkO (S : RS) (D : Nat → Int32) (i : Nat) : gC := .inr (12, [.int (D (112 + 102 * i)), .int (D (112 + 102 * i + 1)), .ref (S.w i), .ref (S.t i + 3), .ref (S.t i + 4), .int (D (112 + 102 * i + 3)), .int (D (112 + 102 * i + 4)), .int (D (112 + 102 * i + 5))])
def lgF (S : RS) (D : Nat → Int32) (i : Nat) : Nat → Int32 := fun k => if k < S.len i then D (112 + 102 * i + (30 + k)) else 0
def frO (D : Nat → Int32) (i f : Nat) : gC := .inr (8, [.int (D (112 + 102 * i + (54 + f))), .int (D (112 + 102 * i + (78 + f)))])
/-- what the cell of the part r holds -/
def lnC (S : RS) (D : Nat → Int32) (r : Nat) : Option gC :=
  if r = 1 then some (lnO S D)
  else if r = 2 then some (lmO S D 0) else if r = 3 then some (lmO S D 1)
  else if r = 4 then some (.inl (0, 8, .inl (cmF D 0))) else if r = 5 then some (.inl (0, 8, .inl (cmF D 1)))
  else if r < 16 then none
  else if (r - 16) % 32 = 0 then some (tkO S D ((r - 16) / 32))
  else if (r - 16) % 32 = 3 then some (.inl (0, S.len ((r - 16) / 32), .inl (lgF S D ((r - 16) / 32))))
  else if 5 ≤ (r - 16) % 32 then some (frO D ((r - 16) / 32) ((r - 16) % 32 - 5)) else none
/-- where the part r lies -/
def RS.adr (S : RS) (r : Nat) : Nat :=
  if r = 1 then S.B else if r = 2 then S.p 0 else if r = 3 then S.p 1 else if r = 4 then S.q 0 else if r = 5 then S.q 1 else S.t ((r - 16) / 32) + (r - 16) % 32
/-- the parts of a Line with n talks -/
def RS.has (S : RS) (n r : Nat) : Prop := (1 ≤ r ∧ r ≤ 5) ∨ (16 ≤ r ∧ (r - 16) / 32 < n ∧ ((r - 16) % 32 = 0 ∨ (r - 16) % 32 = 3 ∨ (5 ≤ (r - 16) % 32 ∧ (r - 16) % 32 < 5 + S.fr ((r - 16) / 32))))
/-- the parts lie apart -/
def RS.ok (S : RS) (n : Nat) : Prop := (∀ q, S.r q ≠ 0 → q = S.adr (S.r q) ∧ S.has n (S.r q)) ∧ (∀ r, S.has n r → S.r (S.adr r) = r) ∧ ∀ i, i < n → S.fr i ≤ 24 ∧ S.len i ≤ 24
def lnP (h : gH) (S : RS) (D : Nat → Int32) : gH := (h.1, fun q => match lnC S D (S.r q) with | some c => some c | none => h.2 q)
theorem lnC_0 (S : RS) (D : Nat → Int32) : lnC S D 0 = none := rfl
theorem lnP_out {h : gH} {S : RS} {D : Nat → Int32} {q : Nat} (e : S.r q = 0) : (lnP h S D).2 q = h.2 q := by
  show (match lnC S D (S.r q) with | some c => some c | none => h.2 q) = _
  rw [e, lnC_0]
theorem lnP_in {h : gH} {S : RS} {D : Nat → Int32} {n r : Nat} {c : gC} (ok : S.ok n) (hr : S.has n r) (e : lnC S D r = some c) : (lnP h S D).2 (S.adr r) = some c := by
  show (match lnC S D (S.r (S.adr r)) with | some c => some c | none => h.2 _) = _
  rw [ok.2.1 r hr, e]
theorem lnC_of {S : RS} {D : Nat → Int32} {n r : Nat} (hr : S.has n r) : ∃ c, lnC S D r = some c := by
  unfold lnC
  by_cases h1 : r = 1
  · exact ⟨_, if_pos h1⟩
  rw [if_neg h1]
  by_cases h2 : r = 2
  · exact ⟨_, if_pos h2⟩
  rw [if_neg h2]
  by_cases h3 : r = 3
  · exact ⟨_, if_pos h3⟩
  rw [if_neg h3]
  by_cases h4 : r = 4
  · exact ⟨_, if_pos h4⟩
  rw [if_neg h4]
  by_cases h5 : r = 5
  · exact ⟨_, if_pos h5⟩
  rw [if_neg h5]
  rcases hr with hr | ⟨h6, h7, h8⟩
  · omega
  rw [if_neg (show ¬ r < 16 by omega)]
  by_cases h9 : (r - 16) % 32 = 0
  · exact ⟨_, if_pos h9⟩
  rw [if_neg h9]
  by_cases h10 : (r - 16) % 32 = 3
  · exact ⟨_, if_pos h10⟩
  rw [if_neg h10]
  exact ⟨_, if_pos (by omega)⟩
/-- the numbers that the part r shows -/
def inR (r j : Nat) : Prop := (r = 1 ∧ j < 10) ∨ (r = 2 ∧ 10 ≤ j ∧ j < 18) ∨ (r = 3 ∧ 26 ≤ j ∧ j < 34) ∨ (r = 4 ∧ 18 ≤ j ∧ j < 26) ∨ (r = 5 ∧ 34 ≤ j ∧ j < 42) ∨ (16 ≤ r ∧ (r - 16) % 32 = 0 ∧ 112 + 102 * ((r - 16) / 32) ≤ j ∧ j < 112 + 102 * ((r - 16) / 32) + 6) ∨ (16 ≤ r ∧ (r - 16) % 32 = 3 ∧ 112 + 102 * ((r - 16) / 32) + 30 ≤ j ∧ j < 112 + 102 * ((r - 16) / 32) + 54) ∨ (16 ≤ r ∧ 5 ≤ (r - 16) % 32 ∧ (j = 112 + 102 * ((r - 16) / 32) + (54 + ((r - 16) % 32 - 5)) ∨ j = 112 + 102 * ((r - 16) / 32) + (78 + ((r - 16) % 32 - 5))))
theorem lnC_congr {S : RS} {D D' : Nat → Int32} {n r : Nat} (ok : S.ok n) (hr : S.has n r) (e : ∀ j, inR r j → D' j = D j) : lnC S D' r = lnC S D r := by
  unfold lnC
  by_cases h1 : r = 1
  · rw [if_pos h1, if_pos h1]
    have e : ∀ j, j < 10 → D' j = D j := fun j hj => e j (Or.inl ⟨h1, hj⟩)
    simp only [lnO, e 0 (by omega), e 2 (by omega), e 3 (by omega), e 4 (by omega), e 5 (by omega), e 6 (by omega), e 8 (by omega), e 9 (by omega)]
  rw [if_neg h1, if_neg h1]
  by_cases h2 : r = 2
  · rw [if_pos h2, if_pos h2]
    have e : ∀ j, 10 ≤ j → j < 18 → D' j = D j := fun j h3 h4 => e j (Or.inr (Or.inl ⟨h2, h3, h4⟩))
    simp only [lmO, e 10 (by omega) (by omega), e 11 (by omega) (by omega), e 12 (by omega) (by omega), e 13 (by omega) (by omega), e 14 (by omega) (by omega), e 15 (by omega) (by omega), e 16 (by omega) (by omega), e 17 (by omega) (by omega), Nat.mul_zero, Nat.add_zero, Nat.reduceAdd]
  rw [if_neg h2, if_neg h2]
  by_cases h3 : r = 3
  · rw [if_pos h3, if_pos h3]
    have e : ∀ j, 26 ≤ j → j < 34 → D' j = D j := fun j h4 h5 => e j (Or.inr (Or.inr (Or.inl ⟨h3, h4, h5⟩)))
    simp only [lmO, e 26 (by omega) (by omega), e 27 (by omega) (by omega), e 28 (by omega) (by omega), e 29 (by omega) (by omega), e 30 (by omega) (by omega), e 31 (by omega) (by omega), e 32 (by omega) (by omega), e 33 (by omega) (by omega), Nat.mul_one, Nat.reduceAdd]
  rw [if_neg h3, if_neg h3]
  by_cases h4 : r = 4
  · rw [if_pos h4, if_pos h4]
    have e : cmF D' 0 = cmF D 0 := funext fun k => by
      unfold cmF
      by_cases hk : k < 8
      · rw [if_pos hk, if_pos hk]; exact e _ (Or.inr (Or.inr (Or.inr (Or.inl ⟨h4, by omega, by omega⟩))))
      · rw [if_neg hk, if_neg hk]
    rw [e]
  rw [if_neg h4, if_neg h4]
  by_cases h5 : r = 5
  · rw [if_pos h5, if_pos h5]
    have e : cmF D' 1 = cmF D 1 := funext fun k => by
      unfold cmF
      by_cases hk : k < 8
      · rw [if_pos hk, if_pos hk]; exact e _ (Or.inr (Or.inr (Or.inr (Or.inr (Or.inl ⟨h5, by omega, by omega⟩)))))
      · rw [if_neg hk, if_neg hk]
    rw [e]
  rw [if_neg h5, if_neg h5]
  rcases hr with hr | ⟨h6, h7, h8⟩
  · omega
  rw [if_neg (show ¬ r < 16 by omega), if_neg (show ¬ r < 16 by omega)]
  have e6 : ∀ j, inR r j → D' j = D j := e
  unfold inR at e6
  obtain ⟨i, hi⟩ : ∃ i, i = (r - 16) / 32 := ⟨_, rfl⟩
  have l24 := (ok.2.2 i (by omega)).2
  rw [← hi] at e6 h8 ⊢
  by_cases h9 : (r - 16) % 32 = 0
  · rw [if_pos h9, if_pos h9]
    have e : ∀ j, 112 + 102 * i ≤ j → j < 112 + 102 * i + 6 → D' j = D j := fun j a b => e6 j (by omega)
    simp only [tkO, e (112 + 102 * i) (by omega) (by omega), e (112 + 102 * i + 1) (by omega) (by omega), e (112 + 102 * i + 3) (by omega) (by omega), e (112 + 102 * i + 4) (by omega) (by omega), e (112 + 102 * i + 5) (by omega) (by omega)]
  rw [if_neg h9, if_neg h9]
  by_cases h10 : (r - 16) % 32 = 3
  · rw [if_pos h10, if_pos h10]
    have e : lgF S D' i = lgF S D i := funext fun k => by
      unfold lgF
      by_cases hk : k < S.len i
      · rw [if_pos hk, if_pos hk]; exact e6 _ (by omega)
      · rw [if_neg hk, if_neg hk]
    rw [e]
  rw [if_neg h10, if_neg h10]
  by_cases h11 : 5 ≤ (r - 16) % 32
  · rw [if_pos h11, if_pos h11]
    unfold frO
    rw [e6 _ (by omega), e6 _ (by omega)]
  rw [if_neg h11, if_neg h11]
/-- one number is written: the heap's cell of the part r with it -/
theorem lnP_set {h : gH} {S : RS} {D : Nat → Int32} {n r : Nat} {c : gC} {D' : Nat → Int32} (ok : S.ok n) (hr : S.has n r) (e : lnC S D' r = some c) (e2 : ∀ r', S.has n r' → r' ≠ r → ∀ j, inR r' j → D' j = D j) : g_set (lnP h S D) (S.adr r) c = lnP h S D' := by
  refine Prod.ext rfl (funext fun q => ?_)
  show (if q = S.adr r then some c else (match lnC S D (S.r q) with | some c => some c | none => h.2 q)) = (match lnC S D' (S.r q) with | some c => some c | none => h.2 q)
  by_cases hq : q = S.adr r
  · rw [if_pos hq, hq, ok.2.1 r hr, e]
  · rw [if_neg hq]
    by_cases h0 : S.r q = 0
    · rw [h0]; rfl
    · obtain ⟨a1, a2⟩ := ok.1 q h0
      have hne : S.r q ≠ r := fun z => hq (by rw [← z]; exact a1)
      rw [lnC_congr ok a2 (e2 _ a2 hne)]
theorem inR_one {r r' j : Nat} (h : inR r j) (h' : inR r' j) (h1 : 1 ≤ r) (h2 : 1 ≤ r') (b1 : (r - 16) % 32 < 29) (b2 : (r' - 16) % 32 < 29) : r = r' := by
  unfold inR at h h'
  omega
theorem has_b {S : RS} {n r : Nat} (ok : S.ok n) (hr : S.has n r) : 1 ≤ r ∧ (r - 16) % 32 < 29 := by
  rcases hr with hr | ⟨h1, h2, h3⟩
  · exact ⟨hr.1, by omega⟩
  · have := (ok.2.2 _ h2).1
    exact ⟨by omega, by omega⟩
theorem lnP_upd {h : gH} {S : RS} {D : Nat → Int32} {n r j : Nat} {c : gC} {v : Int32} (ok : S.ok n) (hr : S.has n r) (hj : inR r j) (e : lnC S (upd D j v) r = some c) : g_set (lnP h S D) (S.adr r) c = lnP h S (upd D j v) :=
  lnP_set ok hr e fun r' hr' hne i hi => upd_ne fun z => hne (by
    subst z
    exact inR_one hi hj (has_b ok hr').1 (has_b ok hr).1 (has_b ok hr').2 (has_b ok hr).2)
section LN
variable {h : gH} {S : RS} {D : Nat → Int32} {n : Nat}
theorem ln_B (ok : S.ok n) : (lnP h S D).2 S.B = some (lnO S D) := lnP_in (r := 1) ok (Or.inl ⟨by omega, by omega⟩) rfl
theorem has_p (S : RS) (n : Nat) {c : Nat} (hc : c < 2) : S.has n (2 + c) := Or.inl ⟨by omega, by omega⟩
theorem has_q (S : RS) (n : Nat) {c : Nat} (hc : c < 2) : S.has n (4 + c) := Or.inl ⟨by omega, by omega⟩
theorem adr_p (S : RS) {c : Nat} (hc : c < 2) : S.adr (2 + c) = S.p c := by
  obtain rfl | rfl : c = 0 ∨ c = 1 := by omega
  · rfl
  · rfl
theorem adr_q (S : RS) {c : Nat} (hc : c < 2) : S.adr (4 + c) = S.q c := by
  obtain rfl | rfl : c = 0 ∨ c = 1 := by omega
  · rfl
  · rfl
theorem lnC_p (S : RS) (D : Nat → Int32) {c : Nat} (hc : c < 2) : lnC S D (2 + c) = some (lmO S D c) := by
  obtain rfl | rfl : c = 0 ∨ c = 1 := by omega
  · rfl
  · rfl
theorem lnC_q (S : RS) (D : Nat → Int32) {c : Nat} (hc : c < 2) : lnC S D (4 + c) = some (.inl (0, 8, .inl (cmF D c))) := by
  obtain rfl | rfl : c = 0 ∨ c = 1 := by omega
  · rfl
  · rfl
theorem ln_p (ok : S.ok n) {c : Nat} (hc : c < 2) : (lnP h S D).2 (S.p c) = some (lmO S D c) := by
  rw [← adr_p S hc]; exact lnP_in ok (has_p S n hc) (lnC_p S D hc)
theorem ln_q (ok : S.ok n) {c : Nat} (hc : c < 2) : (lnP h S D).2 (S.q c) = some (.inl (0, 8, .inl (cmF D c))) := by
  rw [← adr_q S hc]; exact lnP_in ok (has_q S n hc) (lnC_q S D hc)
theorem has_t (S : RS) {n i : Nat} (hi : i < n) : S.has n (16 + 32 * i) := Or.inr ⟨by omega, by omega, by omega⟩
theorem has_l (S : RS) {n i : Nat} (hi : i < n) : S.has n (16 + 32 * i + 3) := Or.inr ⟨by omega, by omega, by omega⟩
theorem has_f (ok : S.ok n) {i f : Nat} (hi : i < n) (hf : f < S.fr i) : S.has n (16 + 32 * i + (5 + f)) := by
  have := (ok.2.2 i hi).1
  refine Or.inr ⟨by omega, by omega, Or.inr (Or.inr ⟨by omega, ?_⟩)⟩
  rw [show (16 + 32 * i + (5 + f) - 16) / 32 = i by omega]
  omega
theorem adr_t (S : RS) (i j : Nat) (hj : j < 32) : S.adr (16 + 32 * i + j) = S.t i + j := by
  unfold RS.adr
  rw [if_neg (by omega), if_neg (by omega), if_neg (by omega), if_neg (by omega), if_neg (by omega), show (16 + 32 * i + j - 16) / 32 = i by omega, show (16 + 32 * i + j - 16) % 32 = j by omega]
theorem lnC_t (S : RS) (D : Nat → Int32) (i : Nat) : lnC S D (16 + 32 * i) = some (tkO S D i) := by
  unfold lnC
  rw [if_neg (by omega), if_neg (by omega), if_neg (by omega), if_neg (by omega), if_neg (by omega), if_neg (by omega), if_pos (by omega), show (16 + 32 * i - 16) / 32 = i by omega]
theorem lnC_l (S : RS) (D : Nat → Int32) (i : Nat) : lnC S D (16 + 32 * i + 3) = some (.inl (0, S.len i, .inl (lgF S D i))) := by
  unfold lnC
  rw [if_neg (by omega), if_neg (by omega), if_neg (by omega), if_neg (by omega), if_neg (by omega), if_neg (by omega), if_neg (by omega), if_pos (by omega), show (16 + 32 * i + 3 - 16) / 32 = i by omega]
theorem lnC_f (S : RS) (D : Nat → Int32) (i f : Nat) (hf : f < 24) : lnC S D (16 + 32 * i + (5 + f)) = some (frO D i f) := by
  unfold lnC
  rw [if_neg (by omega), if_neg (by omega), if_neg (by omega), if_neg (by omega), if_neg (by omega), if_neg (by omega), if_neg (by omega), if_neg (by omega), if_pos (by omega), show (16 + 32 * i + (5 + f) - 16) / 32 = i by omega, show (16 + 32 * i + (5 + f) - 16) % 32 - 5 = f by omega]
theorem ln_t (ok : S.ok n) {i : Nat} (hi : i < n) : (lnP h S D).2 (S.t i) = some (tkO S D i) := by
  have := lnP_in (h := h) ok (has_t S hi) (lnC_t S D i)
  rw [show 16 + 32 * i = 16 + 32 * i + 0 from rfl, adr_t S i 0 (by omega)] at this
  exact this
theorem ln_l (ok : S.ok n) {i : Nat} (hi : i < n) : (lnP h S D).2 (S.t i + 3) = some (.inl (0, S.len i, .inl (lgF S D i))) := by
  rw [← adr_t S i 3 (by omega)]; exact lnP_in ok (has_l S hi) (lnC_l S D i)
theorem ln_f (ok : S.ok n) {i f : Nat} (hi : i < n) (hf : f < S.fr i) : (lnP h S D).2 (S.t i + (5 + f)) = some (frO D i f) := by
  have := (ok.2.2 i hi).1
  rw [← adr_t S i (5 + f) (by omega)]; exact lnP_in ok (has_f ok hi hf) (lnC_f S D i f (by omega))
theorem ln_gB (ok : S.ok n) : g_is (lnP h S D) S.B 10 = true := is_of (ln_B ok)
theorem ln_gp (ok : S.ok n) {c : Nat} (hc : c < 2) : g_is (lnP h S D) (S.p c) 9 = true := is_of (ln_p ok hc)
theorem ln_gt (ok : S.ok n) {i : Nat} (hi : i < n) : g_is (lnP h S D) (S.t i) 12 = true := is_of (ln_t ok hi)
theorem ln_lamps (ok : S.ok n) : g_gA (lnP h S D) S.B 10 0 = some (S.B + 1) := gA_of (ln_B ok) rfl
theorem ln_talks (ok : S.ok n) : g_gA (lnP h S D) S.B 10 1 = some S.TA := gA_of (ln_B ok) rfl
theorem ln_keepers (ok : S.ok n) : g_gA (lnP h S D) S.B 10 2 = some S.KA := gA_of (ln_B ok) rfl
theorem ln_mists (ok : S.ok n) : g_gA (lnP h S D) S.B 10 3 = some S.MA := gA_of (ln_B ok) rfl
theorem lnG_size (ok : S.ok n) : g_gI (lnP h S D) S.B 10 4 = some (D 8) := gI_of (ln_B ok) rfl
theorem lnT_size (ok : S.ok n) (v : Int32) : g_put (lnP h S D) S.B 10 4 (.int v) = some (lnP h S (upd D 8 v)) := by
  rw [put_of (ln_B ok) (Nat.le_of_ble_eq_true rfl)]
  refine congrArg some (lnP_upd (r := 1) ok (Or.inl ⟨by omega, by omega⟩) (Or.inl ⟨rfl, by omega⟩) ?_)
  show some (lnO S (upd D 8 v)) = _
  simp only [lnO, upd_at, upd_ne (show 9 ≠ 8 by decide), upd_ne (show 0 ≠ 8 by decide), upd_ne (show 2 ≠ 8 by decide), upd_ne (show 3 ≠ 8 by decide), upd_ne (show 4 ≠ 8 by decide), upd_ne (show 5 ≠ 8 by decide), upd_ne (show 6 ≠ 8 by decide)]
  rfl
theorem lnG_limit (ok : S.ok n) : g_gI (lnP h S D) S.B 10 5 = some (D 9) := gI_of (ln_B ok) rfl
theorem lnT_limit (ok : S.ok n) (v : Int32) : g_put (lnP h S D) S.B 10 5 (.int v) = some (lnP h S (upd D 9 v)) := by
  rw [put_of (ln_B ok) (Nat.le_of_ble_eq_true rfl)]
  refine congrArg some (lnP_upd (r := 1) ok (Or.inl ⟨by omega, by omega⟩) (Or.inl ⟨rfl, by omega⟩) ?_)
  show some (lnO S (upd D 9 v)) = _
  simp only [lnO, upd_at, upd_ne (show 8 ≠ 9 by decide), upd_ne (show 0 ≠ 9 by decide), upd_ne (show 2 ≠ 9 by decide), upd_ne (show 3 ≠ 9 by decide), upd_ne (show 4 ≠ 9 by decide), upd_ne (show 5 ≠ 9 by decide), upd_ne (show 6 ≠ 9 by decide)]
  rfl
theorem lnG_time (ok : S.ok n) : g_gI (lnP h S D) S.B 10 6 = some (D 0) := gI_of (ln_B ok) rfl
theorem lnT_time (ok : S.ok n) (v : Int32) : g_put (lnP h S D) S.B 10 6 (.int v) = some (lnP h S (upd D 0 v)) := by
  rw [put_of (ln_B ok) (Nat.le_of_ble_eq_true rfl)]
  refine congrArg some (lnP_upd (r := 1) ok (Or.inl ⟨by omega, by omega⟩) (Or.inl ⟨rfl, by omega⟩) ?_)
  show some (lnO S (upd D 0 v)) = _
  simp only [lnO, upd_at, upd_ne (show 8 ≠ 0 by decide), upd_ne (show 9 ≠ 0 by decide), upd_ne (show 2 ≠ 0 by decide), upd_ne (show 3 ≠ 0 by decide), upd_ne (show 4 ≠ 0 by decide), upd_ne (show 5 ≠ 0 by decide), upd_ne (show 6 ≠ 0 by decide)]
  rfl
theorem lnG_way (ok : S.ok n) : g_gI (lnP h S D) S.B 10 7 = some (D 2) := gI_of (ln_B ok) rfl
theorem lnT_way (ok : S.ok n) (v : Int32) : g_put (lnP h S D) S.B 10 7 (.int v) = some (lnP h S (upd D 2 v)) := by
  rw [put_of (ln_B ok) (Nat.le_of_ble_eq_true rfl)]
  refine congrArg some (lnP_upd (r := 1) ok (Or.inl ⟨by omega, by omega⟩) (Or.inl ⟨rfl, by omega⟩) ?_)
  show some (lnO S (upd D 2 v)) = _
  simp only [lnO, upd_at, upd_ne (show 8 ≠ 2 by decide), upd_ne (show 9 ≠ 2 by decide), upd_ne (show 0 ≠ 2 by decide), upd_ne (show 3 ≠ 2 by decide), upd_ne (show 4 ≠ 2 by decide), upd_ne (show 5 ≠ 2 by decide), upd_ne (show 6 ≠ 2 by decide)]
  rfl
theorem lnG_sent (ok : S.ok n) : g_gI (lnP h S D) S.B 10 8 = some (D 3) := gI_of (ln_B ok) rfl
theorem lnT_sent (ok : S.ok n) (v : Int32) : g_put (lnP h S D) S.B 10 8 (.int v) = some (lnP h S (upd D 3 v)) := by
  rw [put_of (ln_B ok) (Nat.le_of_ble_eq_true rfl)]
  refine congrArg some (lnP_upd (r := 1) ok (Or.inl ⟨by omega, by omega⟩) (Or.inl ⟨rfl, by omega⟩) ?_)
  show some (lnO S (upd D 3 v)) = _
  simp only [lnO, upd_at, upd_ne (show 8 ≠ 3 by decide), upd_ne (show 9 ≠ 3 by decide), upd_ne (show 0 ≠ 3 by decide), upd_ne (show 2 ≠ 3 by decide), upd_ne (show 4 ≠ 3 by decide), upd_ne (show 5 ≠ 3 by decide), upd_ne (show 6 ≠ 3 by decide)]
  rfl
theorem lnG_lost (ok : S.ok n) : g_gI (lnP h S D) S.B 10 9 = some (D 4) := gI_of (ln_B ok) rfl
theorem lnT_lost (ok : S.ok n) (v : Int32) : g_put (lnP h S D) S.B 10 9 (.int v) = some (lnP h S (upd D 4 v)) := by
  rw [put_of (ln_B ok) (Nat.le_of_ble_eq_true rfl)]
  refine congrArg some (lnP_upd (r := 1) ok (Or.inl ⟨by omega, by omega⟩) (Or.inl ⟨rfl, by omega⟩) ?_)
  show some (lnO S (upd D 4 v)) = _
  simp only [lnO, upd_at, upd_ne (show 8 ≠ 4 by decide), upd_ne (show 9 ≠ 4 by decide), upd_ne (show 0 ≠ 4 by decide), upd_ne (show 2 ≠ 4 by decide), upd_ne (show 3 ≠ 4 by decide), upd_ne (show 5 ≠ 4 by decide), upd_ne (show 6 ≠ 4 by decide)]
  rfl
theorem lnG_garb (ok : S.ok n) : g_gI (lnP h S D) S.B 10 10 = some (D 5) := gI_of (ln_B ok) rfl
theorem lnT_garb (ok : S.ok n) (v : Int32) : g_put (lnP h S D) S.B 10 10 (.int v) = some (lnP h S (upd D 5 v)) := by
  rw [put_of (ln_B ok) (Nat.le_of_ble_eq_true rfl)]
  refine congrArg some (lnP_upd (r := 1) ok (Or.inl ⟨by omega, by omega⟩) (Or.inl ⟨rfl, by omega⟩) ?_)
  show some (lnO S (upd D 5 v)) = _
  simp only [lnO, upd_at, upd_ne (show 8 ≠ 5 by decide), upd_ne (show 9 ≠ 5 by decide), upd_ne (show 0 ≠ 5 by decide), upd_ne (show 2 ≠ 5 by decide), upd_ne (show 3 ≠ 5 by decide), upd_ne (show 4 ≠ 5 by decide), upd_ne (show 6 ≠ 5 by decide)]
  rfl
theorem lnG_given (ok : S.ok n) : g_gI (lnP h S D) S.B 10 11 = some (D 6) := gI_of (ln_B ok) rfl
theorem lnT_given (ok : S.ok n) (v : Int32) : g_put (lnP h S D) S.B 10 11 (.int v) = some (lnP h S (upd D 6 v)) := by
  rw [put_of (ln_B ok) (Nat.le_of_ble_eq_true rfl)]
  refine congrArg some (lnP_upd (r := 1) ok (Or.inl ⟨by omega, by omega⟩) (Or.inl ⟨rfl, by omega⟩) ?_)
  show some (lnO S (upd D 6 v)) = _
  simp only [lnO, upd_at, upd_ne (show 8 ≠ 6 by decide), upd_ne (show 9 ≠ 6 by decide), upd_ne (show 0 ≠ 6 by decide), upd_ne (show 2 ≠ 6 by decide), upd_ne (show 3 ≠ 6 by decide), upd_ne (show 4 ≠ 6 by decide), upd_ne (show 5 ≠ 6 by decide)]
  rfl
theorem lmG_power (ok : S.ok n) {c : Nat} (hc : c < 2) : g_gI (lnP h S D) (S.p c) 9 0 = some (D (10 + 16 * c)) := gI_of (ln_p ok hc) rfl
theorem lmT_power (ok : S.ok n) {c : Nat} (hc : c < 2) (v : Int32) : g_put (lnP h S D) (S.p c) 9 0 (.int v) = some (lnP h S (upd D (10 + 16 * c) v)) := by
  rw [put_of (ln_p ok hc) (Nat.le_of_ble_eq_true rfl)]
  rw [← adr_p S hc]
  refine congrArg some (lnP_upd ok (has_p S n hc) (by unfold inR; omega) ?_)
  rw [lnC_p S _ hc]
  simp only [lmO, upd_at, upd_ne (show 10 + 16 * c + 1 ≠ 10 + 16 * c by omega), upd_ne (show 10 + 16 * c + 2 ≠ 10 + 16 * c by omega), upd_ne (show 10 + 16 * c + 3 ≠ 10 + 16 * c by omega), upd_ne (show 10 + 16 * c + 4 ≠ 10 + 16 * c by omega), upd_ne (show 10 + 16 * c + 5 ≠ 10 + 16 * c by omega), upd_ne (show 10 + 16 * c + 6 ≠ 10 + 16 * c by omega), upd_ne (show 10 + 16 * c + 7 ≠ 10 + 16 * c by omega)]
  rfl
theorem lmG_opens (ok : S.ok n) {c : Nat} (hc : c < 2) : g_gI (lnP h S D) (S.p c) 9 1 = some (D (10 + 16 * c + 1)) := gI_of (ln_p ok hc) rfl
theorem lmT_opens (ok : S.ok n) {c : Nat} (hc : c < 2) (v : Int32) : g_put (lnP h S D) (S.p c) 9 1 (.int v) = some (lnP h S (upd D (10 + 16 * c + 1) v)) := by
  rw [put_of (ln_p ok hc) (Nat.le_of_ble_eq_true rfl)]
  rw [← adr_p S hc]
  refine congrArg some (lnP_upd ok (has_p S n hc) (by unfold inR; omega) ?_)
  rw [lnC_p S _ hc]
  simp only [lmO, upd_at, upd_ne (show 10 + 16 * c ≠ 10 + 16 * c + 1 by omega), upd_ne (show 10 + 16 * c + 2 ≠ 10 + 16 * c + 1 by omega), upd_ne (show 10 + 16 * c + 3 ≠ 10 + 16 * c + 1 by omega), upd_ne (show 10 + 16 * c + 4 ≠ 10 + 16 * c + 1 by omega), upd_ne (show 10 + 16 * c + 5 ≠ 10 + 16 * c + 1 by omega), upd_ne (show 10 + 16 * c + 6 ≠ 10 + 16 * c + 1 by omega), upd_ne (show 10 + 16 * c + 7 ≠ 10 + 16 * c + 1 by omega)]
  rfl
theorem lmG_closes (ok : S.ok n) {c : Nat} (hc : c < 2) : g_gI (lnP h S D) (S.p c) 9 2 = some (D (10 + 16 * c + 2)) := gI_of (ln_p ok hc) rfl
theorem lmT_closes (ok : S.ok n) {c : Nat} (hc : c < 2) (v : Int32) : g_put (lnP h S D) (S.p c) 9 2 (.int v) = some (lnP h S (upd D (10 + 16 * c + 2) v)) := by
  rw [put_of (ln_p ok hc) (Nat.le_of_ble_eq_true rfl)]
  rw [← adr_p S hc]
  refine congrArg some (lnP_upd ok (has_p S n hc) (by unfold inR; omega) ?_)
  rw [lnC_p S _ hc]
  simp only [lmO, upd_at, upd_ne (show 10 + 16 * c ≠ 10 + 16 * c + 2 by omega), upd_ne (show 10 + 16 * c + 1 ≠ 10 + 16 * c + 2 by omega), upd_ne (show 10 + 16 * c + 3 ≠ 10 + 16 * c + 2 by omega), upd_ne (show 10 + 16 * c + 4 ≠ 10 + 16 * c + 2 by omega), upd_ne (show 10 + 16 * c + 5 ≠ 10 + 16 * c + 2 by omega), upd_ne (show 10 + 16 * c + 6 ≠ 10 + 16 * c + 2 by omega), upd_ne (show 10 + 16 * c + 7 ≠ 10 + 16 * c + 2 by omega)]
  rfl
theorem lmG_work (ok : S.ok n) {c : Nat} (hc : c < 2) : g_gI (lnP h S D) (S.p c) 9 3 = some (D (10 + 16 * c + 3)) := gI_of (ln_p ok hc) rfl
theorem lmT_work (ok : S.ok n) {c : Nat} (hc : c < 2) (v : Int32) : g_put (lnP h S D) (S.p c) 9 3 (.int v) = some (lnP h S (upd D (10 + 16 * c + 3) v)) := by
  rw [put_of (ln_p ok hc) (Nat.le_of_ble_eq_true rfl)]
  rw [← adr_p S hc]
  refine congrArg some (lnP_upd ok (has_p S n hc) (by unfold inR; omega) ?_)
  rw [lnC_p S _ hc]
  simp only [lmO, upd_at, upd_ne (show 10 + 16 * c ≠ 10 + 16 * c + 3 by omega), upd_ne (show 10 + 16 * c + 1 ≠ 10 + 16 * c + 3 by omega), upd_ne (show 10 + 16 * c + 2 ≠ 10 + 16 * c + 3 by omega), upd_ne (show 10 + 16 * c + 4 ≠ 10 + 16 * c + 3 by omega), upd_ne (show 10 + 16 * c + 5 ≠ 10 + 16 * c + 3 by omega), upd_ne (show 10 + 16 * c + 6 ≠ 10 + 16 * c + 3 by omega), upd_ne (show 10 + 16 * c + 7 ≠ 10 + 16 * c + 3 by omega)]
  rfl
theorem lmG_step (ok : S.ok n) {c : Nat} (hc : c < 2) : g_gI (lnP h S D) (S.p c) 9 4 = some (D (10 + 16 * c + 4)) := gI_of (ln_p ok hc) rfl
theorem lmT_step (ok : S.ok n) {c : Nat} (hc : c < 2) (v : Int32) : g_put (lnP h S D) (S.p c) 9 4 (.int v) = some (lnP h S (upd D (10 + 16 * c + 4) v)) := by
  rw [put_of (ln_p ok hc) (Nat.le_of_ble_eq_true rfl)]
  rw [← adr_p S hc]
  refine congrArg some (lnP_upd ok (has_p S n hc) (by unfold inR; omega) ?_)
  rw [lnC_p S _ hc]
  simp only [lmO, upd_at, upd_ne (show 10 + 16 * c ≠ 10 + 16 * c + 4 by omega), upd_ne (show 10 + 16 * c + 1 ≠ 10 + 16 * c + 4 by omega), upd_ne (show 10 + 16 * c + 2 ≠ 10 + 16 * c + 4 by omega), upd_ne (show 10 + 16 * c + 3 ≠ 10 + 16 * c + 4 by omega), upd_ne (show 10 + 16 * c + 5 ≠ 10 + 16 * c + 4 by omega), upd_ne (show 10 + 16 * c + 6 ≠ 10 + 16 * c + 4 by omega), upd_ne (show 10 + 16 * c + 7 ≠ 10 + 16 * c + 4 by omega)]
  rfl
theorem lmG_isLost (ok : S.ok n) {c : Nat} (hc : c < 2) : g_gI (lnP h S D) (S.p c) 9 5 = some (D (10 + 16 * c + 5)) := gI_of (ln_p ok hc) rfl
theorem lmT_isLost (ok : S.ok n) {c : Nat} (hc : c < 2) (v : Int32) : g_put (lnP h S D) (S.p c) 9 5 (.int v) = some (lnP h S (upd D (10 + 16 * c + 5) v)) := by
  rw [put_of (ln_p ok hc) (Nat.le_of_ble_eq_true rfl)]
  rw [← adr_p S hc]
  refine congrArg some (lnP_upd ok (has_p S n hc) (by unfold inR; omega) ?_)
  rw [lnC_p S _ hc]
  simp only [lmO, upd_at, upd_ne (show 10 + 16 * c ≠ 10 + 16 * c + 5 by omega), upd_ne (show 10 + 16 * c + 1 ≠ 10 + 16 * c + 5 by omega), upd_ne (show 10 + 16 * c + 2 ≠ 10 + 16 * c + 5 by omega), upd_ne (show 10 + 16 * c + 3 ≠ 10 + 16 * c + 5 by omega), upd_ne (show 10 + 16 * c + 4 ≠ 10 + 16 * c + 5 by omega), upd_ne (show 10 + 16 * c + 6 ≠ 10 + 16 * c + 5 by omega), upd_ne (show 10 + 16 * c + 7 ≠ 10 + 16 * c + 5 by omega)]
  rfl
theorem lmG_number (ok : S.ok n) {c : Nat} (hc : c < 2) : g_gI (lnP h S D) (S.p c) 9 6 = some (D (10 + 16 * c + 6)) := gI_of (ln_p ok hc) rfl
theorem lmT_number (ok : S.ok n) {c : Nat} (hc : c < 2) (v : Int32) : g_put (lnP h S D) (S.p c) 9 6 (.int v) = some (lnP h S (upd D (10 + 16 * c + 6) v)) := by
  rw [put_of (ln_p ok hc) (Nat.le_of_ble_eq_true rfl)]
  rw [← adr_p S hc]
  refine congrArg some (lnP_upd ok (has_p S n hc) (by unfold inR; omega) ?_)
  rw [lnC_p S _ hc]
  simp only [lmO, upd_at, upd_ne (show 10 + 16 * c ≠ 10 + 16 * c + 6 by omega), upd_ne (show 10 + 16 * c + 1 ≠ 10 + 16 * c + 6 by omega), upd_ne (show 10 + 16 * c + 2 ≠ 10 + 16 * c + 6 by omega), upd_ne (show 10 + 16 * c + 3 ≠ 10 + 16 * c + 6 by omega), upd_ne (show 10 + 16 * c + 4 ≠ 10 + 16 * c + 6 by omega), upd_ne (show 10 + 16 * c + 5 ≠ 10 + 16 * c + 6 by omega), upd_ne (show 10 + 16 * c + 7 ≠ 10 + 16 * c + 6 by omega)]
  rfl
theorem lmG_isGood (ok : S.ok n) {c : Nat} (hc : c < 2) : g_gI (lnP h S D) (S.p c) 9 8 = some (D (10 + 16 * c + 7)) := gI_of (ln_p ok hc) rfl
theorem lmT_isGood (ok : S.ok n) {c : Nat} (hc : c < 2) (v : Int32) : g_put (lnP h S D) (S.p c) 9 8 (.int v) = some (lnP h S (upd D (10 + 16 * c + 7) v)) := by
  rw [put_of (ln_p ok hc) (Nat.le_of_ble_eq_true rfl)]
  rw [← adr_p S hc]
  refine congrArg some (lnP_upd ok (has_p S n hc) (by unfold inR; omega) ?_)
  rw [lnC_p S _ hc]
  simp only [lmO, upd_at, upd_ne (show 10 + 16 * c ≠ 10 + 16 * c + 7 by omega), upd_ne (show 10 + 16 * c + 1 ≠ 10 + 16 * c + 7 by omega), upd_ne (show 10 + 16 * c + 2 ≠ 10 + 16 * c + 7 by omega), upd_ne (show 10 + 16 * c + 3 ≠ 10 + 16 * c + 7 by omega), upd_ne (show 10 + 16 * c + 4 ≠ 10 + 16 * c + 7 by omega), upd_ne (show 10 + 16 * c + 5 ≠ 10 + 16 * c + 7 by omega), upd_ne (show 10 + 16 * c + 6 ≠ 10 + 16 * c + 7 by omega)]
  rfl
theorem lm_came (ok : S.ok n) {c : Nat} (hc : c < 2) : g_gA (lnP h S D) (S.p c) 9 7 = some (S.q c) := gA_of (ln_p ok hc) rfl
theorem cmL (ok : S.ok n) {c k : Nat} (hc : c < 2) (hk : k < 8) : g_ald (lnP h S D) (S.q c) (nI k) = some (D (10 + 16 * c + (8 + k))) := by
  rw [ald_of (ln_q ok hc) hk (by decide)]
  unfold cmF
  rw [if_pos hk, Nat.add_assoc]
theorem cmS (ok : S.ok n) {c k : Nat} (hc : c < 2) (hk : k < 8) (v : Int32) : g_ast (lnP h S D) (S.q c) (nI k) v = some (lnP h S (upd D (10 + 16 * c + (8 + k)) v)) := by
  rw [ast_of (ln_q ok hc) hk (by decide), ← adr_q S hc]
  refine congrArg some (lnP_upd ok (has_q S n hc) (by unfold inR; omega) ?_)
  rw [lnC_q S _ hc]
  have e : cmF (upd D (10 + 16 * c + (8 + k)) v) c = upd (cmF D c) k v := funext fun j => by
    unfold cmF
    by_cases hj : j < 8
    · by_cases hjk : j = k
      · subst hjk; rw [if_pos hj, ← Nat.add_assoc, upd_at, upd_at]
      · rw [if_pos hj, upd_ne (by omega), upd_ne hjk, if_pos hj]
    · rw [if_neg hj, upd_ne (by omega), if_neg hj]
  rw [e]
theorem tkG_sender (ok : S.ok n) {i : Nat} (hi : i < n) : g_gI (lnP h S D) (S.t i) 12 0 = some (D (112 + 102 * i)) := gI_of (ln_t ok hi) rfl
theorem tkT_sender (ok : S.ok n) {i : Nat} (hi : i < n) (v : Int32) : g_put (lnP h S D) (S.t i) 12 0 (.int v) = some (lnP h S (upd D (112 + 102 * i) v)) := by
  rw [put_of (ln_t ok hi) (Nat.le_of_ble_eq_true rfl)]
  have ea : S.adr (16 + 32 * i) = S.t i := adr_t S i 0 (by omega)
  rw [← ea]
  refine congrArg some (lnP_upd ok (has_t S hi) (by unfold inR; omega) ?_)
  rw [lnC_t S, ea]
  simp only [tkO, upd_at, upd_ne (show 112 + 102 * i + 1 ≠ 112 + 102 * i by omega), upd_ne (show 112 + 102 * i + 3 ≠ 112 + 102 * i by omega), upd_ne (show 112 + 102 * i + 4 ≠ 112 + 102 * i by omega), upd_ne (show 112 + 102 * i + 5 ≠ 112 + 102 * i by omega)]
  rfl
theorem tkG_urgency (ok : S.ok n) {i : Nat} (hi : i < n) : g_gI (lnP h S D) (S.t i) 12 1 = some (D (112 + 102 * i + 1)) := gI_of (ln_t ok hi) rfl
theorem tkT_urgency (ok : S.ok n) {i : Nat} (hi : i < n) (v : Int32) : g_put (lnP h S D) (S.t i) 12 1 (.int v) = some (lnP h S (upd D (112 + 102 * i + 1) v)) := by
  rw [put_of (ln_t ok hi) (Nat.le_of_ble_eq_true rfl)]
  have ea : S.adr (16 + 32 * i) = S.t i := adr_t S i 0 (by omega)
  rw [← ea]
  refine congrArg some (lnP_upd ok (has_t S hi) (by unfold inR; omega) ?_)
  rw [lnC_t S, ea]
  simp only [tkO, upd_at, upd_ne (show 112 + 102 * i ≠ 112 + 102 * i + 1 by omega), upd_ne (show 112 + 102 * i + 3 ≠ 112 + 102 * i + 1 by omega), upd_ne (show 112 + 102 * i + 4 ≠ 112 + 102 * i + 1 by omega), upd_ne (show 112 + 102 * i + 5 ≠ 112 + 102 * i + 1 by omega)]
  rfl
theorem tkG_state (ok : S.ok n) {i : Nat} (hi : i < n) : g_gI (lnP h S D) (S.t i) 12 5 = some (D (112 + 102 * i + 3)) := gI_of (ln_t ok hi) rfl
theorem tkT_state (ok : S.ok n) {i : Nat} (hi : i < n) (v : Int32) : g_put (lnP h S D) (S.t i) 12 5 (.int v) = some (lnP h S (upd D (112 + 102 * i + 3) v)) := by
  rw [put_of (ln_t ok hi) (Nat.le_of_ble_eq_true rfl)]
  have ea : S.adr (16 + 32 * i) = S.t i := adr_t S i 0 (by omega)
  rw [← ea]
  refine congrArg some (lnP_upd ok (has_t S hi) (by unfold inR; omega) ?_)
  rw [lnC_t S, ea]
  simp only [tkO, upd_at, upd_ne (show 112 + 102 * i ≠ 112 + 102 * i + 3 by omega), upd_ne (show 112 + 102 * i + 1 ≠ 112 + 102 * i + 3 by omega), upd_ne (show 112 + 102 * i + 4 ≠ 112 + 102 * i + 3 by omega), upd_ne (show 112 + 102 * i + 5 ≠ 112 + 102 * i + 3 by omega)]
  rfl
theorem tkG_began (ok : S.ok n) {i : Nat} (hi : i < n) : g_gI (lnP h S D) (S.t i) 12 6 = some (D (112 + 102 * i + 4)) := gI_of (ln_t ok hi) rfl
theorem tkT_began (ok : S.ok n) {i : Nat} (hi : i < n) (v : Int32) : g_put (lnP h S D) (S.t i) 12 6 (.int v) = some (lnP h S (upd D (112 + 102 * i + 4) v)) := by
  rw [put_of (ln_t ok hi) (Nat.le_of_ble_eq_true rfl)]
  have ea : S.adr (16 + 32 * i) = S.t i := adr_t S i 0 (by omega)
  rw [← ea]
  refine congrArg some (lnP_upd ok (has_t S hi) (by unfold inR; omega) ?_)
  rw [lnC_t S, ea]
  simp only [tkO, upd_at, upd_ne (show 112 + 102 * i ≠ 112 + 102 * i + 4 by omega), upd_ne (show 112 + 102 * i + 1 ≠ 112 + 102 * i + 4 by omega), upd_ne (show 112 + 102 * i + 3 ≠ 112 + 102 * i + 4 by omega), upd_ne (show 112 + 102 * i + 5 ≠ 112 + 102 * i + 4 by omega)]
  rfl
theorem tkG_ended (ok : S.ok n) {i : Nat} (hi : i < n) : g_gI (lnP h S D) (S.t i) 12 7 = some (D (112 + 102 * i + 5)) := gI_of (ln_t ok hi) rfl
theorem tkT_ended (ok : S.ok n) {i : Nat} (hi : i < n) (v : Int32) : g_put (lnP h S D) (S.t i) 12 7 (.int v) = some (lnP h S (upd D (112 + 102 * i + 5) v)) := by
  rw [put_of (ln_t ok hi) (Nat.le_of_ble_eq_true rfl)]
  have ea : S.adr (16 + 32 * i) = S.t i := adr_t S i 0 (by omega)
  rw [← ea]
  refine congrArg some (lnP_upd ok (has_t S hi) (by unfold inR; omega) ?_)
  rw [lnC_t S, ea]
  simp only [tkO, upd_at, upd_ne (show 112 + 102 * i ≠ 112 + 102 * i + 5 by omega), upd_ne (show 112 + 102 * i + 1 ≠ 112 + 102 * i + 5 by omega), upd_ne (show 112 + 102 * i + 3 ≠ 112 + 102 * i + 5 by omega), upd_ne (show 112 + 102 * i + 4 ≠ 112 + 102 * i + 5 by omega)]
  rfl
theorem tk_word (ok : S.ok n) {i : Nat} (hi : i < n) : g_gA (lnP h S D) (S.t i) 12 2 = some (S.w i) := gA_of (ln_t ok hi) rfl
theorem tk_log (ok : S.ok n) {i : Nat} (hi : i < n) : g_gA (lnP h S D) (S.t i) 12 3 = some (S.t i + 3) := gA_of (ln_t ok hi) rfl
theorem tk_frames (ok : S.ok n) {i : Nat} (hi : i < n) : g_gA (lnP h S D) (S.t i) 12 4 = some (S.t i + 4) := gA_of (ln_t ok hi) rfl
theorem lgN (ok : S.ok n) {i : Nat} (hi : i < n) : g_aln (lnP h S D) (S.t i + 3) = some (nI (S.len i)) := aln_of (ln_l ok hi)
theorem lgL (ok : S.ok n) {i k : Nat} (hi : i < n) (hk : k < S.len i) : g_ald (lnP h S D) (S.t i + 3) (nI k) = some (D (112 + 102 * i + (30 + k))) := by
  rw [ald_of (ln_l ok hi) hk (by have := (ok.2.2 i hi).2; omega)]
  unfold lgF
  rw [if_pos hk]
theorem lgS (ok : S.ok n) {i k : Nat} (hi : i < n) (hk : k < S.len i) (v : Int32) : g_ast (lnP h S D) (S.t i + 3) (nI k) v = some (lnP h S (upd D (112 + 102 * i + (30 + k)) v)) := by
  have h24 := (ok.2.2 i hi).2
  rw [ast_of (ln_l ok hi) hk (by omega), ← adr_t S i 3 (by omega)]
  refine congrArg some (lnP_upd ok (has_l S hi) (by unfold inR; omega) ?_)
  rw [lnC_l S]
  have e : lgF S (upd D (112 + 102 * i + (30 + k)) v) i = upd (lgF S D i) k v := funext fun j => by
    unfold lgF
    by_cases hj : j < S.len i
    · by_cases hjk : j = k
      · subst hjk; rw [if_pos hj, upd_at, upd_at]
      · rw [if_pos hj, upd_ne (by omega), upd_ne hjk, if_pos hj]
    · rw [if_neg hj, upd_ne (by omega), if_neg hj]
  rw [e]
theorem frG0 (ok : S.ok n) {i f : Nat} (hi : i < n) (hf : f < S.fr i) : g_gI (lnP h S D) (S.t i + (5 + f)) 8 0 = some (D (112 + 102 * i + (54 + f))) := gI_of (ln_f ok hi hf) rfl
theorem frG1 (ok : S.ok n) {i f : Nat} (hi : i < n) (hf : f < S.fr i) : g_gI (lnP h S D) (S.t i + (5 + f)) 8 1 = some (D (112 + 102 * i + (78 + f))) := gI_of (ln_f ok hi hf) rfl
theorem frT0 (ok : S.ok n) {i f : Nat} (hi : i < n) (hf : f < S.fr i) (v : Int32) : g_put (lnP h S D) (S.t i + (5 + f)) 8 0 (.int v) = some (lnP h S (upd D (112 + 102 * i + (54 + f)) v)) := by
  have h24 := (ok.2.2 i hi).1
  rw [put_of (ln_f ok hi hf) (Nat.le_of_ble_eq_true rfl), ← adr_t S i (5 + f) (by omega)]
  refine congrArg some (lnP_upd ok (has_f ok hi hf) (by unfold inR; omega) ?_)
  rw [lnC_f S _ i f (by omega)]
  simp only [frO, upd_at, upd_ne (show 112 + 102 * i + (78 + f) ≠ 112 + 102 * i + (54 + f) by omega)]
  rfl
theorem frT1 (ok : S.ok n) {i f : Nat} (hi : i < n) (hf : f < S.fr i) (v : Int32) : g_put (lnP h S D) (S.t i + (5 + f)) 8 1 (.int v) = some (lnP h S (upd D (112 + 102 * i + (78 + f)) v)) := by
  have h24 := (ok.2.2 i hi).1
  rw [put_of (ln_f ok hi hf) (Nat.le_of_ble_eq_true rfl), ← adr_t S i (5 + f) (by omega)]
  refine congrArg some (lnP_upd ok (has_f ok hi hf) (by unfold inR; omega) ?_)
  rw [lnC_f S _ i f (by omega)]
  simp only [frO, upd_at, upd_ne (show 112 + 102 * i + (54 + f) ≠ 112 + 102 * i + (78 + f) by omega)]
  rfl
theorem lnP_P (h : gH) (S : RS) (D D' : Nat → Int32) {n : Nat} (ok : S.ok n) : lnP (lnP h S D) S D' = lnP h S D' := by
  refine Prod.ext rfl (funext fun q => ?_)
  show (match lnC S D' (S.r q) with | some c => some c | none => (match lnC S D (S.r q) with | some c => some c | none => h.2 q)) = (match lnC S D' (S.r q) with | some c => some c | none => h.2 q)
  by_cases h0 : S.r q = 0
  · rw [h0]; rfl
  · obtain ⟨c, hc⟩ := lnC_of (D := D') (ok.1 q h0).2
    rw [hc]
/-- the heap holds the Line -/
def lnIs (h : gH) (S : RS) (D : Nat → Int32) (n : Nat) : Prop := ∀ r, S.has n r → h.2 (S.adr r) = lnC S D r
theorem lnP_self (ok : S.ok n) (H : lnIs h S D n) : lnP h S D = h := by
  refine Prod.ext rfl (funext fun q => ?_)
  show (match lnC S D (S.r q) with | some c => some c | none => h.2 q) = h.2 q
  by_cases h0 : S.r q = 0
  · rw [h0]; rfl
  · obtain ⟨a1, a2⟩ := ok.1 q h0
    have e := H _ a2
    rw [← a1] at e
    obtain ⟨c, hc⟩ := lnC_of (D := D) a2
    rw [hc] at e ⊢
    exact e.symm
theorem lnP_is (ok : S.ok n) : lnIs (lnP h S D) S D n := fun r hr => by
  obtain ⟨c, hc⟩ := lnC_of (D := D) hr
  rw [hc]
  exact lnP_in ok hr hc
end LN
