/-! a Line over a world: the cells that are never written; what its methods answer -/
/-- references in a row -/
def rfs (t n : Nat) (f : Nat → Nat) : gC := .inl (t, n, .inr (.inr (.inr (.inr fun i => if i < n then some (f i) else none))))
/-- a cell that none of the Line's parts is -/
def still (h : gH) (S : RS) (q : Nat) (c : gC) : Prop := h.2 q = some c ∧ S.r q = 0 ∧ S.P q
/-- a talk's word -/
def wrd (h : gH) (S : RS) (x n : Nat) (f : Nat → Int32) : Prop := ∃ (v : Nat) (a b : Int32) (g : Nat → Int32), still h S x (.inr (14, [.ref v, .int 0, .int a, .int b])) ∧ still h S v (.inl (1, n, .inl g)) ∧ ∀ k, k < n → g k = f k + 97
/-- a row of three numbers -/
def row3 (a b c : Int32) : Nat → Int32 := fun j => if j = 0 then a else if j = 1 then b else if j = 2 then c else 0
/-- the rows of keepers against the keepers of the world -/
def kpR (R : RW) (nk : Nat) (st : Nat → Nat) (tk ky : Nat → Int32) : Prop := (∀ r, r < nk → st r < 2 ∧ ∃ i, i < (R.kp (nI (st r))).told ∧ (R.kp (nI (st r))).ticks i = tk r ∧ (R.kp (nI (st r))).keys i = ky r) ∧ (∀ s i, s < 2 → i < (R.kp (nI s)).told → ∃ r, r < nk ∧ st r = s ∧ tk r = (R.kp (nI s)).ticks i) ∧ (∀ r r', r < nk → r' < nk → st r = st r' → tk r = tk r' → r = r') ∧ ∀ s, s < 2 → cnt (fun r => decide (st r = s)) nk = (R.kp (nI s)).told
def kpL (h : gH) (S : RS) (R : RW) : Prop := ∃ (nk : Nat) (rw st : Nat → Nat) (tk ky : Nat → Int32), nk ≤ 16 ∧ still h S S.KA (rfs 3 nk rw) ∧ (∀ r, r < nk → still h S (rw r) (.inl (0, 3, .inl (row3 (nI (st r)) (tk r) (ky r))))) ∧ kpR R nk st tk ky
def miL (h : gH) (S : RS) (R : RW) : Prop := ∃ rw : Nat → Nat, still h S S.MA (rfs 3 R.mi.told rw) ∧ ∀ r, r < R.mi.told → still h S (rw r) (.inl (0, 3, .inl (row3 (R.mi.firsts r) (R.mi.lasts r) (R.mi.levels r))))
def tkL (h : gH) (S : RS) (R : RW) (i : Nat) : Prop := S.len i = (R.ms i).len ∧ S.fr i = (R.ms i).frames ∧ still h S (S.t i + 4) (rfs 6 (S.fr i) (fun f => S.t i + (5 + f))) ∧ wrd h S (S.w i) (S.len i) (R.ms i).letters
/-- what of the Line is never written -/
def lnK (h : gH) (S : RS) (R : RW) : Prop := still h S (S.B + 1) (rfs 7 2 S.p) ∧ still h S S.TA (rfs 8 R.told S.t) ∧ (∀ i, i < R.told → tkL h S R i) ∧ kpL h S R ∧ miL h S R
theorem still.P {h : gH} {S : RS} {q : Nat} {c : gC} (k : still h S q c) (D : Nat → Int32) : (lnP h S D).2 q = some c := (lnP_out k.2.1).trans k.1
theorem rfs_l {h : gH} {a t n i : Nat} {f : Nat → Nat} (e : h.2 a = some (rfs t n f)) (hi : i < n) (hn : n < 2 ^ 31) : g_qld h a t (nI i) = some (some (f i)) := by
  rw [qld_of e hi hn, if_pos hi]
theorem rfs_n {h : gH} {a t n : Nat} {f : Nat → Nat} (e : h.2 a = some (rfs t n f)) (ht : Nat.blt t 10 = true := by rfl) : g_aln h a = some (nI n) := alnQ_of e ht
theorem row3_l {h : gH} {a : Nat} {x y z : Int32} (e : h.2 a = some (.inl (0, 3, .inl (row3 x y z)))) : g_ald h a 0 = some x ∧ g_ald h a 1 = some y ∧ g_ald h a 2 = some z :=
  ⟨ald_of (i := 0) e (by omega) (by omega), ald_of (i := 1) e (by omega) (by omega), ald_of (i := 2) e (by omega) (by omega)⟩
/-- what a log and what was heard may hold -/
def RW.lgs (R : RW) : Prop := (∀ i, i < R.told → ∀ k, k < (R.ms i).len → (R.ms i).log k = -1 ∨ lOf ((R.ms i).log k)) ∧ (∀ b k, k < (R.ch b).n → lOf ((R.ch b).heard k)) ∧ ∀ b, ∃ o c : Nat, o < 24 ∧ c < 24 ∧ (R.ch b).opening = nI o ∧ (R.ch b).closing = nI c
/-- the Line tells the world R by the row D -/
def lnR (h : gH) (S : RS) (D : Nat → Int32) (R : RW) : Prop := S.ok R.told ∧ lnK h S R ∧ Rel R D ∧ R.lgs
theorem lg_neg {v : Int32} (h : v = -1 ∨ lOf v) : (v < 0) = (v = -1) := by
  rcases h with h | ⟨c, c1, c2⟩
  · rw [h]; decide
  · rw [c2]
    exact propext ⟨fun z => absurd z (nI_pos (by omega)), fun z => absurd z (by have := nI_neN (i := c) (by omega); exact this)⟩
theorem lg_nonneg {v : Int32} (h : v = -1 ∨ lOf v) : (0 ≤ v) = ¬ (v = -1) := by
  rcases h with h | ⟨c, c1, c2⟩
  · rw [h]; decide
  · rw [c2]
    exact propext ⟨fun _ => nI_neN (i := c) (by omega), fun _ => nI_pos' (by omega)⟩
section RD
variable {G : gG} {h : gH} {S : RS} {D : Nat → Int32} {R : RW}
theorem wrd_asc {n : Nat} {f g : Nat → Int32} (e : ∀ k, k < n → g k = f k + 97) (hl : ∀ k, k < n → lOf (f k)) : asc n g := fun k hk => by
  obtain ⟨c, c1, c2⟩ := hl k hk
  exact ⟨c + 97, by omega, by rw [e k hk, c2, show (97 : Int32) = nI 97 by decide, nI_add]⟩
theorem lnR.inv1 (L : lnR h S D R) {i : Nat} (hi : i < R.told) : ∃ l, 1 ≤ l ∧ l ≤ 9 ∧ (R.ms i).inv R.fsize l := by
  obtain ⟨l, l1, l2, l3, l4⟩ := L.2.2.1.inv.2.2.2.1
  exact ⟨l, l1, l2, l4 i hi⟩
theorem lnR.len24 (L : lnR h S D R) {i : Nat} (hi : i < R.told) : (R.ms i).len ≤ 24 ∧ (R.ms i).frames ≤ 24 := by
  obtain ⟨l, -, -, hM⟩ := L.inv1 hi
  exact ⟨hM.2.2.1, hM.fr24 L.2.2.1.inv.2.1⟩
theorem lnR.slen (L : lnR h S D R) {i : Nat} (hi : i < R.told) : S.len i = (R.ms i).len := (L.2.1.2.2.1 i hi).1
theorem lnR.sfr (L : lnR h S D R) {i : Nat} (hi : i < R.told) : S.fr i = (R.ms i).frames := (L.2.1.2.2.1 i hi).2.1
theorem letter_r (L : lnR h S D R) {i k : Nat} (hi : i < R.told) (hk : k < (R.ms i).len) : f_X12_letter G (lnP h S D) (S.t i) (nI k) = some ((R.ms i).letters k) := by
  have h24 := L.len24 hi
  have k1 := L.slen hi
  obtain ⟨l, -, -, hM⟩ := L.inv1 hi
  obtain ⟨ok, K, rel, -⟩ := L
  obtain ⟨-, k2, k3, v, a, b, g, w1, w2, w3⟩ := K.2.2.1 i hi
  have t := txt_dyn (G := G) (w1.P D) (w2.P D)
  have ha := wrd_asc w3 (by rw [k1]; exact hM.2.2.2.2.2.2.2.2.2)
  simp only [f_X12_letter, tk_word ok hi, Option.bind_some, t.isS, cond_true, charAt_t t ha (by omega) (show k < S.len i by omega), w3 k (by omega)]
  rw [Int32.add_sub_cancel]
theorem frame_r (L : lnR h S D R) {i f : Nat} (hi : i < R.told) (hf : f < (R.ms i).frames) : g_qld (lnP h S D) (S.t i + 4) 6 (nI f) = some (some (S.t i + (5 + f))) := by
  have h24 := L.len24 hi
  have k1 := L.sfr hi
  exact rfs_l ((L.2.1.2.2.1 i hi).2.2.1.P D) (by omega) (by omega)
theorem frameN_r (L : lnR h S D R) {i : Nat} (hi : i < R.told) : g_aln (lnP h S D) (S.t i + 4) = some (nI (R.ms i).frames) := by
  rw [← L.sfr hi]
  exact rfs_n ((L.2.1.2.2.1 i hi).2.2.1.P D)
theorem logN_r (L : lnR h S D R) {i : Nat} (hi : i < R.told) : g_aln (lnP h S D) (S.t i + 3) = some (nI (R.ms i).len) := by
  rw [← L.slen hi]
  exact lgN L.1 hi
theorem log_r (L : lnR h S D R) {i k : Nat} (hi : i < R.told) (hk : k < (R.ms i).len) : g_ald (lnP h S D) (S.t i + 3) (nI k) = some ((R.ms i).log k) := by
  have h24 := L.len24 hi
  have k1 := L.slen hi
  rw [lgL L.1 hi (by omega), (L.2.2.1.ms i hi).2.2.2.2.2.2.2.1 k (by omega)]
theorem talk_r (L : lnR h S D R) {i : Nat} (hi : i < R.told) : g_qld (lnP h S D) S.TA 8 (nI i) = some (some (S.t i)) := by
  have := L.2.2.1.inv.1
  exact rfs_l (L.2.1.2.1.P D) hi (by omega)
theorem talkN_r (L : lnR h S D R) : g_aln (lnP h S D) S.TA = some (nI R.told) := rfs_n (L.2.1.2.1.P D)
theorem empty_l (L : lnR h S D R) {i : Nat} (hi : i < R.told) : ∀ (d k fuel : Nat) (x : Int32), k + d = (R.ms i).len → d < fuel → f_X12_empty_b13 G (lnP h S D) fuel x (S.t i + 3) (nI (R.ms i).len) (nI k) = some (up (fun k x => if (R.ms i).log k = -1 then x + 1 else x) d k x) := by
  have h24 := L.len24 hi
  intro d
  induction d with
  | zero =>
    intro k fuel x hk hf
    obtain ⟨fu, rfl⟩ := Nat.exists_eq_succ_of_ne_zero (Nat.ne_of_gt hf)
    simp only [f_X12_empty_b13, if_neg (nI_nlt (show (R.ms i).len ≤ k by omega) (show k < 2 ^ 31 by omega)), up]
  | succ d ih =>
    intro k fuel x hk hf
    obtain ⟨fu, rfl⟩ := Nat.exists_eq_succ_of_ne_zero (Nat.ne_of_gt (Nat.zero_lt_of_lt hf))
    simp only [f_X12_empty_b13, if_pos (nI_lt (show k < (R.ms i).len by omega) (show (R.ms i).len < 2 ^ 31 by omega)), log_r L hi (show k < (R.ms i).len by omega), Option.bind_some, f_X12_empty_b33, ← nI_succ, up, lg_neg (L.2.2.2.1 i hi k (by omega))]
    by_cases c : (R.ms i).log k = -1
    · simp only [c, if_true]; exact ih (k + 1) fu (x + 1) (by omega) (by omega)
    · simp only [c, if_false]; exact ih (k + 1) fu x (by omega) (by omega)
theorem empty_r (L : lnR h S D R) {i : Nat} (hi : i < R.told) : f_X12_empty G (lnP h S D) (S.t i) = some (R.ms i).empties := by
  have h24 := L.len24 hi
  simp only [f_X12_empty, tk_log L.1 hi, Option.bind_some, logN_r L hi]
  have := empty_l (G := G) L hi (R.ms i).len 0 g_N 0 (by omega) (by unfold g_N; omega)
  rw [nI_0] at this
  exact this
theorem wrong_l (L : lnR h S D R) {i : Nat} (hi : i < R.told) : ∀ (d k fuel : Nat) (x : Int32), k + d = (R.ms i).len → d < fuel → f_X12_wrong_b4 G (lnP h S D) fuel (S.t i) x (nI k) = some (up (fun k x => if (R.ms i).log k = -1 then x else if (R.ms i).log k = (R.ms i).letters k then x else x + 1) d k x) := by
  have h24 := L.len24 hi
  intro d
  induction d with
  | zero =>
    intro k fuel x hk hf
    obtain ⟨fu, rfl⟩ := Nat.exists_eq_succ_of_ne_zero (Nat.ne_of_gt hf)
    simp only [f_X12_wrong_b4, tk_log L.1 hi, Option.bind_some, logN_r L hi, if_neg (nI_nlt (show (R.ms i).len ≤ k by omega) (show k < 2 ^ 31 by omega)), up]
  | succ d ih =>
    intro k fuel x hk hf
    obtain ⟨fu, rfl⟩ := Nat.exists_eq_succ_of_ne_zero (Nat.ne_of_gt (Nat.zero_lt_of_lt hf))
    have hk2 : k < (R.ms i).len := by omega
    simp only [f_X12_wrong_b4, tk_log L.1 hi, Option.bind_some, logN_r L hi, if_pos (nI_lt hk2 (show (R.ms i).len < 2 ^ 31 by omega)), log_r L hi hk2, f_X12_wrong_b39, ← nI_succ, up, lg_nonneg (L.2.2.2.1 i hi k hk2), ln_gt L.1 hi, cond_true, letter_r L hi hk2]
    by_cases c : (R.ms i).log k = -1
    · simp only [c, not_true_eq_false, if_true, if_false]; exact ih (k + 1) fu x (by omega) (by omega)
    · simp only [c, not_false_eq_true, if_true, if_false]
      by_cases c2 : (R.ms i).log k = (R.ms i).letters k
      · simp only [c2, if_true]; exact ih (k + 1) fu x (by omega) (by omega)
      · simp only [c2, if_false]; exact ih (k + 1) fu (x + 1) (by omega) (by omega)
theorem wrong_r (L : lnR h S D R) {i : Nat} (hi : i < R.told) : f_X12_wrong G (lnP h S D) (S.t i) = some (R.ms i).wrongs := by
  have h24 := L.len24 hi
  have := wrong_l (G := G) L hi (R.ms i).len 0 g_N 0 (by omega) (by unfold g_N; omega)
  rw [nI_0] at this
  exact this
theorem phase_r (L : lnR h S D R) {i : Nat} (hi : i < R.told) : g_gI (lnP h S D) (S.t i) 12 5 = some (R.ms i).phase := by
  rw [tkG_state L.1 hi, (L.2.2.1.ms i hi).2.2.2.1]
theorem agrees_r (L : lnR h S D R) {i : Nat} (hi : i < R.told) : f_X12_agrees G (lnP h S D) (S.t i) = some (bI (R.ms i).agrees) := by
  have h24 := L.len24 hi
  obtain ⟨a, a1, a2⟩ := empties_few (R.ms i)
  obtain ⟨b, b1, b2⟩ := wrongs_few (R.ms i)
  simp only [f_X12_agrees, phase_r L hi, Option.bind_some, ln_gt L.1 hi, cond_true, empty_r L hi, wrong_r L hi, RMs.agrees]
  by_cases c : (R.ms i).phase = 2
  · rw [if_pos c, a2, b2, nI_add]
    simp only [c, true_and, nI_eq0 (show a + b < 2 ^ 31 by omega), nI_eq0 (show a < 2 ^ 31 by omega), nI_eq0 (show b < 2 ^ 31 by omega)]
    by_cases z : a + b = 0
    · have z1 : a = 0 := by omega
      have z2 : b = 0 := by omega
      subst z1; subst z2
      rfl
    · rw [if_neg z, decide_eq_false (fun q => z (by omega))]; rfl
  · rw [if_neg c, decide_eq_false (fun q => c q.1)]; rfl
theorem tries_l2 (L : lnR h S D R) {i : Nat} (hi : i < R.told) : ∀ (d k fuel : Nat) (x : Int32), k + d = (R.ms i).frames → d < fuel → f_X12_tries_b13 G (lnP h S D) fuel x (S.t i + 4) (nI (R.ms i).frames) (nI k) = some (up (fun k x => x + (R.ms i).tries k) d k x) := by
  have h24 := L.len24 hi
  intro d
  induction d with
  | zero =>
    intro k fuel x hk hf
    obtain ⟨fu, rfl⟩ := Nat.exists_eq_succ_of_ne_zero (Nat.ne_of_gt hf)
    simp only [f_X12_tries_b13, if_neg (nI_nlt (show (R.ms i).frames ≤ k by omega) (show k < 2 ^ 31 by omega)), up]
  | succ d ih =>
    intro k fuel x hk hf
    obtain ⟨fu, rfl⟩ := Nat.exists_eq_succ_of_ne_zero (Nat.ne_of_gt (Nat.zero_lt_of_lt hf))
    have hk2 : k < (R.ms i).frames := by omega
    have et : D (112 + 102 * i + (78 + k)) = (R.ms i).tries k := (L.2.2.1.ms i hi).2.2.2.2.2.2.2.2.2 k (by omega)
    simp only [f_X12_tries_b13, if_pos (nI_lt hk2 (show (R.ms i).frames < 2 ^ 31 by omega)), frame_r L hi hk2, Option.bind_some, frG1 L.1 hi (show k < S.fr i by rw [L.sfr hi]; exact hk2), et, ← nI_succ, up]
    exact ih (k + 1) fu _ (by omega) (by omega)
theorem tries_r (L : lnR h S D R) {i : Nat} (hi : i < R.told) : f_X12_tries G (lnP h S D) (S.t i) = some (R.ms i).sumTries := by
  have h24 := L.len24 hi
  simp only [f_X12_tries, tk_frames L.1 hi, Option.bind_some, frameN_r L hi]
  have := tries_l2 (G := G) L hi (R.ms i).frames 0 g_N 0 (by omega) (by unfold g_N; omega)
  rw [nI_0] at this
  exact this
end RD
