/-- what is written down of a frame -/
def RMs.written (M : RMs) (b : Nat) (heard : Nat → Int32) (k : Nat) : RMs := if M.frames ≤ b then M else (RMs.mk M.sender M.urgency M.len M.fsize M.frames M.phase M.began M.ended M.unf M.letters (up (fun i L => if b * M.fsize + i < M.len ∧ L (b * M.fsize + i) = -1 then upd L (b * M.fsize + i) (heard i) else L) k 0 M.log) M.fst M.tries)
theorem written_l {a p : Nat} {heard : Nat → Int32} {k f0 : Nat} (hk : k ≤ 8) (hf0 : f0 ≤ 1000) : ∀ (d i fuel : Nat) (h : gH) (M : RMs), M.len ≤ 24 → i + d = k → d < fuel → (∀ L, f_X7_valueAt (msP h a L) p = fun j => some (rowAt 8 heard j)) → f_X3_writeDown_b19 fuel (msP h a M) a p (nI k) (nI f0) (nI i) = some (msP h a (RMs.mk M.sender M.urgency M.len M.fsize M.frames M.phase M.began M.ended M.unf M.letters (up (fun i L => if f0 + i < M.len ∧ L (f0 + i) = -1 then upd L (f0 + i) (heard i) else L) d i M.log) M.fst M.tries)) := by
  intro d
  induction d with
  | zero =>
    intro i fuel h M hM hi hf hp
    obtain ⟨fu, rfl⟩ := Nat.exists_eq_succ_of_ne_zero (Nat.ne_of_gt hf)
    simp [RCh_s, RKp_s, RMs_s, RMi_s, bI_t, bI_f, oI_none, oI_some, SIM_m40, f_X3_writeDown_b19, up, nI_nlt (show k ≤ i by omega) (by omega)]
  | succ d ih =>
    intro i fuel h M hM hi hf hp
    obtain ⟨fu, rfl⟩ := Nat.exists_eq_succ_of_ne_zero (Nat.ne_of_gt (Nat.zero_lt_of_lt hf))
    simp only [RCh_s, RKp_s, RMs_s, RMi_s, f_X3_writeDown_b19, if_pos (nI_lt (show i < k by omega) (by omega)), msP_g, cond_true, nI_add, hasPlace_ms, hasPlace_nI hM (show f0 + i < 2 ^ 31 by omega), Option.bind_some, up, f_X3_writeDown_b68, ← nI_succ]
    by_cases c : f0 + i < M.len
    · simp only [RCh_s, RKp_s, RMs_s, RMi_s, c, decide_true, bI_t, true_and]
      rw [if_neg (by decide)]
      simp only [RCh_s, RKp_s, RMs_s, RMi_s, loggedAt_ms, rowAt_in (show f0 + i < 24 by omega) (by decide), Option.bind_some, msG_log, hp, rowAt_in (show i < 8 by omega) (by decide), msW_log, rowSet_in (show f0 + i < 24 by omega) (by decide)]
      by_cases c2 : M.log (f0 + i) = -1
      · simp only [RCh_s, RKp_s, RMs_s, RMi_s, c2, if_true]
        exact ih (i + 1) fu h (RMs.mk M.sender M.urgency M.len M.fsize M.frames M.phase M.began M.ended M.unf M.letters (upd M.log (f0 + i) (heard i)) M.fst M.tries) hM (by omega) (by omega) hp
      · simp only [RCh_s, RKp_s, RMs_s, RMi_s, c2, if_false]
        exact ih (i + 1) fu h M hM (by omega) (by omega) hp
    · simp only [RCh_s, RKp_s, RMs_s, RMi_s, c, decide_false, bI_f, if_true, false_and, if_false]
      exact ih (i + 1) fu h M hM (by omega) (by omega) hp
theorem written_ms {h : gH} {a p : Nat} {M : RMs} (hM : M.ok) {heard : Nat → Int32} (hp : ∀ L, (msP h a L).2 p = some (.inl (0, 8, .inl heard))) {b k : Nat} (hb : b < 26) (hk : k ≤ 8) : f_X3_writeDown (msP h a M) a (nI b) p (nI k) = some (msP h a (M.written b heard k)) := by
  obtain ⟨m1, m2, m3, m4⟩ := hM
  simp only [RCh_s, RKp_s, RMs_s, RMi_s, f_X3_writeDown, msG_frames, Option.bind_some, nI_leI (show M.frames < 2 ^ 31 by omega) (show b < 2 ^ 31 by omega), RMs.written]
  by_cases c : M.frames ≤ b
  · simp [RCh_s, RKp_s, RMs_s, RMi_s, bI_t, bI_f, oI_none, oI_some, SIM_m40, c]
  · simp only [RCh_s, RKp_s, RMs_s, RMi_s, c, if_false, msP_g, cond_true, firstPlace_ms, Option.bind_some, nI_mul]
    rw [show f_X3_writeDown_b19 g_N (msP h a M) a p (nI k) (nI (b * M.fsize)) 0 = f_X3_writeDown_b19 g_N (msP h a M) a p (nI k) (nI (b * M.fsize)) (nI 0) by rw [nI_0]]
    have : b * M.fsize ≤ 26 * 8 := Nat.mul_le_mul (by omega) m4
    exact written_l hk (by omega) k 0 g_N h M m1 (by omega) (by unfold g_N; omega) (fun L => funext fun j => valueAt_of (hp L) (by decide) j)
/-- a try ends: whether the frame is given up, and the message then -/
def RMs.endTry (M : RMs) (f : Nat) (yes : Bool) (limit : Int32) : Bool × RMs :=
  if yes then (false, (RMs.mk M.sender M.urgency M.len M.fsize M.frames M.phase M.began M.ended (M.unf - 1) M.letters M.log (upd M.fst f 2) M.tries))
  else if M.tries f + 1 < limit then (false, (RMs.mk M.sender M.urgency M.len M.fsize M.frames M.phase M.began M.ended M.unf M.letters M.log (upd M.fst f 0) (upd M.tries f (M.tries f + 1))))
  else (true, (RMs.mk M.sender M.urgency M.len M.fsize M.frames M.phase M.began M.ended (M.unf - 1) M.letters M.log (upd M.fst f 3) (upd M.tries f (M.tries f + 1))))
theorem endTry_ms {h : gH} {a : Nat} {M : RMs} {f : Nat} (hf : f < 24) (yes : Bool) (limit : Int32) : f_X3_endTry (msP h a M) a (nI f) (bI yes) limit = some (bI (M.endTry f yes limit).1, msP h a (M.endTry f yes limit).2) := by
  simp only [RCh_s, RKp_s, RMs_s, RMi_s, f_X3_endTry, RMs.endTry]
  cases yes
  · simp only [RCh_s, RKp_s, RMs_s, RMi_s, bI_f, if_true, msG_tries, msV_tries, msW_tries, msG_fst, msW_fst, msG_unf, msT_unf, Option.bind_some, rowAt_in hf (show 24 < 2 ^ 31 by decide), rowSet_in hf (show 24 < 2 ^ 31 by decide)]
    by_cases c : M.tries f + 1 < limit
    · simp [RCh_s, RKp_s, RMs_s, RMi_s, bI_t, bI_f, oI_none, oI_some, SIM_m40, c]
    · simp [RCh_s, RKp_s, RMs_s, RMi_s, bI_t, bI_f, oI_none, oI_some, SIM_m40, c]
  · have h10 : ((1 : Int32) = 0) = False := eq_false (by decide)
    simp only [RCh_s, RKp_s, RMs_s, RMi_s, bI_t, h10, if_false, msG_fst, msW_fst, msG_unf, msT_unf, Option.bind_some, rowSet_in hf (show 24 < 2 ^ 31 by decide), if_true, bI_f]
def fil (n : Nat) (v : Int32) (f : Nat → Int32) : Nat → Int32 := fun k => if k < n then v else f k
theorem fil_0 (v : Int32) (f : Nat → Int32) : fil 0 v f = f := funext fun k => by simp [RCh_s, RKp_s, RMs_s, RMi_s, bI_t, bI_f, oI_none, oI_some, SIM_m40, fil]
theorem fil_s (n : Nat) (v : Int32) (f : Nat → Int32) : upd (fil n v f) n v = fil (n + 1) v f := funext fun k => by
  unfold upd fil
  by_cases c : k = n
  · simp [RCh_s, RKp_s, RMs_s, RMi_s, bI_t, bI_f, oI_none, oI_some, SIM_m40, c]
  · by_cases c2 : k < n
    · simp [RCh_s, RKp_s, RMs_s, RMi_s, bI_t, bI_f, oI_none, oI_some, SIM_m40, c, c2, show k < n + 1 by omega]
    · simp [RCh_s, RKp_s, RMs_s, RMi_s, bI_t, bI_f, oI_none, oI_some, SIM_m40, c, c2, show ¬ k < n + 1 by omega]
def RMs.become (M : RMs) (s u : Int32) (z : Nat) : RMs := (RMs.mk s u M.len z M.frames 0 (-1) (-1) M.unf M.letters (fil 24 (-1) M.log) (fil 24 0 M.fst) (fil 24 0 M.tries))
theorem become_l {h : gH} {a : Nat} {M : RMs} : ∀ (d i fuel : Nat), i + d = 24 → d < fuel → f_X3_become_b33 fuel (msP h a (RMs.mk M.sender M.urgency M.len M.fsize M.frames M.phase M.began M.ended M.unf M.letters (fil i (-1) M.log) (fil i 0 M.fst) (fil i 0 M.tries))) a (nI i) = some (msP h a (RMs.mk M.sender M.urgency M.len M.fsize M.frames M.phase M.began M.ended M.unf M.letters (fil 24 (-1) M.log) (fil 24 0 M.fst) (fil 24 0 M.tries))) := by
  intro d
  induction d with
  | zero =>
    intro i fuel hi hf
    obtain ⟨fu, rfl⟩ := Nat.exists_eq_succ_of_ne_zero (Nat.ne_of_gt hf)
    have : i = 24 := by omega
    subst this
    rw [f_X3_become_b33, if_neg (by decide)]
  | succ d ih =>
    intro i fuel hi hf
    obtain ⟨fu, rfl⟩ := Nat.exists_eq_succ_of_ne_zero (Nat.ne_of_gt (Nat.zero_lt_of_lt hf))
    have q := ih (i + 1) fu (by omega) (by omega)
    simp only [RCh_s, RKp_s, RMs_s, RMi_s, f_X3_become_b33, show (24 : Int32) = nI 24 by decide, if_pos (nI_lt (show i < 24 by omega) (by decide)), msG_log, msG_fst, msG_tries, msW_log, msW_fst, msW_tries, Option.bind_some, rowSet_in (show i < 24 by omega) (by decide), fil_s, ← nI_succ]
    exact q
theorem become_ms {h : gH} {a : Nat} {M : RMs} (s u : Int32) (z : Nat) : f_X3_become (msP h a M) a s u (nI z) = some (msP h a (M.become s u z)) := by
  simp only [RCh_s, RKp_s, RMs_s, RMi_s, f_X3_become, msT_sender, msT_urgency, msT_fsize, msT_phase, msT_began, msT_ended, Option.bind_some]
  have q := become_l (h := h) (a := a) (M := (RMs.mk s u M.len z M.frames 0 (-1) (-1) M.unf M.letters M.log M.fst M.tries)) 24 0 g_N (by omega) (by unfold g_N; omega)
  simp only [RCh_s, RKp_s, RMs_s, RMi_s, fil_0, nI_0] at q
  exact q
/-- letters out of a text -/
def ltr (n p : Nat) (T f : Nat → Int32) : Nat → Int32 := fun k => if k < n then T (p + k) - 97 else f k
theorem ltr_0 (p : Nat) (T f : Nat → Int32) : ltr 0 p T f = f := funext fun k => by simp [RCh_s, RKp_s, RMs_s, RMi_s, bI_t, bI_f, oI_none, oI_some, SIM_m40, ltr]
theorem ltr_s (n p : Nat) (T f : Nat → Int32) : upd (ltr n p T f) n (T (p + n) - 97) = ltr (n + 1) p T f := funext fun k => by
  unfold upd ltr
  by_cases c : k = n
  · simp [RCh_s, RKp_s, RMs_s, RMi_s, bI_t, bI_f, oI_none, oI_some, SIM_m40, c]
  · by_cases c2 : k < n
    · simp [RCh_s, RKp_s, RMs_s, RMi_s, bI_t, bI_f, oI_none, oI_some, SIM_m40, c, c2, show k < n + 1 by omega]
    · simp [RCh_s, RKp_s, RMs_s, RMi_s, bI_t, bI_f, oI_none, oI_some, SIM_m40, c, c2, show ¬ k < n + 1 by omega]
def RMs.letters' (M : RMs) (T : Nat → Int32) (p n : Nat) : RMs := (RMs.mk M.sender M.urgency n M.fsize ((n + M.fsize - 1) / M.fsize) M.phase M.began M.ended (nI ((n + M.fsize - 1) / M.fsize)) (ltr n p T M.letters) M.log M.fst M.tries)
theorem letters_l {h : gH} {a t p n : Nat} {M : RMs} {T : Nat → Int32} (hs : 1 ≤ M.fsize) (hs8 : M.fsize ≤ 8) (hn : n ≤ 24) (hp : p + n ≤ 500) (ht : ∀ L, (msP h a L).2 t = some (.inl (1, 500, .inl T))) (hl : M.len = n) : ∀ (d i fuel : Nat), i + d = n → d < fuel → f_X3_takeLetters_b13 fuel (msP h a (RMs.mk M.sender M.urgency M.len M.fsize M.frames M.phase M.began M.ended M.unf (ltr i p T M.letters) M.log M.fst M.tries)) a t (nI p) (nI i) = some (msP h a (M.letters' T p n)) := by
  subst hl
  intro d
  induction d with
  | zero =>
    intro i fuel hi hf
    obtain ⟨fu, rfl⟩ := Nat.exists_eq_succ_of_ne_zero (Nat.ne_of_gt hf)
    have : i = M.len := by omega
    subst this
    have h0 : ¬ nI M.fsize < 1 := by
      rw [show (1 : Int32) = nI 1 by decide]
      exact nI_nlt hs (by omega)
    have e1 : nI M.len + nI M.fsize - 1 = nI (M.len + M.fsize - 1) := by
      rw [nI_add, show (1 : Int32) = nI 1 by decide, nI_sub (by omega)]
    simp only [RCh_s, RKp_s, RMs_s, RMi_s, f_X3_takeLetters_b13, msG_len, if_neg (nI_nlt (Nat.le_refl M.len) (show M.len < 2 ^ 31 by omega)), msG_fsize, Option.bind_some, if_neg h0, if_neg (nI_ne0 (show 0 < M.fsize by omega) (by omega)), e1, nI_div (show M.len + M.fsize - 1 < 2 ^ 31 by omega) (show M.fsize < 2 ^ 31 by omega) (by omega), f_X3_takeLetters_b91, msT_frames, msG_frames, msT_unf, RMs.letters']
  | succ d ih =>
    intro i fuel hi hf
    obtain ⟨fu, rfl⟩ := Nat.exists_eq_succ_of_ne_zero (Nat.ne_of_gt (Nat.zero_lt_of_lt hf))
    have q := ih (i + 1) fu (by omega) (by omega)
    have z0 : (0 : Int32) ≤ nI (p + i) := nI_pos' (by omega)
    simp only [RCh_s, RKp_s, RMs_s, RMi_s, f_X3_takeLetters_b13, msG_len, if_pos (nI_lt (show i < M.len by omega) (by omega)), Option.bind_some, if_pos z0, aln_of (ht _), nI_add, if_pos (nI_lt (show p + i < 500 by omega) (by decide)), msG_letters, bld_of (ht _) (show p + i < 500 by omega) (by decide), msW_letters, rowSet_in (show i < 24 by omega) (by decide), ltr_s, f_X3_takeLetters_b56, ← nI_succ]
    exact q
theorem letters_ms {h : gH} {a t p n : Nat} {M : RMs} {T : Nat → Int32} (hs : 1 ≤ M.fsize) (hs8 : M.fsize ≤ 8) (hn : n ≤ 24) (hp : p + n ≤ 500) (ht : ∀ L, (msP h a L).2 t = some (.inl (1, 500, .inl T))) : f_X3_takeLetters (msP h a M) a t (nI p) (nI n) = some (msP h a (M.letters' T p n)) := by
  unfold f_X3_takeLetters
  rw [show (24 : Int32) = nI 24 by decide, g_min_nI (by omega) (by decide), Nat.min_eq_left hn]
  simp only [RCh_s, RKp_s, RMs_s, RMi_s, msT_len, Option.bind_some]
  have q := letters_l (h := h) (a := a) (t := t) (p := p) (n := n) (M := (RMs.mk M.sender M.urgency n M.fsize M.frames M.phase M.began M.ended M.unf M.letters M.log M.fst M.tries)) (T := T) hs hs8 hn hp ht rfl n 0 g_N (by omega) (by unfold g_N; omega)
  simp only [RCh_s, RKp_s, RMs_s, RMi_s, ltr_0, nI_0] at q
  exact q
/-- a copy: the rows as far as they go -/
def RMs.cop (M K : RMs) : RMs := (RMs.mk M.sender M.urgency M.len M.fsize M.frames M.phase M.began M.ended M.unf (cpy 24 M.letters K.letters) (cpy 24 M.log K.log) (cpy 24 M.fst K.fst) (cpy 24 M.tries K.tries))
theorem gI_msO {h : gH} {p j : Nat} {R : RMs} {v : Int32} (e : h.2 p = some (msO p R)) (hj : (match msO p R with | .inr (_, fs) => fs[j]? | _ => none) = some (.int v)) : g_gI h p 3 j = some v := gI_of e hj
theorem copyFrom_ms {h : gH} {a p : Nat} {K M : RMs} (HM : msIs h p M) (hd : p + 5 ≤ a ∨ a + 5 ≤ p) : f_X3_copyFrom (msP h a K) a p = some (msP h a (M.cop K)) := by
  obtain ⟨m0, m1, m2, m3, m4⟩ := HM
  have E : ∀ C', (msP h a C').2 p = some (msO p M) := fun C' => by rw [msP_ne (by omega) (by omega) (by omega) (by omega) (by omega)]; exact m0
  have E1 : ∀ C', (msP h a C').2 (p + 1) = some (.inl (0, 24, .inl M.letters)) := fun C' => by rw [msP_ne (by omega) (by omega) (by omega) (by omega) (by omega)]; exact m1
  have E2 : ∀ C', (msP h a C').2 (p + 2) = some (.inl (0, 24, .inl M.log)) := fun C' => by rw [msP_ne (by omega) (by omega) (by omega) (by omega) (by omega)]; exact m2
  have E3 : ∀ C', (msP h a C').2 (p + 3) = some (.inl (0, 24, .inl M.fst)) := fun C' => by rw [msP_ne (by omega) (by omega) (by omega) (by omega) (by omega)]; exact m3
  have E4 : ∀ C', (msP h a C').2 (p + 4) = some (.inl (0, 24, .inl M.tries)) := fun C' => by rw [msP_ne (by omega) (by omega) (by omega) (by omega) (by omega)]; exact m4
  have c1 : ∀ C', f_X7_copyRow (msP h a C') (p + 1) (a + 1) = some (msP h a (RMs.mk C'.sender C'.urgency C'.len C'.fsize C'.frames C'.phase C'.began C'.ended C'.unf (cpy 24 M.letters C'.letters) C'.log C'.fst C'.tries)) := fun C' => by
    rw [copyRow_of (E1 C') (msE_letters h a C') (by decide), msS_letters]; rfl
  have c2 : ∀ C', f_X7_copyRow (msP h a C') (p + 2) (a + 2) = some (msP h a (RMs.mk C'.sender C'.urgency C'.len C'.fsize C'.frames C'.phase C'.began C'.ended C'.unf C'.letters (cpy 24 M.log C'.log) C'.fst C'.tries)) := fun C' => by
    rw [copyRow_of (E2 C') (msE_log h a C') (by decide), msS_log]; rfl
  have c3 : ∀ C', f_X7_copyRow (msP h a C') (p + 3) (a + 3) = some (msP h a (RMs.mk C'.sender C'.urgency C'.len C'.fsize C'.frames C'.phase C'.began C'.ended C'.unf C'.letters C'.log (cpy 24 M.fst C'.fst) C'.tries)) := fun C' => by
    rw [copyRow_of (E3 C') (msE_fst h a C') (by decide), msS_fst]; rfl
  have c4 : ∀ C', f_X7_copyRow (msP h a C') (p + 4) (a + 4) = some (msP h a (RMs.mk C'.sender C'.urgency C'.len C'.fsize C'.frames C'.phase C'.began C'.ended C'.unf C'.letters C'.log C'.fst (cpy 24 M.tries C'.tries))) := fun C' => by
    rw [copyRow_of (E4 C') (msE_tries h a C') (by decide), msS_tries]; rfl
  simp only [RCh_s, RKp_s, RMs_s, RMi_s, f_X3_copyFrom, gI_msO (j := 0) (E _) rfl, gI_msO (j := 1) (E _) rfl, gI_msO (j := 2) (E _) rfl, gI_msO (j := 3) (E _) rfl, gI_msO (j := 4) (E _) rfl, gI_msO (j := 5) (E _) rfl, gI_msO (j := 6) (E _) rfl, gI_msO (j := 7) (E _) rfl, gI_msO (j := 8) (E _) rfl, Option.bind_some, msT_sender, msT_urgency, msT_len, msT_fsize, msT_frames, msT_phase, msT_began, msT_ended, msT_unf, gA_of (j := 9) (E _) rfl, gA_of (j := 10) (E _) rfl, gA_of (j := 11) (E _) rfl, gA_of (j := 12) (E _) rfl, msG_letters, msG_log, msG_fst, msG_tries, c1, c2, c3, c4, RMs.cop]
def RKp.cop (M K : RKp) : RKp := (RKp.mk M.told (cpy 8 M.ticks K.ticks) (cpy 8 M.keys K.keys))
theorem copyFrom_kp {h : gH} {a p : Nat} {K M : RKp} (HM : kpIs h p M) (hd : p + 3 ≤ a ∨ a + 3 ≤ p) : f_X2_copyFrom (kpP h a K) a p = some (kpP h a (M.cop K)) := by
  obtain ⟨m0, m1, m2⟩ := HM
  have E : ∀ C', (kpP h a C').2 p = some (kpO p M) := fun C' => by rw [kpP_ne (by omega) (by omega) (by omega)]; exact m0
  have E1 : ∀ C', (kpP h a C').2 (p + 1) = some (.inl (0, 8, .inl M.ticks)) := fun C' => by rw [kpP_ne (by omega) (by omega) (by omega)]; exact m1
  have E2 : ∀ C', (kpP h a C').2 (p + 2) = some (.inl (0, 8, .inl M.keys)) := fun C' => by rw [kpP_ne (by omega) (by omega) (by omega)]; exact m2
  have c1 : ∀ C', f_X7_copyRow (kpP h a C') (p + 1) (a + 1) = some (kpP h a (RKp.mk C'.told (cpy 8 M.ticks C'.ticks) C'.keys)) := fun C' => by
    rw [copyRow_of (E1 C') (kpE_ticks h a C') (by decide), kpS_ticks]; rfl
  have c2 : ∀ C', f_X7_copyRow (kpP h a C') (p + 2) (a + 2) = some (kpP h a (RKp.mk C'.told C'.ticks (cpy 8 M.keys C'.keys))) := fun C' => by
    rw [copyRow_of (E2 C') (kpE_keys h a C') (by decide), kpS_keys]; rfl
  simp only [RCh_s, RKp_s, RMs_s, RMi_s, f_X2_copyFrom, gI_of (j := 0) (E _) rfl, Option.bind_some, kpT_told, gA_of (j := 1) (E _) rfl, gA_of (j := 2) (E _) rfl, kpG_ticks, kpG_keys, c1, c2, RKp.cop]
def RMi.cop (M K : RMi) : RMi := (RMi.mk M.told (cpy 12 M.firsts K.firsts) (cpy 12 M.lasts K.lasts) (cpy 12 M.levels K.levels))
theorem copyFrom_mi {h : gH} {a p : Nat} {K M : RMi} (HM : miIs h p M) (hd : p + 4 ≤ a ∨ a + 4 ≤ p) : f_X4_copyFrom (miP h a K) a p = some (miP h a (M.cop K)) := by
  obtain ⟨m0, m1, m2, m3⟩ := HM
  have E : ∀ C', (miP h a C').2 p = some (miO p M) := fun C' => by rw [miP_ne (by omega) (by omega) (by omega) (by omega)]; exact m0
  have E1 : ∀ C', (miP h a C').2 (p + 1) = some (.inl (0, 12, .inl M.firsts)) := fun C' => by rw [miP_ne (by omega) (by omega) (by omega) (by omega)]; exact m1
  have E2 : ∀ C', (miP h a C').2 (p + 2) = some (.inl (0, 12, .inl M.lasts)) := fun C' => by rw [miP_ne (by omega) (by omega) (by omega) (by omega)]; exact m2
  have E3 : ∀ C', (miP h a C').2 (p + 3) = some (.inl (0, 12, .inl M.levels)) := fun C' => by rw [miP_ne (by omega) (by omega) (by omega) (by omega)]; exact m3
  have c1 : ∀ C', f_X7_copyRow (miP h a C') (p + 1) (a + 1) = some (miP h a (RMi.mk C'.told (cpy 12 M.firsts C'.firsts) C'.lasts C'.levels)) := fun C' => by
    rw [copyRow_of (E1 C') (miE_firsts h a C') (by decide), miS_firsts]; rfl
  have c2 : ∀ C', f_X7_copyRow (miP h a C') (p + 2) (a + 2) = some (miP h a (RMi.mk C'.told C'.firsts (cpy 12 M.lasts C'.lasts) C'.levels)) := fun C' => by
    rw [copyRow_of (E2 C') (miE_lasts h a C') (by decide), miS_lasts]; rfl
  have c3 : ∀ C', f_X7_copyRow (miP h a C') (p + 3) (a + 3) = some (miP h a (RMi.mk C'.told C'.firsts C'.lasts (cpy 12 M.levels C'.levels))) := fun C' => by
    rw [copyRow_of (E3 C') (miE_levels h a C') (by decide), miS_levels]; rfl
  simp only [RCh_s, RKp_s, RMs_s, RMi_s, f_X4_copyFrom, gI_of (j := 0) (E _) rfl, Option.bind_some, miT_told, gA_of (j := 1) (E _) rfl, gA_of (j := 2) (E _) rfl, gA_of (j := 3) (E _) rfl, miG_firsts, miG_lasts, miG_levels, c1, c2, c3, RMi.cop]
