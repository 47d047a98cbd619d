/-! the reference's questions about a message -/
theorem relN.fs {R : RW} {D : Nat → Int32} (h : relN R D) : D 8 = nI R.fsize := h.2.2.2.2.2.2.2.1
theorem up_few {g : Nat → Int32 → Int32} (hg : ∀ k x, g k x = x ∨ g k x = x + 1) : ∀ (d i c : Nat), ∃ n, n ≤ d ∧ up g d i (nI c) = nI (c + n)
  | 0, _, _ => ⟨0, Nat.le_refl _, rfl⟩
  | d + 1, i, c => by
    rw [up]
    rcases hg i (nI c) with e | e
    · obtain ⟨n, h1, h2⟩ := up_few hg d (i + 1) c
      exact ⟨n, by omega, by rw [e]; exact h2⟩
    · obtain ⟨n, h1, h2⟩ := up_few hg d (i + 1) (c + 1)
      exact ⟨n + 1, by omega, by rw [e, ← nI_succ, h2]; congr 1; omega⟩
theorem cnt_le (p : Nat → Bool) : ∀ n, cnt p n ≤ n
  | 0 => Nat.le_refl _
  | n + 1 => by
    have := cnt_le p n
    rw [cnt]
    split <;> omega
theorem cnt_0 {p : Nat → Bool} : ∀ {n : Nat}, cnt p n = 0 ↔ ∀ f, f < n → p f = false
  | 0 => ⟨fun _ f h => absurd h (by omega), fun _ => rfl⟩
  | n + 1 => by
    rw [cnt]
    have ih := cnt_0 (p := p) (n := n)
    cases e : p n with
    | false =>
      simp only [Bool.false_eq_true, if_false, Nat.add_zero]
      exact ih.trans ⟨fun h f hf => if e2 : f = n then e2 ▸ e else h f (by omega), fun h f hf => h f (by omega)⟩
    | true =>
      simp only [if_true]
      exact ⟨fun h => by omega, fun h => by rw [h n (by omega)] at e; cases e⟩
theorem div_mul_lt {z n f : Nat} (h1 : 1 ≤ z) (hf : f < (n + z - 1) / z) : f * z < n := by
  have : (f + 1) * z ≤ n + z - 1 := (Nat.le_div_iff_mul_le (by omega)).mp hf
  rw [Nat.add_mul] at this
  omega
section REL2
variable {x : gH} {m : Nat} {D : Nat → Int32}
theorem RMs.inv.fr' {M : RMs} {z l : Nat} (h : M.inv z l) (h1 : 1 ≤ z) {f : Nat} (hf : f < M.frames) : f * z < M.len := by
  obtain ⟨-, -, -, e, -⟩ := h
  rw [e] at hf
  exact div_mul_lt h1 hf
theorem RMs.inv.fr24 {M : RMs} {z l : Nat} (h : M.inv z l) (h1 : 1 ≤ z) : M.frames ≤ 24 := by
  obtain ⟨-, h3, h2, e, -⟩ := h
  rw [e]
  have : (M.len + z - 1) / z ≤ M.len := by
    apply Nat.div_le_of_le_mul
    have : M.len * z = M.len + M.len * (z - 1) := by
      obtain ⟨y, rfl⟩ : ∃ y, z = y + 1 := ⟨z - 1, by omega⟩
      rw [Nat.add_sub_cancel, Nat.mul_add, Nat.mul_one, Nat.add_comm]
    rw [Nat.mul_comm, this]
    have : 1 * (z - 1) ≤ M.len * (z - 1) := Nat.mul_le_mul_right _ h3
    omega
  omega
theorem RMs.inv.ok {M : RMs} {z l : Nat} (h : M.inv z l) (h1 : 1 ≤ z) (h8 : z ≤ 8) : M.ok := ⟨h.2.2.1, h.fr24 h1, by rw [h.1]; exact h1, by rw [h.1]; exact h8⟩
theorem RMs.inv.many_le {M : RMs} {z l : Nat} (h : M.inv z l) (h8 : z ≤ 8) (f : Nat) : M.many f ≤ 8 := by
  have := h.1
  unfold RMs.many
  omega
theorem frames_d (hx : isM x m) {M : RMs} {i z l : Nat} (hi : i < 8) (h1 : 1 ≤ z) (h8 : z ≤ 8) (hz : D 8 = nI z) (hM : M.inv z l) (h : relMs M (112 + 102 * i) D) : f_X8_frames (dP x m D) m (nI i) = some (nI M.frames) := by
  have e1 : nI M.len + nI z - 1 = nI (M.len + z - 1) := by rw [nI_add, show (1 : Int32) = nI 1 by decide, nI_sub (by have := hM.2.1; omega)]
  have h24 := hM.2.2.1
  simp only [f_X8_frames, dG hx, dI hx, Option.bind_some, dL8, cond_true, msL2 hx hi, h.2.2.1, hz, if_neg (nI_ne0 (show 0 < z by omega) (show z < 2 ^ 31 by omega)), e1, nI_div (show M.len + z - 1 < 2 ^ 31 by omega) (show z < 2 ^ 31 by omega) (show 0 < z by omega), ← hM.2.2.2.1]
theorem min_nI {a b : Nat} (ha : a < 2 ^ 31) (hb : b < 2 ^ 31) : f_X8_min (nI a) (nI b) = nI (min a b) := by
  unfold f_X8_min
  simp only [nI_ltI ha hb]
  by_cases c : a < b
  · rw [if_pos c, Nat.min_eq_left (by omega)]
  · rw [if_neg c, Nat.min_eq_right (by omega)]
theorem lettersOf_d (hx : isM x m) {M : RMs} {i z l f : Nat} (hi : i < 8) (h8 : z ≤ 8) (hz : D 8 = nI z) (hM : M.inv z l) (h : relMs M (112 + 102 * i) D) (hf : f * z ≤ M.len) : f_X8_lettersOf (dP x m D) m (nI i) (nI f) = some (nI (M.many f)) := by
  have h24 := hM.2.2.1
  simp only [f_X8_lettersOf, dG hx, dI hx, Option.bind_some, dL8, cond_true, msL2 hx hi, h.2.2.1, hz, nI_mul, nI_sub hf, min_nI (show z < 2 ^ 31 by omega) (show M.len - f * z < 2 ^ 31 by omega), RMs.many, hM.1]
theorem wr1_l (hx : isM x m) {M : RMs} {i z l : Nat} (hi : i < 8) (hM : M.inv z l) (h : relMs M (112 + 102 * i) D) : ∀ (d k fuel : Nat) (v : Int32), k + d = M.len → d < fuel → f_X8_wrongs_b5 (dP x m D) fuel m (nI i) 1 v (nI k) = some (up (fun k v => if M.log k = -1 then v + 1 else v) d k v) := by
  have h24 := hM.2.2.1
  obtain ⟨-, -, r3, -, -, -, r7, r8, -, -⟩ := h
  have z01 : ((0 : Int32) = 1) = False := eq_false (by decide)
  intro d
  induction d with
  | zero =>
    intro k fuel v hk hf
    obtain ⟨fu, rfl⟩ := Nat.exists_eq_succ_of_ne_zero (Nat.ne_of_gt hf)
    simp only [f_X8_wrongs_b5, dI hx, Option.bind_some, cond_true, msL2 hx hi, r3, if_neg (nI_nlt (show M.len ≤ k by omega) (show k < 2 ^ 31 by omega)), up]
  | succ d ih =>
    intro k fuel v hk hf
    obtain ⟨fu, rfl⟩ := Nat.exists_eq_succ_of_ne_zero (Nat.ne_of_gt (Nat.zero_lt_of_lt hf))
    simp only [f_X8_wrongs_b5, dI hx, Option.bind_some, cond_true, msL2 hx hi, r3, if_pos (nI_lt (show k < M.len by omega) (show M.len < 2 ^ 31 by omega)), msL30 hx hi (show k < 24 by omega), msL6 hx hi (show k < 24 by omega), r8 k (by omega), r7 k (by omega), f_X8_wrongs_b35, f_X8_wrongs_b71, f_X8_wrongs_b72, ← nI_succ, up, if_true, z01, if_false]
    by_cases c : M.log k = -1
    · have hne : ¬ (-1 : Int32) = M.letters k := by
        obtain ⟨n, n1, n2⟩ := hM.2.2.2.2.2.2.2.2.2 k (by omega)
        rw [n2]
        exact fun e => nI_neN (i := n) (by omega) e.symm
      simp only [c, if_true, if_neg hne]
      exact ih (k + 1) fu _ (by omega) (by omega)
    · simp only [c, if_false, Int32.add_zero]
      exact ih (k + 1) fu _ (by omega) (by omega)
theorem wr0_l (hx : isM x m) {M : RMs} {i z l : Nat} (hi : i < 8) (hM : M.inv z l) (h : relMs M (112 + 102 * i) D) : ∀ (d k fuel : Nat) (v : Int32), k + d = M.len → d < fuel → f_X8_wrongs_b5 (dP x m D) fuel m (nI i) 0 v (nI k) = some (up (fun k x => if M.log k = -1 then x else if M.log k = M.letters k then x else x + 1) d k v) := by
  have h24 := hM.2.2.1
  obtain ⟨-, -, r3, -, -, -, r7, r8, -, -⟩ := h
  have z01 : ((1 : Int32) = 0) = False := eq_false (by decide)
  intro d
  induction d with
  | zero =>
    intro k fuel v hk hf
    obtain ⟨fu, rfl⟩ := Nat.exists_eq_succ_of_ne_zero (Nat.ne_of_gt hf)
    simp only [f_X8_wrongs_b5, dI hx, Option.bind_some, cond_true, msL2 hx hi, r3, if_neg (nI_nlt (show M.len ≤ k by omega) (show k < 2 ^ 31 by omega)), up]
  | succ d ih =>
    intro k fuel v hk hf
    obtain ⟨fu, rfl⟩ := Nat.exists_eq_succ_of_ne_zero (Nat.ne_of_gt (Nat.zero_lt_of_lt hf))
    simp only [f_X8_wrongs_b5, dI hx, Option.bind_some, cond_true, msL2 hx hi, r3, if_pos (nI_lt (show k < M.len by omega) (show M.len < 2 ^ 31 by omega)), msL30 hx hi (show k < 24 by omega), msL6 hx hi (show k < 24 by omega), r8 k (by omega), r7 k (by omega), f_X8_wrongs_b35, f_X8_wrongs_b71, f_X8_wrongs_b72, ← nI_succ, up, if_true, z01, if_false]
    by_cases c : M.log k = -1
    · simp only [c, if_true, Int32.add_zero]
      exact ih (k + 1) fu _ (by omega) (by omega)
    · simp only [c, if_false]
      by_cases c2 : M.log k = M.letters k
      · simp only [c2, if_true, Int32.add_zero]
        exact ih (k + 1) fu _ (by omega) (by omega)
      · simp only [c2, if_false]
        exact ih (k + 1) fu _ (by omega) (by omega)
theorem wrongs1_d (hx : isM x m) {M : RMs} {i z l : Nat} (hi : i < 8) (hM : M.inv z l) (h : relMs M (112 + 102 * i) D) : f_X8_wrongs (dP x m D) m (nI i) 1 = some M.empties := by
  unfold f_X8_wrongs
  rw [show f_X8_wrongs_b5 (dP x m D) g_N m (nI i) 1 0 0 = f_X8_wrongs_b5 (dP x m D) g_N m (nI i) 1 0 (nI 0) by rw [nI_0]]
  exact wr1_l hx hi hM h M.len 0 g_N 0 (by omega) (by have := hM.2.2.1; unfold g_N; omega)
theorem wrongs0_d (hx : isM x m) {M : RMs} {i z l : Nat} (hi : i < 8) (hM : M.inv z l) (h : relMs M (112 + 102 * i) D) : f_X8_wrongs (dP x m D) m (nI i) 0 = some M.wrongs := by
  unfold f_X8_wrongs
  rw [show f_X8_wrongs_b5 (dP x m D) g_N m (nI i) 0 0 0 = f_X8_wrongs_b5 (dP x m D) g_N m (nI i) 0 0 (nI 0) by rw [nI_0]]
  exact wr0_l hx hi hM h M.len 0 g_N 0 (by omega) (by have := hM.2.2.1; unfold g_N; omega)
theorem empties_few (M : RMs) : ∃ n, n ≤ M.len ∧ M.empties = nI n := by
  obtain ⟨n, h1, h2⟩ := up_few (g := fun k x => if M.log k = -1 then x + 1 else x) (fun k x => by split; exact Or.inr rfl; exact Or.inl rfl) M.len 0 0
  exact ⟨n, h1, by unfold RMs.empties; rw [show (0 : Int32) = nI 0 from nI_0.symm, h2]; congr 1; omega⟩
theorem wrongs_few (M : RMs) : ∃ n, n ≤ M.len ∧ M.wrongs = nI n := by
  obtain ⟨n, h1, h2⟩ := up_few (g := fun k x => if M.log k = -1 then x else if M.log k = M.letters k then x else x + 1) (fun k x => by split; exact Or.inl rfl; split; exact Or.inl rfl; exact Or.inr rfl) M.len 0 0
  exact ⟨n, h1, by unfold RMs.wrongs; rw [show (0 : Int32) = nI 0 from nI_0.symm, h2]; congr 1; omega⟩
theorem nI_eq0 {n : Nat} (h : n < 2 ^ 31) : nI n = 0 ↔ n = 0 := by
  rw [show (0 : Int32) = nI 0 from nI_0.symm]
  exact (nI_eq h (by decide))
theorem agrees_d (hx : isM x m) {M : RMs} {i z l : Nat} (hi : i < 8) (hM : M.inv z l) (h : relMs M (112 + 102 * i) D) : f_X8_agrees (dP x m D) m (nI i) = some (bI M.agrees) := by
  have h24 := hM.2.2.1
  obtain ⟨n, n1, n2⟩ := empties_few M
  obtain ⟨k, k1, k2⟩ := wrongs_few M
  simp only [f_X8_agrees, dI hx, Option.bind_some, cond_true, msL3 hx hi, h.2.2.2.1, wrongs1_d hx hi hM h, wrongs0_d hx hi hM h, RMs.agrees, n2, k2, nI_add, nI_eq0 (show n + k < 2 ^ 31 by omega), nI_eq0 (show n < 2 ^ 31 by omega), nI_eq0 (show k < 2 ^ 31 by omega)]
  by_cases c : M.phase = 2
  · by_cases c2 : n + k = 0
    · simp [c, show n = 0 by omega, show k = 0 by omega, bI]
    · by_cases c3 : n = 0
      · simp [c, show ¬ k = 0 by omega, c3, bI]
      · simp [c, c3, bI]
  · simp [c, bI]
theorem openFrame_l (hx : isM x m) {M : RMs} {i z l : Nat} (hi : i < 8) (h1 : 1 ≤ z) (h8 : z ≤ 8) (hz : D 8 = nI z) (hM : M.inv z l) (h : relMs M (112 + 102 * i) D) : ∀ (d k fuel : Nat), k + d = M.frames → d < fuel → f_X8_openFrame_b2 (dP x m D) fuel m (nI i) (nI k) = some (oI (fnd (fun f => M.fst f = 0) d k)) := by
  have h24 := hM.fr24 h1
  intro d
  induction d with
  | zero =>
    intro k fuel hk hf
    obtain ⟨fu, rfl⟩ := Nat.exists_eq_succ_of_ne_zero (Nat.ne_of_gt hf)
    simp only [f_X8_openFrame_b2, dI hx, Option.bind_some, cond_true, frames_d hx hi h1 h8 hz hM h, if_neg (nI_nlt (show M.frames ≤ k by omega) (show k < 2 ^ 31 by omega)), fnd, oI_none]
  | succ d ih =>
    intro k fuel hk hf
    obtain ⟨fu, rfl⟩ := Nat.exists_eq_succ_of_ne_zero (Nat.ne_of_gt (Nat.zero_lt_of_lt hf))
    simp only [f_X8_openFrame_b2, dI hx, Option.bind_some, cond_true, frames_d hx hi h1 h8 hz hM h, if_pos (nI_lt (show k < M.frames by omega) (show M.frames < 2 ^ 31 by omega)), msL54 hx hi (show k < 24 by omega), h.2.2.2.2.2.2.2.2.1 k (by omega), ← nI_succ, fnd]
    by_cases c : M.fst k = 0
    · simp only [c, if_true, oI_some]
    · simp only [c, if_false]
      exact ih (k + 1) fu (by omega) (by omega)
theorem openFrame_d (hx : isM x m) {M : RMs} {i z l : Nat} (hi : i < 8) (h1 : 1 ≤ z) (h8 : z ≤ 8) (hz : D 8 = nI z) (hM : M.inv z l) (h : relMs M (112 + 102 * i) D) : f_X8_openFrame (dP x m D) m (nI i) = some (oI M.openFrame) := by
  unfold f_X8_openFrame
  rw [show f_X8_openFrame_b2 (dP x m D) g_N m (nI i) 0 = f_X8_openFrame_b2 (dP x m D) g_N m (nI i) (nI 0) by rw [nI_0]]
  exact openFrame_l hx hi h1 h8 hz hM h M.frames 0 g_N (by omega) (by have := hM.fr24 h1; unfold g_N; omega)
theorem checkOf_l (hx : isM x m) {M : RMs} {i z l f : Nat} (hi : i < 8) (h1 : 1 ≤ z) (h8 : z ≤ 8) (hz : D 8 = nI z) (hM : M.inv z l) (h : relMs M (112 + 102 * i) D) (hf : f < M.frames) : ∀ (d k fuel : Nat) (v : Int32), k + d = M.many f → d < fuel → f_X8_checkOf_b5 (dP x m D) fuel m (nI i) (nI f) v (nI k) = some (g_rem (up (fun i v => v + M.letters (f * M.fsize + i)) d k v) 26) := by
  have hfz := hM.fr' h1 hf
  have h24 := hM.2.2.1
  have hm : f * z + M.many f ≤ M.len := by have := hM.1; unfold RMs.many; rw [this]; omega
  intro d
  induction d with
  | zero =>
    intro k fuel v hk hf9
    obtain ⟨fu, rfl⟩ := Nat.exists_eq_succ_of_ne_zero (Nat.ne_of_gt hf9)
    simp only [f_X8_checkOf_b5, dI hx, Option.bind_some, cond_true, lettersOf_d hx hi h8 hz hM h (Nat.le_of_lt hfz), if_neg (nI_nlt (show M.many f ≤ k by omega) (show k < 2 ^ 31 by omega)), up]
  | succ d ih =>
    intro k fuel v hk hf9
    obtain ⟨fu, rfl⟩ := Nat.exists_eq_succ_of_ne_zero (Nat.ne_of_gt (Nat.zero_lt_of_lt hf9))
    have e : (6 : Int32) + nI f * nI z + nI k = nI (6 + (f * z + k)) := by rw [show (6 : Int32) = nI 6 by decide, nI_mul, nI_add, nI_add]; congr 1; omega
    simp only [f_X8_checkOf_b5, dI hx, dG hx, Option.bind_some, cond_true, lettersOf_d hx hi h8 hz hM h (Nat.le_of_lt hfz), if_pos (nI_lt (show k < M.many f by omega) (show M.many f < 2 ^ 31 by omega)), dL8, hz, e, msLn hx hi (show 6 + (f * z + k) < 102 by omega), h.2.2.2.2.2.2.1 (f * z + k) (by omega), ← nI_succ, up, hM.1]
    have q := ih (k + 1) fu (v + M.letters (f * z + k)) (by omega) (by omega)
    rw [hM.1] at q
    exact q
theorem checkOf_d (hx : isM x m) {M : RMs} {i z l f : Nat} (hi : i < 8) (h1 : 1 ≤ z) (h8 : z ≤ 8) (hz : D 8 = nI z) (hM : M.inv z l) (h : relMs M (112 + 102 * i) D) (hf : f < M.frames) : f_X8_checkOf (dP x m D) m (nI i) (nI f) = some (M.check f) := by
  have := hM.many_le h8 f
  unfold f_X8_checkOf
  rw [show f_X8_checkOf_b5 (dP x m D) g_N m (nI i) (nI f) (nI f) 0 = f_X8_checkOf_b5 (dP x m D) g_N m (nI i) (nI f) (nI f) (nI 0) by rw [nI_0]]
  exact checkOf_l hx hi h1 h8 hz hM h hf (M.many f) 0 g_N (nI f) (by omega) (by unfold g_N; omega)
theorem through_l (hx : isM x m) {M : RMs} {i z l : Nat} (hi : i < 8) (h1 : 1 ≤ z) (h8 : z ≤ 8) (hz : D 8 = nI z) (hM : M.inv z l) (h : relMs M (112 + 102 * i) D) : ∀ (d k fuel : Nat), k + d = M.frames → d < fuel → f_X8_isThrough_b2 (dP x m D) fuel m (nI i) (nI k) = some (bI (fnd (fun f => M.fst f < 2) d k).isNone) := by
  have h24 := hM.fr24 h1
  intro d
  induction d with
  | zero =>
    intro k fuel hk hf
    obtain ⟨fu, rfl⟩ := Nat.exists_eq_succ_of_ne_zero (Nat.ne_of_gt hf)
    simp only [f_X8_isThrough_b2, dI hx, Option.bind_some, cond_true, frames_d hx hi h1 h8 hz hM h, if_neg (nI_nlt (show M.frames ≤ k by omega) (show k < 2 ^ 31 by omega)), fnd, Option.isNone_none, bI_t]
  | succ d ih =>
    intro k fuel hk hf
    obtain ⟨fu, rfl⟩ := Nat.exists_eq_succ_of_ne_zero (Nat.ne_of_gt (Nat.zero_lt_of_lt hf))
    simp only [f_X8_isThrough_b2, dI hx, Option.bind_some, cond_true, frames_d hx hi h1 h8 hz hM h, if_pos (nI_lt (show k < M.frames by omega) (show M.frames < 2 ^ 31 by omega)), msL54 hx hi (show k < 24 by omega), h.2.2.2.2.2.2.2.2.1 k (by omega), ← nI_succ, fnd]
    by_cases c : M.fst k < 2
    · simp only [c, if_true, Option.isNone_some, bI_f]
    · simp only [c, if_false]
      exact ih (k + 1) fu (by omega) (by omega)
theorem unf_0 {M : RMs} {z l : Nat} (hM : M.inv z l) (h1 : 1 ≤ z) : M.unf = 0 ↔ ∀ f, f < M.frames → ¬ M.fst f < 2 := by
  have h24 := hM.fr24 h1
  have c := cnt_le (fun f => decide (M.fst f < 2)) M.frames
  rw [hM.2.2.2.2.2.2.2.1, nI_eq0 (by omega), cnt_0]
  exact ⟨fun h f hf => of_decide_eq_false (h f hf), fun h f hf => decide_eq_false (h f hf)⟩
theorem isThrough_d (hx : isM x m) {M : RMs} {i z l : Nat} (hi : i < 8) (h1 : 1 ≤ z) (h8 : z ≤ 8) (hz : D 8 = nI z) (hM : M.inv z l) (h : relMs M (112 + 102 * i) D) : f_X8_isThrough (dP x m D) m (nI i) = some (bI (decide (M.unf = 0))) := by
  unfold f_X8_isThrough
  rw [show f_X8_isThrough_b2 (dP x m D) g_N m (nI i) 0 = f_X8_isThrough_b2 (dP x m D) g_N m (nI i) (nI 0) by rw [nI_0], through_l hx hi h1 h8 hz hM h M.frames 0 g_N (by omega) (by have := hM.fr24 h1; unfold g_N; omega)]
  congr 2
  by_cases c : M.unf = 0
  · rw [decide_eq_true c, Option.isNone_iff_eq_none, fnd_none]
    exact fun f _ hf => (unf_0 hM h1).mp c f (by omega)
  · rw [decide_eq_false c]
    cases e : fnd (fun f => M.fst f < 2) M.frames 0 with
    | none => exact absurd ((unf_0 hM h1).mpr (fun f hf => fnd_none.mp e f (Nat.zero_le _) (by omega))) c
    | some j => rfl
theorem tries_dl (hx : isM x m) {M : RMs} {i z l : Nat} (hi : i < 8) (h1 : 1 ≤ z) (h8 : z ≤ 8) (hz : D 8 = nI z) (hM : M.inv z l) (h : relMs M (112 + 102 * i) D) : ∀ (d k fuel : Nat) (v : Int32), k + d = M.frames → d < fuel → f_X8_triesOf_b4 (dP x m D) fuel m (nI i) v (nI k) = some (up (fun k v => v + M.tries k) d k v) := by
  have h24 := hM.fr24 h1
  intro d
  induction d with
  | zero =>
    intro k fuel v hk hf
    obtain ⟨fu, rfl⟩ := Nat.exists_eq_succ_of_ne_zero (Nat.ne_of_gt hf)
    simp only [f_X8_triesOf_b4, dI hx, Option.bind_some, cond_true, frames_d hx hi h1 h8 hz hM h, if_neg (nI_nlt (show M.frames ≤ k by omega) (show k < 2 ^ 31 by omega)), up]
  | succ d ih =>
    intro k fuel v hk hf
    obtain ⟨fu, rfl⟩ := Nat.exists_eq_succ_of_ne_zero (Nat.ne_of_gt (Nat.zero_lt_of_lt hf))
    simp only [f_X8_triesOf_b4, dI hx, Option.bind_some, cond_true, frames_d hx hi h1 h8 hz hM h, if_pos (nI_lt (show k < M.frames by omega) (show M.frames < 2 ^ 31 by omega)), msL78 hx hi (show k < 24 by omega), h.2.2.2.2.2.2.2.2.2 k (by omega), ← nI_succ, up]
    exact ih (k + 1) fu _ (by omega) (by omega)
theorem triesOf_d (hx : isM x m) {M : RMs} {i z l : Nat} (hi : i < 8) (h1 : 1 ≤ z) (h8 : z ≤ 8) (hz : D 8 = nI z) (hM : M.inv z l) (h : relMs M (112 + 102 * i) D) : f_X8_triesOf (dP x m D) m (nI i) = some M.sumTries := by
  unfold f_X8_triesOf
  rw [show f_X8_triesOf_b4 (dP x m D) g_N m (nI i) 0 0 = f_X8_triesOf_b4 (dP x m D) g_N m (nI i) 0 (nI 0) by rw [nI_0]]
  exact tries_dl hx hi h1 h8 hz hM h M.frames 0 g_N 0 (by omega) (by have := hM.fr24 h1; unfold g_N; omega)
theorem toldMessage_d (hx : isM x m) {M : RMs} {i z l : Nat} (hi : i < 8) (h1 : 1 ≤ z) (h8 : z ≤ 8) (hz : D 8 = nI z) (hM : M.inv z l) (h : relMs M (112 + 102 * i) D) {w : Nat} (hw : w < 10) : f_X8_toldMessage (dP x m D) m (nI i) (nI w) = some (M.figure (nI w)) := by
  have e : w = 0 ∨ w = 1 ∨ w = 2 ∨ w = 3 ∨ w = 4 ∨ w = 5 ∨ w = 6 ∨ w = 7 ∨ w = 8 ∨ w = 9 := by omega
  have h9 := h
  obtain ⟨r0, r1, r2, r3, r4, r5, -⟩ := h9
  rcases e with rfl | rfl | rfl | rfl | rfl | rfl | rfl | rfl | rfl | rfl
  · show f_X8_toldMessage (dP x m D) m (nI i) 0 = some M.sender
    rw [← r0]
    simp only [f_X8_toldMessage, dI hx, cond_true, msL0 hx hi, Option.bind_some]
    rfl
  · show f_X8_toldMessage (dP x m D) m (nI i) 1 = some M.urgency
    rw [← r1]
    simp only [f_X8_toldMessage, dI hx, cond_true, msL1 hx hi, Option.bind_some]
    rfl
  · show f_X8_toldMessage (dP x m D) m (nI i) 2 = some (nI M.len)
    rw [← r2]
    simp only [f_X8_toldMessage, dI hx, cond_true, msL2 hx hi, Option.bind_some]
    rfl
  · show f_X8_toldMessage (dP x m D) m (nI i) 3 = some (nI M.frames)
    simp only [f_X8_toldMessage, dI hx, cond_true, frames_d hx hi h1 h8 hz hM h, Option.bind_some]
    rfl
  · show f_X8_toldMessage (dP x m D) m (nI i) 4 = some M.phase
    rw [← r3]
    simp only [f_X8_toldMessage, dI hx, cond_true, msL3 hx hi, Option.bind_some]
    rfl
  · show f_X8_toldMessage (dP x m D) m (nI i) 5 = some M.empties
    simp only [f_X8_toldMessage, dI hx, cond_true, wrongs1_d hx hi hM h, Option.bind_some]
    rfl
  · show f_X8_toldMessage (dP x m D) m (nI i) 6 = some M.wrongs
    simp only [f_X8_toldMessage, dI hx, cond_true, wrongs0_d hx hi hM h, Option.bind_some]
    rfl
  · show f_X8_toldMessage (dP x m D) m (nI i) 7 = some M.sumTries
    simp only [f_X8_toldMessage, dI hx, cond_true, triesOf_d hx hi h1 h8 hz hM h, Option.bind_some]
    rfl
  · show f_X8_toldMessage (dP x m D) m (nI i) 8 = some M.began
    rw [← r4]
    simp only [f_X8_toldMessage, dI hx, cond_true, msL4 hx hi, Option.bind_some]
    rfl
  · show f_X8_toldMessage (dP x m D) m (nI i) 9 = some M.ended
    rw [← r5]
    simp only [f_X8_toldMessage, dI hx, cond_true, msL5 hx hi, Option.bind_some]
    rfl
theorem reason_d (hx : isM x m) {M : RMs} {i z l : Nat} (hi : i < 8) (h1 : 1 ≤ z) (h8 : z ≤ 8) (hz : D 8 = nI z) (hM : M.inv z l) (h : relMs M (112 + 102 * i) D) {k : Nat} (hk : k < M.len) : f_X8_reason (dP x m D) m (nI i) (nI k) = some (M.reason k) := by
  have h24 := hM.2.2.1
  have kz : k / z ≤ k := Nat.div_le_self _ _
  have kf : k / z < M.frames := by
    rw [hM.2.2.2.1]
    apply (Nat.div_lt_iff_lt_mul (by omega)).mpr
    have : M.len + z - 1 < ((M.len + z - 1) / z + 1) * z := by
      have := Nat.lt_div_mul_add (a := M.len + z - 1) (b := z) (by omega)
      rw [Nat.add_mul]; omega
    rw [Nat.add_mul] at this
    omega
  obtain ⟨n, n1, n2⟩ := hM.2.2.2.2.2.2.2.2.2 k hk
  obtain ⟨⟨s, s1, s2⟩, -⟩ := hM.2.2.2.2.2.2.2.2.1 (k / z) kf
  have hne : ¬ (-1 : Int32) = M.letters k := by rw [n2]; exact fun e => nI_neN (i := n) (by omega) e.symm
  simp only [f_X8_reason, dI hx, dG hx, cond_true, Option.bind_some, msL30 hx hi (show k < 24 by omega), msL6 hx hi (show k < 24 by omega), h.2.2.2.2.2.2.2.1 k (by omega), h.2.2.2.2.2.2.1 k hk, dL8, hz, if_neg (nI_ne0 (show 0 < z by omega) (show z < 2 ^ 31 by omega)), nI_div (show k < 2 ^ 31 by omega) (show z < 2 ^ 31 by omega) (show 0 < z by omega), msL54 hx hi (show k / z < 24 by omega), h.2.2.2.2.2.2.2.2.1 (k / z) (by omega), RMs.reason, hM.1]
  by_cases c : M.log k = -1
  · simp only [c, if_true, if_neg hne, s2]
    have : s = 0 ∨ s = 1 ∨ s = 2 ∨ s = 3 := by omega
    rcases this with rfl | rfl | rfl | rfl <;> decide
  · simp only [c, if_false]
    by_cases c2 : M.log k = M.letters k
    · simp only [c2, if_true]
    · simp only [c2, if_false]
end REL2
