/-! the reader over a text that is a list -/
theorem run_is (P : Nat → Prop) [DecidablePred P] : ∀ (n d i : Nat), n ≤ d → (∀ j, i ≤ j → j < i + n → P j) → (n = d ∨ ¬ P (i + n)) → run P d i = i + n
  | 0, 0, i, _, _, _ => rfl
  | 0, d + 1, i, _, _, h => by
    have h' : ¬ P i := h.resolve_left (by omega)
    rw [run, if_neg h']
    rfl
  | n + 1, 0, i, hn, _, _ => absurd hn (by omega)
  | n + 1, d + 1, i, hn, h1, h2 => by
    rw [run, if_pos (h1 i (Nat.le_refl _) (by omega)), run_is P n d (i + 1) (by omega) (fun j j1 j2 => h1 j (by omega) (by omega)) (h2.imp (fun z => by omega) (fun z => by rwa [show i + 1 + n = i + (n + 1) by omega]))]
    omega
/-- the text of the reader is the list L -/
def tL (T : Nat → Int32) (R : RRd) (L : List Nat) : Prop := R.len = L.length ∧ L.length ≤ 500 ∧ asL L ∧ ∀ i, i < L.length → T i = nI (byt L i)
def RRd.go (R : RRd) (p t : Nat) : RRd := RRd.mk R.text R.len p t R.told R.code R.err
theorem byt_mid {P M Q : List Nat} {k : Nat} (hk : k < M.length) : byt (P ++ (M ++ Q)) (P.length + k) = byt M k := by
  rw [byt_ge (by omega), show P.length + k - P.length = k by omega, byt_lt hk]
theorem cmp_c {c d : Nat} (h1 : c < 128) (h2 : d < 128) : (nI c = nI d ↔ c = d) ∧ (nI c ≤ nI d ↔ c ≤ d) := ⟨nI_eq (by omega) (by omega), nI_leI (by omega) (by omega)⟩
section RDT
variable {T : Nat → Int32} {R : RRd} {L P M Q : List Nat}
theorem tL.at' (t : tL T R L) (e : L = P ++ (M ++ Q)) {k : Nat} (hk : k < M.length) : T (P.length + k) = nI (byt M k) := by
  have hl : P.length + k < L.length := by rw [e]; simp only [List.length_append]; omega
  rw [t.2.2.2 _ hl, e, byt_mid hk]
theorem tL.as' (t : tL T R L) (e : L = P ++ (M ++ Q)) : asL M := fun c hc => t.2.2.1 c (by rw [e]; simp only [List.mem_append]; exact Or.inr (Or.inl hc))
/-- no space here -/
theorem found_0 (t : tL T R L) {c : Nat} (e : L = P ++ ([c] ++ Q)) (hp : R.pos = P.length) (hc : c ≠ 32) : R.found T = R.go P.length P.length := by
  have a := t.at' e (k := 0) (by simp)
  have as := t.as' e c (by simp)
  have l : L.length = P.length + (1 + Q.length) := by rw [e]; simp only [List.length_append, List.length_cons, List.length_nil]
  have q := run_is (fun i => T i = 32) 0 (R.len - R.pos) R.pos (Nat.zero_le _) (fun j a b => absurd b (by omega)) (Or.inr (by
    rw [hp]
    show ¬ T (P.length + 0) = 32
    rw [a, show (32 : Int32) = nI 32 by decide]
    exact fun z => hc ((cmp_c as (by decide)).1.mp z)))
  unfold RRd.found RRd.go
  rw [q, hp]
  rfl
/-- one space -/
theorem found_1 (t : tL T R L) {c : Nat} (e : L = P ++ ([32] ++ ([c] ++ Q))) (hp : R.pos = P.length) (hc : c ≠ 32) : R.found T = R.go (P.length + 1) (P.length + 1) := by
  have a := t.at' e (k := 0) (by simp)
  have e2 : L = (P ++ [32]) ++ ([c] ++ Q) := by rw [e, List.append_assoc]
  have a2 := t.at' e2 (k := 0) (by simp)
  have as := t.as' e2 c (by simp)
  have lp : (P ++ [32]).length = P.length + 1 := by rw [List.length_append]; rfl
  rw [lp] at a2
  have l : L.length = P.length + (1 + (1 + Q.length)) := by rw [e]; simp only [List.length_append, List.length_cons, List.length_nil]
  have q := run_is (fun i => T i = 32) 1 (R.len - R.pos) R.pos (by rw [t.1, hp, l]; omega) (fun j j1 j2 => by
    have : j = P.length + 0 := by omega
    subst this
    exact a) (Or.inr (by
    rw [hp]
    show ¬ T (P.length + 1) = 32
    rw [Nat.add_zero] at a2
    rw [a2, show (32 : Int32) = nI 32 by decide]
    exact fun z => hc ((cmp_c as (by decide)).1.mp z)))
  unfold RRd.found RRd.go
  rw [q, hp]
theorem ltr_c {c : Nat} (hc : c < 128) : (97 ≤ nI c ∧ nI c ≤ 122) ↔ (97 ≤ c ∧ c ≤ 122) := by
  rw [show (97 : Int32) = nI 97 by decide, show (122 : Int32) = nI 122 by decide, (cmp_c (by decide) hc).2, (cmp_c hc (by decide)).2]
theorem dig_c {c : Nat} (hc : c < 128) : (48 ≤ nI c ∧ nI c ≤ 57) ↔ (48 ≤ c ∧ c ≤ 57) := by
  rw [show (48 : Int32) = nI 48 by decide, show (57 : Int32) = nI 57 by decide, (cmp_c (by decide) hc).2, (cmp_c hc (by decide)).2]
theorem byt_in {M : List Nat} {k : Nat} (hk : k < M.length) : byt M k ∈ M := by
  unfold byt
  rw [List.getD_eq_getElem?_getD, List.getElem?_eq_getElem hk]
  exact List.getElem_mem hk
/-- a word's end -/
theorem wend (t : tL T R L) {d : Nat} (e : L = P ++ (M ++ ([d] ++ Q))) (sm : smL M) (hd : d < 97 ∨ 122 < d) : run (fun i => 97 ≤ T i ∧ T i ≤ 122) (R.len - P.length) P.length = P.length + M.length := by
  have e2 : L = (P ++ M) ++ ([d] ++ Q) := by rw [e, List.append_assoc]
  have l : L.length = P.length + (M.length + (1 + Q.length)) := by rw [e]; simp only [List.length_append, List.length_cons, List.length_nil]
  have a2 := t.at' e2 (k := 0) (by simp)
  have as := t.as' e2 d (by simp)
  rw [List.length_append, Nat.add_zero] at a2
  refine run_is _ M.length (R.len - P.length) P.length (by rw [t.1, l]; omega) (fun j j1 j2 => ?_) (Or.inr ?_)
  · obtain ⟨k, rfl⟩ := Nat.exists_eq_add_of_le j1
    have a := t.at' e (k := k) (by omega)
    show 97 ≤ T (P.length + k) ∧ T (P.length + k) ≤ 122
    rw [a]
    have := sm _ (byt_in (show k < M.length by omega))
    exact (ltr_c (by omega)).mpr this
  · show ¬ (97 ≤ T (P.length + M.length) ∧ T (P.length + M.length) ≤ 122)
    rw [a2]
    intro z
    have := (ltr_c as).mp z
    have e9 : byt [d] 0 = d := rfl
    omega
theorem word_0 (t : tL T R L) {d : Nat} (e : L = P ++ (M ++ ([d] ++ Q))) (hp : R.pos = P.length) (sm : smL M) (hM : 1 ≤ M.length) (hd : d < 97 ∨ 122 < d) : R.word T = R.go (P.length + M.length) P.length := by
  obtain ⟨m, M', rfl⟩ : ∃ m M', M = m :: M' := by
    cases M with
    | nil => exact absurd hM (by simp)
    | cons m M' => exact ⟨m, M', rfl⟩
  have hm := sm m (by simp)
  have f := found_0 (Q := M' ++ ([d] ++ Q)) t (by rw [e]; rfl) hp (c := m) (by omega)
  have w := wend t e sm hd
  unfold RRd.word
  rw [f]
  show (R.go P.length P.length).s_pos (run _ (R.len - P.length) P.length) = _
  rw [w]
  rfl
theorem word_1 (t : tL T R L) {d : Nat} (e : L = P ++ ([32] ++ (M ++ ([d] ++ Q)))) (hp : R.pos = P.length) (sm : smL M) (hM : 1 ≤ M.length) (hd : d < 97 ∨ 122 < d) : R.word T = R.go (P.length + 1 + M.length) (P.length + 1) := by
  obtain ⟨m, M', rfl⟩ : ∃ m M', M = m :: M' := by
    cases M with
    | nil => exact absurd hM (by simp)
    | cons m M' => exact ⟨m, M', rfl⟩
  have hm := sm m (by simp)
  have f := found_1 (Q := M' ++ ([d] ++ Q)) t (by rw [e]; rfl) hp (c := m) (by omega)
  have w := wend (P := P ++ [32]) (Q := Q) (d := d) t (by rw [e, List.append_assoc]) sm hd
  have lp : (P ++ [32]).length = P.length + 1 := by rw [List.length_append]; rfl
  rw [lp] at w
  unfold RRd.word
  rw [f]
  show (R.go (P.length + 1) (P.length + 1)).s_pos (run _ (R.len - (P.length + 1)) (P.length + 1)) = _
  rw [w]
  rfl
theorem semi_0 (t : tL T R L) (e : L = P ++ ([59] ++ Q)) (hp : R.pos = P.length) : R.semi T = (true, R.go (P.length + 1) P.length) := by
  have f := found_0 t e hp (by decide)
  have a := t.at' e (k := 0) (by simp)
  have l : L.length = P.length + (1 + Q.length) := by rw [e]; simp only [List.length_append, List.length_cons, List.length_nil]
  have c : (R.go P.length P.length).pos < R.len ∧ T (R.go P.length P.length).pos = 59 := ⟨by rw [t.1, l]; show P.length < _; omega, by
    show T P.length = 59
    rw [Nat.add_zero] at a
    rw [a]; decide⟩
  unfold RRd.semi
  rw [f]
  exact if_pos c
theorem dig_s (d i : Nat) (x : Int32) {c : Nat} (hT : T i = nI c) (h1 : 48 ≤ c) (h2 : c ≤ 57) : dig T (d + 1) i x = dig T d (i + 1) (g_min (10 * x + nI c - 48) 1000000) := by
  rw [dig, hT, if_pos ((dig_c (by omega)).mpr ⟨h1, h2⟩)]
theorem dig_e (d i : Nat) (x : Int32) (h : d = 0 ∨ ∃ c, c < 128 ∧ T i = nI c ∧ (c < 48 ∨ 57 < c)) : dig T d i x = (i, x) := by
  rcases h with rfl | ⟨c, h1, h2, h3⟩
  · rfl
  · cases d with
    | zero => rfl
    | succ d =>
      rw [dig, h2, if_neg (fun z => by have := (dig_c h1).mp z; omega)]
theorem g_min_s {v : Nat} (h : v < 1000) : g_min (nI v) 1000000 = nI v := by
  rw [show (1000000 : Int32) = nI 1000000 by decide, g_min_nI (by omega) (by decide)]
  congr 1
  omega
/-- a number -/
theorem num_1 (t : tL T R L) {n d : Nat} (hn : n < 100) (e : L = P ++ ([32] ++ (nmL n ++ ([d] ++ Q)))) (hp : R.pos = P.length) (hd : d < 48 ∨ 57 < d) {lo hi : Int32} (hlo : lo ≤ nI n) (hhi : nI n ≤ hi) : R.num T lo hi = (nI n, R.go (P.length + 1 + (nmL n).length) (P.length + 1)) := by
  have l : L.length = P.length + (1 + ((nmL n).length + (1 + Q.length))) := by rw [e]; simp only [List.length_append, List.length_cons, List.length_nil]
  have e2 : L = (P ++ [32]) ++ (nmL n ++ ([d] ++ Q)) := by rw [e]; simp only [List.append_assoc]
  have e3 : L = (P ++ ([32] ++ nmL n)) ++ ([d] ++ Q) := by rw [e]; simp only [List.append_assoc]
  have lp : (P ++ [32]).length = P.length + 1 := by rw [List.length_append]; rfl
  have lp3 : (P ++ ([32] ++ nmL n)).length = P.length + 1 + (nmL n).length := by simp only [List.length_append, List.length_cons, List.length_nil]; omega
  have ad := t.at' e3 (k := 0) (by simp)
  have asd := t.as' e3 d (by simp)
  rw [lp3, Nat.add_zero] at ad
  have hd0 : T (P.length + 1 + (nmL n).length) = nI d := ad
  have key : dig T (R.len - (P.length + 1)) (P.length + 1) 0 = (P.length + 1 + (nmL n).length, nI n) := by
    have at2 : ∀ k, k < (nmL n).length → T (P.length + 1 + k) = nI (byt (nmL n) k) := fun k hk => by
      have := t.at' e2 (k := k) hk
      rwa [lp] at this
    rw [t.1, l]
    unfold nmL at at2 hd0 ⊢
    by_cases c : n < 10
    · rw [if_pos c] at at2 hd0 ⊢
      have a0 := at2 0 (by simp)
      rw [Nat.add_zero] at a0
      have a0' : T (P.length + 1) = nI (48 + n) := a0
      simp only [List.length_cons, List.length_nil] at hd0 ⊢
      rw [show P.length + (1 + (0 + 1 + (1 + Q.length))) - (P.length + 1) = (1 + Q.length) + 1 by omega, dig_s _ _ _ a0' (by omega) (by omega)]
      have ev : g_min (10 * (0 : Int32) + nI (48 + n) - 48) 1000000 = nI n := by
        rw [show (10 : Int32) * 0 = nI 0 by decide, nI_add, show (48 : Int32) = nI 48 by decide, nI_sub (by omega), show 0 + (48 + n) - 48 = n by omega, g_min_s (by omega)]
      rw [ev, dig_e _ _ _ (Or.inr ⟨d, asd, by rw [← hd0], hd⟩)]
    · rw [if_neg c] at at2 hd0 ⊢
      have a0 := at2 0 (by simp)
      have a1 := at2 1 (by simp)
      rw [Nat.add_zero] at a0
      have a0' : T (P.length + 1) = nI (48 + n / 10) := a0
      have a1' : T (P.length + 1 + 1) = nI (48 + n % 10) := a1
      simp only [List.length_cons, List.length_nil] at hd0 ⊢
      rw [show P.length + (1 + (0 + 1 + 1 + (1 + Q.length))) - (P.length + 1) = (1 + Q.length) + 1 + 1 by omega, dig_s _ _ _ a0' (by omega) (by omega)]
      have ev : g_min (10 * (0 : Int32) + nI (48 + n / 10) - 48) 1000000 = nI (n / 10) := by
        rw [show (10 : Int32) * 0 = nI 0 by decide, nI_add, show (48 : Int32) = nI 48 by decide, nI_sub (by omega), show 0 + (48 + n / 10) - 48 = n / 10 by omega, g_min_s (by omega)]
      have ev2 : g_min (10 * nI (n / 10) + nI (48 + n % 10) - 48) 1000000 = nI n := by
        rw [show (10 : Int32) = nI 10 by decide, nI_mul, nI_add, show (48 : Int32) = nI 48 by decide, nI_sub (by omega), show 10 * (n / 10) + (48 + n % 10) - 48 = n by omega, g_min_s (by omega)]
      rw [ev, dig_s _ _ _ a1' (by omega) (by omega), ev2, dig_e _ _ _ (Or.inr ⟨d, asd, by rw [← hd0], hd⟩)]
  obtain ⟨m, M', hm, hm32⟩ : ∃ m M', nmL n = m :: M' ∧ m ≠ 32 := by
    unfold nmL
    by_cases c : n < 10
    · rw [if_pos c]; exact ⟨_, _, rfl, by omega⟩
    · rw [if_neg c]; exact ⟨_, _, rfl, by omega⟩
  have f := found_1 (c := m) (Q := M' ++ ([d] ++ Q)) t (by rw [e, hm]; rfl) hp hm32
  have l1 : 1 ≤ (nmL n).length := by rw [hm]; simp
  unfold RRd.num
  rw [f]
  show ((R.go (P.length + 1) (P.length + 1)).s_pos (dig T (R.len - (P.length + 1)) (P.length + 1) 0).1).numEnd lo hi (dig T (R.len - (P.length + 1)) (P.length + 1) 0).2 = _
  rw [key]
  show ((R.go (P.length + 1) (P.length + 1)).s_pos (P.length + 1 + (nmL n).length)).numEnd lo hi (nI n) = _
  unfold RRd.numEnd
  exact (if_neg (show ¬ P.length + 1 + (nmL n).length = P.length + 1 by omega)).trans (if_pos ⟨hlo, hhi⟩)
/-- which of the five words it is -/
def tokB (M : List Nat) (i : Nat) : Bool := decide (M.length = g_len.getD i 0) && als (fun j => decide (nI (byt M j) = (g_byt.getD i []).getD j 0)) (g_len.getD i 0) 0
theorem tok_eq (t : tL T R L) (e : L = P ++ (M ++ Q)) {S : RRd} (h1 : S.tok = P.length) (h2 : S.pos = P.length + M.length) (i : Nat) : S.isTok T i = tokB M i := by
  unfold RRd.isTok tokB
  rw [h1, h2]
  by_cases c : M.length = g_len.getD i 0
  · rw [decide_eq_true (show P.length + M.length = P.length + g_len.getD i 0 by rw [c]), decide_eq_true c, Bool.true_and, Bool.true_and, Bool.eq_iff_iff, als_iff, als_iff]
    constructor
    · intro z k k1 k2
      have := z k k1 k2
      rw [t.at' e (k := k) (by omega)] at this
      exact this
    · intro z k k1 k2
      have := z k k1 k2
      rw [t.at' e (k := k) (by omega)]
      exact this
  · rw [decide_eq_false (show ¬ P.length + M.length = P.length + g_len.getD i 0 by omega), decide_eq_false c]
    rfl
end RDT
/-- the five words -/
def wK (i : Nat) : List Nat := if i = 0 then [114, 101, 108, 97, 121] else if i = 1 then [99, 104, 97, 110, 110, 101, 108] else if i = 2 then [107, 101, 101, 112, 101, 114] else if i = 3 then [109, 105, 115, 116] else [109, 101, 115, 115, 97, 103, 101]
theorem tok_tab : tokB (wK 0) 0 = true ∧ tokB (wK 1) 1 = true ∧ tokB (wK 2) 1 = false ∧ tokB (wK 2) 2 = true ∧ tokB (wK 3) 1 = false ∧ tokB (wK 3) 2 = false ∧ tokB (wK 3) 3 = true ∧ tokB (wK 4) 1 = false ∧ tokB (wK 4) 2 = false ∧ tokB (wK 4) 3 = false ∧ tokB (wK 4) 4 = true := by decide +kernel
theorem wK_sm : ∀ i, smL (wK i) := fun i c hc => by
  unfold wK at hc
  split at hc
  · revert c; decide
  · split at hc
    · revert c; decide
    · split at hc
      · revert c; decide
      · split at hc
        · revert c; decide
        · revert c; decide
theorem wK_len : ∀ i, 1 ≤ (wK i).length := fun i => by
  unfold wK
  split
  · decide
  · split
    · decide
    · split
      · decide
      · split <;> decide
