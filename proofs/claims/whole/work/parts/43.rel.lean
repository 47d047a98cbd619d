/-! which message comes next: the class counts how many go before, the reference looks by urgency -/
theorem cnt_mono {p q : Nat → Bool} : ∀ {n : Nat}, (∀ i, i < n → p i = true → q i = true) → cnt p n ≤ cnt q n
  | 0, _ => Nat.le_refl _
  | n + 1, h => by
    have ih := cnt_mono (p := p) (q := q) (n := n) (fun i hi => h i (by omega))
    have hn := h n (by omega)
    rw [cnt, cnt]
    cases e : p n with
    | false => simp only [Bool.false_eq_true, if_false]; omega
    | true => rw [hn e]; simp only [if_true]; omega
theorem cnt_lt {p q : Nat → Bool} : ∀ {n : Nat}, (∀ i, i < n → p i = true → q i = true) → ∀ k, k < n → p k = false → q k = true → cnt p n < cnt q n
  | 0, _, k, hk, _, _ => absurd hk (by omega)
  | n + 1, h, k, hk, e1, e2 => by
    have hn := h n (by omega)
    rw [cnt, cnt]
    by_cases c : k = n
    · subst c
      have := cnt_mono (p := p) (q := q) (n := k) (fun i hi => h i (by omega))
      rw [e1, e2]
      simp only [Bool.false_eq_true, if_false, if_true]; omega
    · have := cnt_lt (p := p) (q := q) (n := n) (fun i hi => h i (by omega)) k (by omega) e1 e2
      cases e : p n with
      | false => simp only [Bool.false_eq_true, if_false]; omega
      | true => rw [hn e]; simp only [if_true]; omega
theorem cnt_congr {p q : Nat → Bool} : ∀ {n : Nat}, (∀ i, i < n → p i = q i) → cnt p n = cnt q n
  | 0, _ => rfl
  | n + 1, h => by rw [cnt, cnt, cnt_congr (n := n) (fun i hi => h i (by omega)), h n (by omega)]
theorem up_cnt (p : Nat → Bool) : ∀ (d i : Nat), up (fun k (x : Int32) => if p k = true then x + 1 else x) d i (nI (cnt p i)) = nI (cnt p (i + d))
  | 0, _ => rfl
  | d + 1, i => by
    rw [up]
    have e : (if p i = true then nI (cnt p i) + 1 else nI (cnt p i)) = nI (cnt p (i + 1)) := by
      rw [cnt]
      cases p i with
      | false => simp
      | true => simp [nI_succ]
    rw [e, up_cnt p d (i + 1)]
    congr 2
    omega
theorem up_cnt0 (p : Nat → Prop) [DecidablePred p] (n : Nat) : up (fun k (x : Int32) => if p k then x + 1 else x) n 0 0 = nI (cnt (fun k => decide (p k)) n) := by
  have q := up_cnt (fun k => decide (p k)) n 0
  rw [Nat.zero_add, cnt, nI_0] at q
  rw [← q]
  exact up_congr n 0 0 (fun j _ _ y => by simp)
/-- urgency as a number -/
def urg (M : RMs) : Nat := M.urgency.toNatClampNeg
/-- j waits, and goes before (u, i) -/
def ahd (R : RW) (u i : Nat) (j : Nat) : Bool := decide ((R.ms j).phase = 0) && (decide (u < urg (R.ms j)) || (decide (urg (R.ms j) = u) && decide (j < i)))
theorem urg_of {M : RMs} {z l : Nat} (h : M.inv z l) : urg M < 10 ∧ M.urgency = nI (urg M) := by
  obtain ⟨u, h1, h2⟩ := h.2.2.2.2.2.1
  have : urg M = u := by unfold urg; rw [h2]; exact nI_clamp (by omega)
  rw [this]
  exact ⟨h1, h2⟩
theorem RW.inv.m {R : RW} (h : R.inv) : ∃ l : Nat, 1 ≤ l ∧ l ≤ 9 ∧ R.limit = nI l ∧ ∀ i, i < R.told → (R.ms i).inv R.fsize l := h.2.2.2.1
theorem before_cnt {R : RW} (h : R.inv) {i : Nat} (hi : i < R.told) : R.before i = nI (cnt (ahd R (urg (R.ms i)) i) R.told) := by
  obtain ⟨l, -, -, -, hm⟩ := h.m
  unfold RW.before
  rw [up_cnt0]
  congr 1
  refine cnt_congr (fun j hj => ?_)
  have a1 := urg_of (hm i hi)
  have a2 := urg_of (hm j hj)
  unfold ahd
  rw [a1.2, a2.2]
  have e1 : (nI (urg (R.ms i)) < nI (urg (R.ms j))) ↔ urg (R.ms i) < urg (R.ms j) := nI_ltI (by omega) (by omega)
  have e2 : (nI (urg (R.ms j)) = nI (urg (R.ms i))) ↔ urg (R.ms j) = urg (R.ms i) := nI_eq (by omega) (by omega)
  rw [Bool.eq_iff_iff]
  simp only [decide_eq_true_eq, Bool.and_eq_true, Bool.or_eq_true, e1, e2]
/-- two that wait don't have the same number before them -/
theorem ahd_inj {R : RW} {i j : Nat} (hi : i < R.told) (hj : j < R.told) (wi : (R.ms i).phase = 0) (wj : (R.ms j).phase = 0) (e : cnt (ahd R (urg (R.ms i)) i) R.told = cnt (ahd R (urg (R.ms j)) j) R.told) : i = j := by
  have key : ∀ a b, a < R.told → b < R.told → (R.ms a).phase = 0 → (urg (R.ms b) < urg (R.ms a) ∨ (urg (R.ms a) = urg (R.ms b) ∧ a < b)) → cnt (ahd R (urg (R.ms a)) a) R.told < cnt (ahd R (urg (R.ms b)) b) R.told := by
    intro a b ha hb wa hab
    refine cnt_lt (fun k hk => ?_) a ha ?_ ?_
    · simp only [ahd, Bool.and_eq_true, Bool.or_eq_true, decide_eq_true_eq]
      exact fun z => ⟨z.1, by have := z.2; omega⟩
    · simp only [ahd, Bool.and_eq_false_iff, Bool.or_eq_false_iff, decide_eq_false_iff_not]
      exact Or.inr ⟨by omega, Or.inr (by omega)⟩
    · simp only [ahd, Bool.and_eq_true, Bool.or_eq_true, decide_eq_true_eq]
      exact ⟨wa, by omega⟩
  rcases Nat.lt_or_ge (urg (R.ms i)) (urg (R.ms j)) with c | c
  · have := key j i hj hi wj (Or.inl c); omega
  · rcases Nat.lt_or_ge (urg (R.ms j)) (urg (R.ms i)) with c2 | c2
    · have := key i j hi hj wi (Or.inl c2); omega
    · rcases Nat.lt_trichotomy i j with c3 | c3 | c3
      · have := key i j hi hj wi (Or.inr ⟨by omega, c3⟩); omega
      · exact c3
      · have := key j i hj hi wj (Or.inr ⟨by omega, c3⟩); omega
theorem ahd_row {R : RW} {u i : Nat} : ahd R u i i = false ∨ True := Or.inr trivial
/-- one step along a row -/
theorem ahd_step (R : RW) (u i : Nat) {n : Nat} (hi : i < n) : cnt (ahd R u (i + 1)) n = cnt (ahd R u i) n + (if (R.ms i).phase = 0 ∧ urg (R.ms i) = u then 1 else 0) := by
  induction n with
  | zero => exact absurd hi (by omega)
  | succ n ih =>
    rw [cnt, cnt]
    by_cases c : i = n
    · subst c
      have e : cnt (ahd R u (i + 1)) i = cnt (ahd R u i) i := cnt_congr (fun j hj => by
        unfold ahd
        rw [Bool.eq_iff_iff]
        simp only [Bool.and_eq_true, Bool.or_eq_true, decide_eq_true_eq]
        exact ⟨fun z => ⟨z.1, by have := z.2; omega⟩, fun z => ⟨z.1, by have := z.2; omega⟩⟩)
      have e0 : (ahd R u i i = true) ↔ ((R.ms i).phase = 0 ∧ u < urg (R.ms i)) := by
        simp only [ahd, Bool.and_eq_true, Bool.or_eq_true, decide_eq_true_eq]
        exact ⟨fun z => ⟨z.1, by have := z.2; omega⟩, fun z => ⟨z.1, by have := z.2; omega⟩⟩
      have e1 : (ahd R u (i + 1) i = true) ↔ ((R.ms i).phase = 0 ∧ (u < urg (R.ms i) ∨ urg (R.ms i) = u)) := by
        simp only [ahd, Bool.and_eq_true, Bool.or_eq_true, decide_eq_true_eq]
        exact ⟨fun z => ⟨z.1, by have := z.2; omega⟩, fun z => ⟨z.1, by have := z.2; omega⟩⟩
      rw [e]
      simp only [e0, e1]
      by_cases w : (R.ms i).phase = 0
      · by_cases g : u < urg (R.ms i)
        · have : ¬ urg (R.ms i) = u := by omega
          simp [w, g, this]
        · by_cases g2 : urg (R.ms i) = u
          · simp [w, g2]
          · simp [w, g, g2]
      · simp [w]
    · have e0 : ahd R u (i + 1) n = ahd R u i n := by
        unfold ahd
        rw [Bool.eq_iff_iff]
        simp only [Bool.and_eq_true, Bool.or_eq_true, decide_eq_true_eq]
        exact ⟨fun z => ⟨z.1, by have := z.2; omega⟩, fun z => ⟨z.1, by have := z.2; omega⟩⟩
      rw [ih (by omega), e0]
      omega
theorem ahd_next (R : RW) (u n : Nat) : cnt (ahd R (u + 1) n) n = cnt (ahd R u 0) n := cnt_congr (fun j hj => by
  unfold ahd
  rw [Bool.eq_iff_iff]
  simp only [Bool.and_eq_true, Bool.or_eq_true, decide_eq_true_eq]
  exact ⟨fun z => ⟨z.1, by have := z.2; omega⟩, fun z => ⟨z.1, by have := z.2; omega⟩⟩)
section REL3
variable {x : gH} {m : Nat} {D : Nat → Int32}
/-- the reference's answer: i waits, and k go before it -/
def isNth (R : RW) (k : Int32) (r : Int32) : Prop := (∃ i, i < R.told ∧ (R.ms i).phase = 0 ∧ k = nI (cnt (ahd R (urg (R.ms i)) i) R.told) ∧ r = nI i) ∨ (r = -1 ∧ ∀ i, i < R.told → (R.ms i).phase = 0 → k ≠ nI (cnt (ahd R (urg (R.ms i)) i) R.told))
theorem cnt_u (p : Nat → Bool) {n : Nat} (hn : n ≤ 8) : cnt p n < 2 ^ 31 := by have := cnt_le p n; omega
/-- rows u - 1 .. 0 are looked through by K; the row u from i on -/
theorem next_row (hx : isM x m) {R : RW} (h : Rel R D) (k : Int32) {u : Nat} (hu : u < 10) (K : Nat → Int32 → Int32 → Int32 → Option Int32) (P : Int32 → Prop)
    (hK : (∀ i, i < R.told → (R.ms i).phase = 0 → urg (R.ms i) = u → k ≠ nI (cnt (ahd R u i) R.told)) → ∃ r, K m k (nI (cnt (ahd R u R.told) R.told)) (nI u - 1) = some r ∧ P r)
    (hP : ∀ i, i < R.told → (R.ms i).phase = 0 → urg (R.ms i) = u → k = nI (cnt (ahd R u i) R.told) → P (nI i)) : ∀ (d i fuel : Nat), i + d = R.told → d < fuel → (∀ j, j < i → (R.ms j).phase = 0 → urg (R.ms j) = u → k ≠ nI (cnt (ahd R u j) R.told)) → ∃ r, f_X8_nextMessage_b12 (dP x m D) K fuel m k (nI (cnt (ahd R u i) R.told)) (nI u) (nI i) = some r ∧ P r := by
  obtain ⟨l, -, -, -, hm⟩ := h.inv.m
  have t8 := h.inv.1
  have n1 : D 1 = nI R.told := h.n.2.1
  intro d
  induction d with
  | zero =>
    intro i fuel hi hf hno
    obtain ⟨fu, rfl⟩ := Nat.exists_eq_succ_of_ne_zero (Nat.ne_of_gt hf)
    have : i = R.told := by omega
    subst this
    simp only [f_X8_nextMessage_b12, dG hx, Option.bind_some, dL1, n1, if_neg (nI_nlt (Nat.le_refl R.told) (show R.told < 2 ^ 31 by omega))]
    have e : nI u + -1 = nI u - 1 := (Int32.sub_eq_add_neg _ _).symm
    rw [e]
    exact hK hno
  | succ d ih =>
    intro i fuel hi hf hno
    obtain ⟨fu, rfl⟩ := Nat.exists_eq_succ_of_ne_zero (Nat.ne_of_gt (Nat.zero_lt_of_lt hf))
    have hit : i < R.told := by omega
    have ms := h.ms i hit
    have a1 := urg_of (hm i hit)
    have st := ahd_step R u i hit
    have e2 : (nI (urg (R.ms i)) = nI u) ↔ urg (R.ms i) = u := nI_eq (by omega) (by omega)
    simp only [f_X8_nextMessage_b12, dG hx, dI hx, cond_true, Option.bind_some, dL1, n1, if_pos (nI_lt hit (show R.told < 2 ^ 31 by omega)), msL3 hx (show i < 8 by omega), msL1 hx (show i < 8 by omega), ms.2.2.2.1, ms.2.1, a1.2, e2, f_X8_nextMessage_b58, ← nI_succ]
    by_cases w : (R.ms i).phase = 0
    · by_cases g : urg (R.ms i) = u
      · simp only [w, g, if_true]
        by_cases c : nI (cnt (ahd R u i) R.told) = k
        · simp only [c, if_true]
          exact ⟨_, rfl, hP i hit w g c.symm⟩
        · simp only [c, if_false]
          have q := ih (i + 1) fu (by omega) (by omega) (fun j hj wj gj => if e : j = i then (by subst e; exact fun e9 => c e9.symm) else hno j (by omega) wj gj)
          rw [st, if_pos ⟨w, g⟩] at q
          exact q
      · simp only [w, g, if_true, if_false]
        have q := ih (i + 1) fu (by omega) (by omega) (fun j hj wj gj => if e : j = i then (by subst e; exact absurd gj g) else hno j (by omega) wj gj)
        rw [st, if_neg (fun z => g z.2), Nat.add_zero] at q
        exact q
    · simp only [w, if_false]
      have q := ih (i + 1) fu (by omega) (by omega) (fun j hj wj gj => if e : j = i then (by subst e; exact absurd wj w) else hno j (by omega) wj gj)
      rw [st, if_neg (fun z => w z.1), Nat.add_zero] at q
      exact q
theorem next_rows (hx : isM x m) {R : RW} (h : Rel R D) (k : Int32) : ∀ (u fuel : Nat), u ≤ 10 → u < fuel → (∀ i, i < R.told → (R.ms i).phase = 0 → u ≤ urg (R.ms i) → k ≠ nI (cnt (ahd R (urg (R.ms i)) i) R.told)) → ∃ r, f_X8_nextMessage_b5 (dP x m D) fuel m k (nI (match u with | 0 => cnt (ahd R 0 R.told) R.told | v + 1 => cnt (ahd R v 0) R.told)) (nI u - 1) = some r ∧ isNth R k r := by
  obtain ⟨l, -, -, -, hm⟩ := h.inv.m
  have t8 := h.inv.1
  intro u
  induction u with
  | zero =>
    intro fuel hu hf hno
    obtain ⟨fu, rfl⟩ := Nat.exists_eq_succ_of_ne_zero (Nat.ne_of_gt hf)
    refine ⟨-1, ?_, Or.inr ⟨rfl, fun i hi wi => hno i hi wi (Nat.zero_le _)⟩⟩
    simp only [f_X8_nextMessage_b5]
    rw [if_neg (by decide)]
  | succ u ih =>
    intro fuel hu hf hno
    obtain ⟨fu, rfl⟩ := Nat.exists_eq_succ_of_ne_zero (Nat.ne_of_gt (Nat.zero_lt_of_lt hf))
    have e1 : nI (u + 1) - 1 = nI u := by rw [show (1 : Int32) = nI 1 by decide, nI_sub (by omega)]; congr 1
    simp only [f_X8_nextMessage_b5, e1, if_pos (nI_pos' (show u < 2 ^ 31 by omega))]
    have q := next_row hx h k (show u < 10 by omega) (f_X8_nextMessage_b5 (dP x m D) fu) (isNth R k) (fun hrow => by
      have q9 := ih fu (by omega) (by omega) (fun i hi wi hui => by
        by_cases c : urg (R.ms i) = u
        · rw [c]; exact hrow i hi wi c
        · exact hno i hi wi (by omega))
      cases u with
      | zero => exact q9
      | succ v => rw [ahd_next]; exact q9) (fun i hi wi gi hk => Or.inl ⟨i, hi, wi, by rw [gi]; exact hk, rfl⟩) R.told 0 g_N (by omega) (by unfold g_N; omega) (fun j hj => absurd hj (by omega))
    rw [nI_0] at q
    exact q
theorem ahd_9 {R : RW} (h : R.inv) : cnt (ahd R 9 0) R.told = 0 := by
  obtain ⟨l, -, -, -, hm⟩ := h.m
  rw [cnt_0]
  intro j hj
  have := (urg_of (hm j hj)).1
  unfold ahd
  rw [show decide (9 < urg (R.ms j)) = false from decide_eq_false (by omega), show decide (j < 0) = false from decide_eq_false (by omega)]
  simp
theorem nextMessage_n (hx : isM x m) {R : RW} (h : Rel R D) (k : Int32) : ∃ r, f_X8_nextMessage (dP x m D) m k = some r ∧ isNth R k r := by
  have q := next_rows hx h k 10 g_N (by omega) (by unfold g_N; omega) (fun i hi wi hui => by
    obtain ⟨l, -, -, -, hm⟩ := h.inv.m
    have := (urg_of (hm i hi)).1
    omega)
  dsimp only at q
  rw [ahd_9 h.inv, nI_0, show nI 10 - 1 = (9 : Int32) by decide] at q
  exact q
theorem servedAs_n {R : RW} (h : R.inv) (k : Int32) : isNth R k (oI (R.servedAs k)) := by
  unfold RW.servedAs
  cases e : fnd (fun i => (R.ms i).phase = 0 ∧ R.before i = k) R.told 0 with
  | none =>
    refine Or.inr ⟨rfl, fun i hi wi hk => ?_⟩
    have := fnd_none.mp e i (Nat.zero_le _) (by omega)
    exact this ⟨wi, by rw [before_cnt h hi]; exact hk.symm⟩
  | some i =>
    obtain ⟨-, h2, ⟨h3, h4⟩, -⟩ := fnd_some e
    exact Or.inl ⟨i, by omega, h3, by rw [← h4, before_cnt h (by omega)], rfl⟩
theorem isNth_one {R : RW} (h : R.inv) {k r r' : Int32} (h1 : isNth R k r) (h2 : isNth R k r') : r = r' := by
  have t8 := h.1
  rcases h1 with ⟨i, i1, i2, i3, i4⟩ | ⟨i1, i2⟩
  · rcases h2 with ⟨j, j1, j2, j3, j4⟩ | ⟨j1, j2⟩
    · have e : cnt (ahd R (urg (R.ms i)) i) R.told = cnt (ahd R (urg (R.ms j)) j) R.told := (nI_eq (cnt_u _ t8) (cnt_u _ t8)).mp (i3.symm.trans j3)
      have := ahd_inj i1 j1 i2 j2 e
      rw [i4, j4, this]
    · exact absurd i3 (j2 i i1 i2)
  · rcases h2 with ⟨j, j1, j2, j3, j4⟩ | ⟨j1, j2⟩
    · exact absurd j3 (i2 j j1 j2)
    · rw [i1, j1]
theorem nextMessage_d (hx : isM x m) {R : RW} (h : Rel R D) (k : Int32) : f_X8_nextMessage (dP x m D) m k = some (oI (R.servedAs k)) := by
  obtain ⟨r, r1, r2⟩ := nextMessage_n hx h k
  rw [r1, isNth_one h.inv r2 (servedAs_n h.inv k)]
/-! how many messages stand so -/
theorem inState_l (hx : isM x m) {R : RW} (h : Rel R D) (p : Int32) : ∀ (d i fuel : Nat) (v : Int32), i + d = R.told → d < fuel → f_X8_inState_b4 (dP x m D) fuel m p v (nI i) = some (up (fun i v => if (R.ms i).phase = p then v + 1 else v) d i v) := by
  have t8 := h.inv.1
  have n1 : D 1 = nI R.told := h.n.2.1
  intro d
  induction d with
  | zero =>
    intro i fuel v hi hf
    obtain ⟨fu, rfl⟩ := Nat.exists_eq_succ_of_ne_zero (Nat.ne_of_gt hf)
    simp only [f_X8_inState_b4, dG hx, Option.bind_some, dL1, n1, if_neg (nI_nlt (show R.told ≤ i by omega) (show i < 2 ^ 31 by omega)), up]
  | succ d ih =>
    intro i fuel v hi hf
    obtain ⟨fu, rfl⟩ := Nat.exists_eq_succ_of_ne_zero (Nat.ne_of_gt (Nat.zero_lt_of_lt hf))
    simp only [f_X8_inState_b4, dG hx, dI hx, cond_true, Option.bind_some, dL1, n1, if_pos (nI_lt (show i < R.told by omega) (show R.told < 2 ^ 31 by omega)), msL3 hx (show i < 8 by omega), (h.ms i (by omega)).2.2.2.1, f_X8_inState_b30, up, ← nI_succ]
    by_cases c : (R.ms i).phase = p
    · simp only [c, if_true]
      exact ih (i + 1) fu _ (by omega) (by omega)
    · simp only [c, if_false, Int32.add_zero]
      exact ih (i + 1) fu _ (by omega) (by omega)
theorem inState_d (hx : isM x m) {R : RW} (h : Rel R D) (p : Int32) : f_X8_inState (dP x m D) m p = some (R.count p) := by
  unfold f_X8_inState
  rw [show f_X8_inState_b4 (dP x m D) g_N m p 0 0 = f_X8_inState_b4 (dP x m D) g_N m p 0 (nI 0) by rw [nI_0]]
  exact inState_l hx h p R.told 0 g_N 0 (by omega) (by have := h.inv.1; unfold g_N; omega)
theorem agreeing_dl (hx : isM x m) {R : RW} (h : Rel R D) : ∀ (d i fuel : Nat) (v : Int32), i + d = R.told → d < fuel → f_X8_agreeing_b4 (dP x m D) fuel m v (nI i) = some (up (fun i v => if (R.ms i).agrees then v + 1 else v) d i v) := by
  have t8 := h.inv.1
  have n1 : D 1 = nI R.told := h.n.2.1
  obtain ⟨l, -, -, -, hm⟩ := h.inv.m
  intro d
  induction d with
  | zero =>
    intro i fuel v hi hf
    obtain ⟨fu, rfl⟩ := Nat.exists_eq_succ_of_ne_zero (Nat.ne_of_gt hf)
    simp only [f_X8_agreeing_b4, dG hx, Option.bind_some, dL1, n1, if_neg (nI_nlt (show R.told ≤ i by omega) (show i < 2 ^ 31 by omega)), up]
  | succ d ih =>
    intro i fuel v hi hf
    obtain ⟨fu, rfl⟩ := Nat.exists_eq_succ_of_ne_zero (Nat.ne_of_gt (Nat.zero_lt_of_lt hf))
    simp only [f_X8_agreeing_b4, dG hx, dI hx, cond_true, Option.bind_some, dL1, n1, if_pos (nI_lt (show i < R.told by omega) (show R.told < 2 ^ 31 by omega)), agrees_d hx (show i < 8 by omega) (hm i (by omega)) (h.ms i (by omega)), f_X8_agreeing_b28, up, ← nI_succ, bI_eq0]
    cases (R.ms i).agrees
    · simp only [Bool.false_eq_true, if_true, if_false, Int32.add_zero]
      exact ih (i + 1) fu _ (by omega) (by omega)
    · simp only [Bool.true_eq_false, if_true, if_false]
      exact ih (i + 1) fu _ (by omega) (by omega)
theorem agreeing_d (hx : isM x m) {R : RW} (h : Rel R D) : f_X8_agreeing (dP x m D) m = some R.agreeing := by
  unfold f_X8_agreeing
  rw [show f_X8_agreeing_b4 (dP x m D) g_N m 0 0 = f_X8_agreeing_b4 (dP x m D) g_N m 0 (nI 0) by rw [nI_0]]
  exact agreeing_dl hx h R.told 0 g_N 0 (by omega) (by have := h.inv.1; unfold g_N; omega)
theorem told_d (hx : isM x m) {R : RW} (h : Rel R D) {w : Nat} (hw : w < 13) : f_X8_told (dP x m D) m (nI w) = some (R.figure (nI w)) := by
  have e : w = 0 ∨ w = 1 ∨ w = 2 ∨ w = 3 ∨ w = 4 ∨ w = 5 ∨ w = 6 ∨ w = 7 ∨ w = 8 ∨ w = 9 ∨ w = 10 ∨ w = 11 ∨ w = 12 := by omega
  obtain ⟨n0, n1, n2, n3, n4, n5, n6, n8, n9⟩ := h.n
  have n7 := h.mi.2.1
  rcases e with rfl | rfl | rfl | rfl | rfl | rfl | rfl | rfl | rfl | rfl | rfl | rfl | rfl
  · show f_X8_told (dP x m D) m 0 = some (nI R.time)
    rw [← n0]; simp only [f_X8_told, dG hx, dL0, Option.bind_some]; rfl
  · show f_X8_told (dP x m D) m 1 = some (nI R.told)
    rw [← n1]; simp only [f_X8_told, dG hx, dL1, Option.bind_some]; rfl
  · show f_X8_told (dP x m D) m 2 = some (oI R.way)
    rw [← n2]; simp only [f_X8_told, dG hx, dL2, Option.bind_some]; rfl
  · show f_X8_told (dP x m D) m 3 = some (R.count 0)
    simp only [f_X8_told, dI hx, cond_true, inState_d hx h, Option.bind_some]; rfl
  · show f_X8_told (dP x m D) m 4 = some (R.count 2)
    simp only [f_X8_told, dI hx, cond_true, inState_d hx h, Option.bind_some]; rfl
  · show f_X8_told (dP x m D) m 5 = some R.agreeing
    simp only [f_X8_told, dI hx, cond_true, agreeing_d hx h, Option.bind_some]; rfl
  · show f_X8_told (dP x m D) m 6 = some R.sent
    rw [← n3]; simp only [f_X8_told, dG hx, show (3 : Int32) + 6 - 6 = 3 by decide, dL3, Option.bind_some]; rfl
  · show f_X8_told (dP x m D) m 7 = some R.lost
    rw [← n4]; simp only [f_X8_told, dG hx, show (3 : Int32) + 7 - 6 = 4 by decide, dL4, Option.bind_some]; rfl
  · show f_X8_told (dP x m D) m 8 = some R.garbled
    rw [← n5]; simp only [f_X8_told, dG hx, show (3 : Int32) + 8 - 6 = 5 by decide, dL5, Option.bind_some]; rfl
  · show f_X8_told (dP x m D) m 9 = some R.given
    rw [← n6]; simp only [f_X8_told, dG hx, show (3 : Int32) + 9 - 6 = 6 by decide, dL6, Option.bind_some]; rfl
  · show f_X8_told (dP x m D) m 10 = some (nI R.mi.told)
    rw [← n7]; simp only [f_X8_told, dG hx, show (3 : Int32) + 10 - 6 = 7 by decide, dL7, Option.bind_some]; rfl
  · show f_X8_told (dP x m D) m 11 = some (nI R.fsize)
    rw [← n8]; simp only [f_X8_told, dG hx, show (3 : Int32) + 11 - 6 = 8 by decide, dL8, Option.bind_some]; rfl
  · show f_X8_told (dP x m D) m 12 = some R.limit
    rw [← n9]; simp only [f_X8_told, dG hx, show (3 : Int32) + 12 - 6 = 9 by decide, dL9, Option.bind_some]; rfl
theorem toldChannel_d (hx : isM x m) {R : RW} (h : Rel R D) (b : Bool) {w : Nat} (hw : w < 6) : f_X8_toldChannel (dP x m D) m (nI (cn b)) (nI w) = some ((R.ch b).figure (nI w) (nI R.time)) := by
  have e : w = 0 ∨ w = 1 ∨ w = 2 ∨ w = 3 ∨ w = 4 ∨ w = 5 := by omega
  have n0 := h.n.1
  have hc := cn_lt b
  have rc := h.ch b
  obtain ⟨c0, c1, c2, c3, c4⟩ := rc
  rcases e with rfl | rfl | rfl | rfl | rfl | rfl
  · show f_X8_toldChannel (dP x m D) m (nI (cn b)) 0 = some (R.ch b).power
    rw [← c0]; simp only [f_X8_toldChannel, f_X8_toldChannel_b35, dI hx, cond_true, chL0 hx hc, Option.bind_some]; rfl
  · show f_X8_toldChannel (dP x m D) m (nI (cn b)) 1 = some (R.ch b).opening
    rw [← c1]; simp only [f_X8_toldChannel, f_X8_toldChannel_b35, dI hx, cond_true, chL1 hx hc, Option.bind_some]; rfl
  · show f_X8_toldChannel (dP x m D) m (nI (cn b)) 2 = some (R.ch b).closing
    rw [← c2]; simp only [f_X8_toldChannel, f_X8_toldChannel_b35, dI hx, cond_true, chL2 hx hc, Option.bind_some]; rfl
  · show f_X8_toldChannel (dP x m D) m (nI (cn b)) 3 = some (bI ((R.ch b).isOpen (nI R.time)))
    simp only [f_X8_toldChannel, dI hx, cond_true, isOpen_d hx hc (h.ch b), Option.bind_some, if_true, n0]
    cases (R.ch b).isOpen (nI R.time) <;> rfl
  · show f_X8_toldChannel (dP x m D) m (nI (cn b)) 4 = some (R.ch b).frame
    rw [← c3]
    simp only [f_X8_toldChannel, f_X8_toldChannel_b35, dI hx, cond_true, show (4 : Int32) - 1 = 3 by decide, chL3 hx hc, Option.bind_some]; rfl
  · show f_X8_toldChannel (dP x m D) m (nI (cn b)) 5 = some (if (R.ch b).frame = -1 then -1 else (R.ch b).step)
    have e4 : D (10 + 16 * cn b + 4) = (if (R.ch b).frame = -1 then -1 else (R.ch b).step) := by
      by_cases f : (R.ch b).frame = -1
      · rw [if_pos f]; exact c4 f
      · rw [if_neg f]
        cases e : R.way with
        | none =>
          have := h.way.1 e
          cases b
          · exact absurd this.1 f
          · exact absurd this.2 f
        | some i =>
          obtain ⟨f', s, b', -, w2, -, -, -, -, -, -, w9, -⟩ := ((h.way.2 i e).1 b).resolve_left f
          rw [w9, w2]
    rw [← e4]
    simp only [f_X8_toldChannel, f_X8_toldChannel_b35, dI hx, cond_true, show (5 : Int32) - 1 = 4 by decide, chL4 hx hc, Option.bind_some]; rfl
end REL3
