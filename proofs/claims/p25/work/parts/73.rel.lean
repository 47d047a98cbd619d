/-! the relation of a world and a row of numbers, and what is so of the world alone (parts 40 to 48 of whole, without the model's methods) -/
section REF1
variable {D : Nat → Int32}
end REF1
def lOf (v : Int32) : Prop := ∃ n : Nat, n < 26 ∧ v = nI n
def cn (b : Bool) : Nat := if b then 1 else 0
theorem cn_lt (b : Bool) : cn b < 2 := by cases b <;> decide
def cnt (p : Nat → Bool) : Nat → Nat
  | 0 => 0
  | n + 1 => cnt p n + (if p n then 1 else 0)
def relKp (K : RKp) (a : Nat) (D : Nat → Int32) : Prop := K.told ≤ 8 ∧ D a = nI K.told ∧ ∀ i, i < K.told → D (a + (1 + 2 * i)) = K.ticks i ∧ D (a + (2 + 2 * i)) = K.keys i ∧ lOf (K.keys i) ∧ (∃ n : Nat, n < 10000 ∧ K.ticks i = nI n) ∧ ∀ j, j < i → K.ticks j ≠ K.ticks i
def relMi (K : RMi) (D : Nat → Int32) : Prop := K.told ≤ 12 ∧ D 7 = nI K.told ∧ ∀ i, i < K.told → D (76 + 3 * i) = K.firsts i ∧ D (77 + 3 * i) = K.lasts i ∧ D (78 + 3 * i) = K.levels i
def relCh (C : RCh) (a : Nat) (D : Nat → Int32) : Prop := D a = C.power ∧ D (a + 1) = C.opening ∧ D (a + 2) = C.closing ∧ D (a + 3) = C.frame ∧ (C.frame = -1 → D (a + 4) = -1)
def relWk (C : RCh) (M : RMs) (a : Nat) (D : Nat → Int32) : Prop := C.frame = -1 ∨ ∃ f s b : Nat, C.frame = nI f ∧ C.step = nI s ∧ C.number = nI b ∧ f < M.frames ∧ s ≤ M.many f + 2 ∧ b < 26 ∧ M.fst f = 1 ∧ C.n = min (s - 1) (M.many f) ∧ D (a + 4) = nI s ∧ (1 ≤ s → D (a + 5) = bI C.lost) ∧ (1 ≤ s → C.lost = false → D (a + 6) = C.number ∧ ∀ k, k < C.n → D (a + (8 + k)) = C.heard k) ∧ (s = M.many f + 2 → D (a + 7) = bI C.good) ∧ (s = 0 → C.lost = false)
def relMs (M : RMs) (a : Nat) (D : Nat → Int32) : Prop := D a = M.sender ∧ D (a + 1) = M.urgency ∧ D (a + 2) = nI M.len ∧ D (a + 3) = M.phase ∧ D (a + 4) = M.began ∧ D (a + 5) = M.ended ∧ (∀ k, k < M.len → D (a + (6 + k)) = M.letters k) ∧ (∀ k, k < 24 → D (a + (30 + k)) = M.log k) ∧ (∀ k, k < 24 → D (a + (54 + k)) = M.fst k) ∧ (∀ k, k < 24 → D (a + (78 + k)) = M.tries k)
def RMs.inv (M : RMs) (z l : Nat) : Prop := M.fsize = z ∧ 1 ≤ M.len ∧ M.len ≤ 24 ∧ M.frames = (M.len + z - 1) / z ∧ (M.sender = 0 ∨ M.sender = 1) ∧ (∃ u : Nat, u < 10 ∧ M.urgency = nI u) ∧ (∃ p : Nat, p < 4 ∧ M.phase = nI p) ∧ M.unf = nI (cnt (fun f => decide (M.fst f < 2)) M.frames) ∧ (∀ f, f < M.frames → (∃ s : Nat, s < 4 ∧ M.fst f = nI s) ∧ ∃ t : Nat, t ≤ l ∧ M.tries f = nI t ∧ (M.fst f < 2 → t < l)) ∧ (∀ k, k < M.len → lOf (M.letters k))
def RW.inv (R : RW) : Prop := R.told ≤ 8 ∧ 1 ≤ R.fsize ∧ R.fsize ≤ 8 ∧ (∃ l : Nat, 1 ≤ l ∧ l ≤ 9 ∧ R.limit = nI l ∧ ∀ i, i < R.told → (R.ms i).inv R.fsize l) ∧ (∀ m, R.way = some m → m < R.told) ∧ (∀ i, i < R.told → ((R.ms i).phase = 1 ↔ R.way = some i))
def relN (R : RW) (D : Nat → Int32) : Prop := D 0 = nI R.time ∧ D 1 = nI R.told ∧ D 2 = oI R.way ∧ D 3 = R.sent ∧ D 4 = R.lost ∧ D 5 = R.garbled ∧ D 6 = R.given ∧ D 8 = nI R.fsize ∧ D 9 = R.limit
def relWay (R : RW) (D : Nat → Int32) : Prop := (R.way = none → R.c0.frame = -1 ∧ R.c1.frame = -1) ∧ ∀ m, R.way = some m → (∀ b, relWk (R.ch b) (R.ms m) (10 + 16 * cn b) D) ∧ (R.c0.frame = R.c1.frame → R.c0.frame = -1)
def Rel (R : RW) (D : Nat → Int32) : Prop := R.inv ∧ relN R D ∧ (∀ b, relCh (R.ch b) (10 + 16 * cn b) D) ∧ relKp R.k0 42 D ∧ relKp R.k1 59 D ∧ relMi R.mi D ∧ (∀ i, i < R.told → relMs (R.ms i) (112 + 102 * i) D) ∧ relWay R D
theorem Rel.inv {R : RW} {D : Nat → Int32} (h : Rel R D) : R.inv := h.1
theorem Rel.n {R : RW} {D : Nat → Int32} (h : Rel R D) : relN R D := h.2.1
theorem Rel.ch {R : RW} {D : Nat → Int32} (h : Rel R D) : ∀ b, relCh (R.ch b) (10 + 16 * cn b) D := h.2.2.1
theorem Rel.k0 {R : RW} {D : Nat → Int32} (h : Rel R D) : relKp R.k0 42 D := h.2.2.2.1
theorem Rel.k1 {R : RW} {D : Nat → Int32} (h : Rel R D) : relKp R.k1 59 D := h.2.2.2.2.1
theorem Rel.mi {R : RW} {D : Nat → Int32} (h : Rel R D) : relMi R.mi D := h.2.2.2.2.2.1
theorem Rel.ms {R : RW} {D : Nat → Int32} (h : Rel R D) : ∀ i, i < R.told → relMs (R.ms i) (112 + 102 * i) D := h.2.2.2.2.2.2.1
theorem Rel.way {R : RW} {D : Nat → Int32} (h : Rel R D) : relWay R D := h.2.2.2.2.2.2.2
theorem Rel.kp {R : RW} {D : Nat → Int32} (h : Rel R D) {s : Nat} (hs : s < 2) : relKp (R.kp (nI s)) (42 + 17 * s) D := by
  have : s = 0 ∨ s = 1 := by omega
  rcases this with rfl | rfl
  · exact h.k0
  · exact h.k1
theorem relKp.congr {K : RKp} {a : Nat} {D D' : Nat → Int32} (h : relKp K a D) (e : ∀ j, a ≤ j → j < a + 17 → D' j = D j) : relKp K a D' := by
  obtain ⟨h1, h2, h3⟩ := h
  refine ⟨h1, by rw [e a (by omega) (by omega)]; exact h2, fun i hi => ?_⟩
  rw [e _ (by omega) (by omega), e _ (by omega) (by omega)]
  exact h3 i hi
theorem relMi.congr {K : RMi} {D D' : Nat → Int32} (h : relMi K D) (e7 : D' 7 = D 7) (e : ∀ j, 76 ≤ j → j < 112 → D' j = D j) : relMi K D' := by
  obtain ⟨h1, h2, h3⟩ := h
  refine ⟨h1, by rw [e7]; exact h2, fun i hi => ?_⟩
  rw [e _ (by omega) (by omega), e _ (by omega) (by omega), e _ (by omega) (by omega)]
  exact h3 i hi
theorem relCh.congr {C : RCh} {a : Nat} {D D' : Nat → Int32} (h : relCh C a D) (e : ∀ j, a ≤ j → j < a + 5 → D' j = D j) : relCh C a D' := by
  obtain ⟨h1, h2, h3, h4, h5⟩ := h
  refine ⟨?_, ?_, ?_, ?_, ?_⟩ <;> rw [e _ (by omega) (by omega)]
  · exact h1
  · exact h2
  · exact h3
  · exact h4
  · exact h5
theorem relWk.congr {C : RCh} {M : RMs} {a : Nat} {D D' : Nat → Int32} (h : relWk C M a D) (hm : ∀ f, M.many f ≤ 8) (e : ∀ j, a ≤ j → j < a + 16 → D' j = D j) : relWk C M a D' := by
  rcases h with h | ⟨f, s, b, h1, h2, h3, h4, h5, h6, h7, h8, h9, h10, h11, h12, h13⟩
  · exact Or.inl h
  · refine Or.inr ⟨f, s, b, h1, h2, h3, h4, h5, h6, h7, h8, ?_, ?_, ?_, ?_, h13⟩
    · rw [e _ (by omega) (by omega)]; exact h9
    · rw [e _ (by omega) (by omega)]; exact h10
    · rw [e _ (by omega) (by omega)]
      intro q1 q2
      obtain ⟨q3, q4⟩ := h11 q1 q2
      refine ⟨q3, fun k hk => ?_⟩
      have := hm f
      rw [e _ (by omega) (by omega)]
      exact q4 k hk
    · rw [e _ (by omega) (by omega)]; exact h12
theorem relMs.congr {M : RMs} {a : Nat} {D D' : Nat → Int32} (h : relMs M a D) (hl : M.len ≤ 24) (e : ∀ j, a ≤ j → j < a + 102 → D' j = D j) : relMs M a D' := by
  obtain ⟨h1, h2, h3, h4, h5, h6, h7, h8, h9, h10⟩ := h
  refine ⟨?_, ?_, ?_, ?_, ?_, ?_, fun k hk => ?_, fun k hk => ?_, fun k hk => ?_, fun k hk => ?_⟩ <;> rw [e _ (by omega) (by omega)]
  · exact h1
  · exact h2
  · exact h3
  · exact h4
  · exact h5
  · exact h6
  · exact h7 k hk
  · exact h8 k hk
  · exact h9 k hk
  · exact h10 k hk
section REL1
variable {D : Nat → Int32}
theorem bI_eq0 (b : Bool) : (bI b = 0) = (b = false) := by cases b <;> simp [bI]
theorem keyAt_l (K : RKp) (t : Int32) : ∀ (d i : Nat) (v : Int32 × Int32), i + d = K.told → (∀ i, i < K.told → lOf (K.keys i)) → lOf v.2 → lOf (up (fun i (v : Int32 × Int32) => if K.ticks i ≤ t ∧ v.1 < K.ticks i then (K.ticks i, K.keys i) else v) d i v).2
  | 0, _, _, _, _, h => h
  | d + 1, i, v, hi, hk, h => by
    rw [up]
    refine keyAt_l K t d (i + 1) _ (by omega) hk ?_
    split
    · exact hk i (by omega)
    · exact h
theorem keyAt_lOf {K : RKp} {a : Nat} (h : relKp K a D) (t : Int32) : lOf (K.keyAt t) := keyAt_l K t K.told 0 (-1, 0) (by omega) (fun i hi => (h.2.2 i hi).2.2.1) ⟨0, by omega, nI_0.symm⟩
end REL1
theorem relN.fs {R : RW} {D : Nat → Int32} (h : relN R D) : D 8 = nI R.fsize := h.2.2.2.2.2.2.2.1
theorem up_few {g : Nat → Int32 → Int32} (hg : ∀ k x, g k x = x ∨ g k x = x + 1) : ∀ (d i c : Nat), ∃ n, n ≤ d ∧ up g d i (nI c) = nI (c + n)
  | 0, _, _ => ⟨0, Nat.le_refl _, rfl⟩
  | d + 1, i, c => by
    rw [up]
    rcases hg i (nI c) with e | e
    · obtain ⟨n, h1, h2⟩ := up_few hg d (i + 1) c
      exact ⟨n, by omega, by rw [e]; exact h2⟩
    · obtain ⟨n, h1, h2⟩ := up_few hg d (i + 1) (c + 1)
      exact ⟨n + 1, by omega, by rw [e, ← nI_succ, h2]; congr 1; omega⟩
theorem cnt_le (p : Nat → Bool) : ∀ n, cnt p n ≤ n
  | 0 => Nat.le_refl _
  | n + 1 => by
    have := cnt_le p n
    rw [cnt]
    split <;> omega
theorem cnt_0 {p : Nat → Bool} : ∀ {n : Nat}, cnt p n = 0 ↔ ∀ f, f < n → p f = false
  | 0 => ⟨fun _ f h => absurd h (by omega), fun _ => rfl⟩
  | n + 1 => by
    rw [cnt]
    have ih := cnt_0 (p := p) (n := n)
    cases e : p n with
    | false =>
      simp only [Bool.false_eq_true, if_false, Nat.add_zero]
      exact ih.trans ⟨fun h f hf => if e2 : f = n then e2 ▸ e else h f (by omega), fun h f hf => h f (by omega)⟩
    | true =>
      simp only [if_true]
      exact ⟨fun h => by omega, fun h => by rw [h n (by omega)] at e; cases e⟩
theorem div_mul_lt {z n f : Nat} (h1 : 1 ≤ z) (hf : f < (n + z - 1) / z) : f * z < n := by
  have : (f + 1) * z ≤ n + z - 1 := (Nat.le_div_iff_mul_le (by omega)).mp hf
  rw [Nat.add_mul] at this
  omega
section REL2
variable {D : Nat → Int32}
theorem RMs.inv.fr' {M : RMs} {z l : Nat} (h : M.inv z l) (h1 : 1 ≤ z) {f : Nat} (hf : f < M.frames) : f * z < M.len := by
  obtain ⟨-, -, -, e, -⟩ := h
  rw [e] at hf
  exact div_mul_lt h1 hf
theorem RMs.inv.fr24 {M : RMs} {z l : Nat} (h : M.inv z l) (h1 : 1 ≤ z) : M.frames ≤ 24 := by
  obtain ⟨-, h3, h2, e, -⟩ := h
  rw [e]
  have : (M.len + z - 1) / z ≤ M.len := by
    apply Nat.div_le_of_le_mul
    have : M.len * z = M.len + M.len * (z - 1) := by
      obtain ⟨y, rfl⟩ : ∃ y, z = y + 1 := ⟨z - 1, by omega⟩
      rw [Nat.add_sub_cancel, Nat.mul_add, Nat.mul_one, Nat.add_comm]
    rw [Nat.mul_comm, this]
    have : 1 * (z - 1) ≤ M.len * (z - 1) := Nat.mul_le_mul_right _ h3
    omega
  omega
theorem RMs.inv.ok {M : RMs} {z l : Nat} (h : M.inv z l) (h1 : 1 ≤ z) (h8 : z ≤ 8) : M.ok := ⟨h.2.2.1, h.fr24 h1, by rw [h.1]; exact h1, by rw [h.1]; exact h8⟩
theorem RMs.inv.many_le {M : RMs} {z l : Nat} (h : M.inv z l) (h8 : z ≤ 8) (f : Nat) : M.many f ≤ 8 := by
  have := h.1
  unfold RMs.many
  omega
theorem empties_few (M : RMs) : ∃ n, n ≤ M.len ∧ M.empties = nI n := by
  obtain ⟨n, h1, h2⟩ := up_few (g := fun k x => if M.log k = -1 then x + 1 else x) (fun k x => by split; exact Or.inr rfl; exact Or.inl rfl) M.len 0 0
  exact ⟨n, h1, by unfold RMs.empties; rw [show (0 : Int32) = nI 0 from nI_0.symm, h2]; congr 1; omega⟩
theorem wrongs_few (M : RMs) : ∃ n, n ≤ M.len ∧ M.wrongs = nI n := by
  obtain ⟨n, h1, h2⟩ := up_few (g := fun k x => if M.log k = -1 then x else if M.log k = M.letters k then x else x + 1) (fun k x => by split; exact Or.inl rfl; split; exact Or.inl rfl; exact Or.inr rfl) M.len 0 0
  exact ⟨n, h1, by unfold RMs.wrongs; rw [show (0 : Int32) = nI 0 from nI_0.symm, h2]; congr 1; omega⟩
theorem unf_0 {M : RMs} {z l : Nat} (hM : M.inv z l) (h1 : 1 ≤ z) : M.unf = 0 ↔ ∀ f, f < M.frames → ¬ M.fst f < 2 := by
  have h24 := hM.fr24 h1
  have c := cnt_le (fun f => decide (M.fst f < 2)) M.frames
  rw [hM.2.2.2.2.2.2.2.1, nI_eq0 (by omega), cnt_0]
  exact ⟨fun h f hf => of_decide_eq_false (h f hf), fun h f hf => decide_eq_false (h f hf)⟩
end REL2
theorem cnt_mono {p q : Nat → Bool} : ∀ {n : Nat}, (∀ i, i < n → p i = true → q i = true) → cnt p n ≤ cnt q n
  | 0, _ => Nat.le_refl _
  | n + 1, h => by
    have ih := cnt_mono (p := p) (q := q) (n := n) (fun i hi => h i (by omega))
    have hn := h n (by omega)
    rw [cnt, cnt]
    cases e : p n with
    | false => simp only [Bool.false_eq_true, if_false]; omega
    | true => rw [hn e]; simp only [if_true]; omega
theorem cnt_lt {p q : Nat → Bool} : ∀ {n : Nat}, (∀ i, i < n → p i = true → q i = true) → ∀ k, k < n → p k = false → q k = true → cnt p n < cnt q n
  | 0, _, k, hk, _, _ => absurd hk (by omega)
  | n + 1, h, k, hk, e1, e2 => by
    have hn := h n (by omega)
    rw [cnt, cnt]
    by_cases c : k = n
    · subst c
      have := cnt_mono (p := p) (q := q) (n := k) (fun i hi => h i (by omega))
      rw [e1, e2]
      simp only [Bool.false_eq_true, if_false, if_true]; omega
    · have := cnt_lt (p := p) (q := q) (n := n) (fun i hi => h i (by omega)) k (by omega) e1 e2
      cases e : p n with
      | false => simp only [Bool.false_eq_true, if_false]; omega
      | true => rw [hn e]; simp only [if_true]; omega
theorem cnt_congr {p q : Nat → Bool} : ∀ {n : Nat}, (∀ i, i < n → p i = q i) → cnt p n = cnt q n
  | 0, _ => rfl
  | n + 1, h => by rw [cnt, cnt, cnt_congr (n := n) (fun i hi => h i (by omega)), h n (by omega)]
theorem up_cnt (p : Nat → Bool) : ∀ (d i : Nat), up (fun k (x : Int32) => if p k = true then x + 1 else x) d i (nI (cnt p i)) = nI (cnt p (i + d))
  | 0, _ => rfl
  | d + 1, i => by
    rw [up]
    have e : (if p i = true then nI (cnt p i) + 1 else nI (cnt p i)) = nI (cnt p (i + 1)) := by
      rw [cnt]
      cases p i with
      | false => simp
      | true => simp [nI_succ]
    rw [e, up_cnt p d (i + 1)]
    congr 2
    omega
theorem up_cnt0 (p : Nat → Prop) [DecidablePred p] (n : Nat) : up (fun k (x : Int32) => if p k then x + 1 else x) n 0 0 = nI (cnt (fun k => decide (p k)) n) := by
  have q := up_cnt (fun k => decide (p k)) n 0
  rw [Nat.zero_add, cnt, nI_0] at q
  rw [← q]
  exact up_congr n 0 0 (fun j _ _ y => by simp)
def urg (M : RMs) : Nat := M.urgency.toNatClampNeg
def ahd (R : RW) (u i : Nat) (j : Nat) : Bool := decide ((R.ms j).phase = 0) && (decide (u < urg (R.ms j)) || (decide (urg (R.ms j) = u) && decide (j < i)))
theorem urg_of {M : RMs} {z l : Nat} (h : M.inv z l) : urg M < 10 ∧ M.urgency = nI (urg M) := by
  obtain ⟨u, h1, h2⟩ := h.2.2.2.2.2.1
  have : urg M = u := by unfold urg; rw [h2]; exact nI_clamp (by omega)
  rw [this]
  exact ⟨h1, h2⟩
theorem RW.inv.m {R : RW} (h : R.inv) : ∃ l : Nat, 1 ≤ l ∧ l ≤ 9 ∧ R.limit = nI l ∧ ∀ i, i < R.told → (R.ms i).inv R.fsize l := h.2.2.2.1
theorem before_cnt {R : RW} (h : R.inv) {i : Nat} (hi : i < R.told) : R.before i = nI (cnt (ahd R (urg (R.ms i)) i) R.told) := by
  obtain ⟨l, -, -, -, hm⟩ := h.m
  unfold RW.before
  rw [up_cnt0]
  congr 1
  refine cnt_congr (fun j hj => ?_)
  have a1 := urg_of (hm i hi)
  have a2 := urg_of (hm j hj)
  unfold ahd
  rw [a1.2, a2.2]
  have e1 : (nI (urg (R.ms i)) < nI (urg (R.ms j))) ↔ urg (R.ms i) < urg (R.ms j) := nI_ltI (by omega) (by omega)
  have e2 : (nI (urg (R.ms j)) = nI (urg (R.ms i))) ↔ urg (R.ms j) = urg (R.ms i) := nI_eq (by omega) (by omega)
  rw [Bool.eq_iff_iff]
  simp only [decide_eq_true_eq, Bool.and_eq_true, Bool.or_eq_true, e1, e2]
theorem ahd_inj {R : RW} {i j : Nat} (hi : i < R.told) (hj : j < R.told) (wi : (R.ms i).phase = 0) (wj : (R.ms j).phase = 0) (e : cnt (ahd R (urg (R.ms i)) i) R.told = cnt (ahd R (urg (R.ms j)) j) R.told) : i = j := by
  have key : ∀ a b, a < R.told → b < R.told → (R.ms a).phase = 0 → (urg (R.ms b) < urg (R.ms a) ∨ (urg (R.ms a) = urg (R.ms b) ∧ a < b)) → cnt (ahd R (urg (R.ms a)) a) R.told < cnt (ahd R (urg (R.ms b)) b) R.told := by
    intro a b ha hb wa hab
    refine cnt_lt (fun k hk => ?_) a ha ?_ ?_
    · simp only [ahd, Bool.and_eq_true, Bool.or_eq_true, decide_eq_true_eq]
      exact fun z => ⟨z.1, by have := z.2; omega⟩
    · simp only [ahd, Bool.and_eq_false_iff, Bool.or_eq_false_iff, decide_eq_false_iff_not]
      exact Or.inr ⟨by omega, Or.inr (by omega)⟩
    · simp only [ahd, Bool.and_eq_true, Bool.or_eq_true, decide_eq_true_eq]
      exact ⟨wa, by omega⟩
  rcases Nat.lt_or_ge (urg (R.ms i)) (urg (R.ms j)) with c | c
  · have := key j i hj hi wj (Or.inl c); omega
  · rcases Nat.lt_or_ge (urg (R.ms j)) (urg (R.ms i)) with c2 | c2
    · have := key i j hi hj wi (Or.inl c2); omega
    · rcases Nat.lt_trichotomy i j with c3 | c3 | c3
      · have := key i j hi hj wi (Or.inr ⟨by omega, c3⟩); omega
      · exact c3
      · have := key j i hj hi wj (Or.inr ⟨by omega, c3⟩); omega
theorem ahd_row {R : RW} {u i : Nat} : ahd R u i i = false ∨ True := Or.inr trivial
theorem ahd_step (R : RW) (u i : Nat) {n : Nat} (hi : i < n) : cnt (ahd R u (i + 1)) n = cnt (ahd R u i) n + (if (R.ms i).phase = 0 ∧ urg (R.ms i) = u then 1 else 0) := by
  induction n with
  | zero => exact absurd hi (by omega)
  | succ n ih =>
    rw [cnt, cnt]
    by_cases c : i = n
    · subst c
      have e : cnt (ahd R u (i + 1)) i = cnt (ahd R u i) i := cnt_congr (fun j hj => by
        unfold ahd
        rw [Bool.eq_iff_iff]
        simp only [Bool.and_eq_true, Bool.or_eq_true, decide_eq_true_eq]
        exact ⟨fun z => ⟨z.1, by have := z.2; omega⟩, fun z => ⟨z.1, by have := z.2; omega⟩⟩)
      have e0 : (ahd R u i i = true) ↔ ((R.ms i).phase = 0 ∧ u < urg (R.ms i)) := by
        simp only [ahd, Bool.and_eq_true, Bool.or_eq_true, decide_eq_true_eq]
        exact ⟨fun z => ⟨z.1, by have := z.2; omega⟩, fun z => ⟨z.1, by have := z.2; omega⟩⟩
      have e1 : (ahd R u (i + 1) i = true) ↔ ((R.ms i).phase = 0 ∧ (u < urg (R.ms i) ∨ urg (R.ms i) = u)) := by
        simp only [ahd, Bool.and_eq_true, Bool.or_eq_true, decide_eq_true_eq]
        exact ⟨fun z => ⟨z.1, by have := z.2; omega⟩, fun z => ⟨z.1, by have := z.2; omega⟩⟩
      rw [e]
      simp only [e0, e1]
      by_cases w : (R.ms i).phase = 0
      · by_cases g : u < urg (R.ms i)
        · have : ¬ urg (R.ms i) = u := by omega
          simp [w, g, this]
        · by_cases g2 : urg (R.ms i) = u
          · simp [w, g2]
          · simp [w, g, g2]
      · simp [w]
    · have e0 : ahd R u (i + 1) n = ahd R u i n := by
        unfold ahd
        rw [Bool.eq_iff_iff]
        simp only [Bool.and_eq_true, Bool.or_eq_true, decide_eq_true_eq]
        exact ⟨fun z => ⟨z.1, by have := z.2; omega⟩, fun z => ⟨z.1, by have := z.2; omega⟩⟩
      rw [ih (by omega), e0]
      omega
theorem ahd_next (R : RW) (u n : Nat) : cnt (ahd R (u + 1) n) n = cnt (ahd R u 0) n := cnt_congr (fun j hj => by
  unfold ahd
  rw [Bool.eq_iff_iff]
  simp only [Bool.and_eq_true, Bool.or_eq_true, decide_eq_true_eq]
  exact ⟨fun z => ⟨z.1, by have := z.2; omega⟩, fun z => ⟨z.1, by have := z.2; omega⟩⟩)
section REL3
variable {D : Nat → Int32}
def isNth (R : RW) (k : Int32) (r : Int32) : Prop := (∃ i, i < R.told ∧ (R.ms i).phase = 0 ∧ k = nI (cnt (ahd R (urg (R.ms i)) i) R.told) ∧ r = nI i) ∨ (r = -1 ∧ ∀ i, i < R.told → (R.ms i).phase = 0 → k ≠ nI (cnt (ahd R (urg (R.ms i)) i) R.told))
theorem cnt_u (p : Nat → Bool) {n : Nat} (hn : n ≤ 8) : cnt p n < 2 ^ 31 := by have := cnt_le p n; omega
theorem ahd_9 {R : RW} (h : R.inv) : cnt (ahd R 9 0) R.told = 0 := by
  obtain ⟨l, -, -, -, hm⟩ := h.m
  rw [cnt_0]
  intro j hj
  have := (urg_of (hm j hj)).1
  unfold ahd
  rw [show decide (9 < urg (R.ms j)) = false from decide_eq_false (by omega), show decide (j < 0) = false from decide_eq_false (by omega)]
  simp
theorem servedAs_n {R : RW} (h : R.inv) (k : Int32) : isNth R k (oI (R.servedAs k)) := by
  unfold RW.servedAs
  cases e : fnd (fun i => (R.ms i).phase = 0 ∧ R.before i = k) R.told 0 with
  | none =>
    refine Or.inr ⟨rfl, fun i hi wi hk => ?_⟩
    have := fnd_none.mp e i (Nat.zero_le _) (by omega)
    exact this ⟨wi, by rw [before_cnt h hi]; exact hk.symm⟩
  | some i =>
    obtain ⟨-, h2, ⟨h3, h4⟩, -⟩ := fnd_some e
    exact Or.inl ⟨i, by omega, h3, by rw [← h4, before_cnt h (by omega)], rfl⟩
theorem isNth_one {R : RW} (h : R.inv) {k r r' : Int32} (h1 : isNth R k r) (h2 : isNth R k r') : r = r' := by
  have t8 := h.1
  rcases h1 with ⟨i, i1, i2, i3, i4⟩ | ⟨i1, i2⟩
  · rcases h2 with ⟨j, j1, j2, j3, j4⟩ | ⟨j1, j2⟩
    · have e : cnt (ahd R (urg (R.ms i)) i) R.told = cnt (ahd R (urg (R.ms j)) j) R.told := (nI_eq (cnt_u _ t8) (cnt_u _ t8)).mp (i3.symm.trans j3)
      have := ahd_inj i1 j1 i2 j2 e
      rw [i4, j4, this]
    · exact absurd i3 (j2 i i1 i2)
  · rcases h2 with ⟨j, j1, j2, j3, j4⟩ | ⟨j1, j2⟩
    · exact absurd j3 (i2 j j1 j2)
    · rw [i1, j1]
end REL3
theorem upd_if (f : Nat → Int32) (i : Nat) (v : Int32) (j : Nat) : upd f i v j = if j = i then v else f j := rfl
theorem relMs.p3 {M : RMs} {a : Nat} {D : Nat → Int32} (h : relMs M a D) (hl : M.len ≤ 24) (v : Int32) : relMs (M.s_phase v) a (upd D (a + 3) v) := by
  obtain ⟨h1, h2, h3, h4, h5, h6, h7, h8, h9, h10⟩ := h
  refine ⟨?_, ?_, ?_, upd_at _ _ _, ?_, ?_, fun k hk => ?_, fun k hk => ?_, fun k hk => ?_, fun k hk => ?_⟩
  · rw [upd_ne (by omega)]; exact h1
  · rw [upd_ne (by omega)]; exact h2
  · rw [upd_ne (by omega)]; exact h3
  · rw [upd_ne (by omega)]; exact h5
  · rw [upd_ne (by omega)]; exact h6
  · rw [upd_ne (by omega)]; exact h7 k hk
  · rw [upd_ne (by omega)]; exact h8 k hk
  · rw [upd_ne (by omega)]; exact h9 k hk
  · rw [upd_ne (by omega)]; exact h10 k hk
theorem relMs.p4 {M : RMs} {a : Nat} {D : Nat → Int32} (h : relMs M a D) (v : Int32) : relMs (M.s_began v) a (upd D (a + 4) v) := by
  obtain ⟨h1, h2, h3, h4, h5, h6, h7, h8, h9, h10⟩ := h
  refine ⟨?_, ?_, ?_, ?_, upd_at _ _ _, ?_, fun k hk => ?_, fun k hk => ?_, fun k hk => ?_, fun k hk => ?_⟩
  · rw [upd_ne (by omega)]; exact h1
  · rw [upd_ne (by omega)]; exact h2
  · rw [upd_ne (by omega)]; exact h3
  · rw [upd_ne (by omega)]; exact h4
  · rw [upd_ne (by omega)]; exact h6
  · rw [upd_ne (by omega)]; exact h7 k hk
  · rw [upd_ne (by omega)]; exact h8 k hk
  · rw [upd_ne (by omega)]; exact h9 k hk
  · rw [upd_ne (by omega)]; exact h10 k hk
theorem relMs.p5 {M : RMs} {a : Nat} {D : Nat → Int32} (h : relMs M a D) (v : Int32) : relMs (M.s_ended v) a (upd D (a + 5) v) := by
  obtain ⟨h1, h2, h3, h4, h5, h6, h7, h8, h9, h10⟩ := h
  refine ⟨?_, ?_, ?_, ?_, ?_, upd_at _ _ _, fun k hk => ?_, fun k hk => ?_, fun k hk => ?_, fun k hk => ?_⟩
  · rw [upd_ne (by omega)]; exact h1
  · rw [upd_ne (by omega)]; exact h2
  · rw [upd_ne (by omega)]; exact h3
  · rw [upd_ne (by omega)]; exact h4
  · rw [upd_ne (by omega)]; exact h5
  · rw [upd_ne (by omega)]; exact h7 k hk
  · rw [upd_ne (by omega)]; exact h8 k hk
  · rw [upd_ne (by omega)]; exact h9 k hk
  · rw [upd_ne (by omega)]; exact h10 k hk
theorem relMs.p30 {M : RMs} {a k0 : Nat} {D : Nat → Int32} (h : relMs M a D) (h24 : M.len ≤ 24) (hk0 : k0 < 24) (v : Int32) : relMs (M.s_log (upd M.log k0 v)) a (upd D (a + (30 + k0)) v) := by
  obtain ⟨h1, h2, h3, h4, h5, h6, h7, h8, h9, h10⟩ := h
  refine ⟨?_, ?_, ?_, ?_, ?_, ?_, fun k (hk : k < M.len) => ?_, fun k hk => ?_, fun k hk => ?_, fun k hk => ?_⟩
  · rw [upd_ne (by omega)]; exact h1
  · rw [upd_ne (by omega)]; exact h2
  · rw [upd_ne (by omega)]; exact h3
  · rw [upd_ne (by omega)]; exact h4
  · rw [upd_ne (by omega)]; exact h5
  · rw [upd_ne (by omega)]; exact h6
  · rw [upd_ne (by omega)]; exact h7 k hk
  · show upd D (a + (30 + k0)) v (a + (30 + k)) = upd M.log k0 v k
    by_cases c : k = k0
    · subst c; rw [upd_at, upd_at]
    · rw [upd_ne (by omega), upd_ne c]; exact h8 k hk
  · rw [upd_ne (by omega)]; exact h9 k hk
  · rw [upd_ne (by omega)]; exact h10 k hk
theorem relMs.p54 {M : RMs} {a k0 : Nat} {D : Nat → Int32} (h : relMs M a D) (h24 : M.len ≤ 24) (hk0 : k0 < 24) (v : Int32) : relMs (M.s_fst (upd M.fst k0 v)) a (upd D (a + (54 + k0)) v) := by
  obtain ⟨h1, h2, h3, h4, h5, h6, h7, h8, h9, h10⟩ := h
  refine ⟨?_, ?_, ?_, ?_, ?_, ?_, fun k (hk : k < M.len) => ?_, fun k hk => ?_, fun k hk => ?_, fun k hk => ?_⟩
  · rw [upd_ne (by omega)]; exact h1
  · rw [upd_ne (by omega)]; exact h2
  · rw [upd_ne (by omega)]; exact h3
  · rw [upd_ne (by omega)]; exact h4
  · rw [upd_ne (by omega)]; exact h5
  · rw [upd_ne (by omega)]; exact h6
  · rw [upd_ne (by omega)]; exact h7 k hk
  · rw [upd_ne (by omega)]; exact h8 k hk
  · show upd D (a + (54 + k0)) v (a + (54 + k)) = upd M.fst k0 v k
    by_cases c : k = k0
    · subst c; rw [upd_at, upd_at]
    · rw [upd_ne (by omega), upd_ne c]; exact h9 k hk
  · rw [upd_ne (by omega)]; exact h10 k hk
theorem relMs.p78 {M : RMs} {a k0 : Nat} {D : Nat → Int32} (h : relMs M a D) (h24 : M.len ≤ 24) (hk0 : k0 < 24) (v : Int32) : relMs (M.s_tries (upd M.tries k0 v)) a (upd D (a + (78 + k0)) v) := by
  obtain ⟨h1, h2, h3, h4, h5, h6, h7, h8, h9, h10⟩ := h
  refine ⟨?_, ?_, ?_, ?_, ?_, ?_, fun k (hk : k < M.len) => ?_, fun k hk => ?_, fun k hk => ?_, fun k hk => ?_⟩
  · rw [upd_ne (by omega)]; exact h1
  · rw [upd_ne (by omega)]; exact h2
  · rw [upd_ne (by omega)]; exact h3
  · rw [upd_ne (by omega)]; exact h4
  · rw [upd_ne (by omega)]; exact h5
  · rw [upd_ne (by omega)]; exact h6
  · rw [upd_ne (by omega)]; exact h7 k hk
  · rw [upd_ne (by omega)]; exact h8 k hk
  · rw [upd_ne (by omega)]; exact h9 k hk
  · show upd D (a + (78 + k0)) v (a + (78 + k)) = upd M.tries k0 v k
    by_cases c : k = k0
    · subst c; rw [upd_at, upd_at]
    · rw [upd_ne (by omega), upd_ne c]; exact h10 k hk
theorem cnt_less {p q : Nat → Bool} {f : Nat} : ∀ {n : Nat}, f < n → p f = true → q f = false → (∀ j, j < n → j ≠ f → q j = p j) → cnt p n = cnt q n + 1
  | 0, h, _, _, _ => absurd h (by omega)
  | n + 1, h, e1, e2, e3 => by
    rw [cnt, cnt]
    by_cases c : f = n
    · subst c
      rw [e1, e2, cnt_congr (p := q) (q := p) (n := f) (fun j hj => e3 j (by omega) (by omega))]
      simp
    · have ih := cnt_less (p := p) (q := q) (n := n) (show f < n by omega) e1 e2 (fun j hj hn => e3 j (by omega) hn)
      rw [ih, e3 n (by omega) (by omega)]
      omega
theorem RMs.inv.keep {M : RMs} {z l f : Nat} (h : M.inv z l) (hf : f < M.frames) (hw : M.fst f < 2) {s : Nat} (hs : s < 2) : (M.s_fst (upd M.fst f (nI s))).inv z l := by
  obtain ⟨h1, h2, h3, h4, h5, h6, h7, h8, h9, h10⟩ := h
  refine ⟨h1, h2, h3, h4, h5, h6, h7, ?_, fun g hg => ?_, h10⟩
  · show M.unf = _
    rw [h8]
    congr 1
    refine cnt_congr (fun j hj => ?_)
    show decide (M.fst j < 2) = decide (upd M.fst f (nI s) j < 2)
    by_cases c : j = f
    · subst c
      rw [upd_at, decide_eq_true hw, decide_eq_true]
      rw [show (2 : Int32) = nI 2 by decide]
      exact nI_lt hs (by omega)
    · rw [upd_ne c]
  · obtain ⟨⟨s', q1, q2⟩, t, q3, q4, q5⟩ := h9 g hg
    by_cases c : g = f
    · subst c
      refine ⟨⟨s, by omega, upd_at _ _ _⟩, t, q3, q4, fun _ => q5 hw⟩
    · refine ⟨⟨s', q1, ?_⟩, t, q3, q4, fun e => q5 ?_⟩
      · show upd M.fst f (nI s) g = _
        rw [upd_ne c]; exact q2
      · have e2 : upd M.fst f (nI s) g < 2 := e
        rwa [upd_ne c] at e2
theorem RMs.inv.done {M : RMs} {z l f : Nat} (h : M.inv z l) (h1z : 1 ≤ z) (hf : f < M.frames) (hw : M.fst f < 2) {s : Nat} (hs : s = 2 ∨ s = 3) (T : Nat → Int32) (hT : ∀ g, g ≠ f → T g = M.tries g) (hTf : ∃ t : Nat, t ≤ l ∧ T f = nI t) : (RMs.mk M.sender M.urgency M.len M.fsize M.frames M.phase M.began M.ended (M.unf - 1) M.letters M.log (upd M.fst f (nI s)) T).inv z l := by
  have h24 := h.fr24 h1z
  obtain ⟨h1, h2, h3, h4, h5, h6, h7, h8, h9, h10⟩ := h
  have s2 : ¬ nI s < 2 := by
    rw [show (2 : Int32) = nI 2 by decide]
    exact nI_nlt (by omega) (by omega)
  refine ⟨h1, h2, h3, h4, h5, h6, h7, ?_, fun g (hg : g < M.frames) => ?_, h10⟩
  · show M.unf - 1 = nI (cnt (fun j => decide (upd M.fst f (nI s) j < 2)) M.frames)
    rw [h8, cnt_less (p := fun j => decide (M.fst j < 2)) (q := fun j => decide (upd M.fst f (nI s) j < 2)) hf (decide_eq_true hw) (by rw [upd_at]; exact decide_eq_false s2) (fun j _ hj => by show decide (upd M.fst f (nI s) j < 2) = decide (M.fst j < 2); rw [upd_ne hj]), nI_pred]
  · obtain ⟨⟨s', q1, q2⟩, t, q3, q4, q5⟩ := h9 g hg
    by_cases c : g = f
    · subst c
      obtain ⟨t', t1, t2⟩ := hTf
      refine ⟨⟨s, by omega, upd_at _ _ _⟩, t', t1, t2, fun e => ?_⟩
      have e2 : upd M.fst g (nI s) g < 2 := e
      rw [upd_at] at e2
      exact absurd e2 s2
    · refine ⟨⟨s', q1, ?_⟩, t, q3, by rw [← q4]; exact hT g c, fun e => q5 ?_⟩
      · show upd M.fst f (nI s) g = _
        rw [upd_ne c]; exact q2
      · have e2 : upd M.fst f (nI s) g < 2 := e
        rwa [upd_ne c] at e2
theorem RMs.inv.again {M : RMs} {z l f : Nat} (h : M.inv z l) (hf : f < M.frames) (hw : M.fst f < 2) {t : Nat} (ht : t < l) : (RMs.mk M.sender M.urgency M.len M.fsize M.frames M.phase M.began M.ended M.unf M.letters M.log (upd M.fst f 0) (upd M.tries f (nI t))).inv z l := by
  obtain ⟨h1, h2, h3, h4, h5, h6, h7, h8, h9, h10⟩ := h
  refine ⟨h1, h2, h3, h4, h5, h6, h7, ?_, fun g (hg : g < M.frames) => ?_, h10⟩
  · show M.unf = nI (cnt (fun j => decide (upd M.fst f 0 j < 2)) M.frames)
    rw [h8]
    congr 1
    refine cnt_congr (fun j hj => ?_)
    show decide (M.fst j < 2) = decide (upd M.fst f 0 j < 2)
    by_cases c : j = f
    · subst c
      rw [upd_at, decide_eq_true hw]
      rfl
    · rw [upd_ne c]
  · obtain ⟨⟨s', q1, q2⟩, t', q3, q4, q5⟩ := h9 g hg
    by_cases c : g = f
    · subst c
      exact ⟨⟨0, by omega, by show upd M.fst g 0 g = nI 0; rw [upd_at, nI_0]⟩, t, by omega, upd_at _ _ _, fun _ => ht⟩
    · refine ⟨⟨s', q1, ?_⟩, t', q3, ?_, fun e => q5 ?_⟩
      · show upd M.fst f 0 g = _
        rw [upd_ne c]; exact q2
      · show upd M.tries f (nI t) g = _
        rw [upd_ne c]; exact q4
      · have e2 : upd M.fst f 0 g < 2 := e
        rwa [upd_ne c] at e2
theorem rem_nI (n : Nat) (h : n < 2 ^ 31) : g_rem (nI n) 26 = nI (n % 26) := by
  unfold g_rem
  rw [show (26 : Int32) = nI 26 by decide, nI_div h (by decide) (by decide), nI_mul, nI_sub (Nat.div_mul_le_self n 26)]
  congr 1
  have := Nat.div_add_mod n 26
  omega
theorem flm_neg : ∀ n : Nat, n < 26 → flm (nI n - 26) = nI n := by decide +kernel
theorem flm_pos : ∀ n : Nat, n < 80 → flm (nI n) = nI (n % 26) := by decide +kernel
theorem flm_eq {l p q g : Nat} (hl : l < 26) (hp : p < 26) (hq : q < 26) (hg : g ≤ 1) : flm (nI l + (nI p - nI q) + nI g) = g_rem (g_rem (g_rem (nI l + nI p) 26 + nI g) 26 + 26 - nI q) 26 := by
  have e1 : g_rem (g_rem (g_rem (nI l + nI p) 26 + nI g) 26 + 26 - nI q) 26 = nI (((((l + p) % 26 + g) % 26) + 26 - q) % 26) := by
    rw [nI_add, rem_nI _ (by omega), nI_add, rem_nI _ (by omega), show (26 : Int32) = nI 26 by decide, nI_add, nI_sub (by omega), show nI 26 = (26 : Int32) by decide, rem_nI _ (by omega)]
  rw [e1]
  by_cases c : q ≤ l + p + g
  · have e : nI l + (nI p - nI q) + nI g = nI (l + p + g - q) := by
      rw [← nI_sub c, ← nI_add, ← nI_add, Int32.sub_eq_add_neg, Int32.sub_eq_add_neg]
      ac_rfl
    rw [e, flm_pos _ (by omega)]
    congr 1
    omega
  · have e : nI l + (nI p - nI q) + nI g = nI (l + p + g + 26 - q) - 26 := by
      rw [show (26 : Int32) = nI 26 by decide, ← nI_sub (show q ≤ l + p + g + 26 by omega), ← nI_add, ← nI_add, ← nI_add, Int32.sub_eq_add_neg, Int32.sub_eq_add_neg, Int32.sub_eq_add_neg]
      have : nI l + nI p + nI g + nI 26 + -nI q + -nI 26 = nI l + nI p + nI g + -nI q + (nI 26 + -nI 26) := by ac_rfl
      rw [this, Int32.add_right_neg, Int32.add_zero]
      ac_rfl
    rw [e, flm_neg _ (by omega)]
    congr 1
    omega
def RW.upd3 (R : RW) (b : Bool) (m : Nat) (C : RCh) (M : RMs) (s lo ga gv : Int32) (w : Option Nat) : RW := RW.mk R.time R.told w R.fsize R.limit s lo ga gv R.no (if b then R.c0 else C) (if b then C else R.c1) R.k0 R.k1 R.mi (updM R.ms m M)
theorem upd3_ch (R : RW) (b : Bool) (m : Nat) (C : RCh) (M : RMs) (s lo ga gv : Int32) (w : Option Nat) : (R.upd3 b m C M s lo ga gv w).ch b = C := by cases b <;> rfl
theorem upd3_co (R : RW) (b : Bool) (m : Nat) (C : RCh) (M : RMs) (s lo ga gv : Int32) (w : Option Nat) : (R.upd3 b m C M s lo ga gv w).ch (!b) = R.ch (!b) := by cases b <;> rfl
theorem upd3_ms (R : RW) (b : Bool) (m : Nat) (C : RCh) (M : RMs) (s lo ga gv : Int32) (w : Option Nat) : (R.upd3 b m C M s lo ga gv w).ms m = M := updM_at _ _ _
theorem upd3_mo (R : RW) (b : Bool) {m i : Nat} (C : RCh) (M : RMs) (s lo ga gv : Int32) (w : Option Nat) (h : i ≠ m) : (R.upd3 b m C M s lo ga gv w).ms i = R.ms i := by
  show updM R.ms m M i = R.ms i
  simp [updM, h]
def DChg (D D' : Nat → Int32) (b : Bool) (m : Nat) : Prop := ∀ j, (j < 2 ∨ 7 ≤ j) → (j < 10 + 16 * cn b ∨ 26 + 16 * cn b ≤ j) → (j < 112 + 102 * m ∨ 214 + 102 * m ≤ j) → D' j = D j
theorem cn_not (b : Bool) : cn b + cn (!b) = 1 := by cases b <;> rfl
theorem relWk.other {C : RCh} {M M' : RMs} {a : Nat} {D D' : Nat → Int32} (h : relWk C M a D) (h8 : ∀ f, M.many f ≤ 8) (e : ∀ j, a ≤ j → j < a + 16 → D' j = D j) (hf : M'.frames = M.frames) (hm : ∀ f, M'.many f = M.many f) (hs : ∀ f, f < M.frames → C.frame = nI f → M.fst f = 1 → M'.fst f = 1) : relWk C M' a D' := by
  rcases h.congr h8 e with q | ⟨f, s, b, h1, h2, h3, h4, h5, h6, h7, q8, h9, h10, h11, h12, h13⟩
  · exact Or.inl q
  · exact Or.inr ⟨f, s, b, h1, h2, h3, by rw [hf]; exact h4, by rw [hm]; exact h5, h6, hs f h4 h1 h7, by rw [hm]; exact q8, h9, h10, h11, by rw [hm]; exact h12, h13⟩
theorem ch_both {P : RCh → Prop} {R : RW} (b : Bool) (h1 : P (R.ch b)) (h2 : P (R.ch (!b))) : P R.c0 ∧ P R.c1 := by
  cases b
  · exact ⟨h1, h2⟩
  · exact ⟨h2, h1⟩
theorem all_b {P : Bool → Prop} (b : Bool) (h1 : P b) (h2 : P (!b)) : ∀ c, P c := by
  intro c
  cases b <;> cases c <;> assumption
theorem Rel_upd3 {R : RW} {D D' : Nat → Int32} {b : Bool} {m : Nat} {C : RCh} {M : RMs} {s lo ga gv : Int32} {w : Option Nat} (h : Rel R D) (hm : m < R.told) (d : DChg D D' b m) (n3 : D' 3 = s) (n4 : D' 4 = lo) (n5 : D' 5 = ga) (n6 : D' 6 = gv) (n2 : D' 2 = oI w)
    (hc : relCh C (10 + 16 * cn b) D') (hs : relMs M (112 + 102 * m) D') (hi : ∀ l, l ≤ 9 → R.limit = nI l → (R.ms m).inv R.fsize l → M.inv R.fsize l) (hw : ∀ k, w = some k → k < R.told) (hp : ∀ i, i < R.told → ((if i = m then M else R.ms i).phase = 1 ↔ w = some i)) (hr : relWay (R.upd3 b m C M s lo ga gv w) D') : Rel (R.upd3 b m C M s lo ga gv w) D' := by
  obtain ⟨i1, i2, i3, ⟨l, l1, l2, l3, l4⟩, i5, i6⟩ := h.inv
  have hb := cn_lt b
  have hm8 : m < 8 := by omega
  obtain ⟨n0, n1, -, -, -, -, -, n8, n9⟩ := h.n
  have bb := cn_not b
  refine ⟨⟨i1, i2, i3, ⟨l, l1, l2, l3, fun i hi2 => ?_⟩, hw, fun i hi2 => ?_⟩, ⟨?_, ?_, ?_, n3, n4, n5, n6, ?_, ?_⟩, all_b b ?_ ?_, ?_, ?_, ?_, fun i hi2 => ?_, hr⟩
  · by_cases c : i = m
    · subst c
      rw [upd3_ms]
      exact hi l l2 l3 (l4 i hi2)
    · rw [upd3_mo _ _ _ _ _ _ _ _ _ c]
      exact l4 i hi2
  · have := hp i hi2
    by_cases c : i = m
    · subst c
      rw [upd3_ms]
      rwa [if_pos rfl] at this
    · rw [upd3_mo _ _ _ _ _ _ _ _ _ c]
      rwa [if_neg c] at this
  · rw [d 0 (by omega) (by omega) (by omega)]; exact n0
  · rw [d 1 (by omega) (by omega) (by omega)]; exact n1
  · exact n2
  · rw [d 8 (by omega) (by omega) (by omega)]; exact n8
  · rw [d 9 (by omega) (by omega) (by omega)]; exact n9
  · rw [upd3_ch]; exact hc
  · rw [upd3_co]
    exact (h.ch (!b)).congr (fun j j1 j2 => d j (by omega) (by omega) (by omega))
  · exact h.k0.congr (fun j j1 j2 => d j (by omega) (by omega) (by omega))
  · exact h.k1.congr (fun j j1 j2 => d j (by omega) (by omega) (by omega))
  · exact h.mi.congr (d 7 (by omega) (by omega) (by omega)) (fun j j1 j2 => d j (by omega) (by omega) (by omega))
  · by_cases c : i = m
    · subst c
      rw [upd3_ms]; exact hs
    · rw [upd3_mo _ _ _ _ _ _ _ _ _ c]
      exact (h.ms i hi2).congr (l4 i hi2).2.2.1 (fun j j1 j2 => d j (by omega) (by omega) (by omega))
theorem Rel_on {R : RW} {D D' : Nat → Int32} {b : Bool} {m : Nat} {C : RCh} {M : RMs} {s lo ga gv : Int32} (h : Rel R D) (e : R.way = some m) (d : DChg D D' b m) (n2 : D' 2 = D 2) (n3 : D' 3 = s) (n4 : D' 4 = lo) (n5 : D' 5 = ga) (n6 : D' 6 = gv)
    (hc : relCh C (10 + 16 * cn b) D') (hs : relMs M (112 + 102 * m) D') (hi : ∀ l, l ≤ 9 → R.limit = nI l → (R.ms m).inv R.fsize l → M.inv R.fsize l) (hp : M.phase = (R.ms m).phase) (hk : relWk C M (10 + 16 * cn b) D')
    (hf : M.frames = (R.ms m).frames) (hmy : ∀ f, M.many f = (R.ms m).many f) (hst : ∀ f, f < (R.ms m).frames → (R.ch (!b)).frame = nI f → (R.ms m).fst f = 1 → M.fst f = 1) (hne : C.frame = (R.ch (!b)).frame → C.frame = -1) : Rel (R.upd3 b m C M s lo ga gv (some m)) D' := by
  obtain ⟨i1, i2, i3, ⟨l, l1, l2, l3, l4⟩, i5, i6⟩ := h.inv
  have hm := i5 m e
  have hb := cn_lt b
  have bb := cn_not b
  refine Rel_upd3 h hm d n3 n4 n5 n6 (by rw [n2, ← e]; exact h.n.2.2.1) hc hs hi (fun k ek => by cases ek; exact hm) (fun i hi2 => ?_) ⟨(fun z => nomatch z), fun k ek => ?_⟩
  · by_cases c : i = m
    · subst c
      rw [if_pos rfl, hp]
      exact ⟨fun _ => rfl, fun _ => (i6 i hi2).mpr e⟩
    · rw [if_neg c]
      rw [i6 i hi2, e]
  · have : k = m := by cases ek; rfl
    subst this
    obtain ⟨w1, w2⟩ := h.way.2 k e
    have q1 : relWk (R.ch (!b)) M (10 + 16 * cn (!b)) D' := (w1 (!b)).other (fun f => (l4 k hm).many_le i3 f) (fun j j1 j2 => d j (by omega) (by omega) (by omega)) hf hmy hst
    refine ⟨all_b b (by rw [upd3_ch, upd3_ms]; exact hk) (by rw [upd3_co, upd3_ms]; exact q1), ?_⟩
    cases b
    · exact hne
    · intro z
      have z2 : (R.ch (!true)).frame = C.frame := z
      have := hne z2.symm
      show (R.ch (!true)).frame = -1
      rw [z2, this]
section REL5
variable {D : Nat → Int32}
def aird (D : Nat → Int32) (lo ga : Bool) : Nat → Int32 := upd (upd (upd D 3 (D 3 + 1)) 5 (D 5 + bI ga)) 4 (D 4 + bI lo)
def howI (lo ga : Bool) : Int32 := if lo then 2 else bI ga
theorem aird_ne {lo ga : Bool} {j : Nat} (h : j < 3 ∨ 5 < j) : aird D lo ga j = D j := by
  unfold aird
  rw [upd_ne (by omega), upd_ne (by omega), upd_ne (by omega)]
theorem aird_3 (lo ga : Bool) : aird D lo ga 3 = D 3 + 1 := by
  unfold aird
  rw [upd_ne (by decide), upd_ne (by decide), upd_at]
theorem aird_4 (lo ga : Bool) : aird D lo ga 4 = D 4 + bI lo := upd_at _ _ _
theorem aird_5 (lo ga : Bool) : aird D lo ga 5 = D 5 + bI ga := by
  unfold aird
  rw [upd_ne (by decide), upd_at]
def symd (D : Nat → Int32) (c : Nat) (lo ga : Bool) : Nat → Int32 := if lo then upd (aird D lo ga) (10 + 16 * c + 5) 1 else aird D lo ga
theorem symd_ne {lo ga : Bool} {c j : Nat} (h : j < 3 ∨ 5 < j) (h2 : j ≠ 10 + 16 * c + 5) : symd D c lo ga j = D j := by
  unfold symd
  cases lo
  · exact aird_ne h
  · simp only [if_true]
    rw [upd_ne h2]; exact aird_ne h
theorem symd_3 (c : Nat) (lo ga : Bool) : symd D c lo ga 3 = D 3 + 1 := by
  unfold symd
  cases lo
  · exact aird_3 _ _
  · simp only [if_true]
    rw [upd_ne (by omega)]; exact aird_3 _ _
theorem symd_4 (c : Nat) (lo ga : Bool) : symd D c lo ga 4 = D 4 + bI lo := by
  unfold symd
  cases lo
  · exact aird_4 _ _
  · simp only [if_true]
    rw [upd_ne (by omega)]; exact aird_4 _ _
theorem symd_5 (c : Nat) (lo ga : Bool) : symd D c lo ga 5 = D 5 + bI ga := by
  unfold symd
  cases lo
  · exact aird_5 _ _
  · simp only [if_true]
    rw [upd_ne (by omega)]; exact aird_5 _ _
theorem symd_l (c : Nat) (lo ga : Bool) : symd D c lo ga (10 + 16 * c + 5) = if lo then 1 else D (10 + 16 * c + 5) := by
  unfold symd
  cases lo
  · exact aird_ne (by omega)
  · simp only [if_true]
    exact upd_at _ _ _
end REL5
theorem bI_ite (b : Bool) (v : Int32) : v + bI b = if b then v + 1 else v := by
  cases b
  · simp only [bI_f, Int32.add_zero, Bool.false_eq_true, if_false]
  · simp only [bI_t, if_true]
theorem mk_ans (R : RW) (b : Bool) (m : Nat) (lo ga : Bool) {f : Nat} (ef : (R.ch b).frame = nI f) (f31 : f < 2 ^ 31) (c : nI ((R.ms m).many f) + 1 < (R.ch b).step) : (R.counted lo ga).madeStep b m lo ga = R.upd3 b m ((R.ch b).take (-1)) ((R.ms m).endTry f (!lo && ((R.ch b).good != ga)) R.limit).2 (R.sent + 1) (if lo then R.lost + 1 else R.lost) (if ga then R.garbled + 1 else R.garbled) (if ((R.ms m).endTry f (!lo && ((R.ch b).good != ga)) R.limit).1 then R.given + 1 else R.given) R.way := by
  have e : (R.ch b).frame.toNatClampNeg = f := by rw [ef]; exact nI_clamp f31
  subst e
  cases b
  · refine Eq.trans (if_pos c) ?_
    by_cases hy : ((R.ms m).endTry (R.ch false).frame.toNatClampNeg (!lo && ((R.ch false).good != ga)) R.limit).1 = true
    · rw [if_pos hy]
      refine Eq.trans (if_pos hy) ?_
      rfl
    · rw [if_neg hy]
      refine Eq.trans (if_neg hy) ?_
      rfl
  · refine Eq.trans (if_pos c) ?_
    by_cases hy : ((R.ms m).endTry (R.ch true).frame.toNatClampNeg (!lo && ((R.ch true).good != ga)) R.limit).1 = true
    · rw [if_pos hy]
      refine Eq.trans (if_pos hy) ?_
      rfl
    · rw [if_neg hy]
      refine Eq.trans (if_neg hy) ?_
      rfl
def RCh.lst (C : RCh) (lo : Bool) : RCh := if lo then C.s_lost true else C
theorem updM_id (R : RW) (b : Bool) (m : Nat) (C : RCh) (s lo ga : Int32) : R.upd3 b m C (R.ms m) s lo ga R.given R.way = RW.mk R.time R.told R.way R.fsize R.limit s lo ga R.given R.no (if b then R.c0 else C) (if b then C else R.c1) R.k0 R.k1 R.mi R.ms := by
  unfold RW.upd3
  rw [updM_self]
theorem mk_0 (R : RW) (b : Bool) (m : Nat) (lo ga : Bool) {f : Nat} (ef : (R.ch b).frame = nI f) (f31 : f < 2 ^ 31) (c : ¬ nI ((R.ms m).many f) + 1 < (R.ch b).step) (c0 : (R.ch b).step = 0) : (R.counted lo ga).madeStep b m lo ga = R.upd3 b m ((((R.ch b).lst lo).s_number (g_rem (nI f + bI ga) 26)).s_step (((R.ch b).lst lo).step + 1)) (R.ms m) (R.sent + 1) (if lo then R.lost + 1 else R.lost) (if ga then R.garbled + 1 else R.garbled) R.given R.way := by
  have e : (R.ch b).frame.toNatClampNeg = f := by rw [ef]; exact nI_clamp f31
  subst e
  rw [updM_id]
  cases b
  · refine Eq.trans (if_neg c) ?_
    refine Eq.trans (if_pos c0) ?_
    cases lo <;> rfl
  · refine Eq.trans (if_neg c) ?_
    refine Eq.trans (if_pos c0) ?_
    cases lo <;> rfl
theorem mk_1 (R : RW) (b : Bool) (m : Nat) (lo ga : Bool) {f : Nat} (ef : (R.ch b).frame = nI f) (f31 : f < 2 ^ 31) (c : ¬ nI ((R.ms m).many f) + 1 < (R.ch b).step) (c0 : ¬ (R.ch b).step = 0) (c1 : (R.ch b).step ≤ nI ((R.ms m).many f)) : (R.counted lo ga).madeStep b m lo ga = R.upd3 b m ((((R.ch b).lst lo).hear (flm ((R.ms m).letters (f * (R.ms m).fsize + (R.ch b).step.toNatClampNeg - 1) + ((R.kp (R.ms m).sender).keyAt (nI R.time) - (R.kp (1 - (R.ms m).sender)).keyAt (nI R.time)) + bI ga))).s_step (((R.ch b).lst lo).step + 1)) (R.ms m) (R.sent + 1) (if lo then R.lost + 1 else R.lost) (if ga then R.garbled + 1 else R.garbled) R.given R.way := by
  have e : (R.ch b).frame.toNatClampNeg = f := by rw [ef]; exact nI_clamp f31
  subst e
  rw [updM_id]
  cases b
  · refine Eq.trans (if_neg c) ?_
    refine Eq.trans (if_neg c0) ?_
    refine Eq.trans (if_pos c1) ?_
    cases lo <;> rfl
  · refine Eq.trans (if_neg c) ?_
    refine Eq.trans (if_neg c0) ?_
    refine Eq.trans (if_pos c1) ?_
    cases lo <;> rfl
theorem mk_2 (R : RW) (b : Bool) (m : Nat) (lo ga : Bool) {f : Nat} (ef : (R.ch b).frame = nI f) (f31 : f < 2 ^ 31) (c : ¬ nI ((R.ms m).many f) + 1 < (R.ch b).step) (c0 : ¬ (R.ch b).step = 0) (c1 : ¬ (R.ch b).step ≤ nI ((R.ms m).many f)) : (R.counted lo ga).madeStep b m lo ga = R.upd3 b m ((((R.ch b).lst lo).judge ((R.ms m).many f) (g_rem ((R.ms m).check f + bI ga) 26)).s_step (((R.ch b).lst lo).step + 1)) (if (((R.ch b).lst lo).judge ((R.ms m).many f) (g_rem ((R.ms m).check f + bI ga) 26)).good then (R.ms m).written ((R.ch b).lst lo).number.toNatClampNeg ((R.ch b).lst lo).heard ((R.ms m).many f) else R.ms m) (R.sent + 1) (if lo then R.lost + 1 else R.lost) (if ga then R.garbled + 1 else R.garbled) R.given R.way := by
  have e : (R.ch b).frame.toNatClampNeg = f := by rw [ef]; exact nI_clamp f31
  subst e
  cases b
  · refine Eq.trans (if_neg c) ?_
    refine Eq.trans (if_neg c0) ?_
    refine Eq.trans (if_neg c1) ?_
    cases lo <;> rfl
  · refine Eq.trans (if_neg c) ?_
    refine Eq.trans (if_neg c0) ?_
    refine Eq.trans (if_neg c1) ?_
    cases lo <;> rfl
section REL6
theorem up_id {β : Type} {g : Nat → β → β} : ∀ (d i : Nat) (v : β), (∀ j, i ≤ j → ∀ y, g j y = y) → up g d i v = v
  | 0, _, _, _ => rfl
  | d + 1, i, v, h => by
    rw [up, h i (Nat.le_refl _)]
    exact up_id d (i + 1) v (fun j hj => h j (by omega))
theorem relMs.logs {M : RMs} {a : Nat} {D D' : Nat → Int32} {L : Nat → Int32} (h : relMs M a D) (h24 : M.len ≤ 24) (e1 : ∀ j, j < 24 → D' (a + (30 + j)) = L j) (e2 : ∀ j, a ≤ j → j < a + 102 → (j < a + 30 ∨ a + 54 ≤ j) → D' j = D j) : relMs (M.s_log L) a D' := by
  obtain ⟨h1, h2, h3, h4, h5, h6, h7, h8, h9, h10⟩ := h
  refine ⟨?_, ?_, ?_, ?_, ?_, ?_, fun k (hk : k < M.len) => ?_, e1, fun k hk => ?_, fun k hk => ?_⟩ <;> rw [e2 _ (by omega) (by omega) (by omega)]
  · exact h1
  · exact h2
  · exact h3
  · exact h4
  · exact h5
  · exact h6
  · exact h7 k hk
  · exact h9 k hk
  · exact h10 k hk
end REL6
theorem lst_f (C : RCh) (lo : Bool) : (C.lst lo).power = C.power ∧ (C.lst lo).opening = C.opening ∧ (C.lst lo).closing = C.closing ∧ (C.lst lo).frame = C.frame ∧ (C.lst lo).step = C.step ∧ (C.lst lo).number = C.number ∧ (C.lst lo).n = C.n ∧ (C.lst lo).heard = C.heard ∧ (C.lst lo).lost = (lo || C.lost) := by cases lo <;> exact ⟨rfl, rfl, rfl, rfl, rfl, rfl, rfl, rfl, rfl⟩
theorem relN.time {R : RW} {D : Nat → Int32} (h : relN R D) : D 0 = nI R.time := h.1
theorem endTry_inv {M : RMs} {z l f : Nat} (hM : M.inv z l) (h1 : 1 ≤ z) (hf : f < M.frames) (hw : M.fst f = 1) (hl : l ≤ 9) (yes : Bool) {limit : Int32} (el : limit = nI l) : (M.endTry f yes limit).2.inv z l := by
  have w2 : M.fst f < 2 := by rw [hw]; decide
  obtain ⟨-, t, t1, t2, t3⟩ := hM.2.2.2.2.2.2.2.2.1 f hf
  have tl := t3 w2
  unfold RMs.endTry
  cases yes with
  | true => exact hM.done h1 hf w2 (Or.inl rfl) M.tries (fun _ _ => rfl) ⟨t, t1, t2⟩
  | false =>
    rw [t2, el, show nI t + 1 = nI (t + 1) from (nI_succ t).symm]
    simp only [Bool.false_eq_true, if_false, nI_ltI (show t + 1 < 2 ^ 31 by omega) (show l < 2 ^ 31 by omega)]
    by_cases c : t + 1 < l
    · rw [if_pos c]
      exact hM.again hf w2 c
    · rw [if_neg c]
      exact hM.done h1 hf w2 (Or.inr rfl) (upd M.tries f (nI (t + 1))) (fun g hg => upd_ne hg) ⟨t + 1, by omega, upd_at _ _ _⟩
theorem endTry_same (M : RMs) (f : Nat) (yes : Bool) (limit : Int32) : (M.endTry f yes limit).2.phase = M.phase ∧ (∀ g, g ≠ f → (M.endTry f yes limit).2.fst g = M.fst g) := by
  unfold RMs.endTry
  split
  · exact ⟨rfl, fun g hg => upd_ne hg⟩
  · split
    · exact ⟨rfl, fun g hg => upd_ne hg⟩
    · exact ⟨rfl, fun g hg => upd_ne hg⟩
theorem written_same (M : RMs) (b : Nat) (g : Nat → Int32) (k : Nat) : (M.written b g k).phase = M.phase ∧ (M.written b g k).fst = M.fst := by
  unfold RMs.written
  split <;> exact ⟨rfl, rfl⟩
theorem written_inv {M : RMs} {z l : Nat} (h : M.inv z l) (b : Nat) (g : Nat → Int32) (k : Nat) : (M.written b g k).inv z l := by
  unfold RMs.written
  split
  · exact h
  · exact h
theorem sh_frames {M M' : RMs} (e : M'.sh = M.sh) : M'.frames = M.frames := congrArg (fun p : Nat × Nat × Nat => p.1) e
theorem lim_one {l l' : Nat} {v : Int32} (h1 : l ≤ 9) (h2 : l' ≤ 9) (e1 : v = nI l) (e2 : v = nI l') : l' = l := (nI_eq (by omega) (by omega)).mp (e2.symm.trans e1)
section REL7
variable {D : Nat → Int32}
end REL7
def RW.took (R : RW) (b : Bool) (m : Nat) : RW := if (R.ch b).frame = -1 then (R.setMs m (R.ms m).takeOpen.2).setCh b ((R.ch b).take (R.ms m).takeOpen.1) else R
def RW.work (R : RW) (b : Bool) (m : Nat) (level : Int32) : RW := if ((R.took b m).ch b).frame = -1 then R.took b m else ((R.took b m).counted (decide (((R.took b m).ch b).power < level)) (decide (level = ((R.took b m).ch b).power))).madeStep b m (decide (((R.took b m).ch b).power < level)) (decide (level = ((R.took b m).ch b).power))
def RW.fin (R : RW) (m : Nat) : RW := if (R.ms m).unf = 0 then RW.mk R.time R.told none R.fsize R.limit R.sent R.lost R.garbled R.given R.no R.c0 R.c1 R.k0 R.k1 R.mi (updM R.ms m (((R.ms m).s_phase 2).s_ended (nI R.time))) else R
theorem takeOpen_unf (M : RMs) : M.takeOpen.2.unf = M.unf := by
  unfold RMs.takeOpen
  cases M.openFrame <;> rfl
theorem setChMs (R : RW) (b : Bool) (m : Nat) (C : RCh) (M : RMs) : (R.setMs m M).setCh b C = R.upd3 b m C M R.sent R.lost R.garbled R.given R.way := by cases b <;> rfl
theorem serve_work {R : RW} {b : Bool} {level : Int32} {m : Nat} (e : R.way = some m) (hl : (R.ms m).unf ≠ 0) : R.serve b level = if (R.ch b).isOpen (nI R.time) then (R.work b m level).fin m else R := by
  unfold RW.serve RW.work
  rw [e]
  dsimp only
  by_cases c : (R.ch b).isOpen (nI R.time) = true
  · rw [if_pos c, if_pos c]
    by_cases c2 : (R.ch b).frame = -1
    · have et : R.took b m = (R.setMs m (R.ms m).takeOpen.2).setCh b ((R.ch b).take (R.ms m).takeOpen.1) := if_pos c2
      rw [if_pos c2, ← et]
      unfold RW.served
      by_cases c3 : ((R.took b m).ch b).frame = -1
      · rw [if_pos c3, if_pos c3]
        have : ¬ ((R.took b m).ms m).unf = 0 := by
          rw [et, setChMs, upd3_ms, takeOpen_unf]; exact hl
        unfold RW.fin
        rw [if_neg this]
      · rw [if_neg c3, if_neg c3]
        rfl
    · have et : R.took b m = R := if_neg c2
      rw [if_neg c2, et]
      unfold RW.served
      rw [if_neg c2, if_neg c2]
      rfl
  · rw [if_neg c, if_neg c]
section REL8
variable {D : Nat → Int32}
theorem took_d {R : RW} (h : Rel R D) {i : Nat} (e : R.way = some i) (b : Bool) (hi9 : (R.ch b).frame = -1) : match (R.ms i).openFrame with
    | none => Rel (R.took b i) D ∧ ((R.took b i).ch b).frame = -1
    | some f => f < 24 ∧ Rel (R.took b i) (upd (upd (upd D (10 + 16 * cn b + 3) (nI f)) (10 + 16 * cn b + 4) 0) (112 + 102 * i + (54 + f)) 1) ∧ ((R.took b i).ch b).frame = nI f := by
  obtain ⟨v1, v2, v3, ⟨l, l1, l2, l3, l4⟩, v5, v6⟩ := h.inv
  have hit := v5 i e
  have hi : i < 8 := by omega
  have hc := cn_lt b
  have hM := l4 i hit
  have hS := h.ms i hit
  have h24 := hM.2.2.1
  have f24 := hM.fr24 v2
  have hC := h.ch b
  obtain ⟨w1, w2⟩ := h.way.2 i e
  obtain ⟨n0, n1, n2, n3, n4, n5, n6, n8, n9⟩ := h.n
  have et : R.took b i = R.upd3 b i ((R.ch b).take (R.ms i).takeOpen.1) (R.ms i).takeOpen.2 R.sent R.lost R.garbled R.given (some i) := by
    rw [← e, ← setChMs]; exact if_pos hi9
  rw [et]
  unfold RMs.takeOpen
  cases ef : (R.ms i).openFrame with
  | none =>
    dsimp only
    refine ⟨Rel_on h e (fun j _ _ _ => rfl) rfl n3 n4 n5 n6 ⟨hC.1, hC.2.1, hC.2.2.1, hC.2.2.2.1.trans hi9, fun _ => hC.2.2.2.2 hi9⟩ hS (fun _ _ _ q => q) rfl (Or.inl rfl) rfl (fun _ => rfl) (fun _ _ _ q => q) (fun _ => rfl), by rw [upd3_ch]; rfl⟩
  | some f =>
    dsimp only
    obtain ⟨-, f2, f3, -⟩ := fnd_some (show fnd (fun f => (R.ms i).fst f = 0) (R.ms i).frames 0 = some f from ef)
    have ff : f < (R.ms i).frames := by omega
    refine ⟨by omega, ?_, by rw [upd3_ch]; rfl⟩
    refine Rel_on h e (fun j j1 j2 j3 => by rw [upd_ne (by omega), upd_ne (by omega), upd_ne (by omega)]) (by rw [upd_ne (by omega), upd_ne (by omega), upd_ne (by omega)]) ?_ ?_ ?_ ?_ ?_ ?_ (fun l' a1 a2 a3 => ?_) rfl ?_ rfl (fun _ => rfl) (fun g g1 g2 g3 => ?_) ?_
    · rw [upd_ne (by omega), upd_ne (by omega), upd_ne (by omega)]; exact n3
    · rw [upd_ne (by omega), upd_ne (by omega), upd_ne (by omega)]; exact n4
    · rw [upd_ne (by omega), upd_ne (by omega), upd_ne (by omega)]; exact n5
    · rw [upd_ne (by omega), upd_ne (by omega), upd_ne (by omega)]; exact n6
    · refine ⟨?_, ?_, ?_, ?_, fun z => absurd z (nI_neN (by omega))⟩
      · rw [upd_ne (by omega), upd_ne (by omega), upd_ne (by omega)]; exact hC.1
      · rw [upd_ne (by omega), upd_ne (by omega), upd_ne (by omega)]; exact hC.2.1
      · rw [upd_ne (by omega), upd_ne (by omega), upd_ne (by omega)]; exact hC.2.2.1
      · rw [upd_ne (by omega), upd_ne (by omega), upd_at]; rfl
    · have : relMs (R.ms i) (112 + 102 * i) (upd (upd D (10 + 16 * cn b + 3) (nI f)) (10 + 16 * cn b + 4) 0) := hS.congr h24 (fun j j1 j2 => by rw [upd_ne (by omega), upd_ne (by omega)])
      exact this.p54 h24 (by omega) 1
    · exact a3.keep ff (by rw [f3]; decide) (s := 1) (by omega)
    · refine Or.inr ⟨f, 0, 0, rfl, nI_0.symm, nI_0.symm, ff, by omega, by omega, upd_at _ _ _, by show 0 = _; omega, ?_, fun z => absurd z (by omega), fun z => absurd z (by omega), fun z => absurd z (by omega), fun _ => rfl⟩
      rw [upd_ne (by omega), upd_at, nI_0]
    · show upd (R.ms i).fst f 1 g = 1
      by_cases c : g = f
      · subst c; exact upd_at _ _ _
      · rw [upd_ne c]; exact g3
    · intro z
      have z2 : (R.ch (!b)).frame = nI f := by
        have : ((R.ch b).take (nI f)).frame = nI f := rfl
        rw [← this]; exact z.symm
      rcases w1 (!b) with q | ⟨g, _, _, g1, _, _, g4, _, _, g7, _⟩
      · rw [z2] at q; exact absurd q (nI_neN (by omega))
      · have : g = f := (nI_eq (by omega) (by omega)).mp (g1.symm.trans z2)
        subst this
        rw [f3] at g7
        exact absurd g7 (by decide)
theorem took_same (R : RW) (b : Bool) (m : Nat) : (R.took b m).way = R.way ∧ (R.took b m).mi = R.mi ∧ (R.took b m).time = R.time := by
  unfold RW.took
  split
  · rw [setChMs]; exact ⟨rfl, rfl, rfl⟩
  · exact ⟨rfl, rfl, rfl⟩
theorem work_same (R : RW) (b : Bool) (m : Nat) (level : Int32) : (R.work b m level).way = R.way ∧ (R.work b m level).mi = R.mi ∧ (R.work b m level).time = R.time := by
  have t := took_same R b m
  unfold RW.work
  split
  · exact t
  · have q := madeStep_near ((R.took b m).counted (decide (((R.took b m).ch b).power < level)) (decide (level = ((R.took b m).ch b).power))) b m (decide (((R.took b m).ch b).power < level)) (decide (level = ((R.took b m).ch b).power))
    exact ⟨q.2.trans t.1, q.1.mi.trans t.2.1, q.1.time.trans t.2.2⟩
theorem fin_same (R : RW) (m : Nat) : (R.fin m).mi = R.mi ∧ (R.fin m).time = R.time := by
  unfold RW.fin
  split <;> exact ⟨rfl, rfl⟩
def RW.live (R : RW) : Prop := ∀ i, i < R.told → ((R.ms i).phase = 0 ∨ (R.ms i).phase = 1) → (R.ms i).unf ≠ 0
theorem RW.live.on {R : RW} (h : R.live) (hi : R.inv) {m : Nat} (e : R.way = some m) : (R.ms m).unf ≠ 0 := h m (hi.2.2.2.2.1 m e) (Or.inr ((hi.2.2.2.2.2 m (hi.2.2.2.2.1 m e)).mpr e))
theorem updM_ne {f : Nat → RMs} {m i : Nat} {M : RMs} (h : i ≠ m) : updM f m M i = f i := by simp [updM, h]
theorem madeStep_mo (R : RW) (b : Bool) (m : Nat) (lo ga : Bool) {i : Nat} (h : i ≠ m) : (R.madeStep b m lo ga).ms i = R.ms i := by
  unfold RW.madeStep RW.setMs RW.setCh
  dsimp only
  split
  · split
    · cases b <;> exact updM_ne h
    · cases b <;> exact updM_ne h
  · split
    · cases b <;> rfl
    · split
      · cases b <;> rfl
      · cases b <;> exact updM_ne h
theorem took_mo (R : RW) (b : Bool) (m : Nat) {i : Nat} (h : i ≠ m) : (R.took b m).ms i = R.ms i ∧ (R.took b m).told = R.told := by
  unfold RW.took
  split
  · rw [setChMs]; exact ⟨updM_ne h, rfl⟩
  · exact ⟨rfl, rfl⟩
theorem work_mo (R : RW) (b : Bool) (m : Nat) (level : Int32) {i : Nat} (h : i ≠ m) : (R.work b m level).ms i = R.ms i := by
  unfold RW.work
  split
  · exact (took_mo R b m h).1
  · exact (madeStep_mo _ b m _ _ h).trans (took_mo R b m h).1
theorem work_told (R : RW) (b : Bool) (m : Nat) (level : Int32) : (R.work b m level).told = R.told := by
  have t := (took_mo R b m (show m + 1 ≠ m by omega)).2
  unfold RW.work
  split
  · exact t
  · exact (madeStep_near _ b m _ _).1.told.trans t
theorem fin_d {R : RW} (h : Rel R D) {i : Nat} (e : R.way = some i) (c : (R.ms i).unf = 0) : Rel (R.fin i) (upd (upd (upd D (112 + 102 * i + 3) 2) (112 + 102 * i + 5) (D 0)) 2 (-1)) := by
  obtain ⟨v1, v2, v3, ⟨l, l1, l2, l3, l4⟩, v5, v6⟩ := h.inv
  have hit := v5 i e
  have hi : i < 8 := by omega
  have hM := l4 i hit
  have hS := h.ms i hit
  have h24 := hM.2.2.1
  obtain ⟨n0, n1, n2, n3, n4, n5, n6, n8, n9⟩ := h.n
  obtain ⟨w1, w2⟩ := h.way.2 i e
  have idle : ∀ b, (R.ch b).frame = -1 := by
    intro b
    rcases w1 b with q | ⟨f, _, _, _, _, _, g4, _, _, g7, _⟩
    · exact q
    · have := (unf_0 hM v2).mp c f g4
      rw [g7] at this
      exact absurd (by decide) this
  have et : R.fin i = R.upd3 false i R.c0 (((R.ms i).s_phase 2).s_ended (nI R.time)) R.sent R.lost R.garbled R.given none := if_pos c
  rw [et]
  have rc : ∀ b, relCh (R.ch b) (10 + 16 * cn b) (upd (upd (upd D (112 + 102 * i + 3) 2) (112 + 102 * i + 5) (D 0)) 2 (-1)) := fun b => (h.ch b).congr (fun j j1 j2 => by have := cn_lt b; rw [upd_ne (by omega), upd_ne (by omega), upd_ne (by omega)])
  refine Rel_upd3 h hit (fun j j1 j2 j3 => by rw [upd_ne (by omega), upd_ne (by omega), upd_ne (by omega)]) ?_ ?_ ?_ ?_ (upd_at _ _ _) (rc false) ?_ (fun l' a1 a2 a3 => ?_) (fun k ek => nomatch ek) (fun j hj => ?_) ⟨fun _ => ⟨idle false, idle true⟩, fun k ek => nomatch ek⟩
  · rw [upd_ne (by omega), upd_ne (by omega), upd_ne (by omega)]; exact n3
  · rw [upd_ne (by omega), upd_ne (by omega), upd_ne (by omega)]; exact n4
  · rw [upd_ne (by omega), upd_ne (by omega), upd_ne (by omega)]; exact n5
  · rw [upd_ne (by omega), upd_ne (by omega), upd_ne (by omega)]; exact n6
  · rw [n0]
    exact ((hS.p3 h24 2).p5 (nI R.time)).congr h24 (fun j j1 j2 => upd_ne (by omega))
  · obtain ⟨b1, b2, b3, b4, b5, b6, b7, b8, b9, b10⟩ := a3
    exact ⟨b1, b2, b3, b4, b5, b6, ⟨2, by omega, rfl⟩, b8, b9, b10⟩
  · by_cases cj : j = i
    · rw [if_pos cj]
      exact ⟨fun z => absurd (show (2 : Int32) = 1 from z) (by decide), fun z => nomatch z⟩
    · rw [if_neg cj, v6 j hj, e]
      exact ⟨fun z => absurd (Option.some.inj z).symm cj, fun z => nomatch z⟩
theorem Rel.timed {R : RW} (h : Rel R D) : Rel (R.s_time (R.time + 1)) (upd D 0 (nI R.time + 1)) := by
  obtain ⟨v1, v2, v3, ⟨l, l1, l2, l3, l4⟩, v5, v6⟩ := h.inv
  obtain ⟨n0, n1, n2, n3, n4, n5, n6, n8, n9⟩ := h.n
  refine ⟨h.inv, ⟨?_, ?_, ?_, ?_, ?_, ?_, ?_, ?_, ?_⟩, fun b => (h.ch b).congr (fun j j1 j2 => upd_ne (by omega)), h.k0.congr (fun j j1 j2 => upd_ne (by omega)), h.k1.congr (fun j j1 j2 => upd_ne (by omega)), h.mi.congr (upd_ne (by omega)) (fun j j1 j2 => upd_ne (by omega)), fun i hi => (h.ms i hi).congr (l4 i hi).2.2.1 (fun j j1 j2 => upd_ne (by omega)), h.way.1, fun k ek => ⟨fun b => ((h.way.2 k ek).1 b).congr (fun f => (l4 k (v5 k ek)).many_le v3 f) (fun j j1 j2 => upd_ne (by omega)), (h.way.2 k ek).2⟩⟩
  · rw [upd_at, ← nI_succ]; rfl
  · rw [upd_ne (by omega)]; exact n1
  · rw [upd_ne (by omega)]; exact n2
  · rw [upd_ne (by omega)]; exact n3
  · rw [upd_ne (by omega)]; exact n4
  · rw [upd_ne (by omega)]; exact n5
  · rw [upd_ne (by omega)]; exact n6
  · rw [upd_ne (by omega)]; exact n8
  · rw [upd_ne (by omega)]; exact n9
theorem start_d {R : RW} (h : Rel R D) (e : R.way = none) (hl : R.live) : match R.servedAs 0 with
    | none => Rel R.start D ∧ R.start.live
    | some i => i < R.told ∧ Rel R.start (upd (upd (upd D 2 (nI i)) (112 + 102 * i + 3) 1) (112 + 102 * i + 4) (nI R.time)) ∧ R.start.live := by
  obtain ⟨v1, v2, v3, ⟨l, l1, l2, l3, l4⟩, v5, v6⟩ := h.inv
  unfold RW.start
  cases es : R.servedAs 0 with
  | none =>
    dsimp only
    have : R.s_way none = R := by rw [← e]; rfl
    have t2 : RW.mk R.time R.told none R.fsize R.limit R.sent R.lost R.garbled R.given R.no R.c0 R.c1 R.k0 R.k1 R.mi R.ms = R := this
    rw [t2]
    exact ⟨h, hl⟩
  | some i =>
    dsimp only
    obtain ⟨-, s2, ⟨s3, -⟩, -⟩ := fnd_some (show fnd (fun i => (R.ms i).phase = 0 ∧ R.before i = 0) R.told 0 = some i from es)
    have hit : i < R.told := by omega
    have hM := l4 i hit
    have hS := h.ms i hit
    have h24 := hM.2.2.1
    obtain ⟨n0, n1, n2, n3, n4, n5, n6, n8, n9⟩ := h.n
    have id := h.way.1 e
    refine ⟨hit, ?_, fun k hk hp => ?_⟩
    · have et : RW.mk R.time R.told (some i) R.fsize R.limit R.sent R.lost R.garbled R.given R.no R.c0 R.c1 R.k0 R.k1 R.mi (updM R.ms i (((R.ms i).s_phase 1).s_began (nI R.time))) = R.upd3 false i R.c0 (((R.ms i).s_phase 1).s_began (nI R.time)) R.sent R.lost R.garbled R.given (some i) := rfl
      rw [et]
      have rc : ∀ b, relCh (R.ch b) (10 + 16 * cn b) (upd (upd (upd D 2 (nI i)) (112 + 102 * i + 3) 1) (112 + 102 * i + 4) (nI R.time)) := fun b => (h.ch b).congr (fun j j1 j2 => by have := cn_lt b; rw [upd_ne (by omega), upd_ne (by omega), upd_ne (by omega)])
      refine Rel_upd3 h hit (fun j j1 j2 j3 => by rw [upd_ne (by omega), upd_ne (by omega), upd_ne (by omega)]) ?_ ?_ ?_ ?_ ?_ (rc false) ?_ (fun l' a1 a2 a3 => ?_) (fun k ek => by cases ek; exact hit) (fun j hj => ?_) ⟨(fun z => nomatch z), fun k ek => ⟨fun b => Or.inl (by cases b; exact id.1; exact id.2), fun _ => id.1⟩⟩
      · rw [upd_ne (by omega), upd_ne (by omega), upd_ne (by omega)]; exact n3
      · rw [upd_ne (by omega), upd_ne (by omega), upd_ne (by omega)]; exact n4
      · rw [upd_ne (by omega), upd_ne (by omega), upd_ne (by omega)]; exact n5
      · rw [upd_ne (by omega), upd_ne (by omega), upd_ne (by omega)]; exact n6
      · rw [upd_ne (by omega), upd_ne (by omega), upd_at]; rfl
      · have : relMs (R.ms i) (112 + 102 * i) (upd D 2 (nI i)) := hS.congr h24 (fun j j1 j2 => upd_ne (by omega))
        exact (this.p3 h24 1).p4 (nI R.time)
      · obtain ⟨b1, b2, b3, b4, b5, b6, b7, b8, b9, b10⟩ := a3
        exact ⟨b1, b2, b3, b4, b5, b6, ⟨1, by omega, rfl⟩, b8, b9, b10⟩
      · by_cases cj : j = i
        · rw [if_pos cj, cj]
          exact ⟨fun _ => rfl, fun _ => rfl⟩
        · rw [if_neg cj, v6 j hj, e]
          exact ⟨(fun z => nomatch z), fun z => absurd (Option.some.inj z).symm cj⟩
    · show (updM R.ms i (((R.ms i).s_phase 1).s_began (nI R.time)) k).unf ≠ 0
      by_cases c : k = i
      · subst c
        rw [updM_at]
        exact hl k hit (Or.inl s3)
      · have hp2 : (updM R.ms i (((R.ms i).s_phase 1).s_began (nI R.time)) k).phase = 0 ∨ (updM R.ms i (((R.ms i).s_phase 1).s_began (nI R.time)) k).phase = 1 := hp
        rw [updM_ne c] at hp2 ⊢
        exact hl k hk hp2
end REL8
