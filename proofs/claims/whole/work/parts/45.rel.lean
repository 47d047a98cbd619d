/-! one channel and one message are changed: the relation then -/
def RW.upd3 (R : RW) (b : Bool) (m : Nat) (C : RCh) (M : RMs) (s lo ga gv : Int32) (w : Option Nat) : RW := RW.mk R.time R.told w R.fsize R.limit s lo ga gv R.no (if b then R.c0 else C) (if b then C else R.c1) R.k0 R.k1 R.mi (updM R.ms m M)
theorem upd3_ch (R : RW) (b : Bool) (m : Nat) (C : RCh) (M : RMs) (s lo ga gv : Int32) (w : Option Nat) : (R.upd3 b m C M s lo ga gv w).ch b = C := by cases b <;> rfl
theorem upd3_co (R : RW) (b : Bool) (m : Nat) (C : RCh) (M : RMs) (s lo ga gv : Int32) (w : Option Nat) : (R.upd3 b m C M s lo ga gv w).ch (!b) = R.ch (!b) := by cases b <;> rfl
theorem upd3_ms (R : RW) (b : Bool) (m : Nat) (C : RCh) (M : RMs) (s lo ga gv : Int32) (w : Option Nat) : (R.upd3 b m C M s lo ga gv w).ms m = M := updM_at _ _ _
theorem upd3_mo (R : RW) (b : Bool) {m i : Nat} (C : RCh) (M : RMs) (s lo ga gv : Int32) (w : Option Nat) (h : i ≠ m) : (R.upd3 b m C M s lo ga gv w).ms i = R.ms i := by
  show updM R.ms m M i = R.ms i
  simp [updM, h]
/-- outside the counts, the channel b and the message m nothing is written -/
def DChg (D D' : Nat → Int32) (b : Bool) (m : Nat) : Prop := ∀ j, (j < 2 ∨ 7 ≤ j) → (j < 10 + 16 * cn b ∨ 26 + 16 * cn b ≤ j) → (j < 112 + 102 * m ∨ 214 + 102 * m ≤ j) → D' j = D j
theorem cn_not (b : Bool) : cn b + cn (!b) = 1 := by cases b <;> rfl
theorem relWk.other {C : RCh} {M M' : RMs} {a : Nat} {D D' : Nat → Int32} (h : relWk C M a D) (h8 : ∀ f, M.many f ≤ 8) (e : ∀ j, a ≤ j → j < a + 16 → D' j = D j) (hf : M'.frames = M.frames) (hm : ∀ f, M'.many f = M.many f) (hs : ∀ f, f < M.frames → C.frame = nI f → M.fst f = 1 → M'.fst f = 1) : relWk C M' a D' := by
  rcases h.congr h8 e with q | ⟨f, s, b, h1, h2, h3, h4, h5, h6, h7, q8, h9, h10, h11, h12, h13⟩
  · exact Or.inl q
  · exact Or.inr ⟨f, s, b, h1, h2, h3, by rw [hf]; exact h4, by rw [hm]; exact h5, h6, hs f h4 h1 h7, by rw [hm]; exact q8, h9, h10, h11, by rw [hm]; exact h12, h13⟩
theorem ch_both {P : RCh → Prop} {R : RW} (b : Bool) (h1 : P (R.ch b)) (h2 : P (R.ch (!b))) : P R.c0 ∧ P R.c1 := by
  cases b
  · exact ⟨h1, h2⟩
  · exact ⟨h2, h1⟩
theorem all_b {P : Bool → Prop} (b : Bool) (h1 : P b) (h2 : P (!b)) : ∀ c, P c := by
  intro c
  cases b <;> cases c <;> assumption
theorem Rel_upd3 {R : RW} {D D' : Nat → Int32} {b : Bool} {m : Nat} {C : RCh} {M : RMs} {s lo ga gv : Int32} {w : Option Nat} (h : Rel R D) (hm : m < R.told) (d : DChg D D' b m) (n3 : D' 3 = s) (n4 : D' 4 = lo) (n5 : D' 5 = ga) (n6 : D' 6 = gv) (n2 : D' 2 = oI w)
    (hc : relCh C (10 + 16 * cn b) D') (hs : relMs M (112 + 102 * m) D') (hi : ∀ l, l ≤ 9 → R.limit = nI l → (R.ms m).inv R.fsize l → M.inv R.fsize l) (hw : ∀ k, w = some k → k < R.told) (hp : ∀ i, i < R.told → ((if i = m then M else R.ms i).phase = 1 ↔ w = some i)) (hr : relWay (R.upd3 b m C M s lo ga gv w) D') : Rel (R.upd3 b m C M s lo ga gv w) D' := by
  obtain ⟨i1, i2, i3, ⟨l, l1, l2, l3, l4⟩, i5, i6⟩ := h.inv
  have hb := cn_lt b
  have hm8 : m < 8 := by omega
  obtain ⟨n0, n1, -, -, -, -, -, n8, n9⟩ := h.n
  have bb := cn_not b
  refine ⟨⟨i1, i2, i3, ⟨l, l1, l2, l3, fun i hi2 => ?_⟩, hw, fun i hi2 => ?_⟩, ⟨?_, ?_, ?_, n3, n4, n5, n6, ?_, ?_⟩, all_b b ?_ ?_, ?_, ?_, ?_, fun i hi2 => ?_, hr⟩
  · by_cases c : i = m
    · subst c
      rw [upd3_ms]
      exact hi l l2 l3 (l4 i hi2)
    · rw [upd3_mo _ _ _ _ _ _ _ _ _ c]
      exact l4 i hi2
  · have := hp i hi2
    by_cases c : i = m
    · subst c
      rw [upd3_ms]
      rwa [if_pos rfl] at this
    · rw [upd3_mo _ _ _ _ _ _ _ _ _ c]
      rwa [if_neg c] at this
  · rw [d 0 (by omega) (by omega) (by omega)]; exact n0
  · rw [d 1 (by omega) (by omega) (by omega)]; exact n1
  · exact n2
  · rw [d 8 (by omega) (by omega) (by omega)]; exact n8
  · rw [d 9 (by omega) (by omega) (by omega)]; exact n9
  · rw [upd3_ch]; exact hc
  · rw [upd3_co]
    exact (h.ch (!b)).congr (fun j j1 j2 => d j (by omega) (by omega) (by omega))
  · exact h.k0.congr (fun j j1 j2 => d j (by omega) (by omega) (by omega))
  · exact h.k1.congr (fun j j1 j2 => d j (by omega) (by omega) (by omega))
  · exact h.mi.congr (d 7 (by omega) (by omega) (by omega)) (fun j j1 j2 => d j (by omega) (by omega) (by omega))
  · by_cases c : i = m
    · subst c
      rw [upd3_ms]; exact hs
    · rw [upd3_mo _ _ _ _ _ _ _ _ _ c]
      exact (h.ms i hi2).congr (l4 i hi2).2.2.1 (fun j j1 j2 => d j (by omega) (by omega) (by omega))
/-- the message m stays on the way -/
theorem Rel_on {R : RW} {D D' : Nat → Int32} {b : Bool} {m : Nat} {C : RCh} {M : RMs} {s lo ga gv : Int32} (h : Rel R D) (e : R.way = some m) (d : DChg D D' b m) (n2 : D' 2 = D 2) (n3 : D' 3 = s) (n4 : D' 4 = lo) (n5 : D' 5 = ga) (n6 : D' 6 = gv)
    (hc : relCh C (10 + 16 * cn b) D') (hs : relMs M (112 + 102 * m) D') (hi : ∀ l, l ≤ 9 → R.limit = nI l → (R.ms m).inv R.fsize l → M.inv R.fsize l) (hp : M.phase = (R.ms m).phase) (hk : relWk C M (10 + 16 * cn b) D')
    (hf : M.frames = (R.ms m).frames) (hmy : ∀ f, M.many f = (R.ms m).many f) (hst : ∀ f, f < (R.ms m).frames → (R.ch (!b)).frame = nI f → (R.ms m).fst f = 1 → M.fst f = 1) (hne : C.frame = (R.ch (!b)).frame → C.frame = -1) : Rel (R.upd3 b m C M s lo ga gv (some m)) D' := by
  obtain ⟨i1, i2, i3, ⟨l, l1, l2, l3, l4⟩, i5, i6⟩ := h.inv
  have hm := i5 m e
  have hb := cn_lt b
  have bb := cn_not b
  refine Rel_upd3 h hm d n3 n4 n5 n6 (by rw [n2, ← e]; exact h.n.2.2.1) hc hs hi (fun k ek => by cases ek; exact hm) (fun i hi2 => ?_) ⟨(fun z => nomatch z), fun k ek => ?_⟩
  · by_cases c : i = m
    · subst c
      rw [if_pos rfl, hp]
      exact ⟨fun _ => rfl, fun _ => (i6 i hi2).mpr e⟩
    · rw [if_neg c]
      rw [i6 i hi2, e]
  · have : k = m := by cases ek; rfl
    subst this
    obtain ⟨w1, w2⟩ := h.way.2 k e
    have q1 : relWk (R.ch (!b)) M (10 + 16 * cn (!b)) D' := (w1 (!b)).other (fun f => (l4 k hm).many_le i3 f) (fun j j1 j2 => d j (by omega) (by omega) (by omega)) hf hmy hst
    refine ⟨all_b b (by rw [upd3_ch, upd3_ms]; exact hk) (by rw [upd3_co, upd3_ms]; exact q1), ?_⟩
    cases b
    · exact hne
    · intro z
      have z2 : (R.ch (!true)).frame = C.frame := z
      have := hne z2.symm
      show (R.ch (!true)).frame = -1
      rw [z2, this]
section REL5
variable {x : gH} {m : Nat} {D : Nat → Int32}
/-! a symbol is sent -/
def aird (D : Nat → Int32) (lo ga : Bool) : Nat → Int32 := upd (upd (upd D 3 (D 3 + 1)) 5 (D 5 + bI ga)) 4 (D 4 + bI lo)
def howI (lo ga : Bool) : Int32 := if lo then 2 else bI ga
theorem aird_ne {lo ga : Bool} {j : Nat} (h : j < 3 ∨ 5 < j) : aird D lo ga j = D j := by
  unfold aird
  rw [upd_ne (by omega), upd_ne (by omega), upd_ne (by omega)]
theorem aird_3 (lo ga : Bool) : aird D lo ga 3 = D 3 + 1 := by
  unfold aird
  rw [upd_ne (by decide), upd_ne (by decide), upd_at]
theorem aird_4 (lo ga : Bool) : aird D lo ga 4 = D 4 + bI lo := upd_at _ _ _
theorem aird_5 (lo ga : Bool) : aird D lo ga 5 = D 5 + bI ga := by
  unfold aird
  rw [upd_ne (by decide), upd_at]
theorem air_d (hx : isM x m) {K : RMi} {C : RCh} {c : Nat} (hc : c < 2) (hK : relMi K D) (hC : relCh C (10 + 16 * c) D) : f_X8_air (dP x m D) m (nI c) = some (howI (decide (C.power < K.levelAt (D 0))) (decide (K.levelAt (D 0) = C.power)), dP x m (aird D (decide (C.power < K.levelAt (D 0))) (decide (K.levelAt (D 0) = C.power)))) := by
  have z21 : ((2 : Int32) = 1) = False := eq_false (by decide)
  have z12 : ((1 : Int32) = 2) = False := eq_false (by decide)
  have z01 : ((0 : Int32) = 1) = False := eq_false (by decide)
  have z02 : ((0 : Int32) = 2) = False := eq_false (by decide)
  simp only [f_X8_air, f_X8_air_b37, f_X8_air_b67, f_X8_air_b87, dG hx, dI hx, cond_true, dL0, dL3, Option.bind_some, mistOf_d hx hK, chL0 hx hc, show D (10 + 16 * c + 0) = C.power from hC.1]
  generalize K.levelAt (D 0) = v
  have d5 : ∀ v, upd D 3 v 5 = D 5 := fun v => upd_ne (by decide)
  have d4 : ∀ v w, upd (upd D 3 v) 5 w 4 = D 4 := fun v w => by rw [upd_ne (by decide), upd_ne (by decide)]
  by_cases c1 : C.power < v
  · have c2 : ¬ v = C.power := fun e => by rw [e] at c1; exact absurd c1 (Int32.lt_irrefl)
    simp only [c1, c2, if_true, decide_true, decide_false, z21, if_false, dS3, dG hx, dL5, dL4, dS5, dS4, Option.bind_some, d5, d4, howI, aird, bI_t, bI_f]
  · by_cases c2 : v = C.power
    · have c3 : ¬ C.power < C.power := Int32.lt_irrefl
      simp only [c2, c3, if_true, decide_true, decide_false, z12, if_false, dS3, dG hx, dL5, dL4, dS5, dS4, Option.bind_some, d5, d4, howI, aird, bI_t, bI_f, Bool.false_eq_true]
    · simp only [c1, c2, if_true, decide_true, decide_false, z01, z02, if_false, dS3, dG hx, dL5, dL4, dS5, dS4, Option.bind_some, d5, d4, howI, aird, bI_t, bI_f, Bool.false_eq_true]
def symd (D : Nat → Int32) (c : Nat) (lo ga : Bool) : Nat → Int32 := if lo then upd (aird D lo ga) (10 + 16 * c + 5) 1 else aird D lo ga
theorem symd_ne {lo ga : Bool} {c j : Nat} (h : j < 3 ∨ 5 < j) (h2 : j ≠ 10 + 16 * c + 5) : symd D c lo ga j = D j := by
  unfold symd
  cases lo
  · exact aird_ne h
  · simp only [if_true]
    rw [upd_ne h2]; exact aird_ne h
theorem symd_3 (c : Nat) (lo ga : Bool) : symd D c lo ga 3 = D 3 + 1 := by
  unfold symd
  cases lo
  · exact aird_3 _ _
  · simp only [if_true]
    rw [upd_ne (by omega)]; exact aird_3 _ _
theorem symd_4 (c : Nat) (lo ga : Bool) : symd D c lo ga 4 = D 4 + bI lo := by
  unfold symd
  cases lo
  · exact aird_4 _ _
  · simp only [if_true]
    rw [upd_ne (by omega)]; exact aird_4 _ _
theorem symd_5 (c : Nat) (lo ga : Bool) : symd D c lo ga 5 = D 5 + bI ga := by
  unfold symd
  cases lo
  · exact aird_5 _ _
  · simp only [if_true]
    rw [upd_ne (by omega)]; exact aird_5 _ _
theorem symd_l (c : Nat) (lo ga : Bool) : symd D c lo ga (10 + 16 * c + 5) = if lo then 1 else D (10 + 16 * c + 5) := by
  unfold symd
  cases lo
  · exact aird_ne (by omega)
  · simp only [if_true]
    exact upd_at _ _ _
theorem symbol_d (hx : isM x m) {K : RMi} {C : RCh} {c : Nat} (hc : c < 2) (hK : relMi K D) (hC : relCh C (10 + 16 * c) D) (v : Int32) : f_X8_symbol (dP x m D) m (nI c) v = some (g_rem (v + howI (decide (C.power < K.levelAt (D 0))) (decide (K.levelAt (D 0) = C.power))) 26, dP x m (symd D c (decide (C.power < K.levelAt (D 0))) (decide (K.levelAt (D 0) = C.power)))) := by
  simp only [f_X8_symbol, f_X8_symbol_b18, dI hx, cond_true, air_d hx hc hK hC, Option.bind_some, symd, howI]
  generalize decide (C.power < K.levelAt (D 0)) = lo
  generalize decide (K.levelAt (D 0) = C.power) = ga
  cases lo
  · have : ¬ bI ga = 2 := by cases ga <;> decide
    simp only [Bool.false_eq_true, if_false, this]
  · simp only [if_true, chS5 hx hc, Option.bind_some]
end REL5
