theorem dfl1 : g_dfl 1 = [.null, .int 0, .int 0] := by decide +kernel
theorem dfl7 : g_dfl 7 = [.null, .int 0, .int 0, .null, .null, .null] := by decide +kernel
def ringG (w : Nat) : Nat → Nat → Option Nat
  | 0 => fun _ => none
  | n + 1 => va_up (ringG w n) n (some (w + 2 + 61 * n))
theorem ringG_at (w : Nat) : ∀ n i, ringG w n i = if i < n then some (w + 2 + 61 * i) else none
  | 0, i => rfl
  | n + 1, i => by
    have q := ringG_at w n i
    show va_up (ringG w n) n (some (w + 2 + 61 * n)) i = _
    by_cases e : i = n
    · subst e
      rw [if_pos (Nat.lt_succ_self i)]
      simp [va_up]
    · have : va_up (ringG w n) n (some (w + 2 + 61 * n)) i = ringG w n i := by simp [va_up, e]
      rw [this, q]
      by_cases c : i < n
      · rw [if_pos c, if_pos (by omega)]
      · rw [if_neg c, if_neg (by omega)]
def aW (f : Nat → Option Nat) : gC := .inl (5, 8, .inr (.inr (.inr (.inr f))))
/-- the History with n Worlds laid -/
def P1 (h : gH) (n : Nat) (X : gH) : Prop := X.1 = h.1 + 2 + 61 * n ∧ X.2 h.1 = some (.inr (1, [.ref (h.1 + 1), .int 0, .int 0])) ∧ X.2 (h.1 + 1) = some (aW (ringG h.1 n)) ∧ (∀ i, i < n → wdIs X (h.1 + 2 + 61 * i) W1) ∧ ∀ q, q < h.1 → X.2 q = h.2 q
theorem it1 {h X : gH} {n : Nat} (p : P1 h n X) (c : Int32) (hc : c < nI 8) (hk : g_ix c 8 = some n) : ∃ X', P1 h (n + 1) X' ∧ ∀ K : gH → Option gH, ((g_gA X h.1 1 0).bind fun v27 => (g_aln X v27).bind fun v30 => (if c < v30 then (g_gA X h.1 1 0).bind fun v35 => (g_mk X (.inr (6, g_dfl 6))).bind fun h39 => (f_X6_init h39 X.1).bind fun h43 => bif g_is h43 X.1 6 then (g_qst h43 v35 5 c X.1).bind K else none else none)) = K X' := by
  obtain ⟨p1, p2, p3, p4, p5⟩ := p
  obtain ⟨Y, y1, y2, y3, y4⟩ := x6_w X
  have eR : Y.2 (h.1 + 1) = some (aW (ringG h.1 n)) := by rw [y4 _ (by omega)]; exact p3
  have eQ : g_aQ Y (h.1 + 1) 5 = some (8, ringG h.1 n) := by
    simp only [g_aQ, eR]
    rfl
  refine ⟨g_set Y (h.1 + 1) (aW (ringG h.1 (n + 1))), ⟨?_, ?_, set_at, fun i hi => ?_, fun q hq => ?_⟩, fun K => ?_⟩
  · show Y.1 = _
    rw [y2]; omega
  · rw [set_ne (by omega), y4 _ (by omega)]; exact p2
  · intro j hj
    rw [set_ne (by omega)]
    by_cases c : i = n
    · subst c
      have := y3 j hj
      rwa [p1] at this
    · rw [y4 _ (by omega)]
      exact p4 i (by omega) j hj
  · rw [set_ne (by omega), y4 _ (by omega)]; exact p5 q hq
  · have i6 : g_is Y X.1 6 = true := by
      have := wdP_g Y X.1 W1
      rwa [wdP_self y3] at this
    have gA' : g_gA X h.1 1 0 = some (h.1 + 1) := gA_of p2 rfl
    have al : g_aln X (h.1 + 1) = some (nI 8) := alnQ_of p3
    have qs : g_qst Y (h.1 + 1) 5 c X.1 = some (g_set Y (h.1 + 1) (aW (ringG h.1 (n + 1)))) := by
      unfold g_qst
      rw [eQ, Option.bind_some, hk, p1]
      rfl
    rw [gA', Option.bind_some, al, Option.bind_some, if_pos hc, Option.bind_some]
    unfold g_mk
    rw [Option.bind_some, y1, Option.bind_some, i6, cond_true, qs, Option.bind_some]
theorem x1_c (h : gH) : ∃ X, f_X1_init (g_add h (.inr (1, g_dfl 1))) h.1 = some X ∧ P1 h 8 X := by
  have p0 : P1 h 0 (ext h [.inr (1, [.ref (h.1 + 1), .int 0, .int 0]), aW (fun _ => none)]) := ⟨rfl, ext_in h _ (j := 0) (by simp), ext_in h _ (j := 1) (by simp), fun i hi => absurd hi (Nat.not_lt_zero i), fun q hq => ext_out h _ (Or.inl hq)⟩
  obtain ⟨X1, p1, e1⟩ := it1 p0 0 (by decide) (by decide)
  obtain ⟨X2, p2, e2⟩ := it1 p1 (0 + 1) (by decide) (by decide)
  obtain ⟨X3, p3, e3⟩ := it1 p2 (0 + 1 + 1) (by decide) (by decide)
  obtain ⟨X4, p4, e4⟩ := it1 p3 (0 + 1 + 1 + 1) (by decide) (by decide)
  obtain ⟨X5, p5, e5⟩ := it1 p4 (0 + 1 + 1 + 1 + 1) (by decide) (by decide)
  obtain ⟨X6, p6, e6⟩ := it1 p5 (0 + 1 + 1 + 1 + 1 + 1) (by decide) (by decide)
  obtain ⟨X7, p7, e7⟩ := it1 p6 (0 + 1 + 1 + 1 + 1 + 1 + 1) (by decide) (by decide)
  obtain ⟨X8, p8, e8⟩ := it1 p7 (0 + 1 + 1 + 1 + 1 + 1 + 1 + 1) (by decide) (by decide)
  refine ⟨X8, ?_, p8⟩
  have gA' : g_gA X8 h.1 1 0 = some (h.1 + 1) := gA_of p8.2.1 rfl
  have al : g_aln X8 (h.1 + 1) = some (nI 8) := alnQ_of p8.2.2.1
  have e0 : ext h [.inr (1, [.ref (ext h [.inr (1, [.null, .int 0, .int 0])]).1, .int 0, .int 0]), .inl (5, 8, .inr (.inr (.inr (.inr (fun _ => none)))))] = ext h [.inr (1, [.ref (h.1 + 1), .int 0, .int 0]), aW (fun _ => none)] := rfl
  rw [dfl1, ext_one]
  unfold f_X1_init
  rw [ext_mk, Option.bind_some, List.cons_append, List.nil_append, ext_put _ _ _ _ _ _ (by simp), Option.bind_some, ext_put _ _ _ _ _ _ (by simp), Option.bind_some, ext_put _ _ _ _ _ _ (by simp), Option.bind_some]
  simp only [List.set]
  rw [e0, e1, e2, e3, e4, e5, e6, e7, e8, gA', Option.bind_some, al, Option.bind_some, if_neg (by decide)]
