/-! THE MATHEMATICS: reading and writing of the abstract heap -/
theorem ix_of {i n : Nat} (hi : i < n) (hn : n < 2 ^ 31) : g_ix (nI i) n = some i := by
  unfold g_ix
  rw [if_neg (nI_in hi hn), nI_clamp (by omega)]
theorem gI_of {h : gH} {a ci j : Nat} {fs : List Value} {v : Int32} (e : h.2 a = some (.inr (ci, fs))) (hj : fs[j]? = some (.int v)) : g_gI h a ci j = some v := by
  simp [g_gI, g_fd, e, hj]
theorem gA_of {h : gH} {a ci j : Nat} {fs : List Value} {v : Nat} (e : h.2 a = some (.inr (ci, fs))) (hj : fs[j]? = some (.ref v)) : g_gA h a ci j = some v := by
  simp [g_gA, g_fd, e, hj]
theorem put_of {h : gH} {a ci j : Nat} {fs : List Value} {v : Value} (e : h.2 a = some (.inr (ci, fs))) (hj : j < fs.length) : g_put h a ci j v = some (g_set h a (.inr (ci, fs.set j v))) := by
  have : Nat.blt j fs.length = true := by simpa [Nat.blt_eq] using hj
  simp [g_put, e, this]
theorem is_of {h : gH} {a ci : Nat} {fs : List Value} (e : h.2 a = some (.inr (ci, fs))) : g_is h a ci = true := by
  simp [g_is, e]
theorem aI_of {h : gH} {a t n : Nat} {f : Nat → Int32} (e : h.2 a = some (.inl (t, n, .inl f))) : g_aI h a t = some (n, f) := by
  simp [g_aI, e]
theorem ald_of {h : gH} {a n i : Nat} {f : Nat → Int32} (e : h.2 a = some (.inl (0, n, .inl f))) (hi : i < n) (hn : n < 2 ^ 31) : g_ald h a (nI i) = some (f i) := by
  simp [g_ald, aI_of e, ix_of hi hn]
theorem bld_of {h : gH} {a n i : Nat} {f : Nat → Int32} (e : h.2 a = some (.inl (1, n, .inl f))) (hi : i < n) (hn : n < 2 ^ 31) : g_bld h a (nI i) = some (f i) := by
  simp [g_bld, aI_of e, ix_of hi hn]
theorem ast_of {h : gH} {a n i : Nat} {f : Nat → Int32} {x : Int32} (e : h.2 a = some (.inl (0, n, .inl f))) (hi : i < n) (hn : n < 2 ^ 31) : g_ast h a (nI i) x = some (g_set h a (.inl (0, n, .inl (upd f i x)))) := by
  simp [g_ast, aI_of e, ix_of hi hn]
theorem bst_of {h : gH} {a n i : Nat} {f : Nat → Int32} {x : Int32} (e : h.2 a = some (.inl (1, n, .inl f))) (hi : i < n) (hn : n < 2 ^ 31) : g_bst h a (nI i) x = some (g_set h a (.inl (1, n, .inl (upd f i x.toInt8.toInt32)))) := by
  simp [g_bst, aI_of e, ix_of hi hn]
theorem aQ_of {h : gH} {a t n : Nat} {f : Nat → Option Nat} (e : h.2 a = some (.inl (t, n, .inr (.inr (.inr (.inr f)))))) : g_aQ h a t = some (n, f) := by
  simp [g_aQ, e]
theorem qld_of {h : gH} {a t n i : Nat} {f : Nat → Option Nat} (e : h.2 a = some (.inl (t, n, .inr (.inr (.inr (.inr f)))))) (hi : i < n) (hn : n < 2 ^ 31) : g_qld h a t (nI i) = some (f i) := by
  simp [g_qld, aQ_of e, ix_of hi hn]
theorem qst_of {h : gH} {a t n i v : Nat} {f : Nat → Option Nat} (e : h.2 a = some (.inl (t, n, .inr (.inr (.inr (.inr f)))))) (hi : i < n) (hn : n < 2 ^ 31) : g_qst h a t (nI i) v = some (g_set h a (.inl (t, n, .inr (.inr (.inr (.inr (va_up f i (some v)))))))) := by
  simp [g_qst, aQ_of e, ix_of hi hn]
theorem aln_of {h : gH} {a t n : Nat} {f : Nat → Int32} (e : h.2 a = some (.inl (t, n, .inl f))) (ht : Nat.blt t 10 = true := by rfl) : g_aln h a = some (nI n) := by
  simp [g_aln, e, nI, ht]
theorem alnQ_of {h : gH} {a t n : Nat} {f : Nat → Option Nat} (e : h.2 a = some (.inl (t, n, .inr (.inr (.inr (.inr f)))))) (ht : Nat.blt t 10 = true := by rfl) : g_aln h a = some (nI n) := by
  simp [g_aln, e, nI, ht]
theorem set_at {h : gH} {a : Nat} {x : gC} : (g_set h a x).2 a = some x := by simp [g_set]
theorem set_ne {h : gH} {a q : Nat} {x : gC} (n : q ≠ a) : (g_set h a x).2 q = h.2 q := by simp [g_set, n]
theorem set_fst {h : gH} {a : Nat} {x : gC} : (g_set h a x).1 = h.1 := rfl
theorem add_at {h : gH} {x : gC} : (g_add h x).2 h.1 = some x := by simp [g_add]
theorem add_ne {h : gH} {q : Nat} {x : gC} (n : q ≠ h.1) : (g_add h x).2 q = h.2 q := by simp [g_add, n]
/-- a row's value: 0 beyond the row -/
def rowAt (n : Nat) (f : Nat → Int32) (i : Int32) : Int32 := if i < 0 ∨ n ≤ i.toNatClampNeg then 0 else f i.toNatClampNeg
theorem rowAt_in {n i : Nat} {f : Nat → Int32} (hi : i < n) (hn : n < 2 ^ 31) : rowAt n f (nI i) = f i := by
  unfold rowAt
  rw [if_neg (nI_in hi hn), nI_clamp (by omega)]
theorem le_of_nlt {a b : Int32} (h : ¬ a < b) : b ≤ a := Int32.not_lt.mp h
theorem valueAt_of {h : gH} {a n : Nat} {f : Nat → Int32} (e : h.2 a = some (.inl (0, n, .inl f))) (hn : n < 2 ^ 31) (i : Int32) : f_X7_valueAt h a i = some (rowAt n f i) := by
  unfold f_X7_valueAt rowAt
  by_cases h0 : i < 0
  · rw [if_neg (Int32.not_le.mpr h0), if_pos (Or.inl h0)]
  · rw [if_pos (le_of_nlt h0), aln_of e]
    obtain ⟨j, hj, rfl⟩ := nI_of h0
    simp only [Option.bind_some]
    by_cases h1 : j < n
    · rw [if_pos (nI_lt h1 hn), ald_of e h1 hn, if_neg (nI_in h1 hn), nI_clamp hj]; rfl
    · rw [if_neg (nI_nlt (Nat.not_lt.mp h1) hj), if_pos (Or.inr (by rw [nI_clamp hj]; omega))]
theorem setAt_of {h : gH} {a n i : Nat} {f : Nat → Int32} {v : Int32} (e : h.2 a = some (.inl (0, n, .inl f))) (hi : i < n) (hn : n < 2 ^ 31) : f_X7_setAt h a (nI i) v = some (g_set h a (.inl (0, n, .inl (upd f i v)))) := by
  unfold f_X7_setAt
  rw [if_pos (nI_pos' (by omega)), aln_of e]
  simp only [Option.bind_some]
  rw [if_pos (nI_lt hi hn), ast_of e hi hn]; rfl
theorem copyRow_of {h : gH} {a b n : Nat} {f g : Nat → Int32} (e : h.2 a = some (.inl (0, n, .inl f))) (e2 : h.2 b = some (.inl (0, n, .inl g))) (hn : n < 2 ^ 31) : f_X7_copyRow h a b = some (g_set h b (.inl (0, n, .inl (va_cpy f g 0 0 n)))) := by
  unfold f_X7_copyRow
  rw [aln_of e, aln_of e2]
  simp only [Option.bind_some]
  have : g_min (nI n) (nI n) = nI n := by unfold g_min; split <;> rfl
  rw [this]
  unfold g_cpy
  rw [aI_of e, aI_of e2]
  simp only [Option.bind_some]
  rw [if_neg (by rw [nI_clamp hn]; simp [nI_pos hn])]
  simp [nI_clamp hn]
