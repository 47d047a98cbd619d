/-! what the constructors lay -/
def ext (h : gH) (cs : List gC) : gH := (h.1 + cs.length, fun q => if h.1 ≤ q ∧ q < h.1 + cs.length then cs[q - h.1]? else h.2 q)
theorem ext_fst (h : gH) (cs : List gC) : (ext h cs).1 = h.1 + cs.length := rfl
theorem ext_in (h : gH) (cs : List gC) {j : Nat} (hj : j < cs.length) : (ext h cs).2 (h.1 + j) = cs[j]? := by
  show (if h.1 ≤ h.1 + j ∧ h.1 + j < h.1 + cs.length then cs[h.1 + j - h.1]? else _) = _
  rw [if_pos ⟨by omega, by omega⟩, Nat.add_sub_cancel_left]
theorem ext_out (h : gH) (cs : List gC) {q : Nat} (hq : q < h.1 ∨ h.1 + cs.length ≤ q) : (ext h cs).2 q = h.2 q := by
  show (if h.1 ≤ q ∧ q < h.1 + cs.length then _ else _) = _
  rw [if_neg (by omega)]
theorem ext_one (h : gH) (c : gC) : g_add h c = ext h [c] := by
  refine Prod.ext rfl (funext fun q => ?_)
  by_cases e : q = h.1
  · subst e
    rw [add_at]
    exact (ext_in h [c] (j := 0) (by simp)).symm
  · rw [gadd_ne e, ext_out h [c] (by show q < h.1 ∨ h.1 + 1 ≤ q; omega)]
theorem ext_ext (h : gH) (cs ds : List gC) : ext (ext h cs) ds = ext h (cs ++ ds) := by
  refine Prod.ext ?_ (funext fun q => ?_)
  · show h.1 + cs.length + ds.length = h.1 + (cs ++ ds).length
    rw [List.length_append]; omega
  · by_cases c1 : h.1 ≤ q ∧ q < h.1 + cs.length
    · obtain ⟨j, rfl⟩ := Nat.exists_eq_add_of_le c1.1
      rw [ext_out (ext h cs) ds (by left; rw [ext_fst]; omega), ext_in h cs (by omega), ext_in h (cs ++ ds) (by rw [List.length_append]; omega), List.getElem?_append_left (by omega)]
    · by_cases c2 : h.1 + cs.length ≤ q ∧ q < h.1 + cs.length + ds.length
      · obtain ⟨j, rfl⟩ := Nat.exists_eq_add_of_le c2.1
        have e := ext_in (ext h cs) ds (j := j) (by omega)
        rw [ext_fst] at e
        rw [e, show h.1 + cs.length + j = h.1 + (cs.length + j) by omega, ext_in h (cs ++ ds) (by rw [List.length_append]; omega), List.getElem?_append_right (by omega), Nat.add_sub_cancel_left]
      · rw [ext_out (ext h cs) ds (by rw [ext_fst]; omega), ext_out h cs (by omega), ext_out h (cs ++ ds) (by rw [List.length_append]; omega)]
theorem ext_mk (h : gH) (cs : List gC) (c : gC) : g_mk (ext h cs) c = some (ext h (cs ++ [c])) := by
  unfold g_mk
  rw [ext_one, ext_ext]
theorem ext_put (h : gH) (cs : List gC) (ci i : Nat) (fs : List Value) (v : Value) (hi : i < fs.length) : g_put (ext h (.inr (ci, fs) :: cs)) h.1 ci i v = some (ext h (.inr (ci, fs.set i v) :: cs)) := by
  have e : (ext h (.inr (ci, fs) :: cs)).2 h.1 = some (.inr (ci, fs)) := ext_in h _ (j := 0) (by simp)
  rw [put_of e hi]
  congr 1
  refine Prod.ext rfl (funext fun q => ?_)
  by_cases eq : q = h.1
  · subst eq
    rw [set_at]
    exact (ext_in h (.inr (ci, fs.set i v) :: cs) (j := 0) (by simp)).symm
  · rw [set_ne eq]
    by_cases c : h.1 ≤ q ∧ q < h.1 + (cs.length + 1)
    · obtain ⟨j, rfl⟩ : ∃ j, q = h.1 + (j + 1) := ⟨q - h.1 - 1, by omega⟩
      rw [ext_in h _ (by simp; omega), ext_in h _ (by simp; omega)]
      rfl
    · rw [ext_out h _ (by simp; omega), ext_out h _ (by simp; omega)]
def z0 (n : Nat) : gC := arrC n (fun _ => 0)
theorem dfl0 : g_dfl 0 = [.int 0, .int 0, .int 0, .int 0, .int 0, .int 0, .int 0, .null, .int 0, .int 0] := by decide +kernel
theorem dfl2 : g_dfl 2 = [.int 0, .null, .null] := by decide +kernel
theorem dfl3 : g_dfl 3 = [.int 0, .int 0, .int 0, .int 0, .int 0, .int 0, .int 0, .int 0, .int 0, .null, .null, .null, .null] := by decide +kernel
theorem dfl4 : g_dfl 4 = [.int 0, .null, .null, .null] := by decide +kernel
theorem dfl6 : g_dfl 6 = [.int 0, .int 0, .int 0, .int 0, .int 0, .int 0, .int 0, .int 0, .int 0, .null, .null, .null, .null, .null, .null, .null] := by decide +kernel
def cs0 (w : Nat) : List gC := [.inr (0, [.int 0, .int 0, .int 0, .int 0, .int 0, .int 0, .int 0, .ref (w + 1), .int 0, .int 0]), z0 8]
def cs2 (w : Nat) : List gC := [.inr (2, [.int 0, .ref (w + 1), .ref (w + 2)]), z0 8, z0 8]
def cs3 (w : Nat) : List gC := [.inr (3, [.int 0, .int 0, .int 0, .int 0, .int 0, .int 0, .int 0, .int 0, .int 0, .ref (w + 1), .ref (w + 2), .ref (w + 3), .ref (w + 4)]), z0 24, z0 24, z0 24, z0 24]
def cs4 (w : Nat) : List gC := [.inr (4, [.int 0, .ref (w + 1), .ref (w + 2), .ref (w + 3)]), z0 12, z0 12, z0 12]
theorem x0_c (h : gH) : f_X0_init (g_add h (.inr (0, g_dfl 0))) h.1 = some (ext h (cs0 h.1)) := by
  rw [dfl0, ext_one]
  unfold f_X0_init
  rw [ext_mk, Option.bind_some, List.cons_append, ext_put _ _ _ _ _ _ (by simp), Option.bind_some]
  rfl
theorem x2_c (h : gH) : f_X2_init (g_add h (.inr (2, g_dfl 2))) h.1 = some (ext h (cs2 h.1)) := by
  rw [dfl2, ext_one]
  unfold f_X2_init
  rw [ext_put _ _ _ _ _ _ (by simp), Option.bind_some, ext_mk, Option.bind_some, List.cons_append, ext_put _ _ _ _ _ _ (by simp), Option.bind_some, ext_mk, Option.bind_some, List.cons_append, ext_put _ _ _ _ _ _ (by simp), Option.bind_some]
  rfl
theorem x4_c (h : gH) : f_X4_init (g_add h (.inr (4, g_dfl 4))) h.1 = some (ext h (cs4 h.1)) := by
  rw [dfl4, ext_one]
  unfold f_X4_init
  rw [ext_put _ _ _ _ _ _ (by simp), Option.bind_some, ext_mk, Option.bind_some, List.cons_append, ext_put _ _ _ _ _ _ (by simp), Option.bind_some, ext_mk, Option.bind_some, List.cons_append, ext_put _ _ _ _ _ _ (by simp), Option.bind_some, ext_mk, Option.bind_some, List.cons_append, ext_put _ _ _ _ _ _ (by simp), Option.bind_some]
  rfl
theorem x3_c (h : gH) : f_X3_init (g_add h (.inr (3, g_dfl 3))) h.1 = some (ext h (cs3 h.1)) := by
  rw [dfl3, ext_one]
  unfold f_X3_init
  rw [ext_mk, Option.bind_some, List.cons_append, ext_put _ _ _ _ _ _ (by simp), Option.bind_some, ext_mk, Option.bind_some, List.cons_append, ext_put _ _ _ _ _ _ (by simp), Option.bind_some, ext_mk, Option.bind_some, List.cons_append, ext_put _ _ _ _ _ _ (by simp), Option.bind_some, ext_mk, Option.bind_some, List.cons_append, ext_put _ _ _ _ _ _ (by simp), Option.bind_some]
  rfl
theorem nx0 (X : gH) (K : gH → Option gH) : ((g_mk X (.inr (0, g_dfl 0))).bind fun h14 => (f_X0_init h14 X.1).bind K) = K (ext X (cs0 X.1)) := by
  unfold g_mk
  rw [Option.bind_some, x0_c, Option.bind_some]
theorem nx2 (X : gH) (K : gH → Option gH) : ((g_mk X (.inr (2, g_dfl 2))).bind fun h14 => (f_X2_init h14 X.1).bind K) = K (ext X (cs2 X.1)) := by
  unfold g_mk
  rw [Option.bind_some, x2_c, Option.bind_some]
theorem nx3 (X : gH) (K : gH → Option gH) : ((g_mk X (.inr (3, g_dfl 3))).bind fun h14 => (f_X3_init h14 X.1).bind K) = K (ext X (cs3 X.1)) := by
  unfold g_mk
  rw [Option.bind_some, x3_c, Option.bind_some]
theorem nx4 (X : gH) (K : gH → Option gH) : ((g_mk X (.inr (4, g_dfl 4))).bind fun h14 => (f_X4_init h14 X.1).bind K) = K (ext X (cs4 X.1)) := by
  unfold g_mk
  rw [Option.bind_some, x4_c, Option.bind_some]
def aQ (f : Nat → Option Nat) : gC := .inl (4, 8, .inr (.inr (.inr (.inr f))))
theorem ext_gA0 (h : gH) (cs : List gC) (ci i v : Nat) (fs : List Value) (e : fs[i]? = some (.ref v)) : g_gA (ext h (.inr (ci, fs) :: cs)) h.1 ci i = some v := gA_of (ext_in h _ (j := 0) (by simp)) e
theorem ext_is0 (h : gH) (cs : List gC) (ci : Nat) (fs : List Value) : g_is (ext h (.inr (ci, fs) :: cs)) h.1 ci = true := is_of (ext_in h _ (j := 0) (by simp))
theorem ext_aln1 (h : gH) (o : gC) (f : Nat → Option Nat) (cs : List gC) : g_aln (ext h (o :: aQ f :: cs)) (h.1 + 1) = some (nI 8) := alnQ_of (ext_in h (o :: aQ f :: cs) (j := 1) (by simp))
theorem ext_set1 (h : gH) (o c c' : gC) (cs : List gC) : g_set (ext h (o :: c :: cs)) (h.1 + 1) c' = ext h (o :: c' :: cs) := by
  refine Prod.ext rfl (funext fun q => ?_)
  by_cases eq : q = h.1 + 1
  · subst eq
    rw [set_at]
    exact (ext_in h (o :: c' :: cs) (j := 1) (by simp)).symm
  · rw [set_ne eq]
    by_cases c : h.1 ≤ q ∧ q < h.1 + (cs.length + 2)
    · obtain ⟨j, rfl⟩ : ∃ j, q = h.1 + j := ⟨q - h.1, by omega⟩
      rw [ext_in h _ (by simp; omega), ext_in h _ (by simp; omega)]
      have : j ≠ 1 := fun z => eq (by rw [z])
      cases j with
      | zero => rfl
      | succ j => cases j with
        | zero => exact absurd rfl this
        | succ j => rfl
    · rw [ext_out h _ (by simp; omega), ext_out h _ (by simp; omega)]
theorem ext_qst1 (h : gH) (o : gC) (f : Nat → Option Nat) (cs : List gC) {i : Int32} {k : Nat} (hi : g_ix i 8 = some k) (v : Nat) : g_qst (ext h (o :: aQ f :: cs)) (h.1 + 1) 4 i v = some (ext h (o :: aQ (va_up f k (some v)) :: cs)) := by
  have e : g_aQ (ext h (o :: aQ f :: cs)) (h.1 + 1) 4 = some (8, f) := by
    have := ext_in h (o :: aQ f :: cs) (j := 1) (by simp)
    simp only [g_aQ, this]
    rfl
  unfold g_qst
  rw [e, Option.bind_some, hi]
  show some (g_set _ _ (aQ _)) = _
  rw [ext_set1]
/-- one message more in the World's row -/
theorem it6 (h : gH) (fs : List Value) (f : Nat → Option Nat) (rest : List gC) (c : Int32) (k : Nat) (e9 : fs[9]? = some (.ref (h.1 + 1))) (hc : c < nI 8) (hk : g_ix c 8 = some k) (K : gH → Option gH) : ((g_gA (ext h (.inr (6, fs) :: aQ f :: rest)) h.1 6 9).bind fun v83 => (g_aln (ext h (.inr (6, fs) :: aQ f :: rest)) v83).bind fun v86 => (if c < v86 then (g_gA (ext h (.inr (6, fs) :: aQ f :: rest)) h.1 6 9).bind fun v91 => (g_mk (ext h (.inr (6, fs) :: aQ f :: rest)) (.inr (3, g_dfl 3))).bind fun h95 => (f_X3_init h95 (ext h (.inr (6, fs) :: aQ f :: rest)).1).bind fun h99 => bif g_is h99 (ext h (.inr (6, fs) :: aQ f :: rest)).1 3 then (g_qst h99 v91 4 c (ext h (.inr (6, fs) :: aQ f :: rest)).1).bind K else none else none)) = K (ext h (.inr (6, fs) :: aQ (va_up f k (some (h.1 + (rest.length + 2)))) :: (rest ++ cs3 (h.1 + (rest.length + 2))))) := by
  have x1 : (ext h (.inr (6, fs) :: aQ f :: rest)).1 = h.1 + (rest.length + 2) := rfl
  have i3 : g_is (ext (ext h (.inr (6, fs) :: aQ f :: rest)) (cs3 (ext h (.inr (6, fs) :: aQ f :: rest)).1)) (ext h (.inr (6, fs) :: aQ f :: rest)).1 3 = true := ext_is0 _ _ _ _
  rw [ext_gA0 h _ 6 9 _ fs e9, Option.bind_some, ext_aln1, Option.bind_some, if_pos hc, Option.bind_some, nx3, i3, cond_true, ext_ext, x1, List.cons_append, List.cons_append, ext_qst1 h _ f _ hk, Option.bind_some]
