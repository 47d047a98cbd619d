/-! what the constructors lay -/
def z0 (n : Nat) : gC := arrC n (fun _ => 0)
theorem dfl0 : g_dfl 0 = [.int 0, .int 0, .int 0, .int 0, .int 0, .int 0, .int 0, .null, .int 0, .int 0] := by decide +kernel
theorem dfl2 : g_dfl 2 = [.int 0, .null, .null] := by decide +kernel
theorem dfl3 : g_dfl 3 = [.int 0, .int 0, .int 0, .int 0, .int 0, .int 0, .int 0, .int 0, .int 0, .null, .null, .null, .null] := by decide +kernel
theorem dfl4 : g_dfl 4 = [.int 0, .null, .null, .null] := by decide +kernel
theorem dfl6 : g_dfl 6 = [.int 0, .int 0, .int 0, .int 0, .int 0, .int 0, .int 0, .int 0, .int 0, .null, .null, .null, .null, .null, .null, .null] := by decide +kernel
def cs0 (w : Nat) : List gC := [.inr (0, [.int 0, .int 0, .int 0, .int 0, .int 0, .int 0, .int 0, .ref (w + 1), .int 0, .int 0]), z0 8]
def cs2 (w : Nat) : List gC := [.inr (2, [.int 0, .ref (w + 1), .ref (w + 2)]), z0 8, z0 8]
def cs3 (w : Nat) : List gC := [.inr (3, [.int 0, .int 0, .int 0, .int 0, .int 0, .int 0, .int 0, .int 0, .int 0, .ref (w + 1), .ref (w + 2), .ref (w + 3), .ref (w + 4)]), z0 24, z0 24, z0 24, z0 24]
def cs4 (w : Nat) : List gC := [.inr (4, [.int 0, .ref (w + 1), .ref (w + 2), .ref (w + 3)]), z0 12, z0 12, z0 12]
theorem x0_c (h : gH) : f_X0_init (g_add h (.inr (0, g_dfl 0))) h.1 = some (ext h (cs0 h.1)) := by
  rw [dfl0, ext_one]
  unfold f_X0_init
  rw [ext_mk, Option.bind_some, List.cons_append, ext_put _ _ _ _ _ _ (by simp), Option.bind_some]
  rfl
theorem x2_c (h : gH) : f_X2_init (g_add h (.inr (2, g_dfl 2))) h.1 = some (ext h (cs2 h.1)) := by
  rw [dfl2, ext_one]
  unfold f_X2_init
  rw [ext_put _ _ _ _ _ _ (by simp), Option.bind_some, ext_mk, Option.bind_some, List.cons_append, ext_put _ _ _ _ _ _ (by simp), Option.bind_some, ext_mk, Option.bind_some, List.cons_append, ext_put _ _ _ _ _ _ (by simp), Option.bind_some]
  rfl
theorem x4_c (h : gH) : f_X4_init (g_add h (.inr (4, g_dfl 4))) h.1 = some (ext h (cs4 h.1)) := by
  rw [dfl4, ext_one]
  unfold f_X4_init
  rw [ext_put _ _ _ _ _ _ (by simp), Option.bind_some, ext_mk, Option.bind_some, List.cons_append, ext_put _ _ _ _ _ _ (by simp), Option.bind_some, ext_mk, Option.bind_some, List.cons_append, ext_put _ _ _ _ _ _ (by simp), Option.bind_some, ext_mk, Option.bind_some, List.cons_append, ext_put _ _ _ _ _ _ (by simp), Option.bind_some]
  rfl
theorem x3_c (h : gH) : f_X3_init (g_add h (.inr (3, g_dfl 3))) h.1 = some (ext h (cs3 h.1)) := by
  rw [dfl3, ext_one]
  unfold f_X3_init
  rw [ext_mk, Option.bind_some, List.cons_append, ext_put _ _ _ _ _ _ (by simp), Option.bind_some, ext_mk, Option.bind_some, List.cons_append, ext_put _ _ _ _ _ _ (by simp), Option.bind_some, ext_mk, Option.bind_some, List.cons_append, ext_put _ _ _ _ _ _ (by simp), Option.bind_some, ext_mk, Option.bind_some, List.cons_append, ext_put _ _ _ _ _ _ (by simp), Option.bind_some]
  rfl
theorem nx0 (X : gH) (K : gH → Option gH) : ((g_mk X (.inr (0, g_dfl 0))).bind fun h14 => (f_X0_init h14 X.1).bind K) = K (ext X (cs0 X.1)) := by
  unfold g_mk
  rw [Option.bind_some, x0_c, Option.bind_some]
theorem nx2 (X : gH) (K : gH → Option gH) : ((g_mk X (.inr (2, g_dfl 2))).bind fun h14 => (f_X2_init h14 X.1).bind K) = K (ext X (cs2 X.1)) := by
  unfold g_mk
  rw [Option.bind_some, x2_c, Option.bind_some]
theorem nx3 (X : gH) (K : gH → Option gH) : ((g_mk X (.inr (3, g_dfl 3))).bind fun h14 => (f_X3_init h14 X.1).bind K) = K (ext X (cs3 X.1)) := by
  unfold g_mk
  rw [Option.bind_some, x3_c, Option.bind_some]
theorem nx4 (X : gH) (K : gH → Option gH) : ((g_mk X (.inr (4, g_dfl 4))).bind fun h14 => (f_X4_init h14 X.1).bind K) = K (ext X (cs4 X.1)) := by
  unfold g_mk
  rw [Option.bind_some, x4_c, Option.bind_some]
def aQ (f : Nat → Option Nat) : gC := .inl (4, 8, .inr (.inr (.inr (.inr f))))
theorem ext_aln1 (h : gH) (o : gC) (f : Nat → Option Nat) (cs : List gC) : g_aln (ext h (o :: aQ f :: cs)) (h.1 + 1) = some (nI 8) := alnQ_of (ext_in h (o :: aQ f :: cs) (j := 1) (by simp))
theorem ext_set1 (h : gH) (o c c' : gC) (cs : List gC) : g_set (ext h (o :: c :: cs)) (h.1 + 1) c' = ext h (o :: c' :: cs) := by
  refine Prod.ext rfl (funext fun q => ?_)
  by_cases eq : q = h.1 + 1
  · subst eq
    rw [set_at]
    exact (ext_in h (o :: c' :: cs) (j := 1) (by simp)).symm
  · rw [set_ne eq]
    by_cases c : h.1 ≤ q ∧ q < h.1 + (cs.length + 2)
    · obtain ⟨j, rfl⟩ : ∃ j, q = h.1 + j := ⟨q - h.1, by omega⟩
      rw [ext_in h _ (by simp; omega), ext_in h _ (by simp; omega)]
      have : j ≠ 1 := fun z => eq (by rw [z])
      cases j with
      | zero => rfl
      | succ j => cases j with
        | zero => exact absurd rfl this
        | succ j => rfl
    · rw [ext_out h _ (by simp; omega), ext_out h _ (by simp; omega)]
theorem ext_qst1 (h : gH) (o : gC) (f : Nat → Option Nat) (cs : List gC) {i : Int32} {k : Nat} (hi : g_ix i 8 = some k) (v : Nat) : g_qst (ext h (o :: aQ f :: cs)) (h.1 + 1) 4 i v = some (ext h (o :: aQ (va_up f k (some v)) :: cs)) := by
  have e : g_aQ (ext h (o :: aQ f :: cs)) (h.1 + 1) 4 = some (8, f) := by
    have := ext_in h (o :: aQ f :: cs) (j := 1) (by simp)
    simp only [g_aQ, this]
    rfl
  unfold g_qst
  rw [e, Option.bind_some, hi]
  show some (g_set _ _ (aQ _)) = _
  rw [ext_set1]
/-- one message more in the World's row -/
theorem it6 (h : gH) (fs : List Value) (f : Nat → Option Nat) (rest : List gC) (c : Int32) (k : Nat) (e9 : fs[9]? = some (.ref (h.1 + 1))) (hc : c < nI 8) (hk : g_ix c 8 = some k) (K : gH → Option gH) : ((g_gA (ext h (.inr (6, fs) :: aQ f :: rest)) h.1 6 9).bind fun v83 => (g_aln (ext h (.inr (6, fs) :: aQ f :: rest)) v83).bind fun v86 => (if c < v86 then (g_gA (ext h (.inr (6, fs) :: aQ f :: rest)) h.1 6 9).bind fun v91 => (g_mk (ext h (.inr (6, fs) :: aQ f :: rest)) (.inr (3, g_dfl 3))).bind fun h95 => (f_X3_init h95 (ext h (.inr (6, fs) :: aQ f :: rest)).1).bind fun h99 => bif g_is h99 (ext h (.inr (6, fs) :: aQ f :: rest)).1 3 then (g_qst h99 v91 4 c (ext h (.inr (6, fs) :: aQ f :: rest)).1).bind K else none else none)) = K (ext h (.inr (6, fs) :: aQ (va_up f k (some (h.1 + (rest.length + 2)))) :: (rest ++ cs3 (h.1 + (rest.length + 2))))) := by
  have x1 : (ext h (.inr (6, fs) :: aQ f :: rest)).1 = h.1 + (rest.length + 2) := rfl
  have i3 : g_is (ext (ext h (.inr (6, fs) :: aQ f :: rest)) (cs3 (ext h (.inr (6, fs) :: aQ f :: rest)).1)) (ext h (.inr (6, fs) :: aQ f :: rest)).1 3 = true := ext_is0 _ _ _ _
  rw [ext_gA0 h _ 6 9 _ fs e9, Option.bind_some, ext_aln1, Option.bind_some, if_pos hc, Option.bind_some, nx3, i3, cond_true, ext_ext, x1, List.cons_append, List.cons_append, ext_qst1 h _ f _ hk, Option.bind_some]
def cs6 (w : Nat) : List gC := cs3 (w + 2) ++ cs0 (w + 7) ++ cs0 (w + 9) ++ cs2 (w + 11) ++ cs2 (w + 14) ++ cs4 (w + 17)
def rst (w : Nat) : Nat → List gC
  | 0 => cs6 w
  | n + 1 => rst w n ++ cs3 (w + 21 + 5 * n)
theorem rst_len (w : Nat) : ∀ n, (rst w n).length = 19 + 5 * n
  | 0 => rfl
  | n + 1 => by
    show (rst w n ++ cs3 (w + 21 + 5 * n)).length = _
    rw [List.length_append, rst_len w n]
    rfl
def ringF (w : Nat) : Nat → Nat → Option Nat
  | 0 => fun _ => none
  | n + 1 => va_up (ringF w n) n (some (w + 21 + 5 * n))
def fs6 (w : Nat) : List Value := [.int 0, .int 0, .int 0, .int 0, .int 0, .int 0, .int 0, .int 0, .int 0, .ref (w + 1), .ref (w + 2), .ref (w + 7), .ref (w + 9), .ref (w + 11), .ref (w + 14), .ref (w + 17)]
def b6 (h : gH) (n : Nat) : gH := ext h (.inr (6, fs6 h.1) :: aQ (ringF h.1 n) :: rst h.1 n)
theorem it6b (h : gH) {n : Nat} (c : Int32) (hc : c < nI 8) (hk : g_ix c 8 = some n) (K : gH → Option gH) : ((g_gA (b6 h n) h.1 6 9).bind fun v83 => (g_aln (b6 h n) v83).bind fun v86 => (if c < v86 then (g_gA (b6 h n) h.1 6 9).bind fun v91 => (g_mk (b6 h n) (.inr (3, g_dfl 3))).bind fun h95 => (f_X3_init h95 (b6 h n).1).bind fun h99 => bif g_is h99 (b6 h n).1 3 then (g_qst h99 v91 4 c (b6 h n).1).bind K else none else none)) = K (b6 h (n + 1)) := by
  have q := it6 h (fs6 h.1) (ringF h.1 n) (rst h.1 n) c n rfl hc hk K
  rw [rst_len, show h.1 + (19 + 5 * n + 2) = h.1 + 21 + 5 * n by omega] at q
  exact q
theorem x6_pre (h : gH) (K : gH → Option gH) : ((g_mk (g_add h (.inr (6, g_dfl 6))) (.inl (4, 8, .inr (.inr (.inr (.inr (fun _ => none))))))).bind fun h7 =>
  (g_put h7 h.1 6 9 (.ref (g_add h (.inr (6, g_dfl 6))).1)).bind fun h10 =>
  (g_mk h10 (.inr (3, g_dfl 3))).bind fun h14 =>
  (f_X3_init h14 h10.1).bind fun h18 =>
  (g_put h18 h.1 6 10 (.ref h10.1)).bind fun h21 =>
  (g_mk h21 (.inr (0, g_dfl 0))).bind fun h25 =>
  (f_X0_init h25 h21.1).bind fun h29 =>
  (g_put h29 h.1 6 11 (.ref h21.1)).bind fun h32 =>
  (g_mk h32 (.inr (0, g_dfl 0))).bind fun h36 =>
  (f_X0_init h36 h32.1).bind fun h40 =>
  (g_put h40 h.1 6 12 (.ref h32.1)).bind fun h43 =>
  (g_mk h43 (.inr (2, g_dfl 2))).bind fun h47 =>
  (f_X2_init h47 h43.1).bind fun h51 =>
  (g_put h51 h.1 6 13 (.ref h43.1)).bind fun h54 =>
  (g_mk h54 (.inr (2, g_dfl 2))).bind fun h58 =>
  (f_X2_init h58 h54.1).bind fun h62 =>
  (g_put h62 h.1 6 14 (.ref h54.1)).bind fun h65 =>
  (g_mk h65 (.inr (4, g_dfl 4))).bind fun h69 =>
  (f_X4_init h69 h65.1).bind fun h73 =>
  (g_put h73 h.1 6 15 (.ref h65.1)).bind K) = K (b6 h 0) := by
  rw [dfl6, ext_one, ext_mk, Option.bind_some, List.cons_append, List.nil_append,
    ext_put _ _ _ _ _ _ (by simp), Option.bind_some, nx3, ext_ext, List.cons_append, ext_put _ _ _ _ _ _ (by simp), Option.bind_some,
    nx0, ext_ext, List.cons_append, ext_put _ _ _ _ _ _ (by simp), Option.bind_some,
    nx0, ext_ext, List.cons_append, ext_put _ _ _ _ _ _ (by simp), Option.bind_some,
    nx2, ext_ext, List.cons_append, ext_put _ _ _ _ _ _ (by simp), Option.bind_some,
    nx2, ext_ext, List.cons_append, ext_put _ _ _ _ _ _ (by simp), Option.bind_some,
    nx4, ext_ext, List.cons_append, ext_put _ _ _ _ _ _ (by simp), Option.bind_some]
  rfl
theorem x6_c (h : gH) : f_X6_init (g_add h (.inr (6, g_dfl 6))) h.1 = (f_X6_clear (b6 h 8) h.1 4 3).bind fun h112 => some h112 := by
  unfold f_X6_init
  rw [x6_pre]
  rw [it6b h _ (by decide) (by decide)]
  rw [it6b h _ (by decide) (by decide)]
  rw [it6b h _ (by decide) (by decide)]
  rw [it6b h _ (by decide) (by decide)]
  rw [it6b h _ (by decide) (by decide)]
  rw [it6b h _ (by decide) (by decide)]
  rw [it6b h _ (by decide) (by decide)]
  rw [it6b h _ (by decide) (by decide)]
  have e1 : g_gA (b6 h 8) h.1 6 9 = some (h.1 + 1) := ext_gA0 h _ 6 9 _ _ rfl
  have e2 : g_aln (b6 h 8) (h.1 + 1) = some (nI 8) := ext_aln1 h _ _ _
  have e3 : g_is (b6 h 8) h.1 6 = true := ext_is0 h _ _ _
  rw [e1, Option.bind_some, e2, Option.bind_some, if_neg (by decide), e3, cond_true]
theorem ringF_at (w : Nat) : ∀ n i, ringF w n i = if i < n then some (w + 21 + 5 * i) else none
  | 0, i => rfl
  | n + 1, i => by
    have q := ringF_at w n i
    show va_up (ringF w n) n (some (w + 21 + 5 * n)) i = _
    by_cases e : i = n
    · subst e
      rw [if_pos (Nat.lt_succ_self i)]
      simp [va_up]
    · have : va_up (ringF w n) n (some (w + 21 + 5 * n)) i = ringF w n i := by simp [va_up, e]
      rw [this, q]
      by_cases c : i < n
      · rw [if_pos c, if_pos (by omega)]
      · rw [if_neg c, if_neg (by omega)]
def zf : Nat → Int32 := fun _ => 0
def M0 : RMs := RMs.mk 0 0 0 0 0 0 0 0 0 zf zf zf zf
def C0 : RCh := RCh.mk 0 0 0 0 0 0 0 zf false false
def W0 : RW := RW.mk 0 0 (some 0) 0 0 0 0 0 0 M0 C0 C0 (RKp.mk 0 zf zf) (RKp.mk 0 zf zf) (RMi.mk 0 zf zf zf) (fun _ => M0)
theorem ring1 (w : Nat) : some (aQ (ringF w 8)) = wdC w W0 1 := by
  have : ringF w 8 = fun i => if i < 8 then some (w + 21 + 5 * i) else none := funext fun i => ringF_at w 8 i
  rw [this]
  rfl
def flat (w : Nat) : List gC := [.inr (3, [.int 0, .int 0, .int 0, .int 0, .int 0, .int 0, .int 0, .int 0, .int 0, .ref (w + 2 + 1), .ref (w + 2 + 2), .ref (w + 2 + 3), .ref (w + 2 + 4)]), z0 24, z0 24, z0 24, z0 24, .inr (0, [.int 0, .int 0, .int 0, .int 0, .int 0, .int 0, .int 0, .ref (w + 7 + 1), .int 0, .int 0]), z0 8, .inr (0, [.int 0, .int 0, .int 0, .int 0, .int 0, .int 0, .int 0, .ref (w + 9 + 1), .int 0, .int 0]), z0 8, .inr (2, [.int 0, .ref (w + 11 + 1), .ref (w + 11 + 2)]), z0 8, z0 8, .inr (2, [.int 0, .ref (w + 14 + 1), .ref (w + 14 + 2)]), z0 8, z0 8, .inr (4, [.int 0, .ref (w + 17 + 1), .ref (w + 17 + 2), .ref (w + 17 + 3)]), z0 12, z0 12, z0 12, .inr (3, [.int 0, .int 0, .int 0, .int 0, .int 0, .int 0, .int 0, .int 0, .int 0, .ref (w + 21 + 5 * 0 + 1), .ref (w + 21 + 5 * 0 + 2), .ref (w + 21 + 5 * 0 + 3), .ref (w + 21 + 5 * 0 + 4)]), z0 24, z0 24, z0 24, z0 24, .inr (3, [.int 0, .int 0, .int 0, .int 0, .int 0, .int 0, .int 0, .int 0, .int 0, .ref (w + 21 + 5 * 1 + 1), .ref (w + 21 + 5 * 1 + 2), .ref (w + 21 + 5 * 1 + 3), .ref (w + 21 + 5 * 1 + 4)]), z0 24, z0 24, z0 24, z0 24, .inr (3, [.int 0, .int 0, .int 0, .int 0, .int 0, .int 0, .int 0, .int 0, .int 0, .ref (w + 21 + 5 * 2 + 1), .ref (w + 21 + 5 * 2 + 2), .ref (w + 21 + 5 * 2 + 3), .ref (w + 21 + 5 * 2 + 4)]), z0 24, z0 24, z0 24, z0 24, .inr (3, [.int 0, .int 0, .int 0, .int 0, .int 0, .int 0, .int 0, .int 0, .int 0, .ref (w + 21 + 5 * 3 + 1), .ref (w + 21 + 5 * 3 + 2), .ref (w + 21 + 5 * 3 + 3), .ref (w + 21 + 5 * 3 + 4)]), z0 24, z0 24, z0 24, z0 24, .inr (3, [.int 0, .int 0, .int 0, .int 0, .int 0, .int 0, .int 0, .int 0, .int 0, .ref (w + 21 + 5 * 4 + 1), .ref (w + 21 + 5 * 4 + 2), .ref (w + 21 + 5 * 4 + 3), .ref (w + 21 + 5 * 4 + 4)]), z0 24, z0 24, z0 24, z0 24, .inr (3, [.int 0, .int 0, .int 0, .int 0, .int 0, .int 0, .int 0, .int 0, .int 0, .ref (w + 21 + 5 * 5 + 1), .ref (w + 21 + 5 * 5 + 2), .ref (w + 21 + 5 * 5 + 3), .ref (w + 21 + 5 * 5 + 4)]), z0 24, z0 24, z0 24, z0 24, .inr (3, [.int 0, .int 0, .int 0, .int 0, .int 0, .int 0, .int 0, .int 0, .int 0, .ref (w + 21 + 5 * 6 + 1), .ref (w + 21 + 5 * 6 + 2), .ref (w + 21 + 5 * 6 + 3), .ref (w + 21 + 5 * 6 + 4)]), z0 24, z0 24, z0 24, z0 24, .inr (3, [.int 0, .int 0, .int 0, .int 0, .int 0, .int 0, .int 0, .int 0, .int 0, .ref (w + 21 + 5 * 7 + 1), .ref (w + 21 + 5 * 7 + 2), .ref (w + 21 + 5 * 7 + 3), .ref (w + 21 + 5 * 7 + 4)]), z0 24, z0 24, z0 24, z0 24]
theorem rst8 (w : Nat) : rst w 8 = flat w := rfl
def lst6 (w : Nat) : List gC := .inr (6, fs6 w) :: aQ (ringF w 8) :: flat w
theorem b6_0 (w : Nat) : (lst6 w)[0]? = wdC w W0 0 := rfl
theorem b6_1 (w : Nat) : (lst6 w)[1]? = wdC w W0 1 := ring1 w
theorem b6_2 (w : Nat) : (lst6 w)[2]? = wdC w W0 2 := rfl
theorem b6_3 (w : Nat) : (lst6 w)[3]? = wdC w W0 3 := rfl
theorem b6_4 (w : Nat) : (lst6 w)[4]? = wdC w W0 4 := rfl
theorem b6_5 (w : Nat) : (lst6 w)[5]? = wdC w W0 5 := rfl
theorem b6_6 (w : Nat) : (lst6 w)[6]? = wdC w W0 6 := rfl
theorem b6_7 (w : Nat) : (lst6 w)[7]? = wdC w W0 7 := rfl
theorem b6_8 (w : Nat) : (lst6 w)[8]? = wdC w W0 8 := rfl
theorem b6_9 (w : Nat) : (lst6 w)[9]? = wdC w W0 9 := rfl
theorem b6_10 (w : Nat) : (lst6 w)[10]? = wdC w W0 10 := rfl
theorem b6_11 (w : Nat) : (lst6 w)[11]? = wdC w W0 11 := rfl
theorem b6_12 (w : Nat) : (lst6 w)[12]? = wdC w W0 12 := rfl
theorem b6_13 (w : Nat) : (lst6 w)[13]? = wdC w W0 13 := rfl
theorem b6_14 (w : Nat) : (lst6 w)[14]? = wdC w W0 14 := rfl
theorem b6_15 (w : Nat) : (lst6 w)[15]? = wdC w W0 15 := rfl
theorem b6_16 (w : Nat) : (lst6 w)[16]? = wdC w W0 16 := rfl
theorem b6_17 (w : Nat) : (lst6 w)[17]? = wdC w W0 17 := rfl
theorem b6_18 (w : Nat) : (lst6 w)[18]? = wdC w W0 18 := rfl
theorem b6_19 (w : Nat) : (lst6 w)[19]? = wdC w W0 19 := rfl
theorem b6_20 (w : Nat) : (lst6 w)[20]? = wdC w W0 20 := rfl
theorem b6_21 (w : Nat) : (lst6 w)[21]? = wdC w W0 21 := rfl
theorem b6_22 (w : Nat) : (lst6 w)[22]? = wdC w W0 22 := rfl
theorem b6_23 (w : Nat) : (lst6 w)[23]? = wdC w W0 23 := rfl
theorem b6_24 (w : Nat) : (lst6 w)[24]? = wdC w W0 24 := rfl
theorem b6_25 (w : Nat) : (lst6 w)[25]? = wdC w W0 25 := rfl
theorem b6_26 (w : Nat) : (lst6 w)[26]? = wdC w W0 26 := rfl
theorem b6_27 (w : Nat) : (lst6 w)[27]? = wdC w W0 27 := rfl
theorem b6_28 (w : Nat) : (lst6 w)[28]? = wdC w W0 28 := rfl
theorem b6_29 (w : Nat) : (lst6 w)[29]? = wdC w W0 29 := rfl
theorem b6_30 (w : Nat) : (lst6 w)[30]? = wdC w W0 30 := rfl
theorem b6_31 (w : Nat) : (lst6 w)[31]? = wdC w W0 31 := rfl
theorem b6_32 (w : Nat) : (lst6 w)[32]? = wdC w W0 32 := rfl
theorem b6_33 (w : Nat) : (lst6 w)[33]? = wdC w W0 33 := rfl
theorem b6_34 (w : Nat) : (lst6 w)[34]? = wdC w W0 34 := rfl
theorem b6_35 (w : Nat) : (lst6 w)[35]? = wdC w W0 35 := rfl
theorem b6_36 (w : Nat) : (lst6 w)[36]? = wdC w W0 36 := rfl
theorem b6_37 (w : Nat) : (lst6 w)[37]? = wdC w W0 37 := rfl
theorem b6_38 (w : Nat) : (lst6 w)[38]? = wdC w W0 38 := rfl
theorem b6_39 (w : Nat) : (lst6 w)[39]? = wdC w W0 39 := rfl
theorem b6_40 (w : Nat) : (lst6 w)[40]? = wdC w W0 40 := rfl
theorem b6_41 (w : Nat) : (lst6 w)[41]? = wdC w W0 41 := rfl
theorem b6_42 (w : Nat) : (lst6 w)[42]? = wdC w W0 42 := rfl
theorem b6_43 (w : Nat) : (lst6 w)[43]? = wdC w W0 43 := rfl
theorem b6_44 (w : Nat) : (lst6 w)[44]? = wdC w W0 44 := rfl
theorem b6_45 (w : Nat) : (lst6 w)[45]? = wdC w W0 45 := rfl
theorem b6_46 (w : Nat) : (lst6 w)[46]? = wdC w W0 46 := rfl
theorem b6_47 (w : Nat) : (lst6 w)[47]? = wdC w W0 47 := rfl
theorem b6_48 (w : Nat) : (lst6 w)[48]? = wdC w W0 48 := rfl
theorem b6_49 (w : Nat) : (lst6 w)[49]? = wdC w W0 49 := rfl
theorem b6_50 (w : Nat) : (lst6 w)[50]? = wdC w W0 50 := rfl
theorem b6_51 (w : Nat) : (lst6 w)[51]? = wdC w W0 51 := rfl
theorem b6_52 (w : Nat) : (lst6 w)[52]? = wdC w W0 52 := rfl
theorem b6_53 (w : Nat) : (lst6 w)[53]? = wdC w W0 53 := rfl
theorem b6_54 (w : Nat) : (lst6 w)[54]? = wdC w W0 54 := rfl
theorem b6_55 (w : Nat) : (lst6 w)[55]? = wdC w W0 55 := rfl
theorem b6_56 (w : Nat) : (lst6 w)[56]? = wdC w W0 56 := rfl
theorem b6_57 (w : Nat) : (lst6 w)[57]? = wdC w W0 57 := rfl
theorem b6_58 (w : Nat) : (lst6 w)[58]? = wdC w W0 58 := rfl
theorem b6_59 (w : Nat) : (lst6 w)[59]? = wdC w W0 59 := rfl
theorem b6_60 (w : Nat) : (lst6 w)[60]? = wdC w W0 60 := rfl
theorem b6_at (w : Nat) : ∀ j, j < 61 → (.inr (6, fs6 w) :: aQ (ringF w 8) :: rst w 8 : List gC)[j]? = wdC w W0 j := by
  rw [rst8]
  exact fun j hj => match j, hj with
    | 0, _ => b6_0 w
    | 1, _ => b6_1 w
    | 2, _ => b6_2 w
    | 3, _ => b6_3 w
    | 4, _ => b6_4 w
    | 5, _ => b6_5 w
    | 6, _ => b6_6 w
    | 7, _ => b6_7 w
    | 8, _ => b6_8 w
    | 9, _ => b6_9 w
    | 10, _ => b6_10 w
    | 11, _ => b6_11 w
    | 12, _ => b6_12 w
    | 13, _ => b6_13 w
    | 14, _ => b6_14 w
    | 15, _ => b6_15 w
    | 16, _ => b6_16 w
    | 17, _ => b6_17 w
    | 18, _ => b6_18 w
    | 19, _ => b6_19 w
    | 20, _ => b6_20 w
    | 21, _ => b6_21 w
    | 22, _ => b6_22 w
    | 23, _ => b6_23 w
    | 24, _ => b6_24 w
    | 25, _ => b6_25 w
    | 26, _ => b6_26 w
    | 27, _ => b6_27 w
    | 28, _ => b6_28 w
    | 29, _ => b6_29 w
    | 30, _ => b6_30 w
    | 31, _ => b6_31 w
    | 32, _ => b6_32 w
    | 33, _ => b6_33 w
    | 34, _ => b6_34 w
    | 35, _ => b6_35 w
    | 36, _ => b6_36 w
    | 37, _ => b6_37 w
    | 38, _ => b6_38 w
    | 39, _ => b6_39 w
    | 40, _ => b6_40 w
    | 41, _ => b6_41 w
    | 42, _ => b6_42 w
    | 43, _ => b6_43 w
    | 44, _ => b6_44 w
    | 45, _ => b6_45 w
    | 46, _ => b6_46 w
    | 47, _ => b6_47 w
    | 48, _ => b6_48 w
    | 49, _ => b6_49 w
    | 50, _ => b6_50 w
    | 51, _ => b6_51 w
    | 52, _ => b6_52 w
    | 53, _ => b6_53 w
    | 54, _ => b6_54 w
    | 55, _ => b6_55 w
    | 56, _ => b6_56 w
    | 57, _ => b6_57 w
    | 58, _ => b6_58 w
    | 59, _ => b6_59 w
    | 60, _ => b6_60 w
    | n + 61, h => absurd h (by omega)
theorem b6_wd (h : gH) : wdIs (b6 h 8) h.1 W0 := fun j hj => by
  have hl : (.inr (6, fs6 h.1) :: aQ (ringF h.1 8) :: rst h.1 8 : List gC).length = 61 := by
    simp [rst_len]
  unfold b6
  rw [ext_in h _ (by rw [hl]; exact hj)]
  exact b6_at h.1 j hj
/-- the World that a constructor makes -/
def W1 : RW := W0.clear 4 3
theorem x6_w (h : gH) : ∃ X, f_X6_init (g_add h (.inr (6, g_dfl 6))) h.1 = some X ∧ X.1 = h.1 + 61 ∧ wdIs X h.1 W1 ∧ ∀ q, (q < h.1 ∨ h.1 + 61 ≤ q) → X.2 q = h.2 q := by
  have hl : (.inr (6, fs6 h.1) :: aQ (ringF h.1 8) :: rst h.1 8 : List gC).length = 61 := by
    simp [rst_len]
  have cw := clear_wd (h := b6 h 8) (w := h.1) (R := W0) 4 3
  rw [wdP_self (b6_wd h), show nI 4 = (4 : Int32) by decide] at cw
  refine ⟨wdP (b6 h 8) h.1 W1, ?_, ?_, wdP_is _ _ _, fun q hq => ?_⟩
  · rw [x6_c, cw, Option.bind_some]
    rfl
  · show h.1 + (.inr (6, fs6 h.1) :: aQ (ringF h.1 8) :: rst h.1 8 : List gC).length = _
    rw [hl]
  · rw [wdP_out _ _ _ hq]
    unfold b6
    exact ext_out h _ (by rw [hl]; exact hq)
theorem dfl1 : g_dfl 1 = [.null, .int 0, .int 0] := by decide +kernel
theorem dfl7 : g_dfl 7 = [.null, .int 0, .int 0, .null, .null, .null] := by decide +kernel
def ringG (w : Nat) : Nat → Nat → Option Nat
  | 0 => fun _ => none
  | n + 1 => va_up (ringG w n) n (some (w + 2 + 61 * n))
theorem ringG_at (w : Nat) : ∀ n i, ringG w n i = if i < n then some (w + 2 + 61 * i) else none
  | 0, i => rfl
  | n + 1, i => by
    have q := ringG_at w n i
    show va_up (ringG w n) n (some (w + 2 + 61 * n)) i = _
    by_cases e : i = n
    · subst e
      rw [if_pos (Nat.lt_succ_self i)]
      simp [va_up]
    · have : va_up (ringG w n) n (some (w + 2 + 61 * n)) i = ringG w n i := by simp [va_up, e]
      rw [this, q]
      by_cases c : i < n
      · rw [if_pos c, if_pos (by omega)]
      · rw [if_neg c, if_neg (by omega)]
def aW (f : Nat → Option Nat) : gC := .inl (5, 8, .inr (.inr (.inr (.inr f))))
/-- the History with n Worlds laid -/
def P1 (h : gH) (n : Nat) (X : gH) : Prop := X.1 = h.1 + 2 + 61 * n ∧ X.2 h.1 = some (.inr (1, [.ref (h.1 + 1), .int 0, .int 0])) ∧ X.2 (h.1 + 1) = some (aW (ringG h.1 n)) ∧ (∀ i, i < n → wdIs X (h.1 + 2 + 61 * i) W1) ∧ (∀ q, q < h.1 → X.2 q = h.2 q) ∧ ∀ q, h.1 + 2 + 61 * n ≤ q → X.2 q = h.2 q
theorem it1 {h X : gH} {n : Nat} (p : P1 h n X) (c : Int32) (hc : c < nI 8) (hk : g_ix c 8 = some n) : ∃ X', P1 h (n + 1) X' ∧ ∀ K : gH → Option gH, ((g_gA X h.1 1 0).bind fun v27 => (g_aln X v27).bind fun v30 => (if c < v30 then (g_gA X h.1 1 0).bind fun v35 => (g_mk X (.inr (6, g_dfl 6))).bind fun h39 => (f_X6_init h39 X.1).bind fun h43 => bif g_is h43 X.1 6 then (g_qst h43 v35 5 c X.1).bind K else none else none)) = K X' := by
  obtain ⟨p1, p2, p3, p4, p5, p6⟩ := p
  obtain ⟨Y, y1, y2, y3, y4⟩ := x6_w X
  have eR : Y.2 (h.1 + 1) = some (aW (ringG h.1 n)) := by rw [y4 _ (by omega)]; exact p3
  have eQ : g_aQ Y (h.1 + 1) 5 = some (8, ringG h.1 n) := by
    simp only [g_aQ, eR]
    rfl
  refine ⟨g_set Y (h.1 + 1) (aW (ringG h.1 (n + 1))), ⟨?_, ?_, set_at, fun i hi => ?_, fun q hq => ?_, fun q hq => ?_⟩, fun K => ?_⟩
  · show Y.1 = _
    rw [y2]; omega
  · rw [set_ne (by omega), y4 _ (by omega)]; exact p2
  · intro j hj
    rw [set_ne (by omega)]
    by_cases c : i = n
    · subst c
      have := y3 j hj
      rwa [p1] at this
    · rw [y4 _ (by omega)]
      exact p4 i (by omega) j hj
  · rw [set_ne (by omega), y4 _ (by omega)]; exact p5 q hq
  · rw [set_ne (by omega), y4 _ (by omega)]; exact p6 q (by omega)
  · have i6 : g_is Y X.1 6 = true := by
      have := wdP_g Y X.1 W1
      rwa [wdP_self y3] at this
    have gA' : g_gA X h.1 1 0 = some (h.1 + 1) := gA_of p2 rfl
    have al : g_aln X (h.1 + 1) = some (nI 8) := alnQ_of p3
    have qs : g_qst Y (h.1 + 1) 5 c X.1 = some (g_set Y (h.1 + 1) (aW (ringG h.1 (n + 1)))) := by
      unfold g_qst
      rw [eQ, Option.bind_some, hk, p1]
      rfl
    rw [gA', Option.bind_some, al, Option.bind_some, if_pos hc, Option.bind_some]
    unfold g_mk
    rw [Option.bind_some, y1, Option.bind_some, i6, cond_true, qs, Option.bind_some]
theorem x1_c (h : gH) : ∃ X, f_X1_init (g_add h (.inr (1, g_dfl 1))) h.1 = some X ∧ P1 h 8 X := by
  have p0 : P1 h 0 (ext h [.inr (1, [.ref (h.1 + 1), .int 0, .int 0]), aW (fun _ => none)]) := ⟨rfl, ext_in h _ (j := 0) (by simp), ext_in h _ (j := 1) (by simp), fun i hi => absurd hi (Nat.not_lt_zero i), fun q hq => ext_out h _ (Or.inl hq), fun q hq => ext_out h _ (Or.inr hq)⟩
  obtain ⟨X1, p1, e1⟩ := it1 p0 0 (by decide) (by decide)
  obtain ⟨X2, p2, e2⟩ := it1 p1 (0 + 1) (by decide) (by decide)
  obtain ⟨X3, p3, e3⟩ := it1 p2 (0 + 1 + 1) (by decide) (by decide)
  obtain ⟨X4, p4, e4⟩ := it1 p3 (0 + 1 + 1 + 1) (by decide) (by decide)
  obtain ⟨X5, p5, e5⟩ := it1 p4 (0 + 1 + 1 + 1 + 1) (by decide) (by decide)
  obtain ⟨X6, p6, e6⟩ := it1 p5 (0 + 1 + 1 + 1 + 1 + 1) (by decide) (by decide)
  obtain ⟨X7, p7, e7⟩ := it1 p6 (0 + 1 + 1 + 1 + 1 + 1 + 1) (by decide) (by decide)
  obtain ⟨X8, p8, e8⟩ := it1 p7 (0 + 1 + 1 + 1 + 1 + 1 + 1 + 1) (by decide) (by decide)
  refine ⟨X8, ?_, p8⟩
  have gA' : g_gA X8 h.1 1 0 = some (h.1 + 1) := gA_of p8.2.1 rfl
  have al : g_aln X8 (h.1 + 1) = some (nI 8) := alnQ_of p8.2.2.1
  have e0 : ext h [.inr (1, [.ref (ext h [.inr (1, [.null, .int 0, .int 0])]).1, .int 0, .int 0]), .inl (5, 8, .inr (.inr (.inr (.inr (fun _ => none)))))] = ext h [.inr (1, [.ref (h.1 + 1), .int 0, .int 0]), aW (fun _ => none)] := rfl
  rw [dfl1, ext_one]
  unfold f_X1_init
  rw [ext_mk, Option.bind_some, List.cons_append, List.nil_append, ext_put _ _ _ _ _ _ (by simp), Option.bind_some, ext_put _ _ _ _ _ _ (by simp), Option.bind_some, ext_put _ _ _ _ _ _ (by simp), Option.bind_some]
  simp only [List.set]
  rw [e0, e1, e2, e3, e4, e5, e6, e7, e8, gA', Option.bind_some, al, Option.bind_some, if_neg (by decide)]
def Fz : RFc := RFc.mk zf 0 (-1) W1 W1 0 0 (fun _ => W1)
theorem x7_c (h : gH) : ∃ X, f_X7_init (g_add h (.inr (7, g_dfl 7))) h.1 = some X ∧ X.1 = h.1 + 614 ∧ fIs X.2 h.1 Fz ∧ ∀ q, (q < h.1 ∨ h.1 + 614 ≤ q) → X.2 q = h.2 q := by
  generalize hX0 : ext h [.inr (7, [.ref (h.1 + 1), .int 0, .int (-1), .null, .null, .null]), .inl (1, 500, .inl fun _ => 0)] = X0
  have z1 : X0.1 = h.1 + 2 := by rw [← hX0]; rfl
  have c0 : X0.2 h.1 = some (.inr (7, [.ref (h.1 + 1), .int 0, .int (-1), .null, .null, .null])) := by rw [← hX0]; exact ext_in h _ (j := 0) (by simp)
  have c1 : X0.2 (h.1 + 1) = some (.inl (1, 500, .inl fun _ => 0)) := by rw [← hX0]; exact ext_in h _ (j := 1) (by simp)
  obtain ⟨Y0, y1, y2, y3, y4⟩ := x6_w X0
  have c2 : Y0.2 h.1 = some (.inr (7, [.ref (h.1 + 1), .int 0, .int (-1), .null, .null, .null])) := by rw [y4 _ (by omega)]; exact c0
  have p3 := put_of (j := 3) (v := .ref X0.1) c2 (by simp)
  generalize hX1 : g_set Y0 h.1 (.inr (7, List.set [.ref (h.1 + 1), .int 0, .int (-1), .null, .null, .null] 3 (.ref X0.1))) = X1 at p3
  have z2 : X1.1 = h.1 + 63 := by rw [← hX1]; show Y0.1 = _; rw [y2]; omega
  have c3 : X1.2 h.1 = some (.inr (7, [.ref (h.1 + 1), .int 0, .int (-1), .ref X0.1, .null, .null])) := by rw [← hX1]; exact set_at
  have o1 : ∀ q, q ≠ h.1 → X1.2 q = Y0.2 q := fun q hq => by rw [← hX1]; exact set_ne hq
  obtain ⟨Y1, u1, u2, u3, u4⟩ := x6_w X1
  have c4 : Y1.2 h.1 = some (.inr (7, [.ref (h.1 + 1), .int 0, .int (-1), .ref X0.1, .null, .null])) := by rw [u4 _ (by omega)]; exact c3
  have p4 := put_of (j := 4) (v := .ref X1.1) c4 (by simp)
  generalize hX2 : g_set Y1 h.1 (.inr (7, List.set [.ref (h.1 + 1), .int 0, .int (-1), .ref X0.1, .null, .null] 4 (.ref X1.1))) = X2 at p4
  have z3 : X2.1 = h.1 + 124 := by rw [← hX2]; show Y1.1 = _; rw [u2]; omega
  have c5 : X2.2 h.1 = some (.inr (7, [.ref (h.1 + 1), .int 0, .int (-1), .ref X0.1, .ref X1.1, .null])) := by rw [← hX2]; exact set_at
  have o2 : ∀ q, q ≠ h.1 → X2.2 q = Y1.2 q := fun q hq => by rw [← hX2]; exact set_ne hq
  obtain ⟨Y2, v1, w1, w2, w3, w4, w5, w6⟩ := x1_c X2
  have c6 : Y2.2 h.1 = some (.inr (7, [.ref (h.1 + 1), .int 0, .int (-1), .ref X0.1, .ref X1.1, .null])) := by rw [w5 _ (by omega)]; exact c5
  have p5 := put_of (j := 5) (v := .ref X2.1) c6 (by simp)
  have fin : f_X7_init (g_add h (.inr (7, g_dfl 7))) h.1 = some (g_set Y2 h.1 (.inr (7, List.set [.ref (h.1 + 1), .int 0, .int (-1), .ref X0.1, .ref X1.1, .null] 5 (.ref X2.1)))) := by
    have e0 : ext h [.inr (7, [.ref (ext h [.inr (7, [.null, .int 0, .int 0, .null, .null, .null])]).1, .int 0, .int (-1), .null, .null, .null]), .inl (1, 500, .inl fun _ => 0)] = X0 := by rw [← hX0]; rfl
    rw [dfl7, ext_one]
    unfold f_X7_init
    rw [ext_mk, Option.bind_some, List.cons_append, List.nil_append, ext_put _ _ _ _ _ _ (by simp), Option.bind_some, ext_put _ _ _ _ _ _ (by simp), Option.bind_some, ext_put _ _ _ _ _ _ (by simp), Option.bind_some]
    simp only [List.set]
    rw [e0]
    unfold g_mk
    rw [Option.bind_some, y1, Option.bind_some, p3, Option.bind_some, Option.bind_some, u1, Option.bind_some, p4, Option.bind_some, Option.bind_some, v1, Option.bind_some, p5, Option.bind_some]
    rfl
  refine ⟨_, fin, ?_, fun j hj => ?_, fun q hq => ?_⟩
  · show Y2.1 = _
    rw [w1]; omega
  · unfold fC
    by_cases j0 : j = 0
    · subst j0
      rw [if_pos rfl]
      refine Eq.trans (b := some (.inr (7, [.ref (h.1 + 1), .int 0, .int (-1), .ref X0.1, .ref X1.1, .ref X2.1]))) ?_ ?_
      · exact set_at
      · rw [z1, z2, z3]
        rfl
    · rw [if_neg j0, set_ne (by omega)]
      by_cases j1 : j = 1
      · rw [if_pos j1, j1, w5 _ (by omega), o2 _ (by omega), u4 _ (by omega), o1 _ (by omega), y4 _ (by omega), c1]
        rfl
      · rw [if_neg j1]
        by_cases j2 : j < 63
        · rw [if_pos j2, w5 _ (by omega), o2 _ (by omega), u4 _ (by omega), o1 _ (by omega)]
          have := y3 (j - 2) (by omega)
          rw [z1, show h.1 + 2 + (j - 2) = h.1 + j by omega] at this
          exact this
        · rw [if_neg j2]
          by_cases j3 : j < 124
          · rw [if_pos j3, w5 _ (by omega), o2 _ (by omega)]
            have := u3 (j - 63) (by omega)
            rw [z2, show h.1 + 63 + (j - 63) = h.1 + j by omega] at this
            exact this
          · rw [if_neg j3]
            by_cases j4 : j = 124
            · rw [if_pos j4, j4]
              rw [z3] at w2
              exact w2
            · rw [if_neg j4]
              by_cases j5 : j = 125
              · rw [if_pos j5, j5]
                rw [z3] at w3
                have er : ringG (h.1 + 124) 8 = fun i => if i < 8 then some (h.1 + 126 + 61 * i) else none := funext fun i => by rw [ringG_at]
                rw [er] at w3
                exact w3
              · rw [if_neg j5]
                have := w4 ((j - 126) / 61) (by omega) ((j - 126) % 61) (Nat.mod_lt _ (by decide))
                rw [z3, show h.1 + 124 + 2 + 61 * ((j - 126) / 61) = h.1 + 126 + 61 * ((j - 126) / 61) by omega, show h.1 + 126 + 61 * ((j - 126) / 61) + (j - 126) % 61 = h.1 + j by omega] at this
                exact this
  · rw [set_ne (by omega)]
    have e2 : Y2.2 q = X2.2 q := by
      rcases hq with hq | hq
      · exact w5 q (by omega)
      · exact w6 q (by omega)
    rw [e2, o2 _ (by omega), u4 _ (by omega), o1 _ (by omega), y4 _ (by omega), ← hX0]
    exact ext_out h _ (by
      show q < h.1 ∨ h.1 + 2 ≤ q
      omega)
