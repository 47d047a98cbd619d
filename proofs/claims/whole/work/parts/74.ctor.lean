def cs6 (w : Nat) : List gC := cs3 (w + 2) ++ cs0 (w + 7) ++ cs0 (w + 9) ++ cs2 (w + 11) ++ cs2 (w + 14) ++ cs4 (w + 17)
def rst (w : Nat) : Nat → List gC
  | 0 => cs6 w
  | n + 1 => rst w n ++ cs3 (w + 21 + 5 * n)
theorem rst_len (w : Nat) : ∀ n, (rst w n).length = 19 + 5 * n
  | 0 => rfl
  | n + 1 => by
    show (rst w n ++ cs3 (w + 21 + 5 * n)).length = _
    rw [List.length_append, rst_len w n]
    rfl
def ringF (w : Nat) : Nat → Nat → Option Nat
  | 0 => fun _ => none
  | n + 1 => va_up (ringF w n) n (some (w + 21 + 5 * n))
def fs6 (w : Nat) : List Value := [.int 0, .int 0, .int 0, .int 0, .int 0, .int 0, .int 0, .int 0, .int 0, .ref (w + 1), .ref (w + 2), .ref (w + 7), .ref (w + 9), .ref (w + 11), .ref (w + 14), .ref (w + 17)]
def b6 (h : gH) (n : Nat) : gH := ext h (.inr (6, fs6 h.1) :: aQ (ringF h.1 n) :: rst h.1 n)
theorem it6b (h : gH) {n : Nat} (c : Int32) (hc : c < nI 8) (hk : g_ix c 8 = some n) (K : gH → Option gH) : ((g_gA (b6 h n) h.1 6 9).bind fun v83 => (g_aln (b6 h n) v83).bind fun v86 => (if c < v86 then (g_gA (b6 h n) h.1 6 9).bind fun v91 => (g_mk (b6 h n) (.inr (3, g_dfl 3))).bind fun h95 => (f_X3_init h95 (b6 h n).1).bind fun h99 => bif g_is h99 (b6 h n).1 3 then (g_qst h99 v91 4 c (b6 h n).1).bind K else none else none)) = K (b6 h (n + 1)) := by
  have q := it6 h (fs6 h.1) (ringF h.1 n) (rst h.1 n) c n rfl hc hk K
  rw [rst_len, show h.1 + (19 + 5 * n + 2) = h.1 + 21 + 5 * n by omega] at q
  exact q
theorem x6_pre (h : gH) (K : gH → Option gH) : ((g_mk (g_add h (.inr (6, g_dfl 6))) (.inl (4, 8, .inr (.inr (.inr (.inr (fun _ => none))))))).bind fun h7 =>
  (g_put h7 h.1 6 9 (.ref (g_add h (.inr (6, g_dfl 6))).1)).bind fun h10 =>
  (g_mk h10 (.inr (3, g_dfl 3))).bind fun h14 =>
  (f_X3_init h14 h10.1).bind fun h18 =>
  (g_put h18 h.1 6 10 (.ref h10.1)).bind fun h21 =>
  (g_mk h21 (.inr (0, g_dfl 0))).bind fun h25 =>
  (f_X0_init h25 h21.1).bind fun h29 =>
  (g_put h29 h.1 6 11 (.ref h21.1)).bind fun h32 =>
  (g_mk h32 (.inr (0, g_dfl 0))).bind fun h36 =>
  (f_X0_init h36 h32.1).bind fun h40 =>
  (g_put h40 h.1 6 12 (.ref h32.1)).bind fun h43 =>
  (g_mk h43 (.inr (2, g_dfl 2))).bind fun h47 =>
  (f_X2_init h47 h43.1).bind fun h51 =>
  (g_put h51 h.1 6 13 (.ref h43.1)).bind fun h54 =>
  (g_mk h54 (.inr (2, g_dfl 2))).bind fun h58 =>
  (f_X2_init h58 h54.1).bind fun h62 =>
  (g_put h62 h.1 6 14 (.ref h54.1)).bind fun h65 =>
  (g_mk h65 (.inr (4, g_dfl 4))).bind fun h69 =>
  (f_X4_init h69 h65.1).bind fun h73 =>
  (g_put h73 h.1 6 15 (.ref h65.1)).bind K) = K (b6 h 0) := by
  rw [dfl6, ext_one, ext_mk, Option.bind_some, List.cons_append, List.nil_append,
    ext_put _ _ _ _ _ _ (by simp), Option.bind_some, nx3, ext_ext, List.cons_append, ext_put _ _ _ _ _ _ (by simp), Option.bind_some,
    nx0, ext_ext, List.cons_append, ext_put _ _ _ _ _ _ (by simp), Option.bind_some,
    nx0, ext_ext, List.cons_append, ext_put _ _ _ _ _ _ (by simp), Option.bind_some,
    nx2, ext_ext, List.cons_append, ext_put _ _ _ _ _ _ (by simp), Option.bind_some,
    nx2, ext_ext, List.cons_append, ext_put _ _ _ _ _ _ (by simp), Option.bind_some,
    nx4, ext_ext, List.cons_append, ext_put _ _ _ _ _ _ (by simp), Option.bind_some]
  rfl
theorem x6_c (h : gH) : f_X6_init (g_add h (.inr (6, g_dfl 6))) h.1 = (f_X6_clear (b6 h 8) h.1 4 3).bind fun h112 => some h112 := by
  unfold f_X6_init
  rw [x6_pre]
  rw [it6b h _ (by decide) (by decide)]
  rw [it6b h _ (by decide) (by decide)]
  rw [it6b h _ (by decide) (by decide)]
  rw [it6b h _ (by decide) (by decide)]
  rw [it6b h _ (by decide) (by decide)]
  rw [it6b h _ (by decide) (by decide)]
  rw [it6b h _ (by decide) (by decide)]
  rw [it6b h _ (by decide) (by decide)]
  have e1 : g_gA (b6 h 8) h.1 6 9 = some (h.1 + 1) := ext_gA0 h _ 6 9 _ _ rfl
  have e2 : g_aln (b6 h 8) (h.1 + 1) = some (nI 8) := ext_aln1 h _ _ _
  have e3 : g_is (b6 h 8) h.1 6 = true := ext_is0 h _ _ _
  rw [e1, Option.bind_some, e2, Option.bind_some, if_neg (by decide), e3, cond_true]
