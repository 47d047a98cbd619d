/-! one row more; one talk more -/
theorem isA_of {h : gH} {a n : Nat} {g : Nat → Int32} (e : h.2 a = some (.inl (0, n, .inl g))) : g_isA h a 0 = true := by
  unfold g_isA
  rw [e]
  rfl
section WITH
variable {G : gG} {h : gH} {ra row n : Nat} {f : Nat → Nat} {g : Nat → Nat → Int32} {m : Nat} {gr : Nat → Int32}
def oneMore (n : Nat) (f : Nat → Nat) (row : Nat) : Nat → Nat := fun i => if i < n then f i else row
theorem with_l (e1 : h.2 ra = some (rfs 3 n f)) (l1 : ra < h.1) (e2 : ∀ k, k < n → h.2 (f k) = some (.inl (0, 3, .inl (g k))) ∧ f k < h.1) (e3 : h.2 row = some (.inl (0, 3, .inl gr))) (l3 : row < h.1) (hn : n < 100) : ∀ (d k fuel : Nat), k + d = n → d < fuel → f_L_with_b10 G fuel (ext h [rwQ 3 (n + 1) k (oneMore n f row)]) ra row h.1 (nI k) = some (h.1, ext h [rfs 3 (n + 1) (oneMore n f row)]) := by
  have er : ∀ cs, (ext h cs).2 ra = some (rfs 3 n f) := fun cs => (ext_out h cs (Or.inl l1)).trans e1
  have eo : ∀ cs, (ext h cs).2 row = some (.inl (0, 3, .inl gr)) := fun cs => (ext_out h cs (Or.inl l3)).trans e3
  have st : ∀ k v, k < n + 1 → oneMore n f row k = v → g_qst (ext h [rwQ 3 (n + 1) k (oneMore n f row)]) h.1 3 (nI k) v = some (ext h [rwQ 3 (n + 1) (k + 1) (oneMore n f row)]) := fun k v hk hv => by
    have q : (ext h [rwQ 3 (n + 1) k (oneMore n f row)]).2 h.1 = some (rwQ 3 (n + 1) k (oneMore n f row)) := ext_in h [rwQ 3 (n + 1) k (oneMore n f row)] (j := 0) (by simp)
    rw [rwQ_s q hk (by omega) hv]
    exact congrArg some (ext_set h _ 0 _ (by simp))
  intro d
  induction d with
  | zero =>
    intro k fuel hk hf
    obtain ⟨fu, rfl⟩ := Nat.exists_eq_succ_of_ne_zero (Nat.ne_of_gt hf)
    have : k = n := by omega
    subst this
    rw [f_L_with_b10, rfs_n (er _), Option.bind_some, if_neg (nI_nlt (Nat.le_refl k) (show k < 2 ^ 31 by omega)), Option.bind_some, isA_of (eo _), cond_true, st k row (by omega) (if_neg (Nat.lt_irrefl k)), Option.bind_some]
    rfl
  | succ d ih =>
    intro k fuel hk hf
    obtain ⟨fu, rfl⟩ := Nat.exists_eq_succ_of_ne_zero (Nat.ne_of_gt (Nat.zero_lt_of_lt hf))
    have hk2 : k < n := by omega
    obtain ⟨x1, x2⟩ := e2 k hk2
    have ef : ∀ cs, (ext h cs).2 (f k) = some (.inl (0, 3, .inl (g k))) := fun cs => (ext_out h cs (Or.inl x2)).trans x1
    rw [f_L_with_b10, rfs_n (er _), Option.bind_some, if_pos (nI_lt hk2 (show n < 2 ^ 31 by omega)), rfs_l (er _) hk2 (by omega), Option.bind_some, Option.bind_some, isA_of (ef _), cond_true, st k (f k) (by omega) (if_pos hk2), Option.bind_some, ← nI_succ]
    exact ih (k + 1) fu (by omega) (by omega)
theorem with_c (e1 : h.2 ra = some (rfs 3 n f)) (l1 : ra < h.1) (e2 : ∀ k, k < n → h.2 (f k) = some (.inl (0, 3, .inl (g k))) ∧ f k < h.1) (e3 : h.2 row = some (.inl (0, 3, .inl gr))) (l3 : row < h.1) (hn : n < 20) : f_L_with G h ra row = some (h.1, ext h [rfs 3 (n + 1) (oneMore n f row)]) := by
  have q := with_l (G := G) e1 l1 e2 e3 l3 (by omega) n 0 g_N (by omega) (by unfold g_N; omega)
  rw [nI_0] at q
  have nn : nI n + 1 = nI (n + 1) := (nI_succ n).symm
  unfold f_L_with
  rw [rfs_n e1, Option.bind_some, nn, nwQ_of h 3 (show n + 1 ≤ 20 by omega) (by decide), rwQ_0 3 (n + 1) (oneMore n f row), Option.bind_some, ext_one]
  exact q
end WITH
section ADDS
variable {G : gG} {h : gH} {S : RS} {D : Nat → Int32} {n0 n z m x : Nat} {s u : Int32} {gx : Nat → Int32}
def lgK (n k : Nat) : gC := .inl (0, n, .inl fun i => if i < k then -1 else 0)
theorem lgK_s {X : gH} {a n k : Nat} (e : X.2 a = some (lgK n k)) (hk : k < n) (hn : n < 2 ^ 31) : g_ast X a (nI k) (-1) = some (g_set X a (lgK n (k + 1))) := by
  rw [ast_of e hk hn]
  unfold lgK
  have : upd (fun i => if i < k then (-1 : Int32) else 0) k (-1) = fun i => if i < k + 1 then -1 else 0 := funext fun i => by
    by_cases c : i = k
    · subst c; rw [upd_at, if_pos (by omega)]
    · rw [upd_ne c]
      show (if i < k then (-1 : Int32) else 0) = _
      by_cases c2 : i < k
      · rw [if_pos c2, if_pos (by omega)]
      · rw [if_neg c2, if_neg (by omega)]
  rw [this]
theorem a41_l (eB : h.2 S.B = some (lnO S D)) (lB : S.B < h.1) (e8 : D 8 = nI z) (z1 : 1 ≤ z) (z8 : z ≤ 8) (tx : ∀ cs, txt G (ext h cs) x n gx) (hn : n ≤ 16) (hm : (n + z - 1) / z ≤ 16) : ∀ (d k fuel : Nat), k + d = n → d < fuel → f_X10_adds_b41 G fuel (ext h [tkC s u x (h.1 + 3) (h.1 + 2) 0 (-1) (-1), zI 0, rwQ 6 0 0 (fun _ => 0), lgK n k]) S.B x h.1 (nI k) = f_X10_adds_b94 G 17 (ext h [tkC s u x (h.1 + 3) (h.1 + 4) 0 (-1) (-1), zI 0, rwQ 6 0 0 (fun _ => 0), lgK n n, rwQ 6 ((n + z - 1) / z) 0 (fun i => h.1 + (5 + i))]) S.B h.1 0 := by
  have gl : ∀ k, g_gA (ext h [tkC s u x (h.1 + 3) (h.1 + 2) 0 (-1) (-1), zI 0, rwQ 6 0 0 (fun _ => 0), lgK n k]) h.1 12 3 = some (h.1 + 3) := fun k => ext_gA0 h _ 12 3 (h.1 + 3) _ rfl
  have el : ∀ k, (ext h [tkC s u x (h.1 + 3) (h.1 + 2) 0 (-1) (-1), zI 0, rwQ 6 0 0 (fun _ => 0), lgK n k]).2 (h.1 + 3) = some (lgK n k) := fun k => ext_in h _ (j := 3) (by simp)
  have eB' : ∀ cs, (ext h cs).2 S.B = some (lnO S D) := fun cs => (ext_out h cs (Or.inl lB)).trans eB
  have g4 : ∀ cs, g_gI (ext h cs) S.B 10 4 = some (D 8) := fun cs => gI_of (eB' cs) rfl
  intro d
  induction d with
  | zero =>
    intro k fuel hk hf
    obtain ⟨fu, rfl⟩ := Nat.exists_eq_succ_of_ne_zero (Nat.ne_of_gt hf)
    have : k = n := by omega
    subst this
    have nz : ¬ nI z = 0 := nI_ne0 (by omega) (by omega)
    have ev : (nI k + nI z - 1) / nI z = nI ((k + z - 1) / z) := by
      rw [nI_add, e1n, nI_sub (by omega), nI_div (by omega) (by omega) (by omega)]
    rw [f_X10_adds_b41, gl, Option.bind_some, aln_of (el k), Option.bind_some, if_neg (nI_nlt (Nat.le_refl k) (show k < 2 ^ 31 by omega)), (tx _).isS, cond_true, length_t (tx _), Option.bind_some, g4, Option.bind_some, Option.bind_some, e8, if_neg nz, ev, nwQ_of _ 6 hm (by decide), Option.bind_some, ext_add, rwQ_0 6 _ (fun i => h.1 + (5 + i))]
    unfold tkC
    simp only [List.cons_append, List.nil_append]
    rw [ext_put _ _ _ _ _ _ (by simp), Option.bind_some]
    rfl
  | succ d ih =>
    intro k fuel hk hf
    obtain ⟨fu, rfl⟩ := Nat.exists_eq_succ_of_ne_zero (Nat.ne_of_gt (Nat.zero_lt_of_lt hf))
    have hk2 : k < n := by omega
    rw [f_X10_adds_b41, gl, Option.bind_some, aln_of (el k), Option.bind_some, if_pos (nI_lt hk2 (show n < 2 ^ 31 by omega)), Option.bind_some, lgK_s (el k) hk2 (by omega), Option.bind_some, ext_set h _ 3 _ (by simp), ← nI_succ]
    exact ih (k + 1) fu (by omega) (by omega)
theorem a94_l {tk lg : gC} {gf : List Value} (htk : tk = .inr (12, gf)) (hgf : gf[4]? = some (.ref (h.1 + 4))) (eB : h.2 S.B = some (lnO S D)) (lB : S.B < h.1) (eT : h.2 S.TA = some (rfs 8 n0 S.t)) (lT : S.TA < h.1) (hn0 : n0 < 8) (hm : m ≤ 16) (T' : Nat → Nat) : ∀ (d k fuel : Nat), k + d = m → d < fuel → f_X10_adds_b94 G fuel (ext h (tk :: zI 0 :: rwQ 6 0 0 (fun _ => 0) :: lg :: rwQ 6 m k (fun i => h.1 + (5 + i)) :: frs (fun _ => 0) (fun _ => 0) k)) S.B h.1 (nI k) = f_X10_adds_b141 G g_N (ext h ((tk :: zI 0 :: rwQ 6 0 0 (fun _ => 0) :: lg :: rwQ 6 m m (fun i => h.1 + (5 + i)) :: frs (fun _ => 0) (fun _ => 0) m) ++ [rwQ 8 (n0 + 1) 0 T'])) S.B h.1 (h.1 + (5 + m)) 0 := by
  subst htk
  have eB' : ∀ cs, (ext h cs).2 S.B = some (lnO S D) := fun cs => (ext_out h cs (Or.inl lB)).trans eB
  have eT' : ∀ cs, (ext h cs).2 S.TA = some (rfs 8 n0 S.t) := fun cs => (ext_out h cs (Or.inl lT)).trans eT
  have gT : ∀ cs, g_gA (ext h cs) S.B 10 1 = some S.TA := fun cs => gA_of (eB' cs) rfl
  intro d
  induction d with
  | zero =>
    intro k fuel hk hf
    obtain ⟨fu, rfl⟩ := Nat.exists_eq_succ_of_ne_zero (Nat.ne_of_gt hf)
    have : k = m := by omega
    subst this
    have gl : g_gA (ext h (.inr (12, gf) :: zI 0 :: rwQ 6 0 0 (fun _ => 0) :: lg :: rwQ 6 k k (fun i => h.1 + (5 + i)) :: frs (fun _ => 0) (fun _ => 0) k)) h.1 12 4 = some (h.1 + 4) := ext_gA0 h _ 12 4 (h.1 + 4) _ hgf
    have row : (ext h (.inr (12, gf) :: zI 0 :: rwQ 6 0 0 (fun _ => 0) :: lg :: rwQ 6 k k (fun i => h.1 + (5 + i)) :: frs (fun _ => 0) (fun _ => 0) k)).2 (h.1 + 4) = some (rwQ 6 k k (fun i => h.1 + (5 + i))) := ext_in h _ (j := 4) (by simp)
    have nn : nI n0 + 1 = nI (n0 + 1) := (nI_succ n0).symm
    have len : (ext h (.inr (12, gf) :: zI 0 :: rwQ 6 0 0 (fun _ => 0) :: lg :: rwQ 6 k k (fun i => h.1 + (5 + i)) :: frs (fun _ => 0) (fun _ => 0) k)).1 = h.1 + (5 + k) := by
      rw [ext_fst]
      simp only [List.length_cons, frs_len]; omega
    rw [f_X10_adds_b94, gl, Option.bind_some, rwQ_l row, Option.bind_some, if_neg (nI_nlt (Nat.le_refl k) (show k < 2 ^ 31 by omega)), gT, Option.bind_some, rfs_n (eT' _), Option.bind_some, nn, nwQ_of _ 8 (show n0 + 1 ≤ 9 by omega) (by decide), Option.bind_some, ext_add, rwQ_0 8 (n0 + 1) T', len]
  | succ d ih =>
    intro k fuel hk hf
    obtain ⟨fu, rfl⟩ := Nat.exists_eq_succ_of_ne_zero (Nat.ne_of_gt (Nat.zero_lt_of_lt hf))
    have hk2 : k < m := by omega
    have gl : g_gA (ext h (.inr (12, gf) :: zI 0 :: rwQ 6 0 0 (fun _ => 0) :: lg :: rwQ 6 m k (fun i => h.1 + (5 + i)) :: frs (fun _ => 0) (fun _ => 0) k)) h.1 12 4 = some (h.1 + 4) := ext_gA0 h _ 12 4 (h.1 + 4) _ hgf
    generalize hcs : (.inr (12, gf) :: zI 0 :: rwQ 6 0 0 (fun _ => 0) :: lg :: rwQ 6 m k (fun i => h.1 + (5 + i)) :: frs (fun _ => 0) (fun _ => 0) k : List gC) = cs at gl
    have len : cs.length = 5 + k := by
      rw [← hcs]; simp only [List.length_cons, frs_len]; omega
    have nx : (ext h cs).1 = h.1 + (5 + k) := by rw [ext_fst, len]
    have row0 : (ext h cs).2 (h.1 + 4) = some (rwQ 6 m k (fun i => h.1 + (5 + i))) := (ext_in h _ (by omega)).trans (by rw [← hcs]; rfl)
    have len2 : (cs ++ [frC 0 0]).length = 5 + (k + 1) := by rw [List.length_append, len]; rfl
    have mk : g_mk (ext h cs) (.inr (8, g_dfl 8)) = some (ext h (cs ++ [frC 0 0])) := by
      unfold g_mk
      rw [dfl8, ext_add]; rfl
    have isF : g_is (ext h (cs ++ [frC 0 0])) (h.1 + (5 + k)) 8 = true := is_of ((ext_in h _ (by omega)).trans (by rw [List.getElem?_append_right (by omega), len, Nat.sub_self]; rfl))
    have row : (ext h (cs ++ [frC 0 0])).2 (h.1 + 4) = some (rwQ 6 m k (fun i => h.1 + (5 + i))) := (ext_in h _ (by omega)).trans (by rw [List.getElem?_append_left (by omega), ← hcs]; rfl)
    have qs := rwQ_s row hk2 (show m < 2 ^ 31 by omega) (v := h.1 + (5 + k)) rfl
    rw [ext_set h _ 4 _ (by omega)] at qs
    have fi : ∀ X a, f_X8_init G X a = some X := fun X a => rfl
    rw [f_X10_adds_b94, gl, Option.bind_some, rwQ_l row0, Option.bind_some, if_pos (nI_lt hk2 (show m < 2 ^ 31 by omega)), Option.bind_some, mk, Option.bind_some, fi, Option.bind_some, nx, isF, cond_true, qs, Option.bind_some, ← nI_succ]
    have fin : (cs ++ [frC 0 0]).set 4 (rwQ 6 m (k + 1) (fun i => h.1 + (5 + i))) = (.inr (12, gf) :: zI 0 :: rwQ 6 0 0 (fun _ => 0) :: lg :: rwQ 6 m (k + 1) (fun i => h.1 + (5 + i)) :: frs (fun _ => 0) (fun _ => 0) (k + 1) : List gC) := by
      rw [← hcs, frs_s]
      rfl
    rw [fin]
    exact ih (k + 1) fu (by omega) (by omega)
theorem a141_l {cs : List gC} {gf : List Value} (h0 : cs[0]? = some (.inr (12, gf))) (eB : h.2 S.B = some (lnO S D)) (lB : S.B < h.1) (eT : h.2 S.TA = some (rfs 8 n0 S.t)) (lT : S.TA < h.1) (et : ∀ i, i < n0 → (∃ fs, h.2 (S.t i) = some (.inr (12, fs))) ∧ S.t i < h.1) (hn0 : n0 < 8) : ∀ (d k fuel : Nat), k + d = n0 → d < fuel → f_X10_adds_b141 G fuel (ext h (cs ++ [rwQ 8 (n0 + 1) k (oneMore n0 S.t h.1)])) S.B h.1 (h.1 + cs.length) (nI k) = some (g_set (ext h (cs ++ [rfs 8 (n0 + 1) (oneMore n0 S.t h.1)])) S.B (.inr (10, [.ref (S.B + 1), .ref (h.1 + cs.length), .ref S.KA, .ref S.MA, .int (D 8), .int (D 9), .int (D 0), .int (D 2), .int (D 3), .int (D 4), .int (D 5), .int (D 6)]))) := by
  have eB' : ∀ cs, (ext h cs).2 S.B = some (lnO S D) := fun cs => (ext_out h cs (Or.inl lB)).trans eB
  have eT' : ∀ cs, (ext h cs).2 S.TA = some (rfs 8 n0 S.t) := fun cs => (ext_out h cs (Or.inl lT)).trans eT
  have gT : ∀ cs, g_gA (ext h cs) S.B 10 1 = some S.TA := fun cs => gA_of (eB' cs) rfl
  have c0 : 0 < cs.length := by
    rcases Nat.lt_or_ge 0 cs.length with z | z
    · exact z
    · rw [List.getElem?_eq_none z] at h0; exact nomatch h0
  have iT : ∀ k, g_is (ext h (cs ++ [rwQ 8 (n0 + 1) k (oneMore n0 S.t h.1)])) h.1 12 = true := fun k => is_of ((ext_in h (cs ++ [rwQ 8 (n0 + 1) k (oneMore n0 S.t h.1)]) (j := 0) (by rw [List.length_append]; omega)).trans (by rw [List.getElem?_append_left c0]; exact h0))
  have st : ∀ k v, k < n0 + 1 → oneMore n0 S.t h.1 k = v → g_qst (ext h (cs ++ [rwQ 8 (n0 + 1) k (oneMore n0 S.t h.1)])) (h.1 + cs.length) 8 (nI k) v = some (ext h (cs ++ [rwQ 8 (n0 + 1) (k + 1) (oneMore n0 S.t h.1)])) := fun k v hk hv => by
    rw [rwQ_s ((ext_in h _ (by rw [List.length_append]; exact Nat.lt_succ_self _)).trans (by rw [List.getElem?_append_right (Nat.le_refl _), Nat.sub_self]; rfl)) hk (by omega) hv, ext_set h _ cs.length _ (by rw [List.length_append]; exact Nat.lt_succ_self _), List.set_append_right _ _ (Nat.le_refl _), Nat.sub_self]
    rfl
  intro d
  induction d with
  | zero =>
    intro k fuel hk hf
    obtain ⟨fu, rfl⟩ := Nat.exists_eq_succ_of_ne_zero (Nat.ne_of_gt hf)
    have : k = n0 := by omega
    subst this
    rw [f_X10_adds_b141, gT, Option.bind_some, rfs_n (eT' _), Option.bind_some, if_neg (nI_nlt (Nat.le_refl k) (show k < 2 ^ 31 by omega)), Option.bind_some, rfs_n (eT' _), Option.bind_some, iT, cond_true, st k h.1 (by omega) (if_neg (Nat.lt_irrefl k)), Option.bind_some, put_of (eB' _) (Nat.le_of_ble_eq_true rfl), Option.bind_some]
    rfl
  | succ d ih =>
    intro k fuel hk hf
    obtain ⟨fu, rfl⟩ := Nat.exists_eq_succ_of_ne_zero (Nat.ne_of_gt (Nat.zero_lt_of_lt hf))
    have hk2 : k < n0 := by omega
    obtain ⟨⟨fs, x1⟩, x2⟩ := et k hk2
    have ik : ∀ cs, g_is (ext h cs) (S.t k) 12 = true := fun cs => is_of ((ext_out h cs (Or.inl x2)).trans x1)
    rw [f_X10_adds_b141, gT, Option.bind_some, rfs_n (eT' _), Option.bind_some, if_pos (nI_lt hk2 (show n0 < 2 ^ 31 by omega)), Option.bind_some, rfs_l (eT' _) hk2 (by omega), Option.bind_some, Option.bind_some, ik, cond_true, st k (S.t k) (by omega) (if_pos hk2), Option.bind_some, ← nI_succ]
    exact ih (k + 1) fu (by omega) (by omega)
/-- the cells of a new talk -/
def adC (B : Nat) (s u : Int32) (x n m : Nat) : List gC := tkC s u x (B + 3) (B + 4) 0 (-1) (-1) :: zI 0 :: rwQ 6 0 0 (fun _ => 0) :: lgK n n :: rwQ 6 m m (fun i => B + (5 + i)) :: frs (fun _ => 0) (fun _ => 0) m
theorem adC_len (B : Nat) (s u : Int32) (x n m : Nat) : (adC B s u x n m).length = 5 + m := by
  unfold adC
  simp only [List.length_cons, frs_len]; omega
def hAd (h : gH) (S : RS) (D : Nat → Int32) (s u : Int32) (x n m n0 : Nat) : gH := g_set (ext h (adC h.1 s u x n m ++ [rfs 8 (n0 + 1) (oneMore n0 S.t h.1)])) S.B (.inr (10, [.ref (S.B + 1), .ref (h.1 + (5 + m)), .ref S.KA, .ref S.MA, .int (D 8), .int (D 9), .int (D 0), .int (D 2), .int (D 3), .int (D 4), .int (D 5), .int (D 6)]))
theorem adds_c (eB : h.2 S.B = some (lnO S D)) (lB : S.B < h.1) (e8 : D 8 = nI z) (z1 : 1 ≤ z) (z8 : z ≤ 8) (eT : h.2 S.TA = some (rfs 8 n0 S.t)) (lT : S.TA < h.1) (et : ∀ i, i < n0 → (∃ fs, h.2 (S.t i) = some (.inr (12, fs))) ∧ S.t i < h.1) (hn0 : n0 < 8) (tx : ∀ cs, txt G (ext h cs) x n gx) (hn : n ≤ 16) (n1 : 1 ≤ n) : f_X10_adds G h S.B s u x = some (hAd h S D s u x n ((n + z - 1) / z) n0) := by
  have hm : (n + z - 1) / z ≤ 16 := Nat.le_trans (fr_le z1 n1) hn
  have l1 := a41_l (G := G) (s := s) (u := u) eB lB e8 z1 z8 tx hn hm n 0 g_N (by omega) (by unfold g_N; omega)
  have l2 := a94_l (G := G) (tk := tkC s u x (h.1 + 3) (h.1 + 4) 0 (-1) (-1)) (lg := lgK n n) (m := (n + z - 1) / z) rfl rfl eB lB eT lT hn0 hm (oneMore n0 S.t h.1) ((n + z - 1) / z) 0 17 (by omega) (by omega)
  have l3 := a141_l (G := G) (cs := adC h.1 s u x n ((n + z - 1) / z)) (h := h) (S := S) (D := D) rfl eB lB eT lT et hn0 n0 0 g_N (by omega) (by unfold g_N; omega)
  rw [nI_0] at l1 l2 l3
  rw [adC_len] at l3
  have zz : zI n = lgK n 0 := by
    unfold zI lgK
    refine congrArg (fun g => (.inl (0, n, .inl g) : gC)) (funext fun i => ?_)
    rw [if_neg (Nat.not_lt_zero i)]
  unfold f_X10_adds g_mk
  rw [Option.bind_some, x12_c, Option.bind_some, ext_put _ _ _ _ _ _ (by simp), Option.bind_some, ext_put _ _ _ _ _ _ (by simp), Option.bind_some, ext_put _ _ _ _ _ _ (by simp), Option.bind_some, (tx _).isS, cond_true, length_t (tx _), Option.bind_some, nwI_of _ hn (by decide), Option.bind_some, ext_add, List.cons_append, ext_put _ _ _ _ _ _ (by simp), Option.bind_some]
  have e1 : (g_add h (.inr (12, g_dfl 12))).1 = h.1 + 1 := rfl
  rw [show (.inl (0, n, .inl fun _ => 0) : gC) = lgK n 0 from zz]
  exact l1.trans (l2.trans l3)
end ADDS
