/-! cells that are laid one behind another (rows of whole's 73), and the rows that make them -/
def ext (h : gH) (cs : List gC) : gH := (h.1 + cs.length, fun q => if h.1 ≤ q ∧ q < h.1 + cs.length then cs[q - h.1]? else h.2 q)
theorem ext_fst (h : gH) (cs : List gC) : (ext h cs).1 = h.1 + cs.length := rfl
theorem ext_in (h : gH) (cs : List gC) {j : Nat} (hj : j < cs.length) : (ext h cs).2 (h.1 + j) = cs[j]? := by
  show (if h.1 ≤ h.1 + j ∧ h.1 + j < h.1 + cs.length then cs[h.1 + j - h.1]? else _) = _
  rw [if_pos ⟨by omega, by omega⟩, Nat.add_sub_cancel_left]
theorem ext_out (h : gH) (cs : List gC) {q : Nat} (hq : q < h.1 ∨ h.1 + cs.length ≤ q) : (ext h cs).2 q = h.2 q := by
  show (if h.1 ≤ q ∧ q < h.1 + cs.length then _ else _) = _
  rw [if_neg (by omega)]
theorem ext_one (h : gH) (c : gC) : g_add h c = ext h [c] := by
  refine Prod.ext rfl (funext fun q => ?_)
  by_cases e : q = h.1
  · subst e
    rw [add_at]
    exact (ext_in h [c] (j := 0) (by simp)).symm
  · rw [gadd_ne e, ext_out h [c] (by show q < h.1 ∨ h.1 + 1 ≤ q; omega)]
theorem ext_ext (h : gH) (cs ds : List gC) : ext (ext h cs) ds = ext h (cs ++ ds) := by
  refine Prod.ext ?_ (funext fun q => ?_)
  · show h.1 + cs.length + ds.length = h.1 + (cs ++ ds).length
    rw [List.length_append]; omega
  · by_cases c1 : h.1 ≤ q ∧ q < h.1 + cs.length
    · obtain ⟨j, rfl⟩ := Nat.exists_eq_add_of_le c1.1
      rw [ext_out (ext h cs) ds (by left; rw [ext_fst]; omega), ext_in h cs (by omega), ext_in h (cs ++ ds) (by rw [List.length_append]; omega), List.getElem?_append_left (by omega)]
    · by_cases c2 : h.1 + cs.length ≤ q ∧ q < h.1 + cs.length + ds.length
      · obtain ⟨j, rfl⟩ := Nat.exists_eq_add_of_le c2.1
        have e := ext_in (ext h cs) ds (j := j) (by omega)
        rw [ext_fst] at e
        rw [e, show h.1 + cs.length + j = h.1 + (cs.length + j) by omega, ext_in h (cs ++ ds) (by rw [List.length_append]; omega), List.getElem?_append_right (by omega), Nat.add_sub_cancel_left]
      · rw [ext_out (ext h cs) ds (by rw [ext_fst]; omega), ext_out h cs (by omega), ext_out h (cs ++ ds) (by rw [List.length_append]; omega)]
theorem ext_mk (h : gH) (cs : List gC) (c : gC) : g_mk (ext h cs) c = some (ext h (cs ++ [c])) := by
  unfold g_mk
  rw [ext_one, ext_ext]
theorem ext_put (h : gH) (cs : List gC) (ci i : Nat) (fs : List Value) (v : Value) (hi : i < fs.length) : g_put (ext h (.inr (ci, fs) :: cs)) h.1 ci i v = some (ext h (.inr (ci, fs.set i v) :: cs)) := by
  have e : (ext h (.inr (ci, fs) :: cs)).2 h.1 = some (.inr (ci, fs)) := ext_in h _ (j := 0) (by simp)
  rw [put_of e hi]
  congr 1
  refine Prod.ext rfl (funext fun q => ?_)
  by_cases eq : q = h.1
  · subst eq
    rw [set_at]
    exact (ext_in h (.inr (ci, fs.set i v) :: cs) (j := 0) (by simp)).symm
  · rw [set_ne eq]
    by_cases c : h.1 ≤ q ∧ q < h.1 + (cs.length + 1)
    · obtain ⟨j, rfl⟩ : ∃ j, q = h.1 + (j + 1) := ⟨q - h.1 - 1, by omega⟩
      rw [ext_in h _ (by simp; omega), ext_in h _ (by simp; omega)]
      rfl
    · rw [ext_out h _ (by simp; omega), ext_out h _ (by simp; omega)]
theorem ext_gA0 (h : gH) (cs : List gC) (ci i v : Nat) (fs : List Value) (e : fs[i]? = some (.ref v)) : g_gA (ext h (.inr (ci, fs) :: cs)) h.1 ci i = some v := gA_of (ext_in h _ (j := 0) (by simp)) e
theorem ext_is0 (h : gH) (cs : List gC) (ci : Nat) (fs : List Value) : g_is (ext h (.inr (ci, fs) :: cs)) h.1 ci = true := is_of (ext_in h _ (j := 0) (by simp))
theorem ext_nil (h : gH) : ext h [] = h := by
  refine Prod.ext rfl (funext fun q => ?_)
  exact ext_out h [] (by simp; omega)
theorem ext_add (h : gH) (cs : List gC) (c : gC) : g_add (ext h cs) c = ext h (cs ++ [c]) := by rw [ext_one, ext_ext]
theorem clamp (n : Nat) (h : n < 2 ^ 31) : (nI n).toNatClampNeg = n := nI_clamp h
theorem nwI_of (h : gH) {n B : Nat} (hn : n ≤ B) (hB : B < 2 ^ 31) : g_nwI h (nI n) B = some (g_add h (.inl (0, n, .inl fun _ => 0))) := by
  unfold g_nwI
  rw [nI_clamp (by omega), if_neg (fun z => z.elim (fun z => nI_pos (by omega) z) (fun z => by omega))]
theorem nwB_of (h : gH) {n B : Nat} (hn : n ≤ B) (hB : B < 2 ^ 31) : g_nwB h (nI n) B = some (g_add h (.inl (1, n, .inl fun _ => 0))) := by
  unfold g_nwB
  rw [nI_clamp (by omega), if_neg (fun z => z.elim (fun z => nI_pos (by omega) z) (fun z => by omega))]
theorem nwQ_of (h : gH) (t : Nat) {n B : Nat} (hn : n ≤ B) (hB : B < 2 ^ 31) : g_nwQ h t (nI n) B = some (g_add h (.inl (t, n, .inr (.inr (.inr (.inr (fun _ => none))))))) := by
  unfold g_nwQ
  rw [nI_clamp (by omega), if_neg (fun z => z.elim (fun z => nI_pos (by omega) z) (fun z => by omega))]
theorem cln_of {h : gH} {a n B : Nat} {f : Nat → Int32} (e : h.2 a = some (.inl (0, n, .inl f))) (hn : n ≤ B) : g_cln h a B = some (g_add h (.inl (0, n, .inl f))) := by
  unfold g_cln
  rw [aI_of e, Option.bind_some, if_neg (show ¬ B < n by omega)]
/-- a row of references of which the first k are laid -/
def rwQ (t n k : Nat) (f : Nat → Nat) : gC := .inl (t, n, .inr (.inr (.inr (.inr fun i => if i < k then some (f i) else none))))
theorem rwQ_0 (t n : Nat) (f : Nat → Nat) : (.inl (t, n, .inr (.inr (.inr (.inr fun _ => none)))) : gC) = rwQ t n 0 f := by
  unfold rwQ
  have : (fun i => if i < 0 then some (f i) else none) = fun _ : Nat => (none : Option Nat) := funext fun i => if_neg (Nat.not_lt_zero i)
  rw [this]
theorem rwQ_n (t n : Nat) (f : Nat → Nat) : rwQ t n n f = rfs t n f := rfl
theorem rwQ_s {h : gH} {a t n k v : Nat} {f : Nat → Nat} (e : h.2 a = some (rwQ t n k f)) (hk : k < n) (hn : n < 2 ^ 31) (hv : f k = v) : g_qst h a t (nI k) v = some (g_set h a (rwQ t n (k + 1) f)) := by
  rw [qst_of e hk hn]
  unfold rwQ
  have : va_up (fun i => if i < k then some (f i) else none) k (some v) = fun i => if i < k + 1 then some (f i) else none := funext fun i => by
    unfold va_up
    by_cases c : i = k
    · subst c; rw [if_pos rfl, if_pos (by omega), hv]
    · rw [if_neg c]
      show (if i < k then some (f i) else none) = _
      by_cases c2 : i < k
      · rw [if_pos c2, if_pos (by omega)]
      · rw [if_neg c2, if_neg (by omega)]
  rw [this]
theorem rwQ_l {h : gH} {a t n : Nat} {f : Nat → Nat} {k : Nat} (e : h.2 a = some (rwQ t n k f)) (ht : Nat.blt t 10 = true := by rfl) : g_aln h a = some (nI n) := alnQ_of e ht
/-- a cell of a list is written -/
theorem ext_set (h : gH) (cs : List gC) (j : Nat) (c : gC) (hj : j < cs.length) : g_set (ext h cs) (h.1 + j) c = ext h (cs.set j c) := by
  refine Prod.ext (by show h.1 + cs.length = h.1 + (cs.set j c).length; rw [List.length_set]) (funext fun q => ?_)
  by_cases e : q = h.1 + j
  · subst e
    rw [set_at, ext_in h _ (by rw [List.length_set]; exact hj), List.getElem?_set, if_pos rfl, if_pos hj]
  · rw [set_ne e]
    by_cases c2 : h.1 ≤ q ∧ q < h.1 + cs.length
    · obtain ⟨k, rfl⟩ := Nat.exists_eq_add_of_le c2.1
      rw [ext_in h _ (by omega), ext_in h _ (by rw [List.length_set]; omega), List.getElem?_set, if_neg (by omega)]
    · rw [ext_out h _ (by omega), ext_out h _ (by rw [List.length_set]; omega)]
theorem ext_putj (h : gH) (cs : List gC) (j ci i : Nat) (fs : List Value) (v : Value) (e : cs[j]? = some (.inr (ci, fs))) (hi : i < fs.length) : g_put (ext h cs) (h.1 + j) ci i v = some (ext h (cs.set j (.inr (ci, fs.set i v)))) := by
  have hj : j < cs.length := by
    rcases Nat.lt_or_ge j cs.length with z | z
    · exact z
    · rw [List.getElem?_eq_none z] at e; exact nomatch e
  rw [put_of ((ext_in h cs hj).trans e) hi, ext_set h cs j _ hj]
theorem dfl8 : g_dfl 8 = [.int 0, .int 0] := by decide +kernel
theorem dfl9 : g_dfl 9 = [.int 0, .int 0, .int 0, .int 0, .int 0, .int 0, .int 0, .null, .int 0] := by decide +kernel
theorem dfl10 : g_dfl 10 = [.null, .null, .null, .null, .int 0, .int 0, .int 0, .int 0, .int 0, .int 0, .int 0, .int 0] := by decide +kernel
theorem dfl11 : g_dfl 11 = [.int 0] := by decide +kernel
theorem dfl12 : g_dfl 12 = [.int 0, .int 0, .null, .null, .null, .int 0, .int 0, .int 0] := by decide +kernel
/-! a frame's copy -/
def frC (s t : Int32) : gC := .inr (8, [.int s, .int t])
theorem x8_copy (G : gG) {h : gH} {a0 : Nat} {s t : Int32} (e : h.2 a0 = some (frC s t)) (ha : a0 < h.1) : f_X8_copy G h a0 = some (h.1, ext h [frC s t]) := by
  have e' : ∀ cs, (ext h cs).2 a0 = some (frC s t) := fun cs => (ext_out h cs (Or.inl ha)).trans e
  have g0 : ∀ cs, g_gI (ext h cs) a0 8 0 = some s := fun cs => gI_of (e' cs) rfl
  have g1 : ∀ cs, g_gI (ext h cs) a0 8 1 = some t := fun cs => gI_of (e' cs) rfl
  unfold f_X8_copy f_X8_init
  unfold g_mk
  rw [Option.bind_some, Option.bind_some, ext_one, dfl8, g0, Option.bind_some, ext_put _ _ _ _ _ _ (by simp), Option.bind_some, g1, Option.bind_some, ext_put _ _ _ _ _ _ (by simp), Option.bind_some]
  rfl
/-! a lamp, and its copy -/
def lm0 (w : Nat) : gC := .inr (9, [.int 5, .int 0, .int 0, .int (-1), .int (-1), .int 0, .int 0, .ref (w + 1), .int 0])
def zI (n : Nat) : gC := .inl (0, n, .inl fun _ => 0)
theorem e8n : (8 : Int32) = nI 8 := by decide
theorem x9_c (G : gG) (h : gH) : f_X9_init G (g_add h (.inr (9, g_dfl 9))) h.1 = some (ext h [lm0 h.1, zI 8]) := by
  rw [ext_one, dfl9]
  unfold f_X9_init
  rw [ext_put _ _ _ _ _ _ (by simp), Option.bind_some, ext_put _ _ _ _ _ _ (by simp), Option.bind_some, ext_put _ _ _ _ _ _ (by simp), Option.bind_some, e8n, nwI_of _ (Nat.le_refl 8) (by decide), Option.bind_some, ext_add, List.cons_append, ext_put _ _ _ _ _ _ (by simp), Option.bind_some]
  rfl
def lmC (v0 v1 v2 v3 v4 : Int32) (b5 : Bool) (v6 : Int32) (q : Nat) (b8 : Bool) : gC := .inr (9, [.int v0, .int v1, .int v2, .int v3, .int v4, .int (bI b5), .int v6, .ref q, .int (bI b8)])
theorem x9_copy (G : gG) {h : gH} {a0 q : Nat} {v0 v1 v2 v3 v4 v6 : Int32} {b5 b8 : Bool} {f : Nat → Int32} (e : h.2 a0 = some (lmC v0 v1 v2 v3 v4 b5 v6 q b8)) (ha : a0 < h.1) (eq : h.2 q = some (.inl (0, 8, .inl f))) (hq : q < h.1) : f_X9_copy G h a0 = some (h.1, ext h [lmC v0 v1 v2 v3 v4 b5 v6 (h.1 + 2) b8, zI 8, .inl (0, 8, .inl f)]) := by
  have e' : ∀ cs, (ext h cs).2 a0 = some (lmC v0 v1 v2 v3 v4 b5 v6 q b8) := fun cs => (ext_out h cs (Or.inl ha)).trans e
  have eq' : ∀ cs, (ext h cs).2 q = some (.inl (0, 8, .inl f)) := fun cs => (ext_out h cs (Or.inl hq)).trans eq
  have g0 : ∀ cs, g_gI (ext h cs) a0 9 0 = some v0 := fun cs => gI_of (e' cs) rfl
  have g1 : ∀ cs, g_gI (ext h cs) a0 9 1 = some v1 := fun cs => gI_of (e' cs) rfl
  have g2 : ∀ cs, g_gI (ext h cs) a0 9 2 = some v2 := fun cs => gI_of (e' cs) rfl
  have g3 : ∀ cs, g_gI (ext h cs) a0 9 3 = some v3 := fun cs => gI_of (e' cs) rfl
  have g4 : ∀ cs, g_gI (ext h cs) a0 9 4 = some v4 := fun cs => gI_of (e' cs) rfl
  have g5 : ∀ cs, g_gI (ext h cs) a0 9 5 = some (bI b5) := fun cs => gI_of (e' cs) rfl
  have g6 : ∀ cs, g_gI (ext h cs) a0 9 6 = some v6 := fun cs => gI_of (e' cs) rfl
  have g7 : ∀ cs, g_gA (ext h cs) a0 9 7 = some q := fun cs => gA_of (e' cs) rfl
  have g8 : ∀ cs, g_gI (ext h cs) a0 9 8 = some (bI b8) := fun cs => gI_of (e' cs) rfl
  unfold f_X9_copy g_mk
  rw [Option.bind_some, x9_c, Option.bind_some]
  unfold lm0
  rw [g0, Option.bind_some, ext_put _ _ _ _ _ _ (by simp), Option.bind_some, g1, Option.bind_some, ext_put _ _ _ _ _ _ (by simp), Option.bind_some, g2, Option.bind_some, ext_put _ _ _ _ _ _ (by simp), Option.bind_some, g3, Option.bind_some, ext_put _ _ _ _ _ _ (by simp), Option.bind_some, g4, Option.bind_some, ext_put _ _ _ _ _ _ (by simp), Option.bind_some, g5, Option.bind_some, g_z_bI, Option.bind_some, ext_put _ _ _ _ _ _ (by simp), Option.bind_some, g6, Option.bind_some, ext_put _ _ _ _ _ _ (by simp), Option.bind_some, g7, Option.bind_some, cln_of (eq' _) (Nat.le_refl 8), Option.bind_some, ext_add, List.cons_append, ext_put _ _ _ _ _ _ (by simp), Option.bind_some, g8, Option.bind_some, g_z_bI, Option.bind_some, ext_put _ _ _ _ _ _ (by simp), Option.bind_some]
  rfl
/-! a talk, and its copy -/
theorem nwI_0 (h : gH) : g_nwI h 0 0 = some (g_add h (zI 0)) := by
  have := nwI_of h (n := 0) (B := 0) (Nat.le_refl 0) (by decide)
  rwa [nI_0] at this
theorem nwQ_0 (h : gH) (t : Nat) : g_nwQ h t 0 0 = some (g_add h (rwQ t 0 0 (fun _ => 0))) := by
  have := nwQ_of h t (n := 0) (B := 0) (Nat.le_refl 0) (by decide)
  rwa [nI_0, rwQ_0 t 0 (fun _ => 0)] at this
theorem x12_c (G : gG) (h : gH) : f_X12_init G (g_add h (.inr (12, g_dfl 12))) h.1 = some (ext h [.inr (12, [.int 0, .int 0, .ref (g_aK G 23), .ref (h.1 + 1), .ref (h.1 + 2), .int 0, .int (-1), .int (-1)]), zI 0, rwQ 6 0 0 (fun _ => 0)]) := by
  rw [ext_one, dfl12]
  unfold f_X12_init
  rw [ext_put _ _ _ _ _ _ (by simp), Option.bind_some, nwI_0, Option.bind_some, ext_add, List.cons_append, List.nil_append, ext_put _ _ _ _ _ _ (by simp), Option.bind_some, nwQ_0, Option.bind_some, ext_add, List.cons_append, List.cons_append, List.nil_append, ext_put _ _ _ _ _ _ (by simp), Option.bind_some, ext_put _ _ _ _ _ _ (by simp), Option.bind_some, ext_put _ _ _ _ _ _ (by simp), Option.bind_some]
  rfl
def tkC (s u : Int32) (w lg fr : Nat) (st bg en : Int32) : gC := .inr (12, [.int s, .int u, .ref w, .ref lg, .ref fr, .int st, .int bg, .int en])
def frs (s t : Nat → Int32) (k : Nat) : List gC := (List.range k).map fun i => frC (s i) (t i)
theorem frs_s (s t : Nat → Int32) (k : Nat) : frs s t (k + 1) = frs s t k ++ [frC (s k) (t k)] := by
  unfold frs
  rw [List.range_succ, List.map_append]
  rfl
theorem frs_len (s t : Nat → Int32) (k : Nat) : (frs s t k).length = k := by
  unfold frs
  rw [List.length_map, List.length_range]
theorem frs_at (s t : Nat → Int32) {k i : Nat} (hi : i < k) : (frs s t k)[i]? = some (frC (s i) (t i)) := by
  unfold frs
  rw [List.getElem?_map, List.getElem?_range hi]
  rfl
section TKC
variable {G : gG} {h : gH} {a0 w lg fr n m : Nat} {s u st bg en : Int32} {f : Nat → Int32} {g : Nat → Nat} {fs ft : Nat → Int32}
/-- the copy's cells when k frames are copied -/
def tkCs (B : Nat) (s u : Int32) (w n m k : Nat) (st bg en : Int32) (f fs ft : Nat → Int32) : List gC := tkC s u w (B + 3) (B + 4) st bg en :: zI 0 :: rwQ 6 0 0 (fun _ => 0) :: .inl (0, n, .inl f) :: rwQ 6 m k (fun i => B + (5 + i)) :: frs fs ft k
theorem x12_l (e : h.2 a0 = some (tkC s u w lg fr st bg en)) (ha : a0 < h.1) (efr : h.2 fr = some (rfs 6 m g)) (hfr : fr < h.1) (eg : ∀ k, k < m → h.2 (g k) = some (frC (fs k) (ft k)) ∧ g k < h.1) (hm : m ≤ 16) : ∀ (d k fuel : Nat), k + d = m → d < fuel → f_X12_copy_b60 G fuel (ext h (tkCs h.1 s u w n m k 0 (-1) (-1) f fs ft)) a0 h.1 (nI k) = some (h.1, ext h (tkCs h.1 s u w n m m st bg en f fs ft)) := by
  have e' : ∀ cs, (ext h cs).2 a0 = some (tkC s u w lg fr st bg en) := fun cs => (ext_out h cs (Or.inl ha)).trans e
  have gf : ∀ cs, g_gA (ext h cs) a0 12 4 = some fr := fun cs => gA_of (e' cs) rfl
  have g5 : ∀ cs, g_gI (ext h cs) a0 12 5 = some st := fun cs => gI_of (e' cs) rfl
  have g6 : ∀ cs, g_gI (ext h cs) a0 12 6 = some bg := fun cs => gI_of (e' cs) rfl
  have g7 : ∀ cs, g_gI (ext h cs) a0 12 7 = some en := fun cs => gI_of (e' cs) rfl
  have er : ∀ cs, (ext h cs).2 fr = some (rfs 6 m g) := fun cs => (ext_out h cs (Or.inl hfr)).trans efr
  intro d
  induction d with
  | zero =>
    intro k fuel hk hf
    obtain ⟨fu, rfl⟩ := Nat.exists_eq_succ_of_ne_zero (Nat.ne_of_gt hf)
    have : k = m := by omega
    subst this
    unfold tkCs tkC
    rw [f_X12_copy_b60, gf, Option.bind_some, rfs_n (er _), Option.bind_some, if_neg (nI_nlt (Nat.le_refl k) (show k < 2 ^ 31 by omega)), g5, Option.bind_some, ext_put _ _ _ _ _ _ (by simp), Option.bind_some, g6, Option.bind_some, ext_put _ _ _ _ _ _ (by simp), Option.bind_some, g7, Option.bind_some, ext_put _ _ _ _ _ _ (by simp), Option.bind_some]
    rfl
  | succ d ih =>
    intro k fuel hk hf
    obtain ⟨fu, rfl⟩ := Nat.exists_eq_succ_of_ne_zero (Nat.ne_of_gt (Nat.zero_lt_of_lt hf))
    have hk2 : k < m := by omega
    obtain ⟨x1, x2⟩ := eg k hk2
    generalize hcs : tkCs h.1 s u w n m k 0 (-1) (-1) f fs ft = cs
    have len : cs.length = 5 + k := by
      rw [← hcs]; unfold tkCs
      simp only [List.length_cons, frs_len]; omega
    have nx : (ext h cs).1 = h.1 + (5 + k) := by rw [ext_fst, len]
    have gk : (ext h cs).2 (g k) = some (frC (fs k) (ft k)) := (ext_out h cs (Or.inl x2)).trans x1
    have gl : g_gA (ext h cs) h.1 12 4 = some (h.1 + 4) := by
      rw [← hcs]; exact ext_gA0 h _ 12 4 (h.1 + 4) _ rfl
    have cp := x8_copy G gk (by rw [nx]; omega)
    rw [ext_ext, nx] at cp
    have len2 : (cs ++ [frC (fs k) (ft k)]).length = 5 + (k + 1) := by rw [List.length_append, len]; rfl
    have isF : g_is (ext h (cs ++ [frC (fs k) (ft k)])) (h.1 + (5 + k)) 8 = true := is_of ((ext_in h _ (by omega)).trans (by rw [List.getElem?_append_right (by omega), len, Nat.sub_self]; rfl))
    have row : (ext h (cs ++ [frC (fs k) (ft k)])).2 (h.1 + 4) = some (rwQ 6 m k (fun i => h.1 + (5 + i))) := (ext_in h _ (by omega)).trans (by rw [List.getElem?_append_left (by omega), ← hcs]; rfl)
    have qs := rwQ_s row hk2 (show m < 2 ^ 31 by omega) (v := h.1 + (5 + k)) rfl
    rw [ext_set h _ 4 _ (by omega)] at qs
    have gis : g_is (ext h cs) (g k) 8 = true := is_of gk
    rw [f_X12_copy_b60, gf, Option.bind_some, rfs_n (er _), Option.bind_some, if_pos (nI_lt hk2 (show m < 2 ^ 31 by omega)), gl, Option.bind_some, Option.bind_some, rfs_l (er _) hk2 (by omega), Option.bind_some, Option.bind_some, gis, cond_true, cp, Option.bind_some, isF, cond_true, qs, Option.bind_some, ← nI_succ]
    have fin : (cs ++ [frC (fs k) (ft k)]).set 4 (rwQ 6 m (k + 1) (fun i => h.1 + (5 + i))) = tkCs h.1 s u w n m (k + 1) 0 (-1) (-1) f fs ft := by
      rw [← hcs]
      unfold tkCs
      rw [frs_s]
      rfl
    rw [fin]
    exact ih (k + 1) fu (by omega) (by omega)
theorem x12_copy (e : h.2 a0 = some (tkC s u w lg fr st bg en)) (ha : a0 < h.1) (elg : h.2 lg = some (.inl (0, n, .inl f))) (hlg : lg < h.1) (efr : h.2 fr = some (rfs 6 m g)) (hfr : fr < h.1) (eg : ∀ k, k < m → h.2 (g k) = some (frC (fs k) (ft k)) ∧ g k < h.1) (hn : n ≤ 16) (hm : m ≤ 16) : f_X12_copy G h a0 = some (h.1, ext h (tkCs h.1 s u w n m m st bg en f fs ft)) := by
  have e' : ∀ cs, (ext h cs).2 a0 = some (tkC s u w lg fr st bg en) := fun cs => (ext_out h cs (Or.inl ha)).trans e
  have g0 : ∀ cs, g_gI (ext h cs) a0 12 0 = some s := fun cs => gI_of (e' cs) rfl
  have g1 : ∀ cs, g_gI (ext h cs) a0 12 1 = some u := fun cs => gI_of (e' cs) rfl
  have g2 : ∀ cs, g_gA (ext h cs) a0 12 2 = some w := fun cs => gA_of (e' cs) rfl
  have g3 : ∀ cs, g_gA (ext h cs) a0 12 3 = some lg := fun cs => gA_of (e' cs) rfl
  have g4 : ∀ cs, g_gA (ext h cs) a0 12 4 = some fr := fun cs => gA_of (e' cs) rfl
  have el : ∀ cs, (ext h cs).2 lg = some (.inl (0, n, .inl f)) := fun cs => (ext_out h cs (Or.inl hlg)).trans elg
  have er : ∀ cs, (ext h cs).2 fr = some (rfs 6 m g) := fun cs => (ext_out h cs (Or.inl hfr)).trans efr
  have lo := x12_l (G := G) (n := n) (f := f) e ha efr hfr eg hm m 0 17 (by omega) (by omega)
  rw [nI_0] at lo
  unfold f_X12_copy g_mk
  rw [Option.bind_some, x12_c, Option.bind_some, g0, Option.bind_some, ext_put _ _ _ _ _ _ (by simp), Option.bind_some, g1, Option.bind_some, ext_put _ _ _ _ _ _ (by simp), Option.bind_some, g2, Option.bind_some, ext_put _ _ _ _ _ _ (by simp), Option.bind_some, g3, Option.bind_some, cln_of (el _) hn, Option.bind_some, ext_add, List.cons_append, ext_put _ _ _ _ _ _ (by simp), Option.bind_some, g4, Option.bind_some, rfs_n (er _), Option.bind_some, nwQ_of _ 6 hm (by decide), Option.bind_some, ext_add, List.cons_append, ext_put _ _ _ _ _ _ (by simp), Option.bind_some, rwQ_0 6 m (fun i => h.1 + (5 + i))]
  exact lo
end TKC
