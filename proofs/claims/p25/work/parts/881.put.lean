/-! put, flush, write -/
def byt (L : List Nat) (i : Nat) : Nat := L.getD i 0
def pbO (L : List Nat) (i : Nat) : Nat := byt L (20 * (L.length / 20) + i)
def asL (L : List Nat) : Prop := ∀ c, c ∈ L → c < 128
theorem asL_b {L : List Nat} (h : asL L) (i : Nat) : byt L i < 128 := by
  unfold byt
  rcases Nat.lt_or_ge i L.length with c | c
  · rw [List.getD_eq_getElem?_getD, List.getElem?_eq_getElem c]; exact h _ (List.getElem_mem c)
  · rw [List.getD_eq_getElem?_getD, List.getElem?_eq_none c]; decide
theorem byt_lt {L M : List Nat} {i : Nat} (h : i < L.length) : byt (L ++ M) i = byt L i := by
  unfold byt
  rw [List.getD_eq_getElem?_getD, List.getD_eq_getElem?_getD, List.getElem?_append_left h]
theorem byt_ge {L M : List Nat} {i : Nat} (h : L.length ≤ i) : byt (L ++ M) i = byt M (i - L.length) := by
  unfold byt
  rw [List.getD_eq_getElem?_getD, List.getD_eq_getElem?_getD, List.getElem?_append_right h]
theorem byt_no {L : List Nat} {i : Nat} (h : L.length ≤ i) : byt L i = 0 := by
  unfold byt
  rw [List.getD_eq_getElem?_getD, List.getElem?_eq_none h]; rfl
/-- the text L is on its way: what is a multiple of twenty lies with the class, the rest in the law's row -/
def TX (h : gH) (a bf : Nat) (F : RFc) (L : List Nat) : Prop := fIs h.2 a F ∧ F.n = 20 * (L.length / 20) ∧ (∀ i, i < F.n → F.B i = nI (byt L i)) ∧ ∃ f : Nat → Int32, h.2 bf = some (.inl (0, 8, .inl f)) ∧ f 0 = nI L.length ∧ ∀ k, k < 5 → f (1 + k) = nI (wv (pbO L) k)
/-- nothing but the class and the law's row changed -/
def onlyT (a bf : Nat) (h h' : gH) (F F' : RFc) : Prop := h'.1 = h.1 ∧ (∀ q, (q < a ∨ a + 614 ≤ q) → q ≠ bf → h'.2 q = h.2 q) ∧ ∃ B n, F' = (F.s_B B).s_n n
theorem onlyT.trans {a bf : Nat} {h h1 h2 : gH} {F F1 F2 : RFc} (x : onlyT a bf h h1 F F1) (y : onlyT a bf h1 h2 F1 F2) : onlyT a bf h h2 F F2 := by
  obtain ⟨x1, x2, B, n, rfl⟩ := x
  obtain ⟨y1, y2, B', n', rfl⟩ := y
  exact ⟨y1.trans x1, fun q a b => (y2 q a b).trans (x2 q a b), B', n', rfl⟩
theorem onlyT.refl (a bf : Nat) (h : gH) (F : RFc) : onlyT a bf h h F F := ⟨rfl, fun _ _ _ => rfl, F.B, F.n, rfl⟩
section PUT
variable {G : gG} {a bf : Nat} {h : gH} {F : RFc} {L : List Nat}
theorem flush_l (fu : Nat) {f : Nat → Int32} (e : h.2 bf = some (.inl (0, 8, .inl f))) : f_L_flush_b22 G (fu + 1 + 1 + 1 + 1 + 1 + 1) h bf 1 = some (g_set h bf (.inl (0, 8, .inl (upd (upd (upd (upd (upd f 1 0) 2 0) 3 0) 4 0) 5 0)))) := by
  have st : ∀ (X : gH) (g : Nat → Int32) (k : Nat), X.2 bf = some (.inl (0, 8, .inl g)) → k < 8 → g_ast X bf (nI k) 0 = some (g_set X bf (.inl (0, 8, .inl (upd g k 0)))) := fun X g k e hk => ast_of e hk (by decide)
  have i1 : (1 : Int32) = nI 1 := by decide
  have a1 : nI 1 + 1 = nI 2 := by decide
  have a2 : nI 2 + 1 = nI 3 := by decide
  have a3 : nI 3 + 1 = nI 4 := by decide
  have a4 : nI 4 + 1 = nI 5 := by decide
  have a5 : nI 5 + 1 = nI 6 := by decide
  have l1 : (nI 1 < 6) := by decide
  have l2 : (nI 2 < 6) := by decide
  have l3 : (nI 3 < 6) := by decide
  have l4 : (nI 4 < 6) := by decide
  have l5 : (nI 5 < 6) := by decide
  have l6 : ¬ (nI 6 < 6) := by decide
  have ss : ∀ (X : gH) (x y : gC), g_set (g_set X bf x) bf y = g_set X bf y := fun X x y => g_set_set X bf x y
  rw [i1, f_L_flush_b22, if_pos l1, st _ _ 1 e (by decide), Option.bind_some, a1, f_L_flush_b22, if_pos l2, st _ _ 2 set_at (by decide), Option.bind_some, ss, a2, f_L_flush_b22, if_pos l3, st _ _ 3 set_at (by decide), Option.bind_some, ss, a3, f_L_flush_b22, if_pos l4, st _ _ 4 set_at (by decide), Option.bind_some, ss, a4, f_L_flush_b22, if_pos l5, st _ _ 5 set_at (by decide), Option.bind_some, ss, a5, f_L_flush_b22, if_neg l6]
/-- twenty bytes go to the class -/
theorem flush_c (hf : fIs h.2 a F) (hd : bf < a ∨ a + 614 ≤ bf) {pb : Nat → Nat} (hp : ∀ i, pb i < 128) {f : Nat → Int32} (e : h.2 bf = some (.inl (0, 8, .inl f))) (ef : ∀ k, k < 5 → f (1 + k) = nI (wv pb k)) (n5 : F.n + 20 ≤ 500) : ∃ h' F' f', f_L_flush G h a bf = some h' ∧ fIs h'.2 a F' ∧ F'.n = F.n + 20 ∧ (∀ i, i < F.n → F'.B i = F.B i) ∧ (∀ i, i < 20 → F'.B (F.n + i) = nI (pb i)) ∧ h'.2 bf = some (.inl (0, 8, .inl f')) ∧ f' 0 = f 0 ∧ (∀ k, k < 5 → f' (1 + k) = 0) ∧ onlyT a bf h h' F F' := by
  have ld : ∀ k, k < 8 → g_ald h bf (nI k) = some (f k) := fun k hk => ald_of e hk (by decide)
  have l1 : g_ald h bf 1 = some (f 1) := ld 1 (by decide)
  have l2 : g_ald h bf 2 = some (f 2) := ld 2 (by decide)
  have l3 : g_ald h bf 3 = some (f 3) := ld 3 (by decide)
  have l4 : g_ald h bf 4 = some (f 4) := ld 4 (by decide)
  have l5 : g_ald h bf 5 = some (f 5) := ld 5 (by decide)
  have ap := append_c hf n5 (f 1) (f 2) (f 3) (f 4) (f 5)
  generalize hF : up (gC7 (wd (f 1) (f 2) (f 3) (f 4) (f 5))) 20 0 F = F' at ap
  have g7 := fIs_g hf
  have eb : (fP h a F').2 bf = some (.inl (0, 8, .inl f)) := by rw [fP_out _ _ _ hd]; exact e
  have fl := flush_l (G := G) 8186 eb
  refine ⟨g_set (fP h a F') bf (.inl (0, 8, .inl (upd (upd (upd (upd (upd f 1 0) 2 0) 3 0) 4 0) 5 0))), F', upd (upd (upd (upd (upd f 1 0) 2 0) 3 0) 4 0) 5 0, ?_, fun j hj => ?_, by rw [← hF, up_c]; rfl, fun i hi => ?_, fun i hi => ?_, set_at, rfl, fun k hk => ?_, rfl, fun q q1 q2 => ?_, F'.B, F.n + 20, ?_⟩
  · unfold f_L_flush
    rw [l1, Option.bind_some, l2, Option.bind_some, l3, Option.bind_some, l4, Option.bind_some, l5, Option.bind_some, g7, cond_true, ap, Option.bind_some]
    exact fl
  · rw [set_ne (by omega)]; exact fP_in h a F' hj
  · rw [← hF, up_gC7, if_neg (by omega)]
  · rw [← hF, up_gC7, if_pos (by omega), Nat.zero_add, show F.n + i - F.n = i by omega]
    have ew : wd (f 1) (f 2) (f 3) (f 4) (f 5) (i / 4) = nI (wv pb (i / 4)) := by
      have k5 : i / 4 < 5 := by omega
      generalize i / 4 = k at k5
      obtain rfl | rfl | rfl | rfl | rfl : k = 0 ∨ k = 1 ∨ k = 2 ∨ k = 3 ∨ k = 4 := by omega
      · exact ef 0 (by omega)
      · exact ef 1 (by omega)
      · exact ef 2 (by omega)
      · exact ef 3 (by omega)
      · exact ef 4 (by omega)
    rw [ew]
    exact wv_by hp
  · obtain rfl | rfl | rfl | rfl | rfl : k = 0 ∨ k = 1 ∨ k = 2 ∨ k = 3 ∨ k = 4 := by omega
    all_goals rfl
  · rw [set_ne q2, fP_out _ _ _ q1]
  · rw [← hF]; exact up_c _ 20 0 F
theorem put_c (t : TX h a bf F L) (hd : bf < a ∨ a + 614 ≤ bf) (hL : asL L) {c : Nat} (hc : c < 128) (h5 : L.length + 20 ≤ 500) : ∃ h' F', f_L_put G h a bf (nI c) = some h' ∧ TX h' a bf F' (L ++ [c]) ∧ onlyT a bf h h' F F' := by
  obtain ⟨hf, t1, t2, f, e, f0, fk⟩ := t
  have l31 : L.length < 2 ^ 31 := by omega
  have k5 : L.length % 20 / 4 < 5 := by omega
  have ea : h.2 bf = some (.inl (0, 8, .inl f)) := e
  have r20 : g_rem (nI L.length) 20 = nI (L.length % 20) := by rw [show (20 : Int32) = nI 20 by decide]; exact rem_gen _ 20 l31 (by decide) (by decide)
  have r4 : g_rem (nI L.length) 4 = nI (L.length % 4) := by rw [show (4 : Int32) = nI 4 by decide]; exact rem_gen _ 4 l31 (by decide) (by decide)
  have ix : 1 + g_rem (nI L.length) 20 / 4 = nI (1 + L.length % 20 / 4) := by
    rw [r20, show (4 : Int32) = nI 4 by decide, nI_div (by omega) (by decide) (by decide), e1n, nI_add]
  have sh : nI c <<< ((24 - 8 * g_rem (nI L.length) 4) &&& 31) = nI (c * 2 ^ (24 - 8 * (L.length % 4))) := by rw [r4]; exact sh_c _ (by omega) c hc
  have pz : ∀ i, L.length % 20 ≤ i → pbO L i = 0 := fun i hi => byt_no (by omega)
  have orr : f (1 + L.length % 20 / 4) ||| nI (c * 2 ^ (24 - 8 * (L.length % 4))) = nI (wv (updB (pbO L) (L.length % 20) c) (L.length % 20 / 4)) := by
    rw [fk _ k5, show L.length % 4 = L.length % 20 % 4 by omega]
    exact wv_or hc pz
  generalize hg : upd (upd f (1 + L.length % 20 / 4) (nI (wv (updB (pbO L) (L.length % 20) c) (L.length % 20 / 4)))) 0 (nI L.length + 1) = g
  have g0 : g 0 = nI (L.length + 1) := by rw [← hg, upd_at]; exact (nI_succ _).symm
  have gk : ∀ k, k < 5 → g (1 + k) = nI (wv (updB (pbO L) (L.length % 20) c) k) := fun k hk => by
    rw [← hg, upd_ne (by omega)]
    by_cases ck : k = L.length % 20 / 4
    · subst ck; rw [upd_at]
    · rw [upd_ne (by omega), fk k hk, wv_ne ck]
  have al : ∀ (X : gH) (u : Nat → Int32) (k : Nat), X.2 bf = some (.inl (0, 8, .inl u)) → k < 8 → g_ald X bf (nI k) = some (u k) := fun X u k e hk => ald_of e hk (by decide)
  have as : ∀ (X : gH) (u : Nat → Int32) (k : Nat) (v : Int32), X.2 bf = some (.inl (0, 8, .inl u)) → k < 8 → g_ast X bf (nI k) v = some (g_set X bf (.inl (0, 8, .inl (upd u k v)))) := fun X u k v e hk => ast_of e hk (by decide)
  have s0 : upd f (1 + L.length % 20 / 4) (nI (wv (updB (pbO L) (L.length % 20) c) (L.length % 20 / 4))) 0 = nI L.length := by rw [upd_ne (by omega)]; exact f0
  have rn : g_rem (nI L.length + 1) 20 = nI ((L.length + 1) % 20) := by rw [← nI_succ, show (20 : Int32) = nI 20 by decide]; exact rem_gen _ 20 (by omega) (by decide) (by decide)
  have ez : (nI ((L.length + 1) % 20) = 0) ↔ (L.length + 1) % 20 = 0 := nI_eq0 (by omega)
  have run : f_L_put G h a bf (nI c) = if (L.length + 1) % 20 = 0 then (f_L_flush G (g_set h bf (.inl (0, 8, .inl g))) a bf).bind (fun h46 => some h46) else some (g_set h bf (.inl (0, 8, .inl g))) := by
    unfold f_L_put
    rw [e0n, al h f 0 e (by decide), Option.bind_some, f0, ix, al h f _ e (by omega), Option.bind_some, Option.bind_some, sh, orr, as h f _ _ e (by omega), Option.bind_some, al _ _ 0 set_at (by decide), Option.bind_some, s0, as _ _ 0 _ set_at (by decide), Option.bind_some, g_set_set, hg, al _ _ 0 set_at (by decide), Option.bind_some]
    rw [show g 0 = nI L.length + 1 by rw [g0]; exact nI_succ _, rn]
    simp only [ez, nI_0]
  have len : (L ++ [c]).length = L.length + 1 := by rw [List.length_append]; rfl
  have hL' : asL (L ++ [c]) := fun x hx => by
    rcases List.mem_append.mp hx with z | z
    · exact hL x z
    · rw [List.mem_singleton.mp z]; exact hc
  by_cases cz : (L.length + 1) % 20 = 0
  · rw [if_pos cz] at run
    have hp : ∀ i, updB (pbO L) (L.length % 20) c i < 128 := fun i => by
      unfold updB
      split
      · exact hc
      · exact asL_b hL _
    have hf2 : fIs (g_set h bf (.inl (0, 8, .inl g))).2 a F := fun j hj => by rw [set_ne (by omega)]; exact hf j hj
    obtain ⟨h', F', f', q1, q2, q3, q4, q5, q6, q7, q8, q9, q10, q11⟩ := flush_c (G := G) hf2 hd hp set_at gk (by omega)
    rw [q1] at run
    refine ⟨h', F', run, ⟨q2, by rw [q3, len, t1]; omega, fun i hi => ?_, f', q6, by rw [q7, g0, len], fun k hk => ?_⟩, q9, fun q a b => by rw [q10 q a b, set_ne b], q11⟩
    · rw [q3] at hi
      by_cases c2 : i < F.n
      · rw [q4 i c2, t2 i c2, byt_lt (by omega)]
      · obtain ⟨j, rfl⟩ := Nat.exists_eq_add_of_le (Nat.not_lt.mp c2)
        rw [q5 j (by omega)]
        congr 1
        unfold updB pbO
        by_cases c3 : j = L.length % 20
        · rw [if_pos c3, byt_ge (by omega), show F.n + j - L.length = 0 by omega]; rfl
        · rw [if_neg c3, byt_lt (by omega), t1]
    · rw [q8 k hk]
      have z : wv (pbO (L ++ [c])) k = 0 := by
        unfold wv pbO
        rw [byt_no (by rw [len]; omega), byt_no (by rw [len]; omega), byt_no (by rw [len]; omega), byt_no (by rw [len]; omega)]
      rw [z]; exact e0n
  · rw [if_neg cz] at run
    refine ⟨_, F, run, ⟨fun j hj => by rw [set_ne (by omega)]; exact hf j hj, by rw [len, t1]; omega, fun i hi => by rw [t2 i hi, byt_lt (by omega)], g, set_at, by rw [g0, len], fun k hk => ?_⟩, rfl, fun q a b => set_ne b, F.B, F.n, rfl⟩
    rw [gk k hk]
    refine congrArg nI ?_
    have epb : ∀ i, updB (pbO L) (L.length % 20) c i = pbO (L ++ [c]) i := fun i => by
      unfold updB pbO
      rw [len, show (L.length + 1) / 20 = L.length / 20 by omega]
      by_cases c3 : i = L.length % 20
      · rw [if_pos c3, byt_ge (by omega), show 20 * (L.length / 20) + i - L.length = 0 by omega]; rfl
      · rw [if_neg c3]
        by_cases c4 : i < L.length % 20
        · rw [byt_lt (by omega)]
        · rw [byt_no (by omega), byt_no (by rw [len]; omega)]
    unfold wv
    rw [epb, epb, epb, epb]
/-- a string's letters -/
theorem wrt_l {x n : Nat} {g : Nat → Int32} {M : List Nat} (tx : ∀ X : gH, X.1 = h.1 → (∀ q, (q < a ∨ a + 614 ≤ q) → q ≠ bf → X.2 q = h.2 q) → txt G X x n g) (hg : ∀ k, k < n → g k = nI (byt M k)) (hM : M.length = n) (aM : asL M) (hd : bf < a ∨ a + 614 ≤ bf) : ∀ (d k fuel : Nat) (X : gH) (E : RFc) (L' : List Nat), k + d = n → d < fuel → TX X a bf E (L' ++ M.take k) → asL L' → L'.length + n + 20 ≤ 500 → onlyT a bf h X F E → ∃ h' F', f_L_write_b2 G fuel X a bf x (nI k) = some h' ∧ TX h' a bf F' (L' ++ M) ∧ onlyT a bf h h' F F' := by
  intro d
  induction d with
  | zero =>
    intro k fuel X E L' hk hf t aL h5 on
    obtain ⟨fu, rfl⟩ := Nat.exists_eq_succ_of_ne_zero (Nat.ne_of_gt hf)
    have tX := tx X on.1 on.2.1
    rw [show M.take k = M from List.take_of_length_le (by omega)] at t
    refine ⟨X, E, ?_, t, on⟩
    rw [f_L_write_b2, tX.isS, cond_true, length_t tX, Option.bind_some, if_neg (nI_nlt (show n ≤ k by omega) (show k < 2 ^ 31 by omega))]
  | succ d ih =>
    intro k fuel X E L' hk hf t aL h5 on
    obtain ⟨fu, rfl⟩ := Nat.exists_eq_succ_of_ne_zero (Nat.ne_of_gt (Nat.zero_lt_of_lt hf))
    have hk2 : k < n := by omega
    have tX := tx X on.1 on.2.1
    have ag : asc n g := fun k hk => ⟨byt M k, asL_b aM k, hg k hk⟩
    have aT : asL (L' ++ M.take k) := fun y hy => by
      rcases List.mem_append.mp hy with z | z
      · exact aL y z
      · exact aM y (List.mem_of_mem_take z)
    have lt : (L' ++ M.take k).length = L'.length + k := by rw [List.length_append, List.length_take]; omega
    obtain ⟨h', F', p1, p2, p3⟩ := put_c (G := G) t hd aT (asL_b aM k) (by rw [lt]; omega)
    have tk : L' ++ M.take k ++ [byt M k] = L' ++ M.take (k + 1) := by
      rw [List.append_assoc, List.take_succ]
      congr 2
      unfold byt
      rw [List.getD_eq_getElem?_getD, List.getElem?_eq_getElem (by omega)]
      rfl
    rw [tk] at p2
    obtain ⟨h2, F2, r1, r2, r3⟩ := ih (k + 1) fu h' F' L' (by omega) (by omega) p2 aL h5 (on.trans p3)
    refine ⟨h2, F2, ?_, r2, r3⟩
    rw [f_L_write_b2, tX.isS, cond_true, length_t tX, Option.bind_some, if_pos (nI_lt hk2 (show n < 2 ^ 31 by omega)), cond_true, charAt_t tX ag (by omega) hk2, Option.bind_some, hg k hk2, p1, Option.bind_some, ← nI_succ]
    exact r1
theorem write_c {x n : Nat} {g : Nat → Int32} {M : List Nat} (tx : ∀ X : gH, X.1 = h.1 → (∀ q, (q < a ∨ a + 614 ≤ q) → q ≠ bf → X.2 q = h.2 q) → txt G X x n g) (hg : ∀ k, k < n → g k = nI (byt M k)) (hM : M.length = n) (aM : asL M) (hd : bf < a ∨ a + 614 ≤ bf) (t : TX h a bf F L) (aL : asL L) (h5 : L.length + n + 20 ≤ 500) : ∃ h' F', f_L_write G h a bf x = some h' ∧ TX h' a bf F' (L ++ M) ∧ onlyT a bf h h' F F' := by
  have q := wrt_l (G := G) (F := F) tx hg hM aM hd n 0 g_N h F L (by omega) (by unfold g_N; omega) (by rw [List.take_zero, List.append_nil]; exact t) aL h5 (onlyT.refl a bf h F)
  rw [nI_0] at q
  exact q
/-- a number's digits -/
def nmL (n : Nat) : List Nat := if n < 10 then [48 + n] else [48 + n / 10, 48 + n % 10]
theorem nmL_as {n : Nat} (h : n < 100) : asL (nmL n) := fun c hc => by
  unfold nmL at hc
  split at hc
  · rw [List.mem_singleton.mp hc]; omega
  · rcases List.mem_cons.mp hc with z | z
    · rw [z]; omega
    · rw [List.mem_singleton.mp z]; omega
theorem number_c {n : Nat} (hn : n < 100) (hd : bf < a ∨ a + 614 ≤ bf) (t : TX h a bf F L) (aL : asL L) (h5 : L.length + 22 ≤ 500) : ∃ h' F', f_L_writeNumber G h a bf (nI n) = some h' ∧ TX h' a bf F' (L ++ nmL n) ∧ onlyT a bf h h' F F' := by
  have c10 : (nI n) / 10 = nI (n / 10) := by rw [show (10 : Int32) = nI 10 by decide]; exact nI_div (by omega) (by decide) (by decide)
  have c1 : (nI n) / 1 = nI n := by
    have := nI_div (a := n) (b := 1) (by omega) (by decide) (by decide)
    rw [Nat.div_one] at this
    exact this
  have r10 : ∀ m, m < 100 → (48 : Int32) + g_rem (nI m) 10 = nI (48 + m % 10) := fun m hm => by
    rw [show (10 : Int32) = nI 10 by decide, rem_gen m 10 (by omega) (by decide) (by decide), show (48 : Int32) = nI 48 by decide, nI_add]
  have p1 : ((0 : Int32) < 1) := by decide
  have p10 : ((0 : Int32) < 1 * 10) := by decide
  have n1 : ¬ ((1 : Int32) = 0) := by decide
  have n10 : ¬ ((1 : Int32) * 10 = 0) := by decide
  have d1 : (1 : Int32) / 10 = 0 := by decide
  have d10 : (1 : Int32) * 10 / 10 = 1 := by decide
  have z0 : ¬ ((0 : Int32) < 0) := by decide
  have t10 : (1 : Int32) * 10 = 10 := by decide
  have eN : ∀ X l3, f_L_writeNumber_b18 G g_N X a bf (nI n) l3 = f_L_writeNumber_b18 G (8189 + 1 + 1 + 1) X a bf (nI n) l3 := fun _ _ => rfl
  have eM : f_L_writeNumber_b2 G g_N h a bf (nI n) 1 = f_L_writeNumber_b2 G (8190 + 1 + 1) h a bf (nI n) 1 := rfl
  unfold f_L_writeNumber nmL
  rw [eM]
  by_cases c : n < 10
  · rw [if_pos c]
    have ng : ¬ ((1 : Int32) ≤ nI (n / 10)) := by rw [e1n, nI_leI (by decide) (by omega)]; omega
    have e := r10 n hn
    rw [Nat.mod_eq_of_lt c] at e
    obtain ⟨h', F', q1, q2, q3⟩ := put_c (G := G) t hd aL (c := 48 + n) (by omega) (by omega)
    refine ⟨h', F', ?_, q2, q3⟩
    rw [f_L_writeNumber_b2, c10, if_neg ng, eN, f_L_writeNumber_b18, if_pos p1, if_neg n1, c1, e, q1, Option.bind_some, d1, f_L_writeNumber_b18, if_neg z0]
  · rw [if_neg c]
    have g1 : (1 : Int32) ≤ nI (n / 10) := by rw [e1n, nI_leI (by decide) (by omega)]; omega
    have ng : ¬ ((1 : Int32) * 10 ≤ nI (n / 10)) := by rw [show (1 : Int32) * 10 = nI 10 by decide, nI_leI (by decide) (by omega)]; omega
    have e1 : (48 : Int32) + g_rem (nI n / (1 * 10)) 10 = nI (48 + n / 10) := by
      rw [t10, c10, r10 _ (by omega), Nat.mod_eq_of_lt (by omega)]
    have e2 : (48 : Int32) + g_rem (nI n / 1) 10 = nI (48 + n % 10) := by rw [c1, r10 n hn]
    obtain ⟨h1, F1, q1, q2, q3⟩ := put_c (G := G) t hd aL (c := 48 + n / 10) (by omega) (by omega)
    have aL1 : asL (L ++ [48 + n / 10]) := fun y hy => by
      rcases List.mem_append.mp hy with z | z
      · exact aL y z
      · rw [List.mem_singleton.mp z]; omega
    obtain ⟨h2, F2, r1, r2, r3⟩ := put_c (G := G) q2 hd aL1 (c := 48 + n % 10) (by omega) (by rw [List.length_append]; show L.length + 1 + 20 ≤ 500; omega)
    refine ⟨h2, F2, ?_, ?_, q3.trans r3⟩
    · rw [f_L_writeNumber_b2, c10, if_pos g1, f_L_writeNumber_b2, c10, if_neg ng, eN, f_L_writeNumber_b18, if_pos p10, if_neg n10, e1, q1, Option.bind_some, d10, f_L_writeNumber_b18, if_pos p1, if_neg n1, e2, r1, Option.bind_some, d1, f_L_writeNumber_b18, if_neg z0]
    · rw [List.append_assoc] at r2
      exact r2
end PUT
