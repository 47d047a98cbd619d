/-! what the Line's methods answer -/
theorem rem_gen (n m : Nat) (h : n < 2 ^ 31) (hm : m < 2 ^ 31) (h0 : 0 < m) : g_rem (nI n) (nI m) = nI (n % m) := by
  unfold g_rem
  rw [nI_div h hm h0, nI_mul, nI_sub (Nat.div_mul_le_self n m)]
  congr 1
  have := Nat.div_add_mod n m
  rw [Nat.mul_comm] at this
  omega
theorem rem_24 (n : Nat) (h : n < 2 ^ 31) : g_rem (nI n) 24 = nI (n % 24) := by
  rw [show (24 : Int32) = nI 24 by decide]
  exact rem_gen n 24 h (by decide) (by decide)
/-- the keepers of one station, by the latest tick -/
def kBest (K : RKp) (t : Int32) (i : Nat) (v : Int32 × Int32) : Prop := (v = (-1, 0) ∧ ∀ j, j < i → ¬ K.ticks j ≤ t) ∨ ∃ j, j < i ∧ v = (K.ticks j, K.keys j) ∧ K.ticks j ≤ t ∧ ∀ q, q < i → K.ticks q ≤ t → K.ticks q ≤ K.ticks j
theorem kBest_up {K : RKp} (hn : ∀ i, i < K.told → ∃ n : Nat, n < 10000 ∧ K.ticks i = nI n) (t : Int32) : ∀ (d i : Nat) (v : Int32 × Int32), i + d = K.told → kBest K t i v → kBest K t K.told (up (fun i (v : Int32 × Int32) => if K.ticks i ≤ t ∧ v.1 < K.ticks i then (K.ticks i, K.keys i) else v) d i v)
  | 0, i, v, hi, h => by
    have : i = K.told := by omega
    subst this
    exact h
  | d + 1, i, v, hi, h => by
    rw [up]
    refine kBest_up hn t d (i + 1) _ (by omega) ?_
    obtain ⟨n, n1, n2⟩ := hn i (by omega)
    by_cases c : K.ticks i ≤ t ∧ v.1 < K.ticks i
    · rw [if_pos c]
      refine Or.inr ⟨i, by omega, rfl, c.1, fun q hq hqt => ?_⟩
      by_cases e : q = i
      · subst e; exact Int32.le_refl _
      · rcases h with ⟨-, h⟩ | ⟨j, j1, j2, j3, j4⟩
        · exact absurd hqt (h q (by omega))
        · have := j4 q (by omega) hqt
          have e1 : v.1 = K.ticks j := by rw [j2]
          rw [e1] at c
          exact Int32.le_trans this (Int32.le_of_lt c.2)
    · rw [if_neg c]
      rcases h with ⟨h1, h2⟩ | ⟨j, j1, j2, j3, j4⟩
      · refine Or.inl ⟨h1, fun q hq hqt => ?_⟩
        by_cases e : q = i
        · subst e
          exact c ⟨hqt, by rw [h1, n2]; exact Int32.lt_iff_toInt_lt.mpr (by rw [nI_toInt (by omega)]; show (-1 : Int) < n; omega)⟩
        · exact h2 q (by omega) hqt
      · refine Or.inr ⟨j, by omega, j2, j3, fun q hq hqt => ?_⟩
        by_cases e : q = i
        · subst e
          have e1 : v.1 = K.ticks j := by rw [j2]
          rw [e1] at c
          exact Int32.not_lt.mp fun z => c ⟨hqt, z⟩
        · exact j4 q (by omega) hqt
theorem keyAt_best {K : RKp} {a : Nat} {D : Nat → Int32} (h : relKp K a D) (t : Int32) : ∃ v, kBest K t K.told v ∧ K.keyAt t = v.2 := ⟨_, kBest_up (fun i hi => (h.2.2 i hi).2.2.2.1) t K.told 0 (-1, 0) (by omega) (Or.inl ⟨rfl, fun j hj => absurd hj (by omega)⟩), rfl⟩
/-- the latest row of a station among the first n -/
def rBest (st : Nat → Nat) (tk : Nat → Int32) (s : Nat) (t : Int32) (n : Nat) : Option Nat → Prop
  | none => ∀ r, r < n → st r = s → ¬ tk r ≤ t
  | some r => r < n ∧ st r = s ∧ tk r ≤ t ∧ ∀ q, q < n → st q = s → tk q ≤ t → tk q ≤ tk r
def rKey (ky : Nat → Int32) : Option Nat → Int32
  | none => 0
  | some r => ky r
theorem key_one {R : RW} {D : Nat → Int32} (hr : Rel R D) {nk : Nat} {st : Nat → Nat} {tk ky : Nat → Int32} (h : kpR R nk st tk ky) {s : Nat} (hs : s < 2) (t : Int32) {o : Option Nat} (ho : rBest st tk s t nk o) : rKey ky o = (R.kp (nI s)).keyAt t := by
  obtain ⟨h1, h2, -, -⟩ := h
  obtain ⟨v, v1, v2⟩ := keyAt_best (hr.kp hs) t
  have dis : ∀ i j, i < (R.kp (nI s)).told → j < (R.kp (nI s)).told → (R.kp (nI s)).ticks i = (R.kp (nI s)).ticks j → i = j := fun i j hi hj e => by
    have ki := ((hr.kp hs).2.2 i hi).2.2.2.2
    have kj := ((hr.kp hs).2.2 j hj).2.2.2.2
    rcases Nat.lt_trichotomy i j with c | c | c
    · exact absurd e (kj i c)
    · exact c
    · exact absurd e.symm (ki j c)
  rw [v2]
  cases o with
  | none =>
    rcases v1 with ⟨e, -⟩ | ⟨j, j1, j2, j3, -⟩
    · rw [e]; rfl
    · obtain ⟨r, r1, r2, r3⟩ := h2 s j hs j1
      exact absurd (by rw [r3]; exact j3) (ho r r1 r2)
  | some r =>
    obtain ⟨r1, r2, r3, r4⟩ := ho
    obtain ⟨-, i, i1, i2, i3⟩ := h1 r r1
    rw [r2] at i1 i2 i3
    rcases v1 with ⟨-, e⟩ | ⟨j, j1, j2, j3, j4⟩
    · exact absurd (by rw [i2]; exact r3) (e i i1)
    · obtain ⟨q, q1, q2, q3⟩ := h2 s j hs j1
      have a1 := j4 i i1 (by rw [i2]; exact r3)
      have a2 := r4 q q1 q2 (by rw [q3]; exact j3)
      rw [q3, ← i2] at a2
      have : i = j := dis i j i1 j1 (Int32.le_antisymm a1 a2)
      subst this
      rw [j2]
      exact i3.symm
/-- an hour within the opening hours -/
def opn (hr : Nat) : Nat → Nat → Bool
  | 0, _ => false
  | d + 1, x => decide (x = hr) || opn hr d ((x + 1) % 24)
theorem opn_iff (hr : Nat) : ∀ d x, x < 24 → d < 24 → (opn hr d x = true ↔ ∃ j, j < d ∧ (x + j) % 24 = hr)
  | 0, x, hx, hd => by simp [opn]
  | d + 1, x, hx, hd => by
    rw [opn, Bool.or_eq_true, opn_iff hr d ((x + 1) % 24) (by omega) (by omega), decide_eq_true_eq]
    constructor
    · rintro (h | ⟨j, j1, j2⟩)
      · exact ⟨0, by omega, by omega⟩
      · exact ⟨j + 1, by omega, by omega⟩
    · rintro ⟨j, j1, j2⟩
      cases j with
      | zero => exact Or.inl (by omega)
      | succ j => exact Or.inr ⟨j, by omega, by omega⟩
theorem or_bI (a b : Bool) : bI a ||| bI b = bI (a || b) := by cases a <;> cases b <;> rfl
section ASK
variable {G : gG} {h : gH} {S : RS} {D : Nat → Int32} {R : RW}
theorem mist_l {n : Nat} (ok : S.ok n) {rw' : Nat → Nat} (h1 : still h S S.MA (rfs 3 R.mi.told rw')) (h2 : ∀ r, r < R.mi.told → still h S (rw' r) (.inl (0, 3, .inl (row3 (R.mi.firsts r) (R.mi.lasts r) (R.mi.levels r))))) (t12 : R.mi.told ≤ 12) (t : Int32) : ∀ (k fuel : Nat), k ≤ R.mi.told → k < fuel → f_X10_mist_b8 G (lnP h S D) fuel S.B t (nI k - 1) = some (up (fun i (v : Int32) => if R.mi.firsts i ≤ t ∧ t ≤ R.mi.lasts i then R.mi.levels i else v) k 0 0) := by
  intro k
  induction k with
  | zero =>
    intro fuel hk hf
    obtain ⟨fu, rfl⟩ := Nat.exists_eq_succ_of_ne_zero (Nat.ne_of_gt hf)
    simp only [f_X10_mist_b8]
    rw [if_neg (by decide)]
    rfl
  | succ k ih =>
    intro fuel hk hf
    obtain ⟨fu, rfl⟩ := Nat.exists_eq_succ_of_ne_zero (Nat.ne_of_gt (Nat.zero_lt_of_lt hf))
    have e1 : nI (k + 1) - 1 = nI k := by rw [show (1 : Int32) = nI 1 by decide, nI_sub (by omega)]; congr 1
    have e2 : nI k + -1 = nI k - 1 := (Int32.sub_eq_add_neg _ _).symm
    have q := rfs_l (h1.P D) (show k < R.mi.told by omega) (by omega)
    obtain ⟨r0, r1, r2⟩ := row3_l ((h2 k (by omega)).P D)
    simp only [f_X10_mist_b8, e1, if_pos (nI_pos' (show k < 2 ^ 31 by omega)), ln_mists ok, q, r0, r1, r2, Option.bind_some, f_X10_mist_b45, e2, up_last, Nat.zero_add]
    by_cases c1 : R.mi.firsts k ≤ t
    · by_cases c2 : t ≤ R.mi.lasts k
      · simp only [c1, c2, and_self, if_true]
      · simp only [c1, c2, and_false, if_true, if_false]
        exact ih fu (by omega) (by omega)
    · simp only [c1, false_and, if_false]
      exact ih fu (by omega) (by omega)
theorem mist_r (L : lnR h S D R) (t : Int32) : f_X10_mist G (lnP h S D) S.B t = some (R.mi.levelAt t) := by
  obtain ⟨ok, K, rel, -⟩ := L
  obtain ⟨rw', h1, h2⟩ := K.2.2.2.2
  have t12 := rel.mi.1
  simp only [f_X10_mist, ln_mists ok, Option.bind_some, rfs_n (h1.P D)]
  exact mist_l ok h1 h2 t12 t R.mi.told g_N (by omega) (by unfold g_N; omega)
theorem mistN_r (L : lnR h S D R) : g_aln (lnP h S D) S.MA = some (nI R.mi.told) := by
  obtain ⟨ok, K, rel, -⟩ := L
  obtain ⟨rw', h1, -⟩ := K.2.2.2.2
  exact rfs_n (h1.P D)
theorem key_l {nk : Nat} {rw' st : Nat → Nat} {tk ky : Nat → Int32} (hn : nk ≤ 16) (h1 : still h S S.KA (rfs 3 nk rw')) (h2 : ∀ r, r < nk → still h S (rw' r) (.inl (0, 3, .inl (row3 (nI (st r)) (tk r) (ky r))))) (s2 : ∀ r, r < nk → st r < 2) {s : Nat} (hs : s < 2) (t : Int32) : ∀ (d i fuel : Nat) (o : Option Nat), i + d = nk → d < fuel → rBest st tk s t i o → ∃ o', rBest st tk s t nk o' ∧ f_X10_key_b16 G (lnP h S D) fuel (nI s) t (o.map rw') S.KA (nI nk) (nI i) = some (rKey ky o') := by
  intro d
  induction d with
  | zero =>
    intro i fuel o hi hf ho
    obtain ⟨fu, rfl⟩ := Nat.exists_eq_succ_of_ne_zero (Nat.ne_of_gt hf)
    have : i = nk := by omega
    subst this
    refine ⟨o, ho, ?_⟩
    simp only [f_X10_key_b16, if_neg (nI_nlt (Nat.le_refl i) (show i < 2 ^ 31 by omega))]
    cases o with
    | none => rfl
    | some r =>
      obtain ⟨-, -, r2⟩ := row3_l ((h2 r ho.1).P D)
      simp only [Option.map_some, Option.elim_some, r2, Option.bind_some]
      rfl
  | succ d ih =>
    intro i fuel o hi hf ho
    obtain ⟨fu, rfl⟩ := Nat.exists_eq_succ_of_ne_zero (Nat.ne_of_gt (Nat.zero_lt_of_lt hf))
    have hi2 : i < nk := by omega
    have q := rfs_l (h1.P D) hi2 (show nk < 2 ^ 31 by omega)
    obtain ⟨r0, r1, -⟩ := row3_l ((h2 i hi2).P D)
    have es : (nI (st i) = nI s) ↔ st i = s := nI_eq (by have := s2 i hi2; omega) (by omega)
    have e1 : nI i + 1 = nI (i + 1) := (nI_succ i).symm
    have skip : rBest st tk s t (i + 1) o → ∃ o', rBest st tk s t nk o' ∧ f_X10_key_b16 G (lnP h S D) fu (nI s) t (o.map rw') S.KA (nI nk) (nI (i + 1)) = some (rKey ky o') := fun h => ih (i + 1) fu o (by omega) (by omega) h
    have take : rBest st tk s t (i + 1) (some i) → ∃ o', rBest st tk s t nk o' ∧ f_X10_key_b16 G (lnP h S D) fu (nI s) t (some (rw' i)) S.KA (nI nk) (nI (i + 1)) = some (rKey ky o') := fun h => ih (i + 1) fu (some i) (by omega) (by omega) h
    have keep : (¬ (st i = s ∧ tk i ≤ t)) → rBest st tk s t (i + 1) o := fun hc => by
      cases o with
      | none =>
        intro r hr h1 h2
        by_cases e : r = i
        · subst e; exact hc ⟨h1, h2⟩
        · exact ho r (by omega) h1 h2
      | some r =>
        obtain ⟨a1, a2, a3, a4⟩ := ho
        refine ⟨by omega, a2, a3, fun q hq b1 b2 => ?_⟩
        by_cases e : q = i
        · subst e; exact absurd ⟨b1, b2⟩ hc
        · exact a4 q (by omega) b1 b2
    simp only [f_X10_key_b16, if_pos (nI_lt hi2 (show nk < 2 ^ 31 by omega)), q, Option.bind_some, r0, r1, f_X10_key_b60, f_X10_key_b63, e1, es]
    by_cases c1 : st i = s
    · by_cases c2 : tk i ≤ t
      · simp only [c1, c2, if_true]
        cases o with
        | none =>
          simp only [Option.map_none, Option.elim_none]
          refine take ⟨by omega, c1, c2, fun q hq b1 b2 => ?_⟩
          by_cases e : q = i
          · subst e; exact Int32.le_refl _
          · exact absurd b2 (ho q (by omega) b1)
        | some r =>
          obtain ⟨a1, a2, a3, a4⟩ := ho
          obtain ⟨-, x1, -⟩ := row3_l ((h2 r (by omega)).P D)
          simp only [Option.map_some, Option.elim_some, x1, Option.bind_some]
          by_cases c3 : tk r < tk i
          · simp only [c3, if_true]
            refine take ⟨by omega, c1, c2, fun q hq b1 b2 => ?_⟩
            by_cases e : q = i
            · subst e; exact Int32.le_refl _
            · exact Int32.le_trans (a4 q (by omega) b1 b2) (Int32.le_of_lt c3)
          · simp only [c3, if_false]
            refine skip ⟨by omega, a2, a3, fun q hq b1 b2 => ?_⟩
            by_cases e : q = i
            · subst e; exact Int32.not_lt.mp c3
            · exact a4 q (by omega) b1 b2
      · simp only [c1, c2, if_true, if_false]
        exact skip (keep fun z => c2 z.2)
    · simp only [c1, if_false]
      exact skip (keep fun z => c1 z.1)
theorem key_r (L : lnR h S D R) {s : Nat} (hs : s < 2) (t : Int32) : f_X10_key G (lnP h S D) S.B (nI s) t = some ((R.kp (nI s)).keyAt t) := by
  obtain ⟨ok, K, rel, -⟩ := L
  obtain ⟨nk, rw', st, tk, ky, hn, h1, h2, h3⟩ := K.2.2.2.1
  obtain ⟨o, o1, o2⟩ := key_l (G := G) (D := D) hn h1 h2 (fun r hr => (h3.1 r hr).1) hs t nk 0 g_N none (by omega) (by unfold g_N; omega) (fun r hr => absurd hr (by omega))
  rw [← key_one rel h3 hs t o1, ← o2]
  simp only [f_X10_key, ln_keepers ok, Option.bind_some, rfs_n (h1.P D), Option.map_none, nI_0]
theorem isOpen_l {n c : Nat} (ok : S.ok n) (hc : c < 2) {hr cl : Nat} (hh : hr < 24) (hcl : cl < 24) (e2 : D (10 + 16 * c + 2) = nI cl) : ∀ (d x fuel : Nat) (v : Bool), x < 24 → d < 24 → (x + d) % 24 = cl → d < fuel → f_X9_isOpen_b22 G (lnP h S D) fuel (S.p c) (nI hr) (bI v) (nI x) = some (bI (v || opn hr d x)) := by
  intro d
  induction d with
  | zero =>
    intro x fuel v hx hd hm hf
    obtain ⟨fu, rfl⟩ := Nat.exists_eq_succ_of_ne_zero (Nat.ne_of_gt hf)
    have : x = cl := by omega
    subst this
    simp only [f_X9_isOpen_b22, lmG_closes ok hc, e2, Option.bind_some, if_true, g_z_bI, opn, Bool.or_false]
  | succ d ih =>
    intro x fuel v hx hd hm hf
    obtain ⟨fu, rfl⟩ := Nat.exists_eq_succ_of_ne_zero (Nat.ne_of_gt (Nat.zero_lt_of_lt hf))
    have hne : ¬ nI x = nI cl := fun z => by have := (nI_eq (by omega) (by omega)).mp z; omega
    have e3 : g_rem (nI x + 1) 24 = nI ((x + 1) % 24) := by rw [← nI_succ, rem_24 _ (by omega)]
    have eh : (nI x = nI hr) ↔ x = hr := nI_eq (by omega) (by omega)
    have q := fun v => ih ((x + 1) % 24) fu v (by omega) (by omega) (by omega) (by omega)
    simp only [f_X9_isOpen_b22, lmG_closes ok hc, e2, Option.bind_some, hne, if_false, f_X9_isOpen_b41, e3, eh, opn]
    by_cases c : x = hr
    · have := or_bI v true
      rw [bI_t] at this
      simp only [c, if_true, this, Bool.or_true, decide_true, Bool.true_or]
      rw [c] at q
      rw [q]
      simp
    · have := or_bI v false
      rw [bI_f] at this
      simp only [c, if_false, this, Bool.or_false, decide_false, Bool.false_or]
      exact q v
theorem isOpen_r (L : lnR h S D R) (b : Bool) {t : Nat} (ht : t < 2 ^ 31) : f_X9_isOpen G (lnP h S D) (S.p (cn b)) (g_rem (nI t) 24) = some (bI ((R.ch b).isOpen (nI t))) := by
  have hc := cn_lt b
  obtain ⟨ok, K, rel, lg⟩ := L
  obtain ⟨o, c, o1, c1, o2, c2⟩ := lg.2.2 b
  have e1 : D (10 + 16 * cn b + 1) = nI o := (rel.ch b).2.1.trans o2
  have e2 : D (10 + 16 * cn b + 2) = nI c := (rel.ch b).2.2.1.trans c2
  have hm : t % 24 < 24 := Nat.mod_lt _ (by decide)
  rw [rem_24 t ht]
  have q := fun v => isOpen_l (G := G) (h := h) ok hc hm c1 e2 ((c + 24 - o) % 24) o g_N v o1 (by omega) (by omega) (by unfold g_N; omega)
  have eoc : (nI o = nI c) ↔ o = c := nI_eq (by omega) (by omega)
  have fin : ∀ v, (v = decide (o = c)) → (v || opn (t % 24) ((c + 24 - o) % 24) o) = (R.ch b).isOpen (nI t) := fun v hv => by
    subst hv
    rw [Bool.eq_iff_iff, Bool.or_eq_true, opn_iff _ _ _ o1 (by omega)]
    unfold RCh.isOpen
    rw [o2, c2, rem_24 t ht]
    simp only [nI_ltI (show o < 2 ^ 31 by omega) (show c < 2 ^ 31 by omega), nI_leI (show o < 2 ^ 31 by omega) (show t % 24 < 2 ^ 31 by omega), nI_ltI (show t % 24 < 2 ^ 31 by omega) (show c < 2 ^ 31 by omega), eoc]
    by_cases c3 : o < c
    · simp only [c3, if_true, decide_eq_true_eq]
      constructor
      · rintro (z | ⟨j, j1, j2⟩)
        · omega
        · omega
      · intro z
        exact Or.inr ⟨t % 24 - o, by omega, by omega⟩
    · simp only [c3, if_false, decide_eq_true_eq]
      constructor
      · rintro (z | ⟨j, j1, j2⟩)
        · exact Or.inl z
        · omega
      · rintro (z | z | z)
        · exact Or.inl z
        · by_cases e : o = c
          · exact Or.inl e
          · exact Or.inr ⟨t % 24 - o, by omega, by omega⟩
        · by_cases e : o = c
          · exact Or.inl e
          · exact Or.inr ⟨t % 24 + 24 - o, by omega, by omega⟩
  simp only [f_X9_isOpen, f_X9_isOpen_b16, lmG_opens ok hc, lmG_closes ok hc, e1, e2, Option.bind_some, eoc]
  by_cases c3 : o = c
  · rw [if_pos c3, ← bI_t, q true, fin true (decide_eq_true c3).symm]
  · rw [if_neg c3, ← bI_f, q false, fin false (decide_eq_false c3).symm]
theorem inst_l (L : lnR h S D R) (p : Int32) : ∀ (d i fuel : Nat) (x : Int32), i + d = R.told → d < fuel → f_X10_inState_b14 G (lnP h S D) fuel p x S.TA (nI R.told) (nI i) = some (up (fun i x => if (R.ms i).phase = p then x + 1 else x) d i x) := by
  have t8 := L.2.2.1.inv.1
  intro d
  induction d with
  | zero =>
    intro i fuel x hi hf
    obtain ⟨fu, rfl⟩ := Nat.exists_eq_succ_of_ne_zero (Nat.ne_of_gt hf)
    simp only [f_X10_inState_b14, if_neg (nI_nlt (show R.told ≤ i by omega) (show i < 2 ^ 31 by omega)), up]
  | succ d ih =>
    intro i fuel x hi hf
    obtain ⟨fu, rfl⟩ := Nat.exists_eq_succ_of_ne_zero (Nat.ne_of_gt (Nat.zero_lt_of_lt hf))
    have hi2 : i < R.told := by omega
    simp only [f_X10_inState_b14, if_pos (nI_lt hi2 (show R.told < 2 ^ 31 by omega)), talk_r L hi2, Option.bind_some, phase_r L hi2, f_X10_inState_b39, ← nI_succ, up]
    by_cases c : (R.ms i).phase = p
    · simp only [c, if_true]; exact ih (i + 1) fu _ (by omega) (by omega)
    · simp only [c, if_false]; exact ih (i + 1) fu _ (by omega) (by omega)
theorem inState_r (L : lnR h S D R) (p : Int32) : f_X10_inState G (lnP h S D) S.B p = some (R.count p) := by
  have t8 := L.2.2.1.inv.1
  simp only [f_X10_inState, ln_talks L.1, Option.bind_some, talkN_r L]
  have := inst_l (G := G) L p R.told 0 g_N 0 (by omega) (by unfold g_N; omega)
  rw [nI_0] at this
  exact this
theorem agr_l (L : lnR h S D R) : ∀ (d i fuel : Nat) (x : Int32), i + d = R.told → d < fuel → f_X10_agreeing_b13 G (lnP h S D) fuel x S.TA (nI R.told) (nI i) = some (up (fun i x => if (R.ms i).agrees then x + 1 else x) d i x) := by
  have t8 := L.2.2.1.inv.1
  intro d
  induction d with
  | zero =>
    intro i fuel x hi hf
    obtain ⟨fu, rfl⟩ := Nat.exists_eq_succ_of_ne_zero (Nat.ne_of_gt hf)
    simp only [f_X10_agreeing_b13, if_neg (nI_nlt (show R.told ≤ i by omega) (show i < 2 ^ 31 by omega)), up]
  | succ d ih =>
    intro i fuel x hi hf
    obtain ⟨fu, rfl⟩ := Nat.exists_eq_succ_of_ne_zero (Nat.ne_of_gt (Nat.zero_lt_of_lt hf))
    have hi2 : i < R.told := by omega
    simp only [f_X10_agreeing_b13, if_pos (nI_lt hi2 (show R.told < 2 ^ 31 by omega)), talk_r L hi2, Option.bind_some, ln_gt L.1 hi2, cond_true, agrees_r L hi2, f_X10_agreeing_b36, ← nI_succ, up, bI_eq0]
    by_cases c : (R.ms i).agrees = true
    · simp only [c, Bool.true_eq_false, if_false, if_true]; exact ih (i + 1) fu _ (by omega) (by omega)
    · have c2 : (R.ms i).agrees = false := Bool.eq_false_iff.mpr c
      simp only [c2, if_true, Bool.false_eq_true, if_false]; exact ih (i + 1) fu _ (by omega) (by omega)
theorem agreeing_r (L : lnR h S D R) : f_X10_agreeing G (lnP h S D) S.B = some R.agreeing := by
  have t8 := L.2.2.1.inv.1
  simp only [f_X10_agreeing, ln_talks L.1, Option.bind_some, talkN_r L]
  have := agr_l (G := G) L R.told 0 g_N 0 (by omega) (by unfold g_N; omega)
  rw [nI_0] at this
  exact this
theorem next_row (L : lnR h S D R) (k : Int32) {u : Nat} (hu : u < 10) (K : Nat → Int32 → Int32 → Int32 → Option Int32) (P : Int32 → Prop)
    (hK : (∀ i, i < R.told → (R.ms i).phase = 0 → urg (R.ms i) = u → k ≠ nI (cnt (ahd R u i) R.told)) → ∃ r, K S.B k (nI (cnt (ahd R u R.told) R.told)) (nI u - 1) = some r ∧ P r)
    (hP : ∀ i, i < R.told → (R.ms i).phase = 0 → urg (R.ms i) = u → k = nI (cnt (ahd R u i) R.told) → P (nI i)) : ∀ (d i fuel : Nat), i + d = R.told → d < fuel → (∀ j, j < i → (R.ms j).phase = 0 → urg (R.ms j) = u → k ≠ nI (cnt (ahd R u j) R.told)) → ∃ r, f_X10_next_b12 G (lnP h S D) K fuel S.B k (nI (cnt (ahd R u i) R.told)) (nI u) (nI i) = some r ∧ P r := by
  have hr := L.2.2.1
  obtain ⟨l, -, -, -, hm⟩ := hr.inv.m
  have t8 := hr.inv.1
  intro d
  induction d with
  | zero =>
    intro i fuel hi hf hno
    obtain ⟨fu, rfl⟩ := Nat.exists_eq_succ_of_ne_zero (Nat.ne_of_gt hf)
    have : i = R.told := by omega
    subst this
    simp only [f_X10_next_b12, ln_talks L.1, talkN_r L, Option.bind_some, if_neg (nI_nlt (Nat.le_refl R.told) (show R.told < 2 ^ 31 by omega))]
    have e : nI u + -1 = nI u - 1 := (Int32.sub_eq_add_neg _ _).symm
    rw [e]
    exact hK hno
  | succ d ih =>
    intro i fuel hi hf hno
    obtain ⟨fu, rfl⟩ := Nat.exists_eq_succ_of_ne_zero (Nat.ne_of_gt (Nat.zero_lt_of_lt hf))
    have hit : i < R.told := by omega
    have a1 := urg_of (hm i hit)
    have st := ahd_step R u i hit
    have e2 : (nI (urg (R.ms i)) = nI u) ↔ urg (R.ms i) = u := nI_eq (by omega) (by omega)
    have eu : g_gI (lnP h S D) (S.t i) 12 1 = some (R.ms i).urgency := by rw [tkG_urgency L.1 hit, (hr.ms i hit).2.1]
    have e0 : ((R.ms i).phase ≤ 0) ↔ (R.ms i).phase = 0 := by
      obtain ⟨p, p1, p2⟩ := (hm i hit).2.2.2.2.2.2.1
      rw [p2]
      rw [show (0 : Int32) = nI 0 from nI_0.symm, nI_leI (by omega) (by omega), nI_eq (by omega) (by omega)]
      omega
    simp only [f_X10_next_b12, ln_talks L.1, talkN_r L, Option.bind_some, if_pos (nI_lt hit (show R.told < 2 ^ 31 by omega)), talk_r L hit, phase_r L hit, eu, e0, f_X10_next_b63]
    rw [a1.2]
    simp only [e2, ← nI_succ]
    by_cases w : (R.ms i).phase = 0
    · by_cases g : urg (R.ms i) = u
      · simp only [w, g, if_true]
        by_cases c : nI (cnt (ahd R u i) R.told) = k
        · simp only [c, if_true]
          exact ⟨_, rfl, hP i hit w g c.symm⟩
        · simp only [c, if_false]
          have q := ih (i + 1) fu (by omega) (by omega) (fun j hj wj gj => if e : j = i then (by subst e; exact fun e9 => c e9.symm) else hno j (by omega) wj gj)
          rw [st, if_pos ⟨w, g⟩] at q
          exact q
      · simp only [w, g, if_true, if_false]
        have q := ih (i + 1) fu (by omega) (by omega) (fun j hj wj gj => if e : j = i then (by subst e; exact absurd gj g) else hno j (by omega) wj gj)
        rw [st, if_neg (fun z => g z.2), Nat.add_zero] at q
        exact q
    · simp only [w, if_false]
      have q := ih (i + 1) fu (by omega) (by omega) (fun j hj wj gj => if e : j = i then (by subst e; exact absurd wj w) else hno j (by omega) wj gj)
      rw [st, if_neg (fun z => w z.1), Nat.add_zero] at q
      exact q
theorem next_rows (L : lnR h S D R) (k : Int32) : ∀ (u fuel : Nat), u ≤ 10 → u < fuel → (∀ i, i < R.told → (R.ms i).phase = 0 → u ≤ urg (R.ms i) → k ≠ nI (cnt (ahd R (urg (R.ms i)) i) R.told)) → ∃ r, f_X10_next_b5 G (lnP h S D) fuel S.B k (nI (match u with | 0 => cnt (ahd R 0 R.told) R.told | v + 1 => cnt (ahd R v 0) R.told)) (nI u - 1) = some r ∧ isNth R k r := by
  have hr := L.2.2.1
  obtain ⟨l, -, -, -, hm⟩ := hr.inv.m
  have t8 := hr.inv.1
  intro u
  induction u with
  | zero =>
    intro fuel hu hf hno
    obtain ⟨fu, rfl⟩ := Nat.exists_eq_succ_of_ne_zero (Nat.ne_of_gt hf)
    refine ⟨-1, ?_, Or.inr ⟨rfl, fun i hi wi => hno i hi wi (Nat.zero_le _)⟩⟩
    simp only [f_X10_next_b5]
    rw [if_neg (by decide)]
  | succ u ih =>
    intro fuel hu hf hno
    obtain ⟨fu, rfl⟩ := Nat.exists_eq_succ_of_ne_zero (Nat.ne_of_gt (Nat.zero_lt_of_lt hf))
    have e1 : nI (u + 1) - 1 = nI u := by rw [show (1 : Int32) = nI 1 by decide, nI_sub (by omega)]; congr 1
    simp only [f_X10_next_b5, e1, if_pos (nI_pos' (show u < 2 ^ 31 by omega))]
    have q := next_row (G := G) L k (show u < 10 by omega) (f_X10_next_b5 G (lnP h S D) fu) (isNth R k) (fun hrow => by
      have q9 := ih fu (by omega) (by omega) (fun i hi wi hui => by
        by_cases c : urg (R.ms i) = u
        · rw [c]; exact hrow i hi wi c
        · exact hno i hi wi (by omega))
      cases u with
      | zero => exact q9
      | succ v => rw [ahd_next]; exact q9) (fun i hi wi gi hk => Or.inl ⟨i, hi, wi, by rw [gi]; exact hk, rfl⟩) R.told 0 g_N (by omega) (by unfold g_N; omega) (fun j hj => absurd hj (by omega))
    rw [nI_0] at q
    exact q
theorem next_r (L : lnR h S D R) (k : Int32) : f_X10_next G (lnP h S D) S.B k = some (oI (R.servedAs k)) := by
  have hr := L.2.2.1
  have q := next_rows (G := G) L k 10 g_N (by omega) (by unfold g_N; omega) (fun i hi wi hui => by
    obtain ⟨l, -, -, -, hm⟩ := hr.inv.m
    have := (urg_of (hm i hi)).1
    omega)
  dsimp only at q
  rw [ahd_9 hr.inv, nI_0, show nI 10 - 1 = (9 : Int32) by decide] at q
  obtain ⟨r, r1, r2⟩ := q
  unfold f_X10_next
  rw [r1, isNth_one hr.inv r2 (servedAs_n hr.inv k)]
/-- the figures -/
theorem i13n : ∀ k, k < 13 → ∀ j, j < 13 → ((nI k = nI j) ↔ k = j) := fun k hk j hj => nI_eq (by omega) (by omega)
theorem its {β : Type} {c : Prop} [Decidable c] {a b : β} : (if c then some a else some b) = some (if c then a else b) := by split <;> rfl
theorem bI_if (x : Bool) : (if x = false then (0 : Int32) else 1) = bI x := by cases x <;> rfl
theorem told_r (L : lnR h S D R) (w : Int32) : f_X10_told G (lnP h S D) S.B w = some (R.figure w) := by
  have hr := L.2.2.1
  obtain ⟨n0, n1, n2, n3, n4, n5, n6, n8, n9⟩ := hr.n
  simp only [f_X10_told, RW.figure, lnG_time L.1, lnG_way L.1, lnG_sent L.1, lnG_lost L.1, lnG_garb L.1, lnG_given L.1, lnG_size L.1, lnG_limit L.1, ln_talks L.1, ln_mists L.1, talkN_r L, mistN_r L, ln_gB L.1, cond_true, inState_r L, agreeing_r L, Option.bind_some, n0, n2, n3, n4, n5, n6, n8, n9, its]
theorem stepF (L : lnR h S D R) (b : Bool) : D (10 + 16 * cn b + 4) = if (R.ch b).frame = -1 then -1 else (R.ch b).step := by
  have hr := L.2.2.1
  by_cases c : (R.ch b).frame = -1
  · rw [if_pos c]; exact (hr.ch b).2.2.2.2 c
  · rw [if_neg c]
    cases e : R.way with
    | none =>
      have := hr.way.1 e
      cases b
      · exact absurd this.1 c
      · exact absurd this.2 c
    | some i =>
      obtain ⟨f, s, nb, k1, k2, -, -, -, -, -, -, k9, -⟩ := ((hr.way.2 i e).1 b).resolve_left c
      rw [k9, k2]
theorem lamp_r (L : lnR h S D R) (b : Bool) : g_qld (lnP h S D) (S.B + 1) 7 (nI (cn b)) = some (some (S.p (cn b))) := rfs_l (L.2.1.1.P D) (cn_lt b) (by decide)
theorem ofLamp_r (L : lnR h S D R) (b : Bool) (w : Int32) (ht : R.time < 2 ^ 31) : f_X10_ofLamp G (lnP h S D) S.B (nI (cn b)) w = some ((R.ch b).figure w (nI R.time)) := by
  have hr := L.2.2.1
  have hc := cn_lt b
  have n0 := hr.n.1
  obtain ⟨c0, c1, c2, c3, -⟩ := hr.ch b
  have c4 := stepF L b
  simp only [f_X10_ofLamp, RCh.figure, ln_lamps L.1, lamp_r L b, lmG_power L.1 hc, lmG_opens L.1 hc, lmG_closes L.1 hc, lmG_work L.1 hc, lmG_step L.1 hc, lnG_time L.1, ln_gp L.1 hc, cond_true, Option.bind_some, n0, c0, c1, c2, c3, c4, isOpen_r L b ht, bI_eq0, its, bI_if]
theorem ofTalk_r (L : lnR h S D R) {i : Nat} (hi : i < R.told) (w : Int32) : f_X10_ofTalk G (lnP h S D) S.B (nI i) w = some ((R.ms i).figure w) := by
  have hr := L.2.2.1
  obtain ⟨m0, m1, m2, m3, m4, m5, -⟩ := hr.ms i hi
  simp only [f_X10_ofTalk, RMs.figure, ln_talks L.1, talk_r L hi, tkG_sender L.1 hi, tkG_urgency L.1 hi, tkG_state L.1 hi, tkG_began L.1 hi, tkG_ended L.1 hi, tk_log L.1 hi, tk_frames L.1 hi, logN_r L hi, frameN_r L hi, empty_r L hi, wrong_r L hi, tries_r L hi, ln_gt L.1 hi, cond_true, Option.bind_some, m0, m1, m3, m4, m5, its]
theorem why_r (L : lnR h S D R) {i k : Nat} (hi : i < R.told) (hk : k < (R.ms i).len) : f_X10_why G (lnP h S D) S.B (nI i) (nI k) = some ((R.ms i).reason k) := by
  have hr := L.2.2.1
  have h24 := L.len24 hi
  obtain ⟨v1, v2, v3, -⟩ := hr.inv
  obtain ⟨l, -, -, hM⟩ := L.inv1 hi
  have n8 := hr.n.fs
  have z : ¬ nI R.fsize = 0 := nI_ne0 (by omega) (by omega)
  have lg := L.2.2.2.1 i hi k hk
  obtain ⟨q, q1, q2⟩ := hM.2.2.2.2.2.2.2.2.2 k hk
  simp only [f_X10_why, RMs.reason, ln_talks L.1, talk_r L hi, tk_log L.1 hi, log_r L hi hk, Option.bind_some, ln_gt L.1 hi, cond_true, letter_r L hi hk, lg_nonneg lg, tk_frames L.1 hi, lnG_size L.1, n8]
  by_cases c : (R.ms i).log k = -1
  · have c2 : ¬ (-1 : Int32) = (R.ms i).letters k := by rw [q2]; exact fun z => nI_neN (i := q) (by omega) z.symm
    have hf : k / R.fsize < (R.ms i).frames := by
      rw [hM.2.2.2.1]
      have e := Nat.div_add_mod k R.fsize
      have e2 : (k / R.fsize) < (((R.ms i).len + R.fsize - 1) / R.fsize) := by
        rw [Nat.div_lt_iff_lt_mul (by omega)]
        have e3 := Nat.div_add_mod ((R.ms i).len + R.fsize - 1) R.fsize
        have e4 := Nat.mod_lt ((R.ms i).len + R.fsize - 1) (show 0 < R.fsize by omega)
        rw [Nat.mul_comm] at e3
        omega
      exact e2
    obtain ⟨⟨s, s1, s2⟩, -⟩ := hM.2.2.2.2.2.2.2.2.1 _ hf
    have e54 : D (112 + 102 * i + (54 + k / R.fsize)) = (R.ms i).fst (k / R.fsize) := (hr.ms i hi).2.2.2.2.2.2.2.2.1 _ (by omega)
    simp only [c, c2, not_true_eq_false, if_true, if_false, z]
    rw [nI_div (show k < 2 ^ 31 by omega) (show R.fsize < 2 ^ 31 by omega) (by omega), frame_r L hi hf, hM.1]
    have g1 : ((1 : Int32) < nI s) ↔ 1 < s := by rw [show (1 : Int32) = nI 1 by decide]; exact nI_ltI (by omega) (by omega)
    have g2 : (nI s = (0 : Int32)) ↔ s = 0 := nI_eq0 (by omega)
    have g3 : (nI s = (1 : Int32)) ↔ s = 1 := by rw [show (1 : Int32) = nI 1 by decide]; exact nI_eq (by omega) (by omega)
    simp only [Option.bind_some, frG0 L.1 hi (show k / R.fsize < S.fr i by rw [L.sfr hi]; exact hf), e54, s2, g1, g2, g3]
    by_cases c3 : 1 < s
    · rw [if_pos c3, if_neg (by omega)]
    · rw [if_neg c3, if_pos (by omega)]
  · simp only [c, not_false_eq_true, if_true, if_false]
    by_cases c2 : (R.ms i).log k = (R.ms i).letters k
    · simp only [c2, if_true]
    · simp only [c2, if_false]
end ASK
