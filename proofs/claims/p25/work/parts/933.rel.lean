/-! a keeper relieved -/
section CA5
variable {G : gG} {a b bA : Nat} {h h' h1 : gH} {F F' : RFc} {S S' : RS} {D D' : Nat → Int32} {xs : Nat → Int32} {N : Nat} {K4 : gH → Int32 → Int32 → Option (Int32 × gH)} {K247 : gH → Int32 → Int32 → Nat → Nat → Nat → Nat → Nat → Int32 → Int32 → Option (Int32 × gH)} {l2 l8 l9 : Int32} {l4 l5 l7 l10 : Nat}
/-- the place of the row of the station s at the tick t among the first r; the number of rows if there is none -/
def plc (st : Nat → Nat) (tk : Nat → Int32) (s : Nat) (t : Int32) (r : Nat) (v : Int32) : Prop := (v = -1 ∧ ∀ j, j < r → ¬ (st j = s ∧ tk j = t)) ∨ ∃ p, p < r ∧ v = nI p ∧ st p = s ∧ tk p = t
theorem many_l (l : Lin h (Pq a bA) S D F.now) {nk s : Nat} {rw' st : Nat → Nat} {tk ky : Nat → Int32} (hs : s < 2) (n16 : nk ≤ 16) (h1 : still h S S.KA (rfs 3 nk rw')) (h2 : ∀ r, r < nk → still h S (rw' r) (.inl (0, 3, .inl (row3 (nI (st r)) (tk r) (ky r))))) (s2 : ∀ r, r < nk → st r < 2) (inj : ∀ r r', r < nk → r' < nk → st r = st r' → tk r = tk r' → r = r') (l17 l18 : Int32) : ∀ (d r fuel : Nat) (v : Int32), r + d = nk → d < fuel → plc st tk s (nI F.now.time) r v → ∃ fu v', f_L_law_b672 G xs N K4 K247 fuel h l2 a l4 l5 S.B l7 l8 l9 l10 (nI s) l17 l18 v (nI (cnt (fun r => decide (st r = s)) r)) (nI r) = f_L_law_b672 G xs N K4 K247 (fu + 1) h l2 a l4 l5 S.B l7 l8 l9 l10 (nI s) l17 l18 v' (nI (cnt (fun r => decide (st r = s)) nk)) (nI nk) ∧ plc st tk s (nI F.now.time) nk v' := by
  have fl := l.fld
  have alk : g_aln h S.KA = some (nI nk) := rfs_n h1.1
  intro d
  induction d with
  | zero =>
    intro r fuel v hr hf p
    obtain ⟨fu, rfl⟩ := Nat.exists_eq_succ_of_ne_zero (Nat.ne_of_gt (Nat.zero_lt_of_lt hf))
    have : r = nk := by omega
    subst this
    exact ⟨fu, v, rfl, p⟩
  | succ d ih =>
    intro r fuel v hr hf p
    obtain ⟨fu, rfl⟩ := Nat.exists_eq_succ_of_ne_zero (Nat.ne_of_gt (Nat.zero_lt_of_lt hf))
    have hr2 : r < nk := by omega
    have q := rfs_l h1.1 hr2 (show nk < 2 ^ 31 by omega)
    obtain ⟨d0, d1, -⟩ := row3_l (h2 r hr2).1
    have eq1 : (nI (st r) = nI s) ↔ st r = s := nI_eq (by have := s2 r hr2; omega) (by omega)
    have cs1 : st r = s → nI (cnt (fun r => decide (st r = s)) r) + 1 = nI (cnt (fun r => decide (st r = s)) (r + 1)) := fun z => by
      rw [cnt.eq_2, if_pos (decide_eq_true z), nI_1]
    have cs0 : ¬ st r = s → nI (cnt (fun r => decide (st r = s)) r) = nI (cnt (fun r => decide (st r = s)) (r + 1)) := fun z => by
      rw [cnt.eq_2, if_neg (fun y => z (of_decide_eq_true y)), Nat.add_zero]
    have old : ∀ {z : ¬ (st r = s ∧ tk r = nI F.now.time)}, plc st tk s (nI F.now.time) (r + 1) v := fun {z} => by
      rcases p with ⟨p1, p2⟩ | ⟨p, p1, p2, p3, p4⟩
      · exact Or.inl ⟨p1, fun j hj => by
          by_cases c : j = r
          · rw [c]; exact z
          · exact p2 j (by omega)⟩
      · exact Or.inr ⟨p, by omega, p2, p3, p4⟩
    rw [f_L_law_b672, fl.2.2.2.1, Option.bind_some, alk, Option.bind_some, if_pos (nI_lt hr2 (by omega)), Option.bind_some, q, Option.bind_some, Option.bind_some, d0, Option.bind_some]
    by_cases e1 : st r = s
    · rw [if_pos (eq1.mpr e1), Option.bind_some, q, Option.bind_some, Option.bind_some, d1, Option.bind_some, fl.2.2.2.2.2.2.2.1, Option.bind_some]
      by_cases e2 : tk r = nI F.now.time
      · rw [if_pos e2]
        unfold f_L_law_b726
        rw [cs1 e1, ← nI_succ]
        exact ih (r + 1) fu (nI r) (by omega) (by omega) (Or.inr ⟨r, by omega, rfl, e1, e2⟩)
      · rw [if_neg e2]
        unfold f_L_law_b726
        rw [cs1 e1, ← nI_succ]
        exact ih (r + 1) fu v (by omega) (by omega) (old (z := fun z => e2 z.2))
    · rw [if_neg (fun z => e1 (eq1.mp z))]
      unfold f_L_law_b726
      rw [cs0 e1, ← nI_succ]
      exact ih (r + 1) fu v (by omega) (by omega) (old (z := fun z => e1 z.1))
/-- how many rows are kept among the first r, where the row p goes -/
def kc (p r : Nat) : Nat := if r ≤ p then r else r - 1
theorem rfs_eq {t n : Nat} {f g : Nat → Nat} (h : ∀ i, i < n → f i = g i) : rfs t n f = rfs t n g := rfs_congr h
/-- the rows that stay are laid into a row of their own -/
theorem kept_l (W : wf h) (l : Lin h (Pq a bA) S D F.now) {nk p : Nat} {rw' st : Nat → Nat} {tk ky : Nat → Int32} (n16 : nk ≤ 16) (h1 : still h S S.KA (rfs 3 nk rw')) (h2 : ∀ r, r < nk → still h S (rw' r) (.inl (0, 3, .inl (row3 (nI (st r)) (tk r) (ky r))))) (l11 l12 l17 l18 pl : Int32) (hp : ∀ r, r < nk → (nI r = pl ↔ r = p)) : ∀ (d r fuel : Nat) (X : gH) (kA : Nat), r + d = nk → d < fuel → eff (fun _ => False) h X → X.2 kA = some (rfs 3 (kc p r) (fun i => rw' (skp p i))) → ∃ fu X' kA', f_L_law_b772 G xs N K4 K247 fuel X l2 a l4 l5 S.B l7 l8 l9 l10 l11 l12 l17 l18 pl kA (nI r) = f_L_law_b772 G xs N K4 K247 (fu + 1) X' l2 a l4 l5 S.B l7 l8 l9 l10 l11 l12 l17 l18 pl kA' (nI nk) ∧ eff (fun _ => False) h X' ∧ X'.2 kA' = some (rfs 3 (kc p nk) (fun i => rw' (skp p i))) := by
  intro d
  induction d with
  | zero =>
    intro r fuel X kA hr hf e ek
    obtain ⟨fu, rfl⟩ := Nat.exists_eq_succ_of_ne_zero (Nat.ne_of_gt (Nat.zero_lt_of_lt hf))
    have : r = nk := by omega
    subst this
    exact ⟨fu, X, kA, rfl, e, ek⟩
  | succ d ih =>
    intro r fuel X kA hr hf e ek
    obtain ⟨fu, rfl⟩ := Nat.exists_eq_succ_of_ne_zero (Nat.ne_of_gt (Nat.zero_lt_of_lt hf))
    have hr2 : r < nk := by omega
    have lX := l.fr W e (fun q hq => hq.elim)
    have WX := e.2.2 W
    have stx : ∀ {q c}, still h S q c → X.2 q = some c := fun {q c} k => (e.2.1 q (W _ _ k.1) (fun z => z)).trans k.1
    have alk : g_aln X S.KA = some (nI nk) := rfs_n (stx h1)
    have q := rfs_l (stx h1) hr2 (show nk < 2 ^ 31 by omega)
    rw [f_L_law_b772, lX.fld.2.2.2.1, Option.bind_some, alk, Option.bind_some, if_pos (nI_lt hr2 (by omega))]
    by_cases c : r = p
    · rw [if_pos ((hp r hr2).mpr c)]
      unfold f_L_law_b805
      rw [← nI_succ]
      refine ih (r + 1) fu X kA (by omega) (by omega) e ?_
      rw [ek]
      have e1 : kc p r = kc p (r + 1) := by unfold kc; rw [if_pos (by omega), if_neg (by omega)]; omega
      rw [e1]
    · rw [if_neg (fun z => c ((hp r hr2).mp z)), Option.bind_some, q, Option.bind_some, Option.bind_some]
      have kr : skp p (kc p r) = r := by
        unfold skp kc
        by_cases c1 : r ≤ p
        · rw [if_pos c1, if_pos (by omega)]
        · rw [if_neg c1, if_neg (by omega)]; omega
      have kn : kc p (r + 1) = kc p r + 1 := by
        unfold kc
        by_cases c1 : r ≤ p
        · rw [if_pos c1, if_pos (by omega)]
        · rw [if_neg c1, if_neg (by omega)]; omega
      have kle : kc p r ≤ r := by unfold kc; split <;> omega
      have slt : ∀ i, i < kc p r → skp p i < nk := fun i hi => by
        unfold skp
        unfold kc at hi
        split at hi <;> split <;> omega
      have er : X.2 (rw' r) = some (.inl (0, 3, .inl (row3 (nI (st r)) (tk r) (ky r)))) := stx (h2 r hr2)
      have wc := with_c (G := G) (g := fun i => row3 (nI (st (skp p i))) (tk (skp p i)) (ky (skp p i))) ek (WX _ _ ek) (fun i hi => ⟨stx (h2 _ (slt i hi)), WX _ _ (stx (h2 _ (slt i hi)))⟩) er (WX _ _ er) (show kc p r < 20 by omega)
      rw [wc, Option.bind_some]
      unfold f_L_law_b805
      rw [← nI_succ]
      refine ih (r + 1) fu _ X.1 (by omega) (by omega) (e.trans (eff_ext _ X _)) ?_
      have e0 : (ext X [rfs 3 (kc p r + 1) (oneMore (kc p r) (fun i => rw' (skp p i)) (rw' r))]).2 X.1 = some (rfs 3 (kc p r + 1) (oneMore (kc p r) (fun i => rw' (skp p i)) (rw' r))) := ext_in X _ (j := 0) (by simp)
      refine Eq.trans e0 ?_
      rw [kn]
      refine congrArg some (rfs_congr (fun i hi => ?_))
      unfold oneMore
      by_cases c2 : i < kc p r
      · rw [if_pos c2]
      · rw [if_neg c2, show i = kc p r by omega, kr]
/-- a keeper comes: the Line, then the class -/
theorem rel_yes (B : Bas a b h) (C : Cls a h F) (l : Lin h (Pq a bA) S D F.now) (hA : bA < h.1) (ht : F.now.time ≤ 1000) {s k n kA : Nat} {st : Nat → Nat} {tk ky : Nat → Int32} {f : Nat → Nat} (hs : s < 2) (hk : k < 26) (q : kpX F.now n st tk ky s (nI F.now.time)) (n8 : (F.now.kp (nI s)).place (nI F.now.time) = none → (F.now.kp (nI s)).told < 8) {nk : Nat} {rw' : Nat → Nat} (hKA : h.2 S.KA = some (rfs 3 nk rw')) (n16 : nk ≤ 16) (eA : h.2 kA = some (rfs 3 n f)) (bf : ∀ r, r < n → still h S (f r) (.inl (0, 3, .inl (row3 (nI (st r)) (tk r) (ky r))))) (fu : Nat) (pl : Int32) : ∃ h', f_L_law_b772 G xs N K4 K247 (fu + 1) h l2 a l4 l5 S.B l7 l8 l9 l10 1 (nI s) (nI k) ((F.now.kp (nI s)).keyAt (nI F.now.time)) pl kA (nI nk) = f_L_law_b1159 G xs N K4 K247 h' 1 l2 a l4 l5 S.B l7 l8 l9 l10 (bI true) ∧ Rs a b bA h F S true h' := by
  have r := l.rel
  have k8 := (r.kp hs).1
  obtain ⟨m1, m2, m3, m4⟩ := mk3 h (nI s) (nI F.now.time) (nI k)
  have tm : ∀ f, g_gI (rw3 h f) S.B 10 6 = some (nI F.now.time) := fun f => (l.ex B.1 [.inl (0, 3, .inl f)]).fld.2.2.2.2.2.2.2.1
  obtain ⟨h2, h3, S', D', e1, e2, e3, e4, e5, e6, e7⟩ := Lin.keep (G := G) (a := a) (bA := a) l B.1 (hPq B hA) hs q n8 ⟨k, hk, rfl⟩ ⟨F.now.time, by omega, rfl⟩ eA bf
  have own : ∀ q, q = S.B → a + 616 ≤ q := fun q hq => by rw [hq]; exact (l.2.2.2.2.2.2.1 _ l.rB).1
  have B3 : Bas a b h3 := B.fr e6 (fun q hq => by have := own q hq; have := B.2.2.1; omega)
  have C3 : Cls a h3 F := C.fr (by have := B.2.2.2.1; omega) e6 (fun q hq => by have := own q hq; omega)
  have rc := relieve_c (G := G) C3.1 r.ok C.2.2.2.1 C.2.2.2.2 r.inv.1 hs (show k ≤ 25 by omega) (show F.now.time ≤ 9999 by omega) k8
  rw [if_neg (fun z => by have := n8 z.2; omega)] at rc
  have l4' : Lin h3 (Pq a bA) S' D' (F.keep.s_now (F.now.setKp (nI s) ((F.now.kp (nI s)).come (nI F.now.time) (nI k)))).now := e3
  have rs := Rs_ok (F' := F.keep.s_now (F.now.setKp (nI s) ((F.now.kp (nI s)).come (nI F.now.time) (nI k)))) B3 C3 l4' e4 e5 (by show (F.now.setKp (nI s) _).time ≤ _; rw [(setKp_side F.now (nI s) _).1]; omega) C.2.2.1 ⟨rfl, rfl, rfl⟩
  have alk : g_aln h S.KA = some (nI nk) := rfs_n hKA
  refine ⟨_, ?_, rs⟩
  rw [f_L_law_b772, l.fld.2.2.2.1, Option.bind_some, alk, Option.bind_some, if_neg (nI_nlt (Nat.le_refl nk) (by omega)), m1, Option.bind_some, m2, Option.bind_some, tm, Option.bind_some, m3, Option.bind_some, m4, Option.bind_some, e1, Option.bind_some]
  dsimp only
  rw [e2, Option.bind_some]
  unfold f_L_law_b842
  rw [rc, Option.bind_some, if_neg (by decide)]
  unfold f_L_law_b874
  rw [if_pos rfl]
  rfl
theorem case_rel (B : Bas a b h) (C : Cls a h F) (l : Lin h (Pq a bA) S D F.now) (hA : bA < h.1) (ht : F.now.time ≤ 1000) {s k : Nat} (hs : s < 2) (hk : k < 27) : ∃ d h', f_L_law_b672 G xs N K4 K247 g_N h l2 a l4 l5 S.B l7 l8 l9 l10 (nI s) (nI k) ((F.now.kp (nI s)).keyAt (nI F.now.time)) (-1) 0 0 = f_L_law_b1159 G xs N K4 K247 h' 1 l2 a l4 l5 S.B l7 l8 l9 l10 (bI d) ∧ Rs a b bA h F S d h' := by
  have r := l.rel
  have k8 := (r.kp hs).1
  obtain ⟨nk, rw', st, tk, ky, b1, b2, b3, b4⟩ := l.L.2.1.2.2.2.1
  have alk : g_aln h S.KA = some (nI nk) := rfs_n b2.1
  obtain ⟨fu, v, e1, pv⟩ := many_l (G := G) (xs := xs) (N := N) (K4 := K4) (K247 := K247) (l2 := l2) (l8 := l8) (l9 := l9) (l4 := l4) (l5 := l5) (l7 := l7) (l10 := l10) l hs b1 b2 b3 (fun r hr => (b4.1 r hr).1) b4.2.2.1 (nI k) ((F.now.kp (nI s)).keyAt (nI F.now.time)) nk 0 g_N (-1) (by omega) (by unfold g_N; omega) (Or.inl ⟨rfl, fun j hj => absurd hj (Nat.not_lt_zero j)⟩)
  have ct := b4.2.2.2 s hs
  rw [ct, nI_0] at e1
  have e1' : f_L_law_b672 G xs N K4 K247 g_N h l2 a l4 l5 S.B l7 l8 l9 l10 (nI s) (nI k) ((F.now.kp (nI s)).keyAt (nI F.now.time)) (-1) 0 0 = _ := e1
  rw [e1', f_L_law_b672, l.fld.2.2.2.1, Option.bind_some, alk, Option.bind_some, if_neg (nI_nlt (Nat.le_refl nk) (by omega))]
  have e26 : nI k < 26 ↔ k < 26 := by rw [show (26 : Int32) = nI 26 by decide]; exact nI_ltI (by omega) (by decide)
  have e8 : nI (F.now.kp (nI s)).told < 8 ↔ (F.now.kp (nI s)).told < 8 := by rw [show (8 : Int32) = nI 8 by decide]; exact nI_ltI (by omega) (by decide)
  by_cases c26 : k < 26
  · rw [if_pos (e26.mpr c26)]
    have nq : g_nwQ h 3 0 0 = some (ext h [rwQ 3 0 0 (fun _ => 0)]) := by rw [← ext_one]; exact nwQ_0 h 3
    -- the change is made
    have yes : ∀ p : Nat, (∀ r, r < nk → (nI r = v ↔ r = p)) → kpX F.now (kc p nk) (fun r => st (skp p r)) (fun r => tk (skp p r)) (fun r => ky (skp p r)) s (nI F.now.time) → (∀ i, i < kc p nk → skp p i < nk) → ((F.now.kp (nI s)).place (nI F.now.time) = none → (F.now.kp (nI s)).told < 8) → ∃ d h', f_L_law_b751 G xs N K4 K247 h l2 a l4 l5 S.B l7 l8 l9 l10 (nI s) (nI k) ((F.now.kp (nI s)).keyAt (nI F.now.time)) v = f_L_law_b1159 G xs N K4 K247 h' 1 l2 a l4 l5 S.B l7 l8 l9 l10 (bI d) ∧ Rs a b bA h F S d h' := by
      intro p hp kx slt n8
      have ek0 : (ext h [rwQ 3 0 0 (fun _ => 0)]).2 h.1 = some (rfs 3 (kc p 0) (fun i => rw' (skp p i))) := by
        have e0 : (ext h [rwQ 3 0 0 (fun _ => 0)]).2 h.1 = some (rwQ 3 0 0 (fun _ => 0)) := ext_in h _ (j := 0) (by simp)
        rw [e0, rwQ_n]
        have : kc p 0 = 0 := if_pos (Nat.zero_le p)
        rw [this]
        exact congrArg some (rfs_congr (fun i hi => absurd hi (Nat.not_lt_zero i)))
      obtain ⟨fu2, X, kA, y1, y2, y3⟩ := kept_l (G := G) (xs := xs) (N := N) (K4 := K4) (K247 := K247) (l2 := l2) (l8 := l8) (l9 := l9) (l4 := l4) (l5 := l5) (l7 := l7) (l10 := l10) B.1 l b1 b2 b3 1 (nI s) (nI k) ((F.now.kp (nI s)).keyAt (nI F.now.time)) v hp nk 0 20 (ext h [rwQ 3 0 0 (fun _ => 0)]) h.1 (by omega) (by omega) (eff_ext _ h _) ek0
      have lX := l.fr B.1 y2 (fun q hq => hq.elim)
      have BX := B.fr y2 (fun q hq => hq.elim)
      have CX := C.fr (by have := B.2.2.2.1; omega) y2 (fun q hq => hq.elim)
      have stx : ∀ {q c}, still h S q c → still X S q c := fun {q c} k => ⟨(y2.2.1 q (B.1 _ _ k.1) (fun z => z)).trans k.1, k.2⟩
      obtain ⟨h', z1, z2⟩ := rel_yes (G := G) (xs := xs) (N := N) (K4 := K4) (K247 := K247) (l2 := l2) (l8 := l8) (l9 := l9) (l4 := l4) (l5 := l5) (l7 := l7) (l10 := l10) BX CX lX (Nat.lt_of_lt_of_le hA y2.1) ht hs c26 kx n8 (stx b2).1 b1 y3 (fun r hr => stx (b3 _ (slt r hr))) fu2 v
      obtain ⟨F', S', D', w1, w2, w3, w4, w5, w6⟩ := z2
      refine ⟨true, h', ?_, F', S', D', w1, w2, w3, w4, (stp_eff y2 (fun q hq => hq.elim)).trans w5, w6⟩
      unfold f_L_law_b751 f_L_law_b756
      rw [if_neg (by decide), nq, Option.bind_some]
      rw [nI_0] at y1
      exact y1.trans z1
    rcases pv with ⟨p1, p2⟩ | ⟨p, p1, p2, p3, p4⟩
    · have pn : (F.now.kp (nI s)).place (nI F.now.time) = none := by
        unfold RKp.place
        refine fnd_none.mpr (fun i _ hi z => ?_)
        obtain ⟨r, r1, r2, r3⟩ := b4.2.1 s i hs (by omega)
        exact p2 r r1 ⟨r2, r3.trans z⟩
      rw [if_pos (by rw [p1]; decide)]
      by_cases c8 : (F.now.kp (nI s)).told < 8
      · rw [if_pos (e8.mpr c8)]
        have sk : ∀ i, i < nk → skp nk i = i := fun i hi => if_pos hi
        have kn : kc nk nk = nk := if_pos (Nat.le_refl nk)
        refine yes nk (fun r hr => ⟨fun z => absurd (z.trans p1) (nI_neN (show r < 2 ^ 31 by omega)), fun z => absurd z (by omega)⟩) ?_ (fun i hi => by rw [kn] at hi; rw [sk i hi]; exact hi) (fun _ => c8)
        rw [kn]
        obtain ⟨x1, x2, x3, x4⟩ := kpX_none hs b4 pn
        refine ⟨fun r hr => by dsimp only; rw [sk r hr]; exact x1 r hr, fun s' i hs' hi => ?_, fun r r' hr hr' g1 g2 => ?_, fun s' hs' => ?_⟩
        · rcases x2 s' i hs' hi with z | ⟨r, z1, z2, z3⟩
          · exact Or.inl z
          · exact Or.inr ⟨r, z1, by show st (skp nk r) = _; rw [sk r z1]; exact z2, by show tk (skp nk r) = _; rw [sk r z1]; exact z3⟩
        · have g1' : st (skp nk r) = st (skp nk r') := g1
          have g2' : tk (skp nk r) = tk (skp nk r') := g2
          rw [sk r hr, sk r' hr'] at g1' g2'
          exact x3 r r' hr hr' g1' g2'
        · rw [← x4 s' hs']
          congr 1
          exact cnt_congr (fun i hi => by show decide (st (skp nk i) = s') = _; rw [sk i hi])
      · rw [if_neg (fun z => c8 (e8.mp z))]
        have rc := relieve_c (G := G) C.1 r.ok C.2.2.2.1 C.2.2.2.2 r.inv.1 hs (show k ≤ 25 by omega) (show F.now.time ≤ 9999 by omega) k8
        rw [if_pos ⟨by omega, pn⟩] at rc
        refine ⟨false, thr h, ?_, Rs_no B C l rfl (stp.refl a a S h)⟩
        unfold f_L_law_b755 f_L_law_b756
        rw [if_pos rfl]
        unfold f_L_law_b842
        rw [rc, Option.bind_some, if_pos rfl, if_neg (by rw [show (25 : Int32) = nI 25 by decide]; exact nI_nlt (by omega) (by decide))]
        unfold f_L_law_b874
        rw [if_pos rfl]
        rfl
    · have np : (F.now.kp (nI s)).place (nI F.now.time) ≠ none := fun z => by
        obtain ⟨a1, i, a2, a3, a4⟩ := b4.1 p p1
        rw [p3] at a2 a3
        exact place_none z i a2 (a3.trans p4)
      rw [if_neg (by rw [p2]; exact nI_pos (by omega))]
      obtain ⟨n, rfl⟩ : ∃ n, nk = n + 1 := ⟨nk - 1, by omega⟩
      have kn : kc p (n + 1) = n := if_neg (by omega)
      refine yes p (fun r hr => ?_) (by rw [kn]; exact kpX_some hs b4 p1 p3 p4) (fun i hi => by rw [kn] at hi; exact skp_lt hi p1) (fun z => absurd z np)
      rw [p2]
      exact nI_eq (by omega) (by omega)
  · rw [if_neg (fun z => c26 (e26.mp z))]
    have k26 : k = 26 := by omega
    subst k26
    have e0 := relieve_0 (G := G) C.1 (x1 := nI s) (x2 := nI 26) (tR e1n (by omega) (by decide)) (by decide)
    refine ⟨false, thr h, ?_, Rs_no B C l rfl (stp.refl a a S h)⟩
    unfold f_L_law_b755 f_L_law_b756
    rw [if_pos rfl]
    unfold f_L_law_b842
    rw [e0, Option.bind_some, if_pos rfl, if_pos (by decide)]
    unfold f_L_law_b874
    rw [if_pos rfl]
    rfl
end CA5
