/-! keepers: one more, or one in the place of another -/
def ons {β : Type} (n : Nat) (f : Nat → β) (v : β) : Nat → β := fun i => if i < n then f i else v
theorem ons_lt {β : Type} {n i : Nat} (f : Nat → β) (v : β) (h : i < n) : ons n f v i = f i := if_pos h
theorem ons_at {β : Type} (n : Nat) (f : Nat → β) (v : β) : ons n f v n = v := if_neg (Nat.lt_irrefl n)
/-- the rows without the keeper of the station s at the tick t -/
def kpX (R : RW) (n : Nat) (st : Nat → Nat) (tk ky : Nat → Int32) (s : Nat) (t : Int32) : Prop := (∀ r, r < n → st r < 2 ∧ ¬ (st r = s ∧ tk r = t) ∧ ∃ i, i < (R.kp (nI (st r))).told ∧ (R.kp (nI (st r))).ticks i = tk r ∧ (R.kp (nI (st r))).keys i = ky r) ∧ (∀ s' i, s' < 2 → i < (R.kp (nI s')).told → (s' = s ∧ (R.kp (nI s')).ticks i = t) ∨ ∃ r, r < n ∧ st r = s' ∧ tk r = (R.kp (nI s')).ticks i) ∧ (∀ r r', r < n → r' < n → st r = st r' → tk r = tk r' → r = r') ∧ ∀ s', s' < 2 → cnt (fun r => decide (st r = s')) n + (if s' = s ∧ (R.kp (nI s)).place t ≠ none then 1 else 0) = (R.kp (nI s')).told
section KPX
variable {h : gH} {S : RS} {D : Nat → Int32} {R : RW} {n nk s : Nat} {st : Nat → Nat} {tk ky : Nat → Int32} {t k : Int32} {K : RKp}
theorem kpX_none (hs : s < 2) (q : kpR R nk st tk ky) (e : (R.kp (nI s)).place t = none) : kpX R nk st tk ky s t := by
  obtain ⟨q1, q2, q3, q4⟩ := q
  have no := place_none e
  refine ⟨fun r hr => ?_, fun s' i hs' hi => Or.inr (q2 s' i hs' hi), q3, fun s' hs' => ?_⟩
  · obtain ⟨a1, i, a2, a3, a4⟩ := q1 r hr
    refine ⟨a1, fun z => ?_, i, a2, a3, a4⟩
    rw [z.1] at a2 a3
    exact no i a2 (a3.trans z.2)
  · rw [if_neg (fun z => z.2 e)]
    exact q4 s' hs'
def skp (p r : Nat) : Nat := if r < p then r else r + 1
theorem skp_ne (p r : Nat) : skp p r ≠ p := by unfold skp; split <;> omega
theorem skp_inj {p r r' : Nat} (e : skp p r = skp p r') : r = r' := by
  unfold skp at e
  split at e <;> split at e <;> omega
theorem skp_lt {p r n : Nat} (h : r < n) (hp : p < n + 1) : skp p r < n + 1 := by unfold skp; split <;> omega
theorem skp_of {p q n : Nat} (hq : q < n + 1) (hp : p < n + 1) (e : q ≠ p) : ∃ r, r < n ∧ skp p r = q := by
  by_cases c : q < p
  · exact ⟨q, by omega, if_pos c⟩
  · exact ⟨q - 1, by omega, by unfold skp; rw [if_neg (by omega)]; omega⟩
theorem cnt_skp (f : Nat → Bool) {p : Nat} : ∀ n, p < n + 1 → cnt (fun r => f (skp p r)) n + (if f p then 1 else 0) = cnt f (n + 1)
  | 0, hp => by
    have : p = 0 := by omega
    subst this
    rfl
  | n + 1, hp => by
    by_cases c : p = n + 1
    · subst c
      rw [cnt.eq_2 f (n + 1)]
      have e : cnt (fun r => f (skp (n + 1) r)) (n + 1) = cnt f (n + 1) := cnt_congr (fun i hi => by show f (skp (n + 1) i) = f i; unfold skp; rw [if_pos hi])
      rw [e]
    · have ih := cnt_skp f n (show p < n + 1 by omega)
      rw [cnt.eq_2 f (n + 1), ← ih, cnt.eq_2 _ n]
      have e : skp p n = n + 1 := by unfold skp; rw [if_neg (by omega)]
      rw [e]
      omega
theorem kpX_some {p : Nat} (hs : s < 2) (q : kpR R (n + 1) st tk ky) (hp : p < n + 1) (e1 : st p = s) (e2 : tk p = t) : kpX R n (fun r => st (skp p r)) (fun r => tk (skp p r)) (fun r => ky (skp p r)) s t := by
  obtain ⟨q1, q2, q3, q4⟩ := q
  have pl : (R.kp (nI s)).place t ≠ none := fun z => by
    obtain ⟨a1, i, a2, a3, a4⟩ := q1 p hp
    rw [e1] at a2 a3
    exact place_none z i a2 (a3.trans e2)
  refine ⟨fun r hr => ?_, fun s' i hs' hi => ?_, fun r r' hr hr' h1 h2 => skp_inj (q3 _ _ (skp_lt hr hp) (skp_lt hr' hp) h1 h2), fun s' hs' => ?_⟩
  · obtain ⟨a1, i, a2, a3, a4⟩ := q1 _ (skp_lt hr hp)
    exact ⟨a1, fun z => skp_ne p r (q3 _ _ (skp_lt hr hp) hp (z.1.trans e1.symm) (z.2.trans e2.symm)), i, a2, a3, a4⟩
  · obtain ⟨r, r1, r2, r3⟩ := q2 s' i hs' hi
    by_cases c : r = p
    · subst c
      exact Or.inl ⟨r2.symm.trans e1, r3.symm.trans e2⟩
    · obtain ⟨r', z1, z2⟩ := skp_of r1 hp c
      exact Or.inr ⟨r', z1, by show st (skp p r') = s'; rw [z2]; exact r2, by show tk (skp p r') = _; rw [z2]; exact r3⟩
  · have c := cnt_skp (fun r => decide (st r = s')) n hp
    rw [q4 s' hs', e1] at c
    rw [← c]
    congr 1
    by_cases z : s' = s
    · subst z
      rw [if_pos ⟨rfl, pl⟩, if_pos (decide_eq_true rfl)]
    · rw [if_neg (fun y => z y.1), if_neg (fun y => z (of_decide_eq_true y).symm)]
theorem come_none (e : K.place t = none) (h8 : K.told < 8) (k : Int32) : K.come t k = RKp.mk (K.told + 1) (upd K.ticks K.told t) (upd K.keys K.told k) := by
  have e1 : K.pl t = K.told := by unfold RKp.pl; rw [e]; rfl
  unfold RKp.come
  rw [e1, if_pos h8, Nat.max_eq_right (Nat.le_succ _)]
theorem come_some {i : Nat} (e : K.place t = some i) (h8 : K.told ≤ 8) (k : Int32) : K.come t k = RKp.mk K.told (upd K.ticks i t) (upd K.keys i k) ∧ i < K.told ∧ K.ticks i = t := by
  obtain ⟨_, f2, f3, _⟩ := fnd_some (show fnd (fun i => K.ticks i = t) K.told 0 = some i from e)
  have e1 : K.pl t = i := by unfold RKp.pl; rw [e]; rfl
  have f2' : i < K.told := by omega
  refine ⟨?_, f2', f3⟩
  unfold RKp.come
  rw [e1, if_pos (by omega), Nat.max_eq_left (by omega)]
/-- what a keeper that comes changes -/
theorem come_all (h8 : K.told ≤ 8) (n8 : K.place t = none → K.told < 8) (k : Int32) : (K.come t k).told = K.told + (if K.place t = none then 1 else 0) ∧ (K.come t k).told ≤ 8 ∧ (∀ i, i < K.told → K.ticks i ≠ t → (K.come t k).ticks i = K.ticks i ∧ (K.come t k).keys i = K.keys i) ∧ (∃ j, j < (K.come t k).told ∧ (K.come t k).ticks j = t ∧ (K.come t k).keys j = k) ∧ (∀ i, i < (K.come t k).told → ((K.come t k).ticks i = t ∧ (K.come t k).keys i = k) ∨ (i < K.told ∧ K.ticks i ≠ t ∧ (K.come t k).ticks i = K.ticks i ∧ (K.come t k).keys i = K.keys i) ∨ (i < K.told ∧ K.ticks i = t ∧ (K.come t k).ticks i = t ∧ (K.come t k).keys i = K.keys i)) ∧ ((∀ i, i < K.told → ∀ j, j < i → K.ticks j ≠ K.ticks i) → ∀ i, i < (K.come t k).told → ∀ j, j < i → (K.come t k).ticks j ≠ (K.come t k).ticks i) := by
  cases e : K.place t with
  | none =>
    have no := place_none e
    rw [come_none e (n8 e) k]
    have lt := n8 e
    refine ⟨by rw [if_pos rfl]; rfl, lt, fun i hi _ => ⟨upd_ne (by omega), upd_ne (by omega)⟩, ⟨K.told, Nat.lt_succ_self _, upd_at _ _ _, upd_at _ _ _⟩, fun i hi => ?_, fun dd i hi j hj => ?_⟩
    · have hi' : i < K.told + 1 := hi
      by_cases c : i = K.told
      · subst c
        exact Or.inl ⟨upd_at _ _ _, upd_at _ _ _⟩
      · exact Or.inr (Or.inl ⟨by omega, no i (by omega), upd_ne c, upd_ne c⟩)
    · have hi' : i < K.told + 1 := hi
      show upd K.ticks K.told t j ≠ upd K.ticks K.told t i
      rw [upd_ne (show j ≠ K.told by omega)]
      by_cases c : i = K.told
      · subst c
        rw [upd_at]
        exact no j hj
      · rw [upd_ne c]
        exact dd i (by omega) j hj
  | some i0 =>
    obtain ⟨c1, c2, c3⟩ := come_some e h8 k
    rw [c1]
    have et : upd K.ticks i0 t = K.ticks := by rw [← c3]; exact upd_self _ _
    refine ⟨by rw [if_neg (by exact fun z => nomatch z)]; rfl, h8, fun i hi ni => ?_, ⟨i0, c2, upd_at _ _ _, upd_at _ _ _⟩, fun i hi => ?_, fun dd i hi j hj => ?_⟩
    · have ne : i ≠ i0 := fun z => ni (by rw [z]; exact c3)
      exact ⟨upd_ne ne, upd_ne ne⟩
    · by_cases c : i = i0
      · subst c
        exact Or.inl ⟨upd_at _ _ _, upd_at _ _ _⟩
      · by_cases d : K.ticks i = t
        · exact Or.inr (Or.inr ⟨hi, d, (upd_ne c).trans d, upd_ne c⟩)
        · exact Or.inr (Or.inl ⟨hi, d, upd_ne c, upd_ne c⟩)
    · show upd K.ticks i0 t j ≠ upd K.ticks i0 t i
      rw [et]
      exact dd i hi j hj
theorem setKp_kp {s' : Nat} (hs : s < 2) (hs' : s' < 2) (R : RW) (K : RKp) : (R.setKp (nI s) K).kp (nI s') = if s' = s then K else R.kp (nI s') := by
  have e0 : (nI 0 = (0 : Int32)) := nI_0
  have e1 : ¬ (nI 1 = (0 : Int32)) := by decide
  rcases (by omega : s = 0 ∨ s = 1) with rfl | rfl <;> rcases (by omega : s' = 0 ∨ s' = 1) with rfl | rfl
  · rw [if_pos rfl]; unfold RW.setKp RW.kp; rw [if_pos e0, if_pos e0]; rfl
  · rw [if_neg (by decide)]; unfold RW.setKp RW.kp; rw [if_pos e0, if_neg e1, if_neg e1]; rfl
  · rw [if_neg (by decide)]; unfold RW.setKp RW.kp; rw [if_neg e1, if_pos e0, if_pos e0]; rfl
  · rw [if_pos rfl]; unfold RW.setKp RW.kp; rw [if_neg e1, if_neg e1]; rfl
theorem kpX_come (hs : s < 2) (q : kpX R n st tk ky s t) (h8 : (R.kp (nI s)).told ≤ 8) (n8 : (R.kp (nI s)).place t = none → (R.kp (nI s)).told < 8) (k : Int32) : kpR (R.setKp (nI s) ((R.kp (nI s)).come t k)) (n + 1) (ons n st s) (ons n tk t) (ons n ky k) := by
  obtain ⟨q1, q2, q3, q4⟩ := q
  obtain ⟨c1, c2, c3, ⟨j0, c4, c5, c6⟩, c7, -⟩ := come_all h8 n8 k
  generalize hK : (R.kp (nI s)).come t k = K' at *
  have kk : ∀ s', s' < 2 → (R.setKp (nI s) K').kp (nI s') = if s' = s then K' else R.kp (nI s') := fun s' hs' => setKp_kp hs hs' R K'
  have le : (R.kp (nI s)).told ≤ K'.told := by rw [c1]; exact Nat.le_add_right _ _
  refine ⟨fun r hr => ?_, fun s' i hs' hi => ?_, fun r r' hr hr' h1 h2 => ?_, fun s' hs' => ?_⟩
  · by_cases c : r < n
    · rw [ons_lt st s c, ons_lt tk t c, ons_lt ky k c]
      obtain ⟨a1, a2, i, a3, a4, a5⟩ := q1 r c
      refine ⟨a1, i, ?_⟩
      rw [kk _ a1]
      by_cases z : st r = s
      · rw [if_pos z]
        rw [z] at a3 a4 a5
        have ni : (R.kp (nI s)).ticks i ≠ t := fun y => a2 ⟨z, a4.symm.trans y⟩
        obtain ⟨d1, d2⟩ := c3 i a3 ni
        exact ⟨by omega, d1.trans a4, d2.trans a5⟩
      · rw [if_neg z]
        exact ⟨a3, a4, a5⟩
    · have : r = n := by omega
      subst this
      rw [ons_at, ons_at, ons_at, kk s hs, if_pos rfl]
      exact ⟨hs, j0, c4, c5, c6⟩
  · rw [kk s' hs'] at hi ⊢
    have new : s' = s → (if s' = s then K' else R.kp (nI s')).ticks i = t → ∃ r, r < n + 1 ∧ ons n st s r = s' ∧ ons n tk t r = (if s' = s then K' else R.kp (nI s')).ticks i := fun z1 z2 => ⟨n, Nat.lt_succ_self n, by rw [ons_at]; exact z1.symm, by rw [ons_at]; exact z2.symm⟩
    by_cases z : s' = s
    · rw [if_pos z] at hi new ⊢
      rcases c7 i hi with d | d | d
      · exact new z d.1
      · subst z
        rcases q2 s' i hs' d.1 with y | ⟨r, r1, r2, r3⟩
        · exact absurd y.2 d.2.1
        · exact ⟨r, by omega, by rw [ons_lt _ _ r1]; exact r2, by rw [ons_lt _ _ r1, d.2.2.1]; exact r3⟩
      · exact new z d.2.2.1
    · rw [if_neg z] at hi ⊢
      rcases q2 s' i hs' hi with y | ⟨r, r1, r2, r3⟩
      · exact absurd y.1 z
      · exact ⟨r, by omega, by rw [ons_lt _ _ r1]; exact r2, by rw [ons_lt _ _ r1]; exact r3⟩
  · by_cases c : r < n <;> by_cases c' : r' < n
    · rw [ons_lt _ _ c, ons_lt _ _ c'] at h1 h2
      exact q3 r r' c c' h1 h2
    · have : r' = n := by omega
      subst this
      rw [ons_lt _ _ c, ons_at] at h1 h2
      exact absurd ⟨h1, h2⟩ (q1 r c).2.1
    · have : r = n := by omega
      subst this
      rw [ons_lt _ _ c', ons_at] at h1 h2
      exact absurd ⟨h1.symm, h2.symm⟩ (q1 r' c').2.1
    · omega
  · have e : cnt (fun r => decide (ons n st s r = s')) (n + 1) = cnt (fun r => decide (st r = s')) n + (if s = s' then 1 else 0) := by
      rw [cnt.eq_2, ons_at, cnt_congr (p := fun r => decide (ons n st s r = s')) (q := fun r => decide (st r = s')) (fun i hi => by rw [ons_lt _ _ hi])]
      by_cases z : s = s'
      · rw [if_pos z, if_pos (decide_eq_true z)]
      · rw [if_neg z, if_neg (fun y => z (of_decide_eq_true y))]
    rw [e, kk s' hs']
    have c := q4 s' hs'
    by_cases z : s' = s
    · subst z
      rw [if_pos rfl, if_pos rfl, c1, ← c]
      by_cases y : (R.kp (nI s')).place t = none
      · rw [if_pos y, if_neg (fun w => w.2 y)]
      · rw [if_neg y, if_pos ⟨rfl, y⟩]
    · rw [if_neg (fun y => z y.symm), if_neg z, ← c, if_neg (fun y => z y.1)]
theorem cnt_two {n : Nat} {st : Nat → Nat} (h : ∀ r, r < n → st r < 2) : cnt (fun r => decide (st r = 0)) n + cnt (fun r => decide (st r = 1)) n = n := by
  induction n with
  | zero => rfl
  | succ n ih =>
    have i2 := ih (fun r hr => h r (by omega))
    have := h n (Nat.lt_succ_self n)
    rw [cnt.eq_2, cnt.eq_2]
    rcases (by omega : st n = 0 ∨ st n = 1) with z | z
    · rw [z]
      simp
      omega
    · rw [z]
      simp
      omega
theorem kpR.two (q : kpR R nk st tk ky) : nk = (R.kp (nI 0)).told + (R.kp (nI 1)).told := by
  rw [← q.2.2.2 0 (by decide), ← q.2.2.2 1 (by decide)]
  exact (cnt_two (fun r hr => (q.1 r hr).1)).symm
/-- the numbers of a station's keepers -/
def dKp (D : Nat → Int32) (a : Nat) (K : RKp) : Nat → Int32 := fun j => if j = a then nI K.told else if a < j ∧ j < a + 17 then (if (j - a - 1) % 2 = 0 then K.ticks ((j - a - 1) / 2) else K.keys ((j - a - 1) / 2)) else D j
theorem dKp_o {a j : Nat} (h : j < a ∨ a + 17 ≤ j) : dKp D a K j = D j := by
  unfold dKp
  rw [if_neg (by omega), if_neg (by omega)]
theorem dKp_rel {a : Nat} (h8 : K.told ≤ 8) (hk : ∀ i, i < K.told → lOf (K.keys i) ∧ ∃ n : Nat, n < 10000 ∧ K.ticks i = nI n) (hd : ∀ i, i < K.told → ∀ j, j < i → K.ticks j ≠ K.ticks i) : relKp K a (dKp D a K) := by
  refine ⟨h8, if_pos rfl, fun i hi => ⟨?_, ?_, (hk i hi).1, (hk i hi).2, hd i hi⟩⟩
  · unfold dKp
    rw [if_neg (by omega), if_pos (by omega), if_pos (by omega), show (a + (1 + 2 * i) - a - 1) / 2 = i by omega]
  · unfold dKp
    rw [if_neg (by omega), if_pos (by omega), if_neg (by omega), show (a + (2 + 2 * i) - a - 1) / 2 = i by omega]
theorem come_rel {a : Nat} (r : relKp K a D) (n8 : K.place t = none → K.told < 8) (hk : lOf k) (ht : ∃ n : Nat, n < 10000 ∧ t = nI n) : relKp (K.come t k) a (dKp D a (K.come t k)) := by
  obtain ⟨r1, r2, r3⟩ := r
  obtain ⟨c1, c2, c3, c4, c5, c6⟩ := come_all r1 n8 k
  refine dKp_rel c2 (fun i hi => ?_) (c6 (fun i hi => (r3 i hi).2.2.2.2))
  rcases c5 i hi with d | d | d
  · rw [d.1, d.2]; exact ⟨hk, ht⟩
  · rw [d.2.2.1, d.2.2.2]; exact ⟨(r3 i d.1).2.2.1, (r3 i d.1).2.2.2.1⟩
  · rw [d.2.2.1, d.2.2.2]; exact ⟨(r3 i d.1).2.2.1, ht⟩
/-- the Line with another row of keepers -/
theorem keep_r {P : Nat → Prop} {ra mo : Nat} {f : Nat → Nat} (I : lnIs h S D R.told) (L : lnR h S D R) (hs : s < 2) (q : kpX R n st tk ky s t) (n8 : (R.kp (nI s)).place t = none → (R.kp (nI s)).told < 8) (hk : lOf k) (ht : ∃ m : Nat, m < 10000 ∧ t = nI m) (hP : ∀ q, S.P q → S.r q = 0 → P q) (er : h.2 ra = some (.inl (0, 3, .inl (row3 (nI s) t k)))) (pr : P ra ∧ S.r ra = 0) (bf : ∀ r, r < n → still h S (f r) (.inl (0, 3, .inl (row3 (nI (st r)) (tk r) (ky r))))) (em : h.2 mo = some (rfs 3 (n + 1) (oneMore n f ra))) (pm : P mo ∧ S.r mo = 0) : g_put h S.B 10 2 (.ref mo) = some (g_set h S.B (lnO (sKM S mo S.MA P) (dKp D (42 + 17 * s) ((R.kp (nI s)).come t k)))) ∧ lnIs (g_set h S.B (lnO (sKM S mo S.MA P) (dKp D (42 + 17 * s) ((R.kp (nI s)).come t k)))) (sKM S mo S.MA P) (dKp D (42 + 17 * s) ((R.kp (nI s)).come t k)) R.told ∧ lnR (g_set h S.B (lnO (sKM S mo S.MA P) (dKp D (42 + 17 * s) ((R.kp (nI s)).come t k)))) (sKM S mo S.MA P) (dKp D (42 + 17 * s) ((R.kp (nI s)).come t k)) (R.setKp (nI s) ((R.kp (nI s)).come t k)) := by
  have ok := L.1
  have a2 := ok.2.1 1 (Or.inl ⟨by omega, by omega⟩)
  have nB : ∀ q, S.r q = 0 → q ≠ S.B := fun q hq z => by
    rw [z, show S.B = S.adr 1 from rfl, a2] at hq
    exact nomatch hq
  have r := L.2.2.1
  have cr := come_rel (k := k) (r.kp hs) n8 hk ht
  have eO : lnO (sKM S mo S.MA P) (dKp D (42 + 17 * s) ((R.kp (nI s)).come t k)) = lnO (sKM S mo S.MA P) D := by
    unfold lnO
    rw [dKp_o (by omega), dKp_o (by omega), dKp_o (by omega), dKp_o (by omega), dKp_o (by omega), dKp_o (by omega), dKp_o (by omega), dKp_o (by omega)]
  have kc := kpX_come hs q (r.kp hs).1 n8 k
  have rl := r.kept hs cr (fun j hj => dKp_o (by omega))
  have n16 : n + 1 ≤ 16 := by
    have e := kc.two
    have k0 := (rl.kp (s := 0) (by decide)).1
    have k1 := (rl.kp (s := 1) (by decide)).1
    omega
  obtain ⟨t1, t2, t3, t4, t5, t6, t7, t8, t9, t10, t11, t12, t13⟩ := setKp_side R (nI s) ((R.kp (nI s)).come t k)
  generalize hR : R.setKp (nI s) ((R.kp (nI s)).come t k) = R' at *
  refine ⟨by rw [eO]; exact (km_put (MA := 0) I ok).2, km_is I ok (fun j hj => dKp_o (by omega)), ?_, ⟨km_st ok hP L.2.1.1, ?_, fun i hi => ?_, ⟨n + 1, oneMore n f ra, ons n st s, ons n tk t, ons n ky k, n16, ⟨(set_ne (nB _ pm.2)).trans em, pm.2, pm.1⟩, fun r hr => ?_, kc⟩, ?_⟩, rl, ?_⟩
  · rw [t2]; exact km_ok ok
  · rw [t2]; exact km_st ok hP L.2.1.2.1
  · rw [t2] at hi
    obtain ⟨k1, k2, k3, v, x, y, g, w1, w2, w3⟩ := L.2.1.2.2.1 i hi
    unfold tkL
    rw [t12]
    exact ⟨k1, k2, km_st ok hP k3, v, x, y, g, km_st ok hP w1, km_st ok hP w2, w3⟩
  · by_cases c : r < n
    · rw [ons_lt _ _ c, ons_lt _ _ c, ons_lt _ _ c, show oneMore n f ra r = f r from if_pos c]
      exact km_st ok hP (bf r c)
    · have : r = n := by omega
      subst this
      rw [ons_at, ons_at, ons_at, show oneMore r f ra r = ra from if_neg (Nat.lt_irrefl r)]
      exact ⟨(set_ne (nB _ pr.2)).trans er, pr.2, pr.1⟩
  · obtain ⟨rm, c1, c2⟩ := L.2.1.2.2.2.2
    unfold miL
    rw [t13]
    exact ⟨rm, km_st ok hP c1, fun j hj => km_st ok hP (c2 j hj)⟩
  · obtain ⟨g1, g2, g3⟩ := L.2.2.2
    refine ⟨fun i hi => ?_, fun b => ?_, fun b => ?_⟩
    · rw [t2] at hi
      rw [t12]
      exact g1 i hi
    · have e : R'.ch b = R.ch b := by unfold RW.ch; rw [t10, t11]
      rw [e]; exact g2 b
    · have e : R'.ch b = R.ch b := by unfold RW.ch; rw [t10, t11]
      rw [e]; exact g3 b
end KPX
