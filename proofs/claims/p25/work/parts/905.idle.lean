/-! an idle channel has heard few letters; a Line over a copied world; other cells that stay -/
def RW.idl (R : RW) : Prop := ∀ b, (R.ch b).frame = -1 → (R.ch b).n ≤ 8
section IDL
variable {h : gH} {S : RS} {D : Nat → Int32} {R : RW}
theorem Rel.n8 (r : Rel R D) (q : R.idl) (b : Bool) : (R.ch b).n ≤ 8 := by
  by_cases e : (R.ch b).frame = -1
  · exact q b e
  · cases ew : R.way with
    | none =>
      have t := r.way.1 ew
      cases b
      · exact absurd t.1 e
      · exact absurd t.2 e
    | some m =>
      rcases (r.way.2 m ew).1 b with z | ⟨f, s, b', e1, e2, e3, e4, e5, e6, e7, e8, -⟩
      · exact absurd z e
      · obtain ⟨v1, v2, v3, ⟨l, l1, l2, l3, l4⟩, v5, v6⟩ := r.inv
        rw [e8]
        exact Nat.le_trans (Nat.min_le_right _ _) ((l4 m (v5 m ew)).many_le v3 f)
theorem idl_upd3 (q : R.idl) (b : Bool) (m : Nat) {C : RCh} (hc : C.frame = -1 → C.n ≤ 8) (M : RMs) (s lo ga gv : Int32) (w : Option Nat) : (R.upd3 b m C M s lo ga gv w).idl :=
  all_b (P := fun c => ((R.upd3 b m C M s lo ga gv w).ch c).frame = -1 → ((R.upd3 b m C M s lo ga gv w).ch c).n ≤ 8) b (by rw [upd3_ch]; exact hc) (by rw [upd3_co]; exact q (!b))
theorem idl_took (q : R.idl) (b : Bool) (m : Nat) : (R.took b m).idl := by
  unfold RW.took
  split
  · rw [setChMs]
    refine idl_upd3 q b m ?_ _ _ _ _ _ _
    exact fun _ => Nat.zero_le 8
  · exact q
theorem idl_made (q : R.idl) (b : Bool) (m : Nat) (lo ga : Bool) {f : Nat} (ef : (R.ch b).frame = nI f) (f31 : f < 2 ^ 31) : ((R.counted lo ga).madeStep b m lo ga).idl := by
  have nf : ¬ nI f = -1 := nI_neN f31
  have lf : ((R.ch b).lst lo).frame = nI f := (lst_f (R.ch b) lo).2.2.2.1.trans ef
  by_cases c : nI ((R.ms m).many f) + 1 < (R.ch b).step
  · rw [mk_ans R b m lo ga ef f31 c]
    refine idl_upd3 q b m ?_ _ _ _ _ _ _
    exact fun _ => Nat.zero_le 8
  · by_cases c0 : (R.ch b).step = 0
    · rw [mk_0 R b m lo ga ef f31 c c0]
      refine idl_upd3 q b m ?_ _ _ _ _ _ _
      exact fun z => absurd (lf.symm.trans z) nf
    · by_cases c1 : (R.ch b).step ≤ nI ((R.ms m).many f)
      · rw [mk_1 R b m lo ga ef f31 c c0 c1]
        refine idl_upd3 q b m ?_ _ _ _ _ _ _
        exact fun z => absurd (lf.symm.trans z) nf
      · rw [mk_2 R b m lo ga ef f31 c c0 c1]
        refine idl_upd3 q b m ?_ _ _ _ _ _ _
        exact fun z => absurd (lf.symm.trans z) nf
theorem took_fr (r : Rel R D) {m : Nat} (e : R.way = some m) (b : Bool) (n : ((R.took b m).ch b).frame ≠ -1) : ∃ f, ((R.took b m).ch b).frame = nI f ∧ f < 2 ^ 31 := by
  by_cases c : (R.ch b).frame = -1
  · have t := took_d r e b c
    cases o : (R.ms m).openFrame with
    | none => rw [o] at t; exact absurd t.2 n
    | some f => rw [o] at t; exact ⟨f, t.2.2, by have := t.1; omega⟩
  · have e0 : R.took b m = R := by unfold RW.took; rw [if_neg c]
    rw [e0]
    rcases (r.way.2 m e).1 b with z | ⟨f, s, b', e1, e2, e3, e4, -⟩
    · exact absurd z c
    · obtain ⟨v1, v2, v3, ⟨l, l1, l2, l3, l4⟩, v5, v6⟩ := r.inv
      have := (l4 m (v5 m e)).fr24 v2
      exact ⟨f, e1, by omega⟩
theorem idl_fin (q : R.idl) (m : Nat) : (R.fin m).idl := by
  unfold RW.fin
  split
  · exact q
  · exact q
theorem idl_serve (r : Rel R D) (hl : R.live) (q : R.idl) (b : Bool) (lv : Int32) : (R.serve b lv).idl := by
  cases e : R.way with
  | none =>
    have e0 : R.serve b lv = R := by unfold RW.serve; rw [e]
    rw [e0]; exact q
  | some m =>
    rw [serve_work e (hl.on r.inv e)]
    split
    · refine idl_fin ?_ m
      unfold RW.work
      split
      · exact idl_took q b m
      · next n =>
        obtain ⟨f, f1, f2⟩ := took_fr r e b n
        exact idl_made (idl_took q b m) b m _ _ f1 f2
    · exact q
theorem idl_start (q : R.idl) : R.start.idl := by
  unfold RW.start
  split
  · exact q
  · exact q
theorem start_time (R : RW) : R.start.time = R.time := by
  unfold RW.start
  split <;> rfl
theorem idl_tick (G : gG) (L : lnR h S D R) (hl : R.live) (ht : R.time < 2 ^ 31) (q : R.idl) : R.tick.2.idl := by
  have key : ∀ (R1 : RW) (D1 : Nat → Int32), lnR h S D1 R1 → R1.live → R1.time < 2 ^ 31 → R1.idl → (if R.way = none then R.start else R) = R1 → R.tick.2.idl := by
    intro R1 D1 L1 hl1 ht1 q1 eR
    cases ew : R1.way with
    | none => rw [tick_none eR ew]; exact q1
    | some k =>
      rw [tick_some eR ew]
      obtain ⟨D', -, L2, l2, -, -, -⟩ := turn_r (G := G) L1 hl1 ht1 false 0 0
      have q2 := idl_serve L1.2.2.1 hl1 q1 false (R1.mi.levelAt (nI R1.time))
      exact idl_serve L2.2.2.1 l2 q2 true (R1.mi.levelAt (nI R1.time))
  by_cases e : R.way = none
  · have s := start_d L.2.2.1 e hl
    have kp := start_keep L.2.2.2
    cases o : R.servedAs 0 with
    | none => rw [o] at s; exact key R.start D (L.next s.1 kp) s.2 (by rw [start_time]; exact ht) (idl_start q) (if_pos e)
    | some i => rw [o] at s; exact key R.start _ (L.next s.2.1 kp) s.2.2 (by rw [start_time]; exact ht) (idl_start q) (if_pos e)
  · exact key R D L hl ht q (if_neg e)
theorem idl_setCh (q : R.idl) (b : Bool) {C : RCh} (h1 : C.frame = (R.ch b).frame) (h2 : C.n = (R.ch b).n) : (R.setCh b C).idl := by
  intro c
  cases b <;> cases c
  · show C.frame = -1 → C.n ≤ 8
    rw [h1, h2]; exact q false
  · exact q true
  · exact q false
  · show C.frame = -1 → C.n ≤ 8
    rw [h1, h2]; exact q true
theorem idl_back (q : R.idl) (i : Nat) : (R.takeBack i).2.idl := by
  unfold RW.takeBack
  dsimp only
  split
  · intro c
    cases c
    · exact fun _ => Nat.zero_le 8
    · exact fun _ => Nat.zero_le 8
  · exact q
theorem cop_kp (R X : RW) (s : Int32) : (R.copy X).kp s = (R.kp s).cop (X.kp s) := by
  unfold RW.kp
  split <;> rfl
theorem cop_ms {R : RW} (X : RW) {i : Nat} (hi : i < R.told) : (R.copy X).ms i = (R.ms i).cop (X.ms i) := by
  show copM R.told R.ms X.ms i = _
  unfold copM
  rw [if_pos hi]
theorem cop_ch (R X : RW) (b : Bool) : (R.copy X).ch b = (R.ch b).cop (X.ch b) := by cases b <;> rfl
theorem idl_copy (q : R.idl) (X : RW) : (R.copy X).idl := fun b => by rw [cop_ch]; exact q b
theorem sm_copy (q : R.sm) (X : RW) : (R.copy X).sm := fun i hi => by rw [cop_ms (R := R) X hi]; exact q i hi
theorem kpR.copy (r : Rel R D) {nk : Nat} {st : Nat → Nat} {tk ky : Nat → Int32} (k : kpR R nk st tk ky) (X : RW) : kpR (R.copy X) nk st tk ky := by
  have t8 : ∀ s, s < 2 → (R.kp (nI s)).told ≤ 8 := fun s hs => (r.kp hs).1
  have e : ∀ s i, s < 2 → i < (R.kp (nI s)).told → ((R.copy X).kp (nI s)).ticks i = (R.kp (nI s)).ticks i ∧ ((R.copy X).kp (nI s)).keys i = (R.kp (nI s)).keys i := fun s i hs hi => by
    rw [cop_kp]
    have := t8 s hs
    exact ⟨cpy_in (by omega), cpy_in (by omega)⟩
  have et : ∀ s, ((R.copy X).kp (nI s)).told = (R.kp (nI s)).told := fun s => by rw [cop_kp]; rfl
  obtain ⟨k1, k2, k3, k4⟩ := k
  refine ⟨fun q hq => ?_, fun s i hs hi => ?_, k3, fun s hs => by rw [et]; exact k4 s hs⟩
  · obtain ⟨a1, i, a2, a3, a4⟩ := k1 q hq
    refine ⟨a1, i, by rw [et]; exact a2, ?_, ?_⟩
    · rw [(e _ i a1 a2).1]; exact a3
    · rw [(e _ i a1 a2).2]; exact a4
  · rw [et] at hi
    obtain ⟨q, q1, q2, q3⟩ := k2 s i hs hi
    exact ⟨q, q1, q2, by rw [(e s i hs hi).1]; exact q3⟩
theorem lnR.copy (L : lnR h S D R) (q : R.idl) (X : RW) : lnR h S D (R.copy X) := by
  have n8 := L.2.2.1.n8 q
  have l24 : ∀ i, i < R.told → (R.ms i).len ≤ 24 := fun i hi => (L.len24 hi).1
  have m12 := L.2.2.1.mi.1
  obtain ⟨ok, ⟨a1, a2, a3, ⟨nk, rw', st, tk, ky, b1, b2, b3, b4⟩, rm, c1, c2⟩, r, g1, g2, g3⟩ := L
  refine ⟨ok, ⟨a1, a2, fun i hi => ?_, ⟨nk, rw', st, tk, ky, b1, b2, b3, b4.copy r X⟩, rm, c1, fun j hj => ?_⟩, (r.copy X).1, fun i hi k hk => ?_, fun b k hk => ?_, fun b => ?_⟩
  · have hi' : i < R.told := hi
    obtain ⟨d1, d2, d3, v, x, y, g, d4, d5, d6⟩ := a3 i hi'
    have := l24 i hi'
    unfold tkL
    rw [cop_ms X hi']
    refine ⟨d1, d2, d3, v, x, y, g, d4, d5, fun k hk => ?_⟩
    rw [d6 k hk]
    show _ = cpy 24 (R.ms i).letters (X.ms i).letters k + 97
    rw [cpy_in (by omega)]
  · have hj' : j < R.mi.told := hj
    show still h S (rm j) (.inl (0, 3, .inl (row3 (cpy 12 R.mi.firsts X.mi.firsts j) (cpy 12 R.mi.lasts X.mi.lasts j) (cpy 12 R.mi.levels X.mi.levels j))))
    rw [cpy_in (by omega), cpy_in (by omega), cpy_in (by omega)]
    exact c2 j hj'
  · have hi' : i < R.told := hi
    have := l24 i hi'
    rw [cop_ms X hi'] at hk ⊢
    have hk' : k < (R.ms i).len := hk
    show cpy 24 (R.ms i).log (X.ms i).log k = -1 ∨ lOf (cpy 24 (R.ms i).log (X.ms i).log k)
    rw [cpy_in (by omega)]
    exact g1 i hi' k hk'
  · rw [cop_ch] at hk ⊢
    have hk' : k < (R.ch b).n := hk
    have := n8 b
    show lOf (cpy 8 (R.ch b).heard (X.ch b).heard k)
    rw [cpy_in (by omega)]
    exact g2 b k hk'
  · rw [cop_ch]
    exact g3 b
/-- other cells that stay -/
def RS.rp (S : RS) (P : Nat → Prop) : RS := sKM S S.KA S.MA P
theorem still_rp {P : Nat → Prop} (e : ∀ q c, S.P q → S.r q = 0 → h.2 q = some c → P q) {q : Nat} {c : gC} (k : still h S q c) : still h (S.rp P) q c := ⟨k.1, k.2.1, e q c k.2.2 k.2.1 k.1⟩
theorem lnIs.rp {n : Nat} (I : lnIs h S D n) (P : Nat → Prop) : lnIs h (S.rp P) D n := fun r hr => I r hr
theorem lnR.rp (L : lnR h S D R) {P : Nat → Prop} (e : ∀ q c, S.P q → S.r q = 0 → h.2 q = some c → P q) : lnR h (S.rp P) D R := by
  obtain ⟨ok, ⟨a1, a2, a3, ⟨nk, rw', st, tk, ky, b1, b2, b3, b4⟩, rm, c1, c2⟩, r, g⟩ := L
  refine ⟨ok, ⟨still_rp e a1, still_rp e a2, fun i hi => ?_, ⟨nk, rw', st, tk, ky, b1, still_rp e b2, fun r hr => still_rp e (b3 r hr), b4⟩, rm, still_rp e c1, fun j hj => still_rp e (c2 j hj)⟩, r, g⟩
  obtain ⟨d1, d2, d3, v, x, y, g, d4, d5, d6⟩ := a3 i hi
  exact ⟨d1, d2, still_rp e d3, v, x, y, g, still_rp e d4, still_rp e d5, d6⟩
end IDL
