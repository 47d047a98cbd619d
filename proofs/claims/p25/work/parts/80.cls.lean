/-! the class between its calls: rows of whole's parts that speak of the class alone -/
theorem Rel.good {R : RW} {D : Nat → Int32} (h : Rel R D) : R.good := by
  obtain ⟨v1, v2, v3, ⟨l, l1, l2, l3, l4⟩, v5, v6⟩ := h.inv
  refine ⟨⟨v1, v5, v2, v3, h.k0.1, h.k1.1, h.mi.1, fun i hi => (l4 i hi).ok v2 v3⟩, fun i hi f hf => ?_, fun m e => ?_⟩
  · rw [(l4 i hi).1]; exact (l4 i hi).fr' v2 hf
  · have hm := v5 m e
    have key : ∀ b, (R.ch b).ok (R.ms m) := fun b => by
      rcases (h.way.2 m e).1 b with q | ⟨f, s, nb, h1, h2, h3, h4, h5, h6, -⟩
      · exact Or.inl q
      · exact Or.inr ⟨f, s, nb, h1, h2, h3, h4, by rw [(l4 m hm).1]; exact (l4 m hm).fr' v2 h4, h5, h6⟩
    exact ⟨key false, key true⟩
theorem Rel.ok {R : RW} {D : Nat → Int32} (h : Rel R D) : R.ok := h.good.ok
theorem Rel.ext {R : RW} {D D' : Nat → Int32} (h : Rel R D) (e : ∀ j, j < 928 → D' j = D j) : Rel R D' := by
  obtain ⟨v1, v2, v3, ⟨l, l1, l2, l3, l4⟩, v5, v6⟩ := h.inv
  obtain ⟨n0, n1, n2, n3, n4, n5, n6, n8, n9⟩ := h.n
  refine ⟨h.inv, ⟨?_, ?_, ?_, ?_, ?_, ?_, ?_, ?_, ?_⟩, fun b => (h.ch b).congr (fun j j1 j2 => by have := cn_lt b; exact e j (by omega)), h.k0.congr (fun j j1 j2 => e j (by omega)), h.k1.congr (fun j j1 j2 => e j (by omega)), h.mi.congr (e 7 (by omega)) (fun j j1 j2 => e j (by omega)), fun i hi => (h.ms i hi).congr (l4 i hi).2.2.1 (fun j j1 j2 => e j (by omega)), h.way.1, fun k ek => ⟨fun b => ((h.way.2 k ek).1 b).congr (fun f => (l4 k (v5 k ek)).many_le v3 f) (fun j j1 j2 => by have := cn_lt b; exact e j (by omega)), (h.way.2 k ek).2⟩⟩
  · rw [e 0 (by omega)]; exact n0
  · rw [e 1 (by omega)]; exact n1
  · rw [e 2 (by omega)]; exact n2
  · rw [e 3 (by omega)]; exact n3
  · rw [e 4 (by omega)]; exact n4
  · rw [e 5 (by omega)]; exact n5
  · rw [e 6 (by omega)]; exact n6
  · rw [e 8 (by omega)]; exact n8
  · rw [e 9 (by omega)]; exact n9
theorem Rel.side {R R' : RW} {D D' : Nat → Int32} (h : Rel R D) (e : ∀ j, j < 928 → j ≠ 7 → (j < 42 ∨ 112 ≤ j) → D' j = D j) (eR : R'.time = R.time ∧ R'.told = R.told ∧ R'.way = R.way ∧ R'.fsize = R.fsize ∧ R'.limit = R.limit ∧ R'.sent = R.sent ∧ R'.lost = R.lost ∧ R'.garbled = R.garbled ∧ R'.given = R.given ∧ R'.c0 = R.c0 ∧ R'.c1 = R.c1 ∧ R'.ms = R.ms) (k0 : relKp R'.k0 42 D') (k1 : relKp R'.k1 59 D') (mi : relMi R'.mi D') : Rel R' D' := by
  obtain ⟨v1, v2, v3, ⟨l, l1, l2, l3, l4⟩, v5, v6⟩ := h.inv
  obtain ⟨n0, n1, n2, n3, n4, n5, n6, n8, n9⟩ := h.n
  obtain ⟨t1, t2, t3, t4, t5, t6, t7, t8, t9, t10, t11, t12⟩ := eR
  have tc : ∀ b, R'.ch b = R.ch b := fun b => by cases b; exact t10; exact t11
  refine ⟨⟨by rw [t2]; exact v1, by rw [t4]; exact v2, by rw [t4]; exact v3, ⟨l, l1, l2, by rw [t5]; exact l3, fun i hi => by rw [t12, t4]; exact l4 i (by rw [← t2]; exact hi)⟩, fun k ek => by rw [t2]; exact v5 k (by rw [← t3]; exact ek), fun i hi => by rw [t12, t3]; exact v6 i (by rw [← t2]; exact hi)⟩, ⟨?_, ?_, ?_, ?_, ?_, ?_, ?_, ?_, ?_⟩, fun b => by rw [tc b]; exact (h.ch b).congr (fun j j1 j2 => by have := cn_lt b; exact e j (by omega) (by omega) (by omega)), k0, k1, mi, fun i hi => ?_, fun z => ?_, fun k ek => ⟨fun b => ?_, ?_⟩⟩
  · rw [e 0 (by omega) (by omega) (by omega), t1]; exact n0
  · rw [e 1 (by omega) (by omega) (by omega), t2]; exact n1
  · rw [e 2 (by omega) (by omega) (by omega), t3]; exact n2
  · rw [e 3 (by omega) (by omega) (by omega), t6]; exact n3
  · rw [e 4 (by omega) (by omega) (by omega), t7]; exact n4
  · rw [e 5 (by omega) (by omega) (by omega), t8]; exact n5
  · rw [e 6 (by omega) (by omega) (by omega), t9]; exact n6
  · rw [e 8 (by omega) (by omega) (by omega), t4]; exact n8
  · rw [e 9 (by omega) (by omega) (by omega), t5]; exact n9
  · have hi2 : i < R.told := by rw [← t2]; exact hi
    rw [t12]
    exact (h.ms i hi2).congr (l4 i hi2).2.2.1 (fun j j1 j2 => e j (by omega) (by omega) (by omega))
  · rw [t10, t11]; exact h.way.1 (by rw [← t3]; exact z)
  · have ek2 : R.way = some k := by rw [← t3]; exact ek
    rw [tc b, t12]
    exact ((h.way.2 k ek2).1 b).congr (fun f => (l4 k (v5 k ek2)).many_le v3 f) (fun j j1 j2 => by have := cn_lt b; exact e j (by omega) (by omega) (by omega))
  · rw [t10, t11]; exact (h.way.2 k (by rw [← t3]; exact ek)).2
theorem setKp_side (W : RW) (s : Int32) (K : RKp) : (W.setKp s K).time = W.time ∧ (W.setKp s K).told = W.told ∧ (W.setKp s K).way = W.way ∧ (W.setKp s K).fsize = W.fsize ∧ (W.setKp s K).limit = W.limit ∧ (W.setKp s K).sent = W.sent ∧ (W.setKp s K).lost = W.lost ∧ (W.setKp s K).garbled = W.garbled ∧ (W.setKp s K).given = W.given ∧ (W.setKp s K).c0 = W.c0 ∧ (W.setKp s K).c1 = W.c1 ∧ (W.setKp s K).ms = W.ms ∧ (W.setKp s K).mi = W.mi := by
  unfold RW.setKp
  split <;> exact ⟨rfl, rfl, rfl, rfl, rfl, rfl, rfl, rfl, rfl, rfl, rfl, rfl, rfl⟩
theorem Rel.kept {W : RW} {D D' : Nat → Int32} (h : Rel W D) {s : Nat} (hs : s < 2) {K : RKp} (hK : relKp K (42 + 17 * s) D') (e : ∀ j, (j < 42 + 17 * s ∨ 59 + 17 * s ≤ j) → D' j = D j) : Rel (W.setKp (nI s) K) D' := by
  obtain ⟨t1, t2, t3, t4, t5, t6, t7, t8, t9, t10, t11, t12, t13⟩ := setKp_side W (nI s) K
  have : s = 0 ∨ s = 1 := by omega
  refine h.side (fun j j1 j2 j3 => e j (by omega)) ⟨t1, t2, t3, t4, t5, t6, t7, t8, t9, t10, t11, t12⟩ ?_ ?_ (by rw [t13]; exact h.mi.congr (e 7 (by omega)) (fun j j1 j2 => e j (by omega)))
  · rcases this with rfl | rfl
    · exact hK
    · exact h.k0.congr (fun j j1 j2 => e j (by omega))
  · rcases this with rfl | rfl
    · exact h.k1.congr (fun j j1 j2 => e j (by omega))
    · exact hK
theorem Rel.chan {R : RW} {D D' : Nat → Int32} (h : Rel R D) (b : Bool) {C : RCh} (ec : C.frame = (R.ch b).frame ∧ C.step = (R.ch b).step ∧ C.number = (R.ch b).number ∧ C.n = (R.ch b).n ∧ C.heard = (R.ch b).heard ∧ C.lost = (R.ch b).lost ∧ C.good = (R.ch b).good) (e0 : D' (10 + 16 * cn b) = C.power) (e1 : D' (10 + 16 * cn b + 1) = C.opening) (e2 : D' (10 + 16 * cn b + 2) = C.closing) (e : ∀ j, j < 928 → (j < 10 + 16 * cn b ∨ 13 + 16 * cn b ≤ j) → D' j = D j) : Rel (R.setCh b C) D' := by
  obtain ⟨v1, v2, v3, ⟨l, l1, l2, l3, l4⟩, v5, v6⟩ := h.inv
  obtain ⟨n0, n1, n2, n3, n4, n5, n6, n8, n9⟩ := h.n
  obtain ⟨s1, s2, s3, s4, s5, s6, s7⟩ := ec
  have hb := cn_lt b
  have bb := cn_not b
  have cb : (R.setCh b C).ch b = C := setCh_ch R b C
  have co : (R.setCh b C).ch (!b) = R.ch (!b) := by cases b <;> rfl
  have same : (R.setCh b C).time = R.time ∧ (R.setCh b C).told = R.told ∧ (R.setCh b C).way = R.way ∧ (R.setCh b C).fsize = R.fsize ∧ (R.setCh b C).limit = R.limit ∧ (R.setCh b C).sent = R.sent ∧ (R.setCh b C).lost = R.lost ∧ (R.setCh b C).garbled = R.garbled ∧ (R.setCh b C).given = R.given ∧ (R.setCh b C).k0 = R.k0 ∧ (R.setCh b C).k1 = R.k1 ∧ (R.setCh b C).mi = R.mi ∧ (R.setCh b C).ms = R.ms := by cases b <;> exact ⟨rfl, rfl, rfl, rfl, rfl, rfl, rfl, rfl, rfl, rfl, rfl, rfl, rfl⟩
  obtain ⟨t1, t2, t3, t4, t5, t6, t7, t8, t9, t10, t11, t12, t13⟩ := same
  have fr : ((R.setCh b C).c0.frame = R.c0.frame) ∧ ((R.setCh b C).c1.frame = R.c1.frame) := by
    cases b
    · exact ⟨s1, rfl⟩
    · exact ⟨rfl, s1⟩
  refine ⟨⟨by rw [t2]; exact v1, by rw [t4]; exact v2, by rw [t4]; exact v3, ⟨l, l1, l2, by rw [t5]; exact l3, fun i hi => by rw [t13, t4]; exact l4 i (by rw [← t2]; exact hi)⟩, fun k ek => by rw [t2]; exact v5 k (by rw [← t3]; exact ek), fun i hi => by rw [t13, t3]; exact v6 i (by rw [← t2]; exact hi)⟩, ⟨?_, ?_, ?_, ?_, ?_, ?_, ?_, ?_, ?_⟩, all_b b ?_ ?_, ?_, ?_, ?_, fun i hi => ?_, fun z => ?_, fun k ek => ⟨all_b b ?_ ?_, ?_⟩⟩
  · rw [e 0 (by omega) (by omega), t1]; exact n0
  · rw [e 1 (by omega) (by omega), t2]; exact n1
  · rw [e 2 (by omega) (by omega), t3]; exact n2
  · rw [e 3 (by omega) (by omega), t6]; exact n3
  · rw [e 4 (by omega) (by omega), t7]; exact n4
  · rw [e 5 (by omega) (by omega), t8]; exact n5
  · rw [e 6 (by omega) (by omega), t9]; exact n6
  · rw [e 8 (by omega) (by omega), t4]; exact n8
  · rw [e 9 (by omega) (by omega), t5]; exact n9
  · rw [cb]
    refine ⟨e0, e1, e2, ?_, ?_⟩
    · rw [e _ (by omega) (by omega), s1]; exact (h.ch b).2.2.2.1
    · rw [e _ (by omega) (by omega), s1]; exact (h.ch b).2.2.2.2
  · rw [co]
    exact (h.ch (!b)).congr (fun j j1 j2 => e j (by omega) (by omega))
  · rw [t10]; exact h.k0.congr (fun j j1 j2 => e j (by omega) (by omega))
  · rw [t11]; exact h.k1.congr (fun j j1 j2 => e j (by omega) (by omega))
  · rw [t12]; exact h.mi.congr (e 7 (by omega) (by omega)) (fun j j1 j2 => e j (by omega) (by omega))
  · have hi2 : i < R.told := by rw [← t2]; exact hi
    rw [t13]
    exact (h.ms i hi2).congr (l4 i hi2).2.2.1 (fun j j1 j2 => e j (by omega) (by omega))
  · rw [fr.1, fr.2]; exact h.way.1 (by rw [← t3]; exact z)
  · have ek2 : R.way = some k := by rw [← t3]; exact ek
    rw [cb, t13]
    rcases (h.way.2 k ek2).1 b with q | ⟨f, s, nb, h1, h2, h3, h4, h5, h6, h7, h8, h9, h10, h11, h12, h13⟩
    · exact Or.inl (s1.trans q)
    · have m8 := (l4 k (v5 k ek2)).many_le v3 f
      refine Or.inr ⟨f, s, nb, s1.trans h1, s2.trans h2, s3.trans h3, h4, h5, h6, h7, s4.trans h8, ?_, ?_, ?_, ?_, ?_⟩
      · rw [e _ (by omega) (by omega)]; exact h9
      · rw [e _ (by omega) (by omega), s6]; exact h10
      · rw [e _ (by omega) (by omega), s6, s3, s4, s5]
        intro q1 q2
        obtain ⟨q3, q4⟩ := h11 q1 q2
        exact ⟨q3, fun k hk => by rw [e _ (by omega) (by omega)]; exact q4 k hk⟩
      · rw [e _ (by omega) (by omega), s7]; exact h12
      · rw [s6]; exact h13
  · have ek2 : R.way = some k := by rw [← t3]; exact ek
    rw [co, t13]
    exact ((h.way.2 k ek2).1 (!b)).congr (fun f => (l4 k (v5 k ek2)).many_le v3 f) (fun j j1 j2 => e j (by omega) (by omega))
  · rw [fr.1, fr.2]; exact (h.way.2 k (by rw [← t3]; exact ek)).2
theorem cnt_all {p : Nat → Bool} : ∀ {n : Nat}, (∀ i, i < n → p i = true) → cnt p n = n
  | 0, _ => rfl
  | n + 1, h => by rw [cnt, cnt_all (n := n) (fun i hi => h i (by omega)), h n (by omega)]; rfl
def newM (M : RMs) (s u : Int32) (z : Nat) (T : Nat → Int32) (p n : Nat) : RMs := (M.become s u z).letters' T p n
theorem newM_inv {M : RMs} {s u : Int32} {z l p n : Nat} {T : Nat → Int32} (h1 : 1 ≤ z) (hl : 1 ≤ l) (n1 : 1 ≤ n) (n24 : n ≤ 24) (hs : s = 0 ∨ s = 1) (hu : ∃ v : Nat, v < 10 ∧ u = nI v) (hT : ∀ k, k < n → lOf (T (p + k) - 97)) : (newM M s u z T p n).inv z l ∧ (newM M s u z T p n).unf ≠ 0 ∧ (newM M s u z T p n).phase = 0 := by
  have hf : (n + z - 1) / z ≤ 24 := by
    apply Nat.div_le_of_le_mul
    have : n * z = n + n * (z - 1) := by
      obtain ⟨y, rfl⟩ : ∃ y, z = y + 1 := ⟨z - 1, by omega⟩
      rw [Nat.add_sub_cancel, Nat.mul_add, Nat.mul_one, Nat.add_comm]
    have h2 : 1 * (z - 1) ≤ n * (z - 1) := Nat.mul_le_mul_right _ n1
    have h3 : z * n ≤ z * 24 := Nat.mul_le_mul_left _ n24
    rw [Nat.mul_comm] at this
    omega
  have hf1 : 1 ≤ (n + z - 1) / z := (Nat.le_div_iff_mul_le (by omega)).mpr (by omega)
  refine ⟨⟨rfl, n1, n24, rfl, hs, hu, ⟨0, by omega, nI_0.symm⟩, ?_, fun f hf2 => ?_, fun k hk => ?_⟩, ?_, rfl⟩
  · show nI ((n + z - 1) / z) = nI (cnt (fun f => decide (fil 24 0 M.fst f < 2)) ((n + z - 1) / z))
    rw [cnt_all (fun i hi => by
      have : fil 24 0 M.fst i = 0 := by unfold fil; rw [if_pos (by omega)]
      rw [this]; rfl)]
  · have hf3 : f < (n + z - 1) / z := hf2
    refine ⟨⟨0, by omega, ?_⟩, 0, by omega, ?_, fun _ => by omega⟩
    · show fil 24 0 M.fst f = nI 0
      unfold fil; rw [if_pos (by omega), nI_0]
    · show fil 24 0 M.tries f = nI 0
      unfold fil; rw [if_pos (by omega), nI_0]
  · have hk2 : k < n := hk
    show lOf (ltr n p T M.letters k)
    unfold ltr
    rw [if_pos hk2]
    exact hT k hk2
  · show nI ((n + z - 1) / z) ≠ 0
    exact nI_ne0 (by omega) (by omega)
theorem Rel.msg {R : RW} {D D' : Nat → Int32} (h : Rel R D) (hl : R.live) (h8 : R.told < 8) {s u : Int32} {p n : Nat} {T : Nat → Int32} (n1 : 1 ≤ n) (n24 : n ≤ 24) (hs : s = 0 ∨ s = 1) (hu : ∃ v : Nat, v < 10 ∧ u = nI v) (hT : ∀ k, k < n → lOf (T (p + k) - 97))
    (d1 : D' 1 = nI (R.told + 1)) (m0 : D' (112 + 102 * R.told) = s) (m1 : D' (112 + 102 * R.told + 1) = u) (m2 : D' (112 + 102 * R.told + 2) = nI n) (m3 : D' (112 + 102 * R.told + 3) = 0) (m4 : D' (112 + 102 * R.told + 4) = -1) (m5 : D' (112 + 102 * R.told + 5) = -1) (mg : ∀ g, g < 24 → (g < n → D' (112 + 102 * R.told + (6 + g)) = T (p + g) - 97) ∧ D' (112 + 102 * R.told + (30 + g)) = -1 ∧ D' (112 + 102 * R.told + (54 + g)) = 0 ∧ D' (112 + 102 * R.told + (78 + g)) = 0) (e : ∀ j, j < 928 → j ≠ 1 → (j < 112 + 102 * R.told ∨ 214 + 102 * R.told ≤ j) → D' j = D j) : Rel (R.addMsg s u T p n) D' ∧ (R.addMsg s u T p n).live := by
  obtain ⟨v1, v2, v3, ⟨l, l1, l2, l3, l4⟩, v5, v6⟩ := h.inv
  obtain ⟨n0, n1', n2, n3, n4, n5, n6, n8, n9⟩ := h.n
  have ea : R.addMsg s u T p n = RW.mk R.time (R.told + 1) R.way R.fsize R.limit R.sent R.lost R.garbled R.given R.no R.c0 R.c1 R.k0 R.k1 R.mi (updM R.ms R.told (newM (R.ms R.told) s u R.fsize T p n)) := if_pos h8
  obtain ⟨i1, i2, i3⟩ := newM_inv (M := R.ms R.told) (T := T) (p := p) v2 l1 n1 n24 hs hu hT
  rw [ea]
  have mo : ∀ i, i < R.told → updM R.ms R.told (newM (R.ms R.told) s u R.fsize T p n) i = R.ms i := fun i hi => updM_ne (by omega)
  refine ⟨⟨⟨by show R.told + 1 ≤ 8; omega, v2, v3, ⟨l, l1, l2, l3, fun i (hi : i < R.told + 1) => ?_⟩, fun k ek => by have := v5 k ek; show k < R.told + 1; omega, fun i (hi : i < R.told + 1) => ?_⟩, ⟨?_, d1, ?_, ?_, ?_, ?_, ?_, ?_, ?_⟩, fun b => (h.ch b).congr (fun j j1 j2 => by have := cn_lt b; exact e j (by omega) (by omega) (by omega)), h.k0.congr (fun j j1 j2 => e j (by omega) (by omega) (by omega)), h.k1.congr (fun j j1 j2 => e j (by omega) (by omega) (by omega)), h.mi.congr (e 7 (by omega) (by omega) (by omega)) (fun j j1 j2 => e j (by omega) (by omega) (by omega)), fun i (hi : i < R.told + 1) => ?_, h.way.1, fun k ek => ⟨fun b => ?_, (h.way.2 k ek).2⟩⟩, fun i (hi : i < R.told + 1) hp => ?_⟩
  · show (updM R.ms R.told (newM (R.ms R.told) s u R.fsize T p n) i).inv R.fsize l
    by_cases c : i = R.told
    · subst c; rw [updM_at]; exact i1
    · rw [mo i (by omega)]; exact l4 i (by omega)
  · show (updM R.ms R.told (newM (R.ms R.told) s u R.fsize T p n) i).phase = 1 ↔ R.way = some i
    by_cases c : i = R.told
    · subst c
      rw [updM_at, i3]
      exact ⟨fun z => absurd z (by decide), fun z => absurd (v5 _ z) (by omega)⟩
    · rw [mo i (by omega)]; exact v6 i (by omega)
  · rw [e 0 (by omega) (by omega) (by omega)]; exact n0
  · rw [e 2 (by omega) (by omega) (by omega)]; exact n2
  · rw [e 3 (by omega) (by omega) (by omega)]; exact n3
  · rw [e 4 (by omega) (by omega) (by omega)]; exact n4
  · rw [e 5 (by omega) (by omega) (by omega)]; exact n5
  · rw [e 6 (by omega) (by omega) (by omega)]; exact n6
  · rw [e 8 (by omega) (by omega) (by omega)]; exact n8
  · rw [e 9 (by omega) (by omega) (by omega)]; exact n9
  · show relMs (updM R.ms R.told (newM (R.ms R.told) s u R.fsize T p n) i) (112 + 102 * i) D'
    by_cases c : i = R.told
    · subst c
      rw [updM_at]
      refine ⟨m0, m1, m2, m3, m4, m5, fun k (hk : k < n) => ?_, fun k hk => ?_, fun k hk => ?_, fun k hk => ?_⟩
      · show _ = ltr n p T (R.ms R.told).letters k
        unfold ltr
        rw [if_pos hk]
        exact (mg k (by omega)).1 hk
      · show _ = fil 24 (-1) (R.ms R.told).log k
        unfold fil
        rw [if_pos hk]; exact (mg k hk).2.1
      · show _ = fil 24 0 (R.ms R.told).fst k
        unfold fil
        rw [if_pos hk]; exact (mg k hk).2.2.1
      · show _ = fil 24 0 (R.ms R.told).tries k
        unfold fil
        rw [if_pos hk]; exact (mg k hk).2.2.2
    · rw [mo i (by omega)]
      exact (h.ms i (by omega)).congr (l4 i (by omega)).2.2.1 (fun j j1 j2 => e j (by omega) (by omega) (by omega))
  · have hk := v5 k ek
    show relWk (R.ch b) (updM R.ms R.told (newM (R.ms R.told) s u R.fsize T p n) k) _ D'
    rw [mo k hk]
    exact ((h.way.2 k ek).1 b).congr (fun f => (l4 k hk).many_le v3 f) (fun j j1 j2 => by have := cn_lt b; exact e j (by omega) (by omega) (by omega))
  · show (updM R.ms R.told (newM (R.ms R.told) s u R.fsize T p n) i).unf ≠ 0
    by_cases c : i = R.told
    · subst c; rw [updM_at]; exact i2
    · have hp2 : (updM R.ms R.told (newM (R.ms R.told) s u R.fsize T p n) i).phase = 0 ∨ (updM R.ms R.told (newM (R.ms R.told) s u R.fsize T p n) i).phase = 1 := hp
      rw [mo i (by omega)] at hp2 ⊢
      exact hl i (by omega) hp2
theorem Rel_clear (R : RW) {D : Nat → Int32} {z l : Nat} (z1 : 1 ≤ z) (z8 : z ≤ 8) (l1 : 1 ≤ l) (l9 : l ≤ 9) (d2 : D 2 = -1) (d8 : D 8 = nI z) (d9 : D 9 = nI l) (dc : ∀ c, c < 2 → D (10 + 16 * c) = 5 ∧ D (10 + 16 * c + 3) = -1 ∧ D (10 + 16 * c + 4) = -1) (d0 : ∀ j, j < 928 → j ≠ 2 → j ≠ 8 → j ≠ 9 → j ≠ 10 → j ≠ 13 → j ≠ 14 → j ≠ 26 → j ≠ 29 → j ≠ 30 → D j = 0) : Rel (R.clear z (nI l)) D ∧ (R.clear z (nI l)).live := by
  have z0 : ∀ j, j < 928 → j ≠ 2 → j ≠ 8 → j ≠ 9 → j ≠ 10 → j ≠ 13 → j ≠ 14 → j ≠ 26 → j ≠ 29 → j ≠ 30 → D j = nI 0 := fun j a b c d e f g h i k => by rw [d0 j a b c d e f g h i k, nI_0]
  refine ⟨⟨⟨by show 0 ≤ 8; omega, z1, z8, ⟨l, l1, l9, rfl, fun i hi => absurd hi (by show ¬ i < 0; omega)⟩, (fun m e => nomatch e), fun i hi => absurd hi (by show ¬ i < 0; omega)⟩, ⟨?_, ?_, d2, ?_, ?_, ?_, ?_, d8, d9⟩, fun b => ?_, ⟨by show 0 ≤ 8; omega, ?_, fun i hi => absurd hi (by show ¬ i < 0; omega)⟩, ⟨by show 0 ≤ 8; omega, ?_, fun i hi => absurd hi (by show ¬ i < 0; omega)⟩, ⟨by show 0 ≤ 12; omega, ?_, fun i hi => absurd hi (by show ¬ i < 0; omega)⟩, fun i hi => absurd hi (by show ¬ i < 0; omega), fun _ => ⟨rfl, rfl⟩, fun m e => nomatch e⟩, fun i hi => absurd hi (by show ¬ i < 0; omega)⟩
  · exact z0 0 (by decide) (by decide) (by decide) (by decide) (by decide) (by decide) (by decide) (by decide) (by decide) (by decide)
  · exact z0 1 (by decide) (by decide) (by decide) (by decide) (by decide) (by decide) (by decide) (by decide) (by decide) (by decide)
  · exact d0 3 (by decide) (by decide) (by decide) (by decide) (by decide) (by decide) (by decide) (by decide) (by decide) (by decide)
  · exact d0 4 (by decide) (by decide) (by decide) (by decide) (by decide) (by decide) (by decide) (by decide) (by decide) (by decide)
  · exact d0 5 (by decide) (by decide) (by decide) (by decide) (by decide) (by decide) (by decide) (by decide) (by decide) (by decide)
  · exact d0 6 (by decide) (by decide) (by decide) (by decide) (by decide) (by decide) (by decide) (by decide) (by decide) (by decide)
  · have hb := cn_lt b
    obtain ⟨q1, q2, q3⟩ := dc (cn b) hb
    have e1 : D (10 + 16 * cn b + 1) = 0 := d0 _ (by omega) (by omega) (by omega) (by omega) (by omega) (by omega) (by omega) (by omega) (by omega) (by omega)
    have e2 : D (10 + 16 * cn b + 2) = 0 := d0 _ (by omega) (by omega) (by omega) (by omega) (by omega) (by omega) (by omega) (by omega) (by omega) (by omega)
    cases b
    · exact ⟨q1, e1, e2, q2, fun _ => q3⟩
    · exact ⟨q1, e1, e2, q2, fun _ => q3⟩
  · exact z0 42 (by decide) (by decide) (by decide) (by decide) (by decide) (by decide) (by decide) (by decide) (by decide) (by decide)
  · exact z0 59 (by decide) (by decide) (by decide) (by decide) (by decide) (by decide) (by decide) (by decide) (by decide) (by decide)
  · exact z0 7 (by decide) (by decide) (by decide) (by decide) (by decide) (by decide) (by decide) (by decide) (by decide) (by decide)
theorem Rel.copy {S : RW} {D : Nat → Int32} (h : Rel S D) (R : RW) : Rel (S.copy R) D ∧ (S.live → (S.copy R).live) := by
  obtain ⟨v1, v2, v3, ⟨l, l1, l2, l3, l4⟩, v5, v6⟩ := h.inv
  have mi : ∀ i, i < S.told → copM S.told S.ms R.ms i = (S.ms i).cop (R.ms i) := fun i hi => by unfold copM; rw [if_pos hi]
  have ch : ∀ b, (S.copy R).ch b = (S.ch b).cop (R.ch b) := fun b => by cases b <;> rfl
  have kp : ∀ {K K' : RKp} {a : Nat}, relKp K a D → relKp (K.cop K') a D := by
    intro K K' a hK
    obtain ⟨h1, h2, h3⟩ := hK
    refine ⟨h1, h2, fun i (hi : i < K.told) => ?_⟩
    show D _ = cpy 8 K.ticks K'.ticks i ∧ D _ = cpy 8 K.keys K'.keys i ∧ lOf (cpy 8 K.keys K'.keys i) ∧ (∃ n : Nat, n < 10000 ∧ cpy 8 K.ticks K'.ticks i = nI n) ∧ ∀ j, j < i → cpy 8 K.ticks K'.ticks j ≠ cpy 8 K.ticks K'.ticks i
    rw [cpy_in (show i < 8 by omega), cpy_in (show i < 8 by omega)]
    obtain ⟨q1, q2, q3, q4, q5⟩ := h3 i hi
    exact ⟨q1, q2, q3, q4, fun j hj => by rw [cpy_in (show j < 8 by omega)]; exact q5 j hj⟩
  have iv : ∀ i, i < S.told → ((S.ms i).cop (R.ms i)).inv S.fsize l := by
    intro i hi
    have f24 := (l4 i hi).fr24 v2
    obtain ⟨b1, b2, b3, b4, b5, b6, b7, b8, b9, b10⟩ := l4 i hi
    refine ⟨b1, b2, b3, b4, b5, b6, b7, ?_, fun f (hf : f < (S.ms i).frames) => ?_, fun k (hk : k < (S.ms i).len) => ?_⟩
    · show (S.ms i).unf = _
      rw [b8]
      congr 1
      refine cnt_congr (fun f hf => ?_)
      show decide ((S.ms i).fst f < 2) = decide (cpy 24 (S.ms i).fst (R.ms i).fst f < 2)
      rw [cpy_in (by omega)]
    · show (∃ s : Nat, s < 4 ∧ cpy 24 (S.ms i).fst (R.ms i).fst f = nI s) ∧ ∃ t : Nat, t ≤ l ∧ cpy 24 (S.ms i).tries (R.ms i).tries f = nI t ∧ (cpy 24 (S.ms i).fst (R.ms i).fst f < 2 → t < l)
      rw [cpy_in (by omega), cpy_in (by omega)]
      exact b9 f hf
    · show lOf (cpy 24 (S.ms i).letters (R.ms i).letters k)
      rw [cpy_in (by omega)]
      exact b10 k hk
  refine ⟨⟨⟨v1, v2, v3, ⟨l, l1, l2, l3, fun i hi => ?_⟩, v5, fun i hi => ?_⟩, h.n, fun b => ?_, kp h.k0, kp h.k1, ?_, fun i hi => ?_, h.way.1, fun k ek => ⟨fun b => ?_, (h.way.2 k ek).2⟩⟩, fun hl i hi hp => ?_⟩
  · show (copM S.told S.ms R.ms i).inv S.fsize l
    rw [mi i hi]; exact iv i hi
  · show (copM S.told S.ms R.ms i).phase = 1 ↔ _
    rw [mi i hi]; exact v6 i hi
  · rw [ch b]; exact h.ch b
  · obtain ⟨h1, h2, h3⟩ := h.mi
    refine ⟨h1, h2, fun i (hi : i < S.mi.told) => ?_⟩
    show D _ = cpy 12 S.mi.firsts R.mi.firsts i ∧ D _ = cpy 12 S.mi.lasts R.mi.lasts i ∧ D _ = cpy 12 S.mi.levels R.mi.levels i
    rw [cpy_in (show i < 12 by omega), cpy_in (show i < 12 by omega), cpy_in (show i < 12 by omega)]
    exact h3 i hi
  · show relMs (copM S.told S.ms R.ms i) _ D
    rw [mi i hi]
    have b3 := (l4 i hi).2.2.1
    obtain ⟨r0, r1, r2, r3, r4, r5, r6, r7, r8, r9⟩ := h.ms i hi
    refine ⟨r0, r1, r2, r3, r4, r5, fun k (hk : k < (S.ms i).len) => ?_, fun k hk => ?_, fun k hk => ?_, fun k hk => ?_⟩
    · show _ = cpy 24 (S.ms i).letters (R.ms i).letters k
      rw [cpy_in (by omega)]; exact r6 k hk
    · show _ = cpy 24 (S.ms i).log (R.ms i).log k
      rw [cpy_in hk]; exact r7 k hk
    · show _ = cpy 24 (S.ms i).fst (R.ms i).fst k
      rw [cpy_in hk]; exact r8 k hk
    · show _ = cpy 24 (S.ms i).tries (R.ms i).tries k
      rw [cpy_in hk]; exact r9 k hk
  · have hk := v5 k ek
    rw [ch b]
    show relWk _ (copM S.told S.ms R.ms k) _ D
    rw [mi k hk]
    have f24 := (l4 k hk).fr24 v2
    rcases (h.way.2 k ek).1 b with q | ⟨f, s, nb, h1, h2, h3, h4, h5, h6, h7, h8, h9, h10, h11, h12, h13⟩
    · exact Or.inl q
    · have m8 := (l4 k hk).many_le v3 f
      refine Or.inr ⟨f, s, nb, h1, h2, h3, h4, h5, h6, ?_, h8, h9, h10, fun q1 q2 => ⟨(h11 q1 q2).1, fun g hg => ?_⟩, h12, h13⟩
      · show cpy 24 (S.ms k).fst (R.ms k).fst f = 1
        rw [cpy_in (by omega)]; exact h7
      · have hg2 : g < (S.ch b).n := hg
        show _ = cpy 8 (S.ch b).heard (R.ch b).heard g
        rw [cpy_in (by omega)]
        exact (h11 q1 q2).2 g hg2
  · have hp2 : (copM S.told S.ms R.ms i).phase = 0 ∨ (copM S.told S.ms R.ms i).phase = 1 := hp
    show (copM S.told S.ms R.ms i).unf ≠ 0
    have hi2 : i < S.told := hi
    rw [mi i hi2] at hp2 ⊢
    exact hl i hi2 hp2
theorem relWk.idle {C : RCh} {M : RMs} {a : Nat} {D : Nat → Int32} : relWk (C.take (-1)) M a D := Or.inl rfl
theorem Rel.back {R : RW} {D : Nat → Int32} (h : Rel R D) (hl : R.live) {i : Nat} (hi : i < R.told) (hp : (R.ms i).phase = 0 ∨ (R.ms i).phase = 1) : (if R.way = some i then Rel (R.takeBack i).2 (upd (upd (upd (upd (upd (upd (upd D (112 + 102 * i + 3) 3) (112 + 102 * i + 5) (D 0)) 13 (-1)) 14 (-1)) 29 (-1)) 30 (-1)) 2 (-1)) else Rel (R.takeBack i).2 (upd (upd D (112 + 102 * i + 3) 3) (112 + 102 * i + 5) (D 0))) ∧ (R.takeBack i).2.live ∧ (R.takeBack i).1 = decide (R.way = some i) := by
  obtain ⟨v1, v2, v3, ⟨l, l1, l2, l3, l4⟩, v5, v6⟩ := h.inv
  have hM := l4 i hi
  have hS := h.ms i hi
  have h24 := hM.2.2.1
  obtain ⟨n0, n1, n2, n3, n4, n5, n6, n8, n9⟩ := h.n
  have inv' : ∀ l', l' ≤ 9 → R.limit = nI l' → (R.ms i).inv R.fsize l' → (((R.ms i).s_phase 3).s_ended (nI R.time)).inv R.fsize l' := by
    intro l' _ _ a3
    obtain ⟨b1, b2, b3, b4, b5, b6, b7, b8, b9, b10⟩ := a3
    exact ⟨b1, b2, b3, b4, b5, b6, ⟨3, by omega, rfl⟩, b8, b9, b10⟩
  have ms' : relMs (((R.ms i).s_phase 3).s_ended (nI R.time)) (112 + 102 * i) (upd (upd D (112 + 102 * i + 3) 3) (112 + 102 * i + 5) (D 0)) := by
    rw [n0]; exact (hS.p3 h24 3).p5 (nI R.time)
  have live' : ∀ R' : RW, R'.told = R.told → R'.ms = updM R.ms i (((R.ms i).s_phase 3).s_ended (nI R.time)) → R'.live := by
    intro R' t1 t2 j hj hpj
    rw [t2] at hpj ⊢
    by_cases c : j = i
    · subst c
      rw [updM_at] at hpj
      rcases hpj with z | z
      · exact absurd (show (3 : Int32) = 0 from z) (by decide)
      · exact absurd (show (3 : Int32) = 1 from z) (by decide)
    · rw [updM_ne c] at hpj ⊢
      exact hl j (by rw [← t1]; exact hj) hpj
  have phase' : ∀ w : Option Nat, (w = R.way ∨ w = none) → w ≠ some i → (w = none → ∀ j, j < R.told → j ≠ i → (R.ms j).phase ≠ 1) → ∀ j, j < R.told → ((if j = i then ((R.ms i).s_phase 3).s_ended (nI R.time) else R.ms j).phase = 1 ↔ w = some j) := by
    intro w hw hwi hno j hj
    by_cases c : j = i
    · rw [if_pos c, c]
      exact ⟨fun z => absurd (show (3 : Int32) = 1 from z) (by decide), fun z => absurd z hwi⟩
    · rw [if_neg c]
      rcases hw with z | z
      · rw [z]; exact v6 j hj
      · exact ⟨fun y => absurd y (hno z j hj c), fun y => by rw [z] at y; exact nomatch y⟩
  by_cases c : R.way = some i
  · have et : (R.takeBack i) = (true, RW.mk R.time R.told none R.fsize R.limit R.sent R.lost R.garbled R.given R.no (R.c0.take (-1)) (R.c1.take (-1)) R.k0 R.k1 R.mi (updM R.ms i (((R.ms i).s_phase 3).s_ended (nI R.time)))) := by
      unfold RW.takeBack
      rw [if_pos c]
      rfl
    rw [if_pos c, et]
    refine ⟨?_, live' _ rfl rfl, (decide_eq_true c).symm⟩
    generalize hE : upd (upd D (112 + 102 * i + 3) 3) (112 + 102 * i + 5) (D 0) = E at ms'
    have Eo : ∀ j, j < 112 → E j = D j := fun j hj => by rw [← hE, upd_ne (by omega), upd_ne (by omega)]
    have Em : ∀ j, (j < 112 + 102 * i ∨ 214 + 102 * i ≤ j) → E j = D j := fun j hj => by rw [← hE, upd_ne (by omega), upd_ne (by omega)]
    have o : ∀ j, j ≠ 2 → j ≠ 13 → j ≠ 14 → j ≠ 29 → j ≠ 30 → upd (upd (upd (upd (upd E 13 (-1)) 14 (-1)) 29 (-1)) 30 (-1)) 2 (-1) j = E j := fun j a b c d e => by rw [upd_ne a, upd_ne e, upd_ne d, upd_ne c, upd_ne b]
    refine ⟨⟨v1, v2, v3, ⟨l, l1, l2, l3, fun j hj => ?_⟩, (fun k ek => nomatch ek), fun j hj => ?_⟩, ⟨?_, ?_, upd_at _ _ _, ?_, ?_, ?_, ?_, ?_, ?_⟩, fun b => ?_, h.k0.congr (fun j j1 j2 => by rw [o j (by omega) (by omega) (by omega) (by omega) (by omega), Eo j (by omega)]), h.k1.congr (fun j j1 j2 => by rw [o j (by omega) (by omega) (by omega) (by omega) (by omega), Eo j (by omega)]), h.mi.congr (by rw [o 7 (by omega) (by omega) (by omega) (by omega) (by omega), Eo 7 (by omega)]) (fun j j1 j2 => by rw [o j (by omega) (by omega) (by omega) (by omega) (by omega), Eo j (by omega)]), fun j hj => ?_, fun _ => ⟨rfl, rfl⟩, fun k ek => nomatch ek⟩
    · show (updM R.ms i (((R.ms i).s_phase 3).s_ended (nI R.time)) j).inv R.fsize l
      by_cases cj : j = i
      · subst cj; rw [updM_at]; exact inv' l l2 l3 hM
      · rw [updM_ne cj]; exact l4 j hj
    · have q := phase' none (Or.inr rfl) (fun z => nomatch z) (fun _ k hk ck z => by
        have := (v6 k hk).mp z
        rw [c] at this
        exact ck (Option.some.inj this).symm) j hj
      show (updM R.ms i (((R.ms i).s_phase 3).s_ended (nI R.time)) j).phase = 1 ↔ none = some j
      by_cases cj : j = i
      · subst cj; rw [updM_at]; rwa [if_pos rfl] at q
      · rw [updM_ne cj]; rwa [if_neg cj] at q
    · rw [o 0 (by omega) (by omega) (by omega) (by omega) (by omega), Eo 0 (by omega)]; exact n0
    · rw [o 1 (by omega) (by omega) (by omega) (by omega) (by omega), Eo 1 (by omega)]; exact n1
    · rw [o 3 (by omega) (by omega) (by omega) (by omega) (by omega), Eo 3 (by omega)]; exact n3
    · rw [o 4 (by omega) (by omega) (by omega) (by omega) (by omega), Eo 4 (by omega)]; exact n4
    · rw [o 5 (by omega) (by omega) (by omega) (by omega) (by omega), Eo 5 (by omega)]; exact n5
    · rw [o 6 (by omega) (by omega) (by omega) (by omega) (by omega), Eo 6 (by omega)]; exact n6
    · rw [o 8 (by omega) (by omega) (by omega) (by omega) (by omega), Eo 8 (by omega)]; exact n8
    · rw [o 9 (by omega) (by omega) (by omega) (by omega) (by omega), Eo 9 (by omega)]; exact n9
    · obtain ⟨q1, q2, q3, -, -⟩ := h.ch b
      cases b
      · refine ⟨?_, ?_, ?_, ?_, fun _ => ?_⟩
        · rw [o _ (by decide) (by decide) (by decide) (by decide) (by decide), Eo _ (by decide)]; exact q1
        · rw [o _ (by decide) (by decide) (by decide) (by decide) (by decide), Eo _ (by decide)]; exact q2
        · rw [o _ (by decide) (by decide) (by decide) (by decide) (by decide), Eo _ (by decide)]; exact q3
        · show upd (upd (upd (upd (upd E 13 (-1)) 14 (-1)) 29 (-1)) 30 (-1)) 2 (-1) 13 = -1
          rw [upd_ne (by decide), upd_ne (by decide), upd_ne (by decide), upd_ne (by decide), upd_at]
        · show upd (upd (upd (upd (upd E 13 (-1)) 14 (-1)) 29 (-1)) 30 (-1)) 2 (-1) 14 = -1
          rw [upd_ne (by decide), upd_ne (by decide), upd_ne (by decide), upd_at]
      · refine ⟨?_, ?_, ?_, ?_, fun _ => ?_⟩
        · rw [o _ (by decide) (by decide) (by decide) (by decide) (by decide), Eo _ (by decide)]; exact q1
        · rw [o _ (by decide) (by decide) (by decide) (by decide) (by decide), Eo _ (by decide)]; exact q2
        · rw [o _ (by decide) (by decide) (by decide) (by decide) (by decide), Eo _ (by decide)]; exact q3
        · show upd (upd (upd (upd (upd E 13 (-1)) 14 (-1)) 29 (-1)) 30 (-1)) 2 (-1) 29 = -1
          rw [upd_ne (by decide), upd_ne (by decide), upd_at]
        · show upd (upd (upd (upd (upd E 13 (-1)) 14 (-1)) 29 (-1)) 30 (-1)) 2 (-1) 30 = -1
          rw [upd_ne (by decide), upd_at]
    · show relMs (updM R.ms i (((R.ms i).s_phase 3).s_ended (nI R.time)) j) _ _
      by_cases cj : j = i
      · subst cj
        rw [updM_at]
        exact ms'.congr h24 (fun k k1 k2 => o k (by omega) (by omega) (by omega) (by omega) (by omega))
      · rw [updM_ne cj]
        exact (h.ms j hj).congr (l4 j hj).2.2.1 (fun k k1 k2 => by rw [o k (by omega) (by omega) (by omega) (by omega) (by omega), Em k (by omega)])
  · have et : (R.takeBack i) = (false, R.upd3 false i R.c0 (((R.ms i).s_phase 3).s_ended (nI R.time)) R.sent R.lost R.garbled R.given R.way) := by
      unfold RW.takeBack
      rw [if_neg c]
      rfl
    rw [if_neg c, et]
    refine ⟨?_, live' _ rfl rfl, (decide_eq_false c).symm⟩
    have Eo : ∀ j, (j < 112 + 102 * i ∨ 214 + 102 * i ≤ j) → upd (upd D (112 + 102 * i + 3) 3) (112 + 102 * i + 5) (D 0) j = D j := fun j hj => by rw [upd_ne (by omega), upd_ne (by omega)]
    refine Rel_upd3 h hi (fun j _ _ j3 => Eo j j3) ?_ ?_ ?_ ?_ ?_ ((h.ch false).congr (fun j j1 j2 => Eo j (by have : cn false = 0 := rfl; omega))) ms' inv' v5 (phase' R.way (Or.inl rfl) c (fun z j hj _ y => by rw [(v6 j hj).mp y] at z; exact nomatch z)) ⟨h.way.1, fun k ek => ⟨fun b => ?_, (h.way.2 k ek).2⟩⟩
    · rw [Eo 3 (by omega)]; exact n3
    · rw [Eo 4 (by omega)]; exact n4
    · rw [Eo 5 (by omega)]; exact n5
    · rw [Eo 6 (by omega)]; exact n6
    · rw [Eo 2 (by omega)]; exact n2
    · have ck : k ≠ i := fun z => by subst z; exact c ek
      have hk := v5 k ek
      have e9 : (R.upd3 false i R.c0 (((R.ms i).s_phase 3).s_ended (nI R.time)) R.sent R.lost R.garbled R.given R.way).ch b = R.ch b := by cases b <;> rfl
      rw [e9, upd3_mo _ _ _ _ _ _ _ _ _ ck]
      exact ((h.way.2 k ek).1 b).congr (fun f => (l4 k hk).many_le v3 f) (fun j j1 j2 => by have := cn_lt b; exact Eo j (by omega))
theorem tick_f {h : gH} {w : Nat} {R : RW} {D : Nat → Int32} (hr : Rel R D) : f_X6_letTickPass (wdP h w R) w = some (oI R.tick.1, wdP h w R.tick.2) := tick_wd hr.good hr.way.1
theorem place_none {K : RKp} {t : Int32} (h : K.place t = none) : ∀ i, i < K.told → K.ticks i ≠ t := fun i hi => fnd_none.mp (show fnd (fun i => K.ticks i = t) K.told 0 = none from h) i (Nat.zero_le _) (by omega)
def RW.ticks : Nat → RW → Nat × RW
  | 0, R => (0, R)
  | d + 1, R => ((if R.tick.1 = none then 0 else 1) + (RW.ticks d R.tick.2).1, (RW.ticks d R.tick.2).2)
theorem rng {v hi : Int32} {n : Nat} (hn : hi.toInt = n) (h : 0 ≤ v ∧ v ≤ hi) : ∃ k : Nat, k ≤ n ∧ v = nI k := nI_of2 hn (Int32.not_lt.mpr h.1) h.2
theorem rngT {v : Int32} {n : Nat} (h8 : n < 2 ^ 31) (h : 0 ≤ v ∧ v < nI n) : ∃ k : Nat, k < n ∧ v = nI k := by
  obtain ⟨j, hj, rfl⟩ := nI_of (Int32.not_lt.mpr h.1)
  exact ⟨j, (nI_ltI hj h8).mp h.2, rfl⟩
theorem fIs_g {a : Nat} {x : gH} {F : RFc} (hf : fIs x.2 a F) : g_is x a 7 = true := by
  have := fP_g x a F
  rwa [fP_self hf] at this
theorem f7 (x lo hi : Int32) : (f_X7_isWithin x lo hi = 0) = ¬ (lo ≤ x ∧ x ≤ hi) := by
  rw [within_eq, bI_0]
  by_cases c : lo ≤ x ∧ x ≤ hi
  · rw [decide_eq_true c]; simp [c]
  · rw [decide_eq_false c]; simp [c]
theorem nI_cn (c : Int32) (h : 0 ≤ c ∧ c ≤ 1) : ∃ b : Bool, c = nI (cn b) := by
  obtain ⟨k, hk, rfl⟩ := rng (n := 1) (by decide) h
  have : k = 0 ∨ k = 1 := by omega
  rcases this with rfl | rfl
  · exact ⟨false, rfl⟩
  · exact ⟨true, rfl⟩
theorem chanN (h : gH) (w : Nat) (W : RW) (b : Bool) : f_X6_channelNumbered (wdP h w W) w (nI (cn b)) = some (cp w b) := by
  unfold f_X6_channelNumbered cp
  cases b
  · have : nI (cn false) = 0 := nI_0
    rw [this, if_pos rfl, wdG_c0]; rfl
  · have : ¬ nI (cn true) = 0 := by decide
    rw [if_neg this, wdG_c1]; rfl
theorem chanF (h : gH) (w : Nat) (W : RW) (b : Bool) (x t : Int32) : f_X0_figure (wdP h w W) (cp w b) x t = some ((W.ch b).figure x t) ∧ g_is (wdP h w W) (cp w b) 0 = true := by
  cases b
  · exact ⟨w_c0_figure h w W x t, w_c0_g h w W⟩
  · exact ⟨w_c1_figure h w W x t, w_c1_g h w W⟩
theorem place_eq (M : RMs) (k : Int32) : M.hasPlace k = decide (0 ≤ k ∧ k < nI M.len) := rfl
theorem chanG (h : gH) (w : Nat) (W : RW) (b : Bool) : g_gI (wdP h w W) (cp w b) 0 0 = some (W.ch b).power := by
  cases b
  · exact w_c0_Gpower h w W
  · exact w_c1_Gpower h w W
theorem chanT (h : gH) (w : Nat) (W : RW) (b : Bool) (v : Int32) : g_put (wdP h w W) (cp w b) 0 0 (.int v) = some (wdP h w (W.setCh b ((W.ch b).s_power v))) := by
  cases b
  · exact w_c0_Tpower h w W v
  · exact w_c1_Tpower h w W v
theorem setCh_live {W : RW} {b : Bool} {C : RCh} (h : W.live) : (W.setCh b C).live := by
  cases b <;> exact h
theorem setCh_time (W : RW) (b : Bool) (C : RCh) : (W.setCh b C).time = W.time := by cases b <;> rfl
theorem gA (h : gH) (a : Nat) (G : RFc) : g_gA (fP h a G) a 7 3 = some (a + 2) ∧ g_gA (fP h a G) a 7 5 = some (a + 124) ∧ g_is (fP h a G) (a + 124) 1 = true ∧ g_is (fP h a G) (a + 2) 6 = true := ⟨fG_now h a G, fG_hi h a G, fP_gH h a G, by
  have q := wdP_g (fP h a G) (a + 2) G.now
  rwa [fE_now] at q⟩
theorem kpN (h : gH) (w : Nat) (W : RW) (s : Int32) : f_X6_keepersOf (wdP h w W) w s = some (kpp w s) := by
  unfold f_X6_keepersOf kpp
  by_cases c : s = 0
  · rw [if_pos c, if_pos c, wdG_k0]; rfl
  · rw [if_neg c, if_neg c, wdG_k1]; rfl
theorem kpF (h : gH) (w : Nat) (W : RW) (hk0 : W.k0.told ≤ 8) (hk1 : W.k1.told ≤ 8) (s t k : Int32) : g_is (wdP h w W) (kpp w s) 2 = true ∧ f_X2_isFull (wdP h w W) (kpp w s) = some (bI (decide (8 ≤ (W.kp s).told))) ∧ f_X2_hasOneAt (wdP h w W) (kpp w s) t = some (bI ((W.kp s).place t).isSome) ∧ f_X2_keyAt (wdP h w W) (kpp w s) t = some ((W.kp s).keyAt t) ∧ f_X2_come (wdP h w W) (kpp w s) t k = some (wdP h w (W.setKp s ((W.kp s).come t k))) := by
  unfold kpp RW.kp RW.setKp
  by_cases c : s = 0
  · simp only [c, if_true]
    exact ⟨w_k0_g h w W, w_k0_isFull h w W hk0, w_k0_hasOneAt h w W hk0 t, w_k0_keyAt h w W hk0 t, w_k0_come h w W hk0 t k⟩
  · simp only [c, if_false]
    exact ⟨w_k1_g h w W, w_k1_isFull h w W hk1, w_k1_hasOneAt h w W hk1 t, w_k1_keyAt h w W hk1 t, w_k1_come h w W hk1 t k⟩
def RW.fogged (W : RW) (x y z : Int32) : RW := W.s_mi (W.mi.add x y z)
