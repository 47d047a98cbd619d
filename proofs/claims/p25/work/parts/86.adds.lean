/-! a Line with a talk more tells the world with a message more -/
def updN (f : Nat → Nat) (n v : Nat) : Nat → Nat := fun i => if i = n then v else f i
theorem updN_at (f : Nat → Nat) (n v : Nat) : updN f n v n = v := if_pos rfl
theorem updN_ne {f : Nat → Nat} {n v i : Nat} (h : i ≠ n) : updN f n v i = f i := if_neg h
def sAd (S : RS) (n A x len m TA : Nat) (P : Nat → Prop) : RS := RS.mk S.B S.p S.q TA S.KA S.MA (updN S.t n A) (updN S.w n x) (updN S.len n len) (updN S.fr n m) (fun q => if A ≤ q ∧ q < A + (5 + m) ∧ (q = A ∨ q = A + 3 ∨ A + 5 ≤ q) then 16 + 32 * n + (q - A) else S.r q) P
theorem has_up {S : RS} {n A x len m TA : Nat} {P : Nat → Prop} {r : Nat} (hr : S.has n r) : (sAd S n A x len m TA P).has (n + 1) r ∧ (sAd S n A x len m TA P).adr r = S.adr r ∧ (r ≤ 5 ∨ (r - 16) / 32 < n) := by
  rcases hr with hr | ⟨h1, h2, h3⟩
  · refine ⟨Or.inl hr, ?_, Or.inl hr.2⟩
    obtain rfl | rfl | rfl | rfl | rfl : r = 1 ∨ r = 2 ∨ r = 3 ∨ r = 4 ∨ r = 5 := by omega
    all_goals rfl
  · have ef : (sAd S n A x len m TA P).fr ((r - 16) / 32) = S.fr ((r - 16) / 32) := updN_ne (by omega)
    refine ⟨Or.inr ⟨h1, by omega, by rw [ef]; exact h3⟩, ?_, Or.inr h2⟩
    unfold RS.adr
    rw [if_neg (by omega), if_neg (by omega), if_neg (by omega), if_neg (by omega), if_neg (by omega), if_neg (by omega), if_neg (by omega), if_neg (by omega), if_neg (by omega), if_neg (by omega)]
    have et : (sAd S n A x len m TA P).t ((r - 16) / 32) = S.t ((r - 16) / 32) := updN_ne (by omega)
    rw [et]
theorem has_dn {S : RS} {n A x len m TA : Nat} {P : Nat → Prop} {r : Nat} (hr : (sAd S n A x len m TA P).has (n + 1) r) : S.has n r ∨ ∃ k, r = 16 + 32 * n + k ∧ (k = 0 ∨ k = 3 ∨ (5 ≤ k ∧ k < 5 + m)) ∧ k < 32 := by
  rcases hr with hr | ⟨h1, h2, h3⟩
  · exact Or.inl (Or.inl hr)
  · by_cases c : (r - 16) / 32 = n
    · rw [c] at h3
      have ef : (sAd S n A x len m TA P).fr n = m := updN_at _ _ _
      rw [ef] at h3
      exact Or.inr ⟨(r - 16) % 32, by omega, h3, by omega⟩
    · have ef : (sAd S n A x len m TA P).fr ((r - 16) / 32) = S.fr ((r - 16) / 32) := updN_ne c
      rw [ef] at h3
      exact Or.inl (Or.inr ⟨h1, by omega, h3⟩)
theorem sAd_ok {S : RS} {n A x len m TA : Nat} {P : Nat → Prop} (ok : S.ok n) (lo : ∀ r, S.has n r → S.adr r < A) (hm : m ≤ 24) (hl : len ≤ 24) : (sAd S n A x len m TA P).ok (n + 1) := by
  refine ⟨fun q hq => ?_, fun r hr => ?_, fun i hi => ?_⟩
  · by_cases c : A ≤ q ∧ q < A + (5 + m) ∧ (q = A ∨ q = A + 3 ∨ A + 5 ≤ q)
    · have e : (sAd S n A x len m TA P).r q = 16 + 32 * n + (q - A) := if_pos c
      have en : (sAd S n A x len m TA P).t n = A := updN_at _ _ _
      have ef : (sAd S n A x len m TA P).fr n = m := updN_at _ _ _
      rw [e]
      refine ⟨?_, Or.inr ⟨by omega, by omega, ?_⟩⟩
      · rw [adr_t _ n (q - A) (by omega), en]; omega
      · rw [show (16 + 32 * n + (q - A) - 16) / 32 = n by omega, show (16 + 32 * n + (q - A) - 16) % 32 = q - A by omega, ef]
        omega
    · have e : (sAd S n A x len m TA P).r q = S.r q := if_neg c
      rw [e] at hq ⊢
      obtain ⟨a1, a2⟩ := ok.1 q hq
      obtain ⟨b1, b2, -⟩ := has_up (A := A) (x := x) (len := len) (m := m) (TA := TA) (P := P) a2
      exact ⟨by rw [b2]; exact a1, b1⟩
  · rcases has_dn hr with h | ⟨k, rfl, h2, h3⟩
    · obtain ⟨b1, b2, -⟩ := has_up (A := A) (x := x) (len := len) (m := m) (TA := TA) (P := P) h
      rw [b2]
      have := lo r h
      have e : (sAd S n A x len m TA P).r (S.adr r) = S.r (S.adr r) := if_neg (by omega)
      rw [e]
      exact ok.2.1 r h
    · have en : (sAd S n A x len m TA P).t n = A := updN_at _ _ _
      rw [adr_t _ n k h3, en]
      have e : (sAd S n A x len m TA P).r (A + k) = 16 + 32 * n + (A + k - A) := if_pos (by omega)
      rw [e]; omega
  · by_cases c : i = n
    · subst c
      have ef : (sAd S i A x len m TA P).fr i = m := updN_at _ _ _
      have el : (sAd S i A x len m TA P).len i = len := updN_at _ _ _
      rw [ef, el]; exact ⟨hm, hl⟩
    · have ef : (sAd S n A x len m TA P).fr i = S.fr i := updN_ne c
      have el : (sAd S n A x len m TA P).len i = S.len i := updN_ne c
      rw [ef, el]; exact ok.2.2 i (by omega)
theorem gen_is {h : gH} {S : RS} {D : Nat → Int32} {n : Nat} (f24 : ∀ i, i < n → S.fr i ≤ 24) (e1 : h.2 S.B = some (lnO S D)) (e2 : ∀ c, c < 2 → h.2 (S.p c) = some (lmO S D c) ∧ h.2 (S.q c) = some (.inl (0, 8, .inl (cmF D c)))) (et : ∀ i, i < n → h.2 (S.t i) = some (tkO S D i) ∧ h.2 (S.t i + 3) = some (.inl (0, S.len i, .inl (lgF S D i))) ∧ ∀ f, f < S.fr i → h.2 (S.t i + (5 + f)) = some (frO D i f)) : lnIs h S D n := fun r hr => by
  rcases hr with hr | ⟨h1, h2, h3⟩
  · obtain rfl | rfl | rfl | rfl | rfl : r = 1 ∨ r = 2 ∨ r = 3 ∨ r = 4 ∨ r = 5 := by omega
    · exact e1
    · exact (e2 0 (by omega)).1
    · exact (e2 1 (by omega)).1
    · exact (e2 0 (by omega)).2
    · exact (e2 1 (by omega)).2
  · have g24 := f24 _ h2
    obtain ⟨i, hi⟩ : ∃ i, i = (r - 16) / 32 := ⟨_, rfl⟩
    obtain ⟨k, hk⟩ : ∃ k, k = (r - 16) % 32 := ⟨_, rfl⟩
    have e : r = 16 + 32 * i + k := by omega
    rw [← hi] at h2 h3 g24
    rw [← hk] at h3
    rw [e, adr_t _ i k (by omega)]
    obtain ⟨t1, t2, t3⟩ := et i h2
    rcases h3 with rfl | rfl | ⟨k1, k2⟩
    · rw [Nat.add_zero, Nat.add_zero, lnC_t]; exact t1
    · rw [lnC_l]; exact t2
    · obtain ⟨f, rfl⟩ := Nat.exists_eq_add_of_le k1
      rw [lnC_f _ _ _ _ (by omega)]
      exact t3 f (by omega)
/-- the row of numbers with a message more -/
def dAd (D : Nat → Int32) (i : Nat) (s u : Int32) (n p : Nat) (T : Nat → Int32) : Nat → Int32 := fun j => if j = 1 then nI (i + 1) else if 112 + 102 * i ≤ j ∧ j < 214 + 102 * i then (if j = 112 + 102 * i then s else if j = 112 + 102 * i + 1 then u else if j = 112 + 102 * i + 2 then nI n else if j = 112 + 102 * i + 3 then 0 else if j < 112 + 102 * i + 6 then -1 else if j < 112 + 102 * i + 30 then T (p + (j - (112 + 102 * i + 6))) - 97 else if j < 112 + 102 * i + 54 then -1 else 0) else D j
theorem dAd_o {D : Nat → Int32} {i n p : Nat} {s u : Int32} {T : Nat → Int32} {j : Nat} (h1 : j ≠ 1) (h2 : j < 112 + 102 * i ∨ 214 + 102 * i ≤ j) : dAd D i s u n p T j = D j := by
  unfold dAd
  rw [if_neg h1, if_neg (by omega)]
theorem dAd_in {D : Nat → Int32} {i n p : Nat} {s u : Int32} {T : Nat → Int32} {k : Nat} (hk : k < 102) : dAd D i s u n p T (112 + 102 * i + k) = if k = 0 then s else if k = 1 then u else if k = 2 then nI n else if k = 3 then 0 else if k < 6 then -1 else if k < 30 then T (p + (k - 6)) - 97 else if k < 54 then -1 else 0 := by
  unfold dAd
  rw [if_neg (by omega), if_pos (by omega)]
  by_cases c0 : k = 0
  · rw [if_pos (by omega), if_pos c0]
  rw [if_neg (by omega), if_neg c0]
  by_cases c1 : k = 1
  · rw [if_pos (by omega), if_pos c1]
  rw [if_neg (by omega), if_neg c1]
  by_cases c2 : k = 2
  · rw [if_pos (by omega), if_pos c2]
  rw [if_neg (by omega), if_neg c2]
  by_cases c3 : k = 3
  · rw [if_pos (by omega), if_pos c3]
  rw [if_neg (by omega), if_neg c3]
  by_cases c4 : k < 6
  · rw [if_pos (by omega), if_pos c4]
  rw [if_neg (by omega), if_neg c4]
  by_cases c5 : k < 30
  · rw [if_pos (by omega), if_pos c5, show 112 + 102 * i + k - (112 + 102 * i + 6) = k - 6 by omega]
  rw [if_neg (by omega), if_neg c5]
  by_cases c6 : k < 54
  · rw [if_pos (by omega), if_pos c6]
  rw [if_neg (by omega), if_neg c6]
theorem rfs_congr {t n : Nat} {f g : Nat → Nat} (h : ∀ i, i < n → f i = g i) : rfs t n f = rfs t n g := by
  unfold rfs
  refine congrArg (fun f => (.inl (t, n, .inr (.inr (.inr (.inr f)))) : gC)) (funext fun i => ?_)
  by_cases c : i < n
  · rw [if_pos c, if_pos c, h i c]
  · rw [if_neg c, if_neg c]
section ADR
variable {G : gG} {h : gH} {S : RS} {D : Nat → Int32} {R : RW} {s u : Int32} {x n p : Nat} {T : Nat → Int32}
/-- own cells lie below the next free address -/
theorem own_lt (I : lnIs h S D n) (W : wf h) {r : Nat} (hr : S.has n r) : S.adr r < h.1 := by
  obtain ⟨c, hc⟩ := lnC_of (D := D) hr
  exact W _ _ ((I r hr).trans hc)
theorem hAd_lo {m n0 q : Nat} (hq : q < h.1) (hB : q ≠ S.B) : (hAd h S D s u x n m n0).2 q = h.2 q := by
  unfold hAd
  rw [set_ne hB, ext_out h _ (Or.inl hq)]
theorem hAd_in {m n0 j : Nat} (hB : S.B < h.1) (hj : j < 5 + m) : (hAd h S D s u x n m n0).2 (h.1 + j) = (adC h.1 s u x n m)[j]? := by
  unfold hAd
  rw [set_ne (by omega), ext_in h _ (by rw [List.length_append, adC_len]; omega), List.getElem?_append_left (by rw [adC_len]; exact hj)]
theorem hAd_row {m n0 : Nat} (hB : S.B < h.1) : (hAd h S D s u x n m n0).2 (h.1 + (5 + m)) = some (rfs 8 (n0 + 1) (oneMore n0 S.t h.1)) := by
  unfold hAd
  rw [set_ne (by omega), ext_in h _ (by rw [List.length_append, adC_len]; exact Nat.lt_succ_self _), List.getElem?_append_right (by rw [adC_len]; exact Nat.le_refl _), adC_len, Nat.sub_self]
  rfl
theorem hAd_1 {m n0 : Nat} : (hAd h S D s u x n m n0).1 = h.1 + (5 + m + 1) := by
  show h.1 + (adC h.1 s u x n m ++ [_]).length = _
  rw [List.length_append, adC_len]; rfl
theorem adds_r (I : lnIs h S D R.told) (L : lnR h S D R) (hl : R.live) (W : wf h) (h8 : R.told < 8) (n1 : 1 ≤ n) (n16 : n ≤ 16) (hs : s = 0 ∨ s = 1) (hu : ∃ v : Nat, v < 10 ∧ u = nI v) (hT : ∀ k, k < n → lOf (T (p + k) - 97)) {P : Nat → Prop} (hP : ∀ q, S.P q → S.r q = 0 → q < h.1 → P q) (hN : ∀ q, h.1 ≤ q → q < h.1 + (5 + (n + R.fsize - 1) / R.fsize + 1) → P q) {v : Nat} {a b : Int32} {g : Nat → Int32} (ex : h.2 x = some (.inr (14, [.ref v, .int 0, .int a, .int b]))) (ev : h.2 v = some (.inl (1, n, .inl g))) (px : P x ∧ S.r x = 0) (pv : P v ∧ S.r v = 0) (hg : ∀ k, k < n → g k = T (p + k)) :
    f_X10_adds G h S.B s u x = some (hAd h S D s u x n ((n + R.fsize - 1) / R.fsize) R.told) ∧ lnIs (hAd h S D s u x n ((n + R.fsize - 1) / R.fsize) R.told) (sAd S R.told h.1 x n ((n + R.fsize - 1) / R.fsize) (h.1 + (5 + (n + R.fsize - 1) / R.fsize)) P) (dAd D R.told s u n p T) (R.told + 1) ∧ lnR (hAd h S D s u x n ((n + R.fsize - 1) / R.fsize) R.told) (sAd S R.told h.1 x n ((n + R.fsize - 1) / R.fsize) (h.1 + (5 + (n + R.fsize - 1) / R.fsize)) P) (dAd D R.told s u n p T) (R.addMsg s u T p n) ∧ (R.addMsg s u T p n).live := by
  have ok := L.1
  have e := lnP_self ok I
  obtain ⟨v1, v2, v3, ⟨l, l1, l2, l3, l4⟩, v5, v6⟩ := L.2.2.1.inv
  have eB := ln_B (h := h) (D := D) ok
  rw [e] at eB
  have lB := W _ _ eB
  have eT := L.2.1.2.1.1
  have lT := W _ _ eT
  have et : ∀ i, i < R.told → (∃ fs, h.2 (S.t i) = some (.inr (12, fs))) ∧ S.t i < h.1 := fun i hi => by
    have q := ln_t (h := h) (D := D) ok hi
    rw [e] at q
    exact ⟨⟨_, q⟩, W _ _ q⟩
  have tx : ∀ cs, txt G (ext h cs) x n g := fun cs => txt_dyn ((ext_out h cs (Or.inl (W _ _ ex))).trans ex) ((ext_out h cs (Or.inl (W _ _ ev))).trans ev)
  have ad := adds_c (G := G) (s := s) (u := u) (x := x) (n := n) eB lB L.2.2.1.n.fs v2 v3 eT lT et h8 tx n16 n1
  have hm : (n + R.fsize - 1) / R.fsize ≤ n := fr_le v2 n1
  generalize hmm : (n + R.fsize - 1) / R.fsize = m at *
  have lo : ∀ r, S.has R.told r → S.adr r < h.1 := fun r hr => own_lt I W hr
  have ok' := sAd_ok (x := x) (TA := h.1 + (5 + m)) (P := P) ok lo (show m ≤ 24 by omega) (show n ≤ 24 by omega)
  have rB : S.r S.B = 1 := ok.2.1 1 (Or.inl ⟨by omega, by omega⟩)
  have dif : ∀ r, S.has R.told r → r ≠ 1 → S.adr r ≠ S.B := fun r hr h1 z => by
    have := ok.2.1 r hr
    rw [z, rB] at this
    exact h1 this.symm
  have cell : ∀ r, S.has R.told r → r ≠ 1 → (hAd h S D s u x n m R.told).2 (S.adr r) = h.2 (S.adr r) := fun r hr h1 => hAd_lo (lo r hr) (dif r hr h1)
  have oD : ∀ j, j ≠ 1 → (j < 112 + 102 * R.told ∨ 214 + 102 * R.told ≤ j) → dAd D R.told s u n p T j = D j := fun j a b => dAd_o a b
  obtain ⟨mr, ml⟩ := L.2.2.1.msg (D' := dAd D R.told s u n p T) hl h8 (s := s) (u := u) (p := p) (n := n) (T := T) n1 (by omega) hs hu hT (by unfold dAd; rw [if_pos rfl]) (dAd_in (k := 0) (by omega)) (dAd_in (k := 1) (by omega)) (dAd_in (k := 2) (by omega)) (dAd_in (k := 3) (by omega)) (dAd_in (k := 4) (by omega)) (dAd_in (k := 5) (by omega)) (fun g hg => ⟨fun _ => by rw [dAd_in (show 6 + g < 102 by omega), if_neg (by omega), if_neg (by omega), if_neg (by omega), if_neg (by omega), if_neg (by omega), if_pos (by omega), show 6 + g - 6 = g by omega], by rw [dAd_in (show 30 + g < 102 by omega), if_neg (by omega), if_neg (by omega), if_neg (by omega), if_neg (by omega), if_neg (by omega), if_neg (by omega), if_pos (by omega)], by rw [dAd_in (show 54 + g < 102 by omega), if_neg (by omega), if_neg (by omega), if_neg (by omega), if_neg (by omega), if_neg (by omega), if_neg (by omega), if_neg (by omega)], by rw [dAd_in (show 78 + g < 102 by omega), if_neg (by omega), if_neg (by omega), if_neg (by omega), if_neg (by omega), if_neg (by omega), if_neg (by omega), if_neg (by omega)]⟩) (fun j _ a b => dAd_o a b)
  have ea : R.addMsg s u T p n = RW.mk R.time (R.told + 1) R.way R.fsize R.limit R.sent R.lost R.garbled R.given R.no R.c0 R.c1 R.k0 R.k1 R.mi (updM R.ms R.told (newM (R.ms R.told) s u R.fsize T p n)) := if_pos h8
  have tn : (R.addMsg s u T p n).told = R.told + 1 := by rw [ea]; rfl
  have mo : ∀ i, i < R.told → (R.addMsg s u T p n).ms i = R.ms i := fun i hi => by rw [ea]; exact updM_ne (by omega)
  have mn : (R.addMsg s u T p n).ms R.told = newM (R.ms R.told) s u R.fsize T p n := by rw [ea]; exact updM_at _ _ _
  have stl : ∀ {q c}, still h S q c → still (hAd h S D s u x n m R.told) (sAd S R.told h.1 x n m (h.1 + (5 + m)) P) q c := fun {q c} k => by
    have hq := W _ _ k.1
    have nB : q ≠ S.B := fun z => by have := k.2.1; rw [z, rB] at this; exact nomatch this
    exact ⟨(hAd_lo hq nB).trans k.1, (if_neg (by omega) : (sAd S R.told h.1 x n m (h.1 + (5 + m)) P).r q = S.r q).trans k.2.1, hP q k.2.2 k.2.1 hq⟩
  have rn : ∀ k, k < 6 + m → ¬ (k = 0 ∨ k = 3 ∨ (5 ≤ k ∧ k < 5 + m)) → (sAd S R.told h.1 x n m (h.1 + (5 + m)) P).r (h.1 + k) = 0 := fun k hk hn => by
    have e1 : (sAd S R.told h.1 x n m (h.1 + (5 + m)) P).r (h.1 + k) = S.r (h.1 + k) := if_neg (by omega)
    rw [e1]
    by_cases z : S.r (h.1 + k) = 0
    · exact z
    · obtain ⟨a1, a2⟩ := ok.1 _ z
      have := lo _ a2
      omega
  refine ⟨ad, gen_is (fun i hi => (ok'.2.2 i hi).1) ?_ (fun c hc => ⟨?_, ?_⟩) (fun i hi => ?_), ⟨?_, ⟨?_, ?_, fun i hi => ?_, ?_, ?_⟩, mr, ?_⟩, ml⟩
  · show (hAd h S D s u x n m R.told).2 S.B = _
    unfold hAd
    rw [set_at]
    unfold lnO
    rw [oD 8 (by omega) (by omega), oD 9 (by omega) (by omega), oD 0 (by omega) (by omega), oD 2 (by omega) (by omega), oD 3 (by omega) (by omega), oD 4 (by omega) (by omega), oD 5 (by omega) (by omega), oD 6 (by omega) (by omega)]
    rfl
  · have q := ln_p (h := h) (D := D) ok hc
    rw [e] at q
    have c1 := cell (2 + c) (has_p S R.told hc) (by omega)
    rw [adr_p S hc, q] at c1
    refine c1.trans (congrArg some ?_)
    unfold lmO
    rw [oD (10 + 16 * c) (by omega) (by omega), oD (10 + 16 * c + 1) (by omega) (by omega), oD (10 + 16 * c + 2) (by omega) (by omega), oD (10 + 16 * c + 3) (by omega) (by omega), oD (10 + 16 * c + 4) (by omega) (by omega), oD (10 + 16 * c + 5) (by omega) (by omega), oD (10 + 16 * c + 6) (by omega) (by omega), oD (10 + 16 * c + 7) (by omega) (by omega)]
    rfl
  · have q := ln_q (h := h) (D := D) ok hc
    rw [e] at q
    have c1 := cell (4 + c) (has_q S R.told hc) (by omega)
    rw [adr_q S hc, q] at c1
    refine c1.trans (congrArg some (congrArg (fun g => (.inl (0, 8, .inl g) : gC)) (funext fun k => ?_)))
    unfold cmF
    by_cases hk : k < 8
    · rw [if_pos hk, if_pos hk, oD (10 + 16 * c + 8 + k) (by omega) (by omega)]
    · rw [if_neg hk, if_neg hk]
  · by_cases ci : i = R.told
    · subst ci
      have t1 : (sAd S R.told h.1 x n m (h.1 + (5 + m)) P).t R.told = h.1 := updN_at _ _ _
      have t2 : (sAd S R.told h.1 x n m (h.1 + (5 + m)) P).w R.told = x := updN_at _ _ _
      have t3 : (sAd S R.told h.1 x n m (h.1 + (5 + m)) P).len R.told = n := updN_at _ _ _
      have t4 : (sAd S R.told h.1 x n m (h.1 + (5 + m)) P).fr R.told = m := updN_at _ _ _
      rw [t1, t3, t4]
      refine ⟨?_, ?_, fun f hf => ?_⟩
      · have q := hAd_in (h := h) (S := S) (D := D) (s := s) (u := u) (x := x) (n := n) (m := m) (n0 := R.told) (j := 0) lB (by omega)
        refine q.trans ?_
        have d0 := dAd_in (D := D) (i := R.told) (s := s) (u := u) (n := n) (p := p) (T := T) (k := 0) (by omega)
        have d1 := dAd_in (D := D) (i := R.told) (s := s) (u := u) (n := n) (p := p) (T := T) (k := 1) (by omega)
        have d3 := dAd_in (D := D) (i := R.told) (s := s) (u := u) (n := n) (p := p) (T := T) (k := 3) (by omega)
        have d4 := dAd_in (D := D) (i := R.told) (s := s) (u := u) (n := n) (p := p) (T := T) (k := 4) (by omega)
        have d5 := dAd_in (D := D) (i := R.told) (s := s) (u := u) (n := n) (p := p) (T := T) (k := 5) (by omega)
        rw [Nat.add_zero] at d0
        unfold tkO
        rw [d0, d1, d3, d4, d5, t1, t2]
        rfl
      · have q := hAd_in (h := h) (S := S) (D := D) (s := s) (u := u) (x := x) (n := n) (m := m) (n0 := R.told) (j := 3) lB (by omega)
        refine q.trans (congrArg some (congrArg (fun g => (.inl (0, n, .inl g) : gC)) (funext fun k => ?_)))
        unfold lgF
        rw [t3]
        by_cases hk : k < n
        · rw [if_pos hk, if_pos hk, dAd_in (show 30 + k < 102 by omega), if_neg (by omega), if_neg (by omega), if_neg (by omega), if_neg (by omega), if_neg (by omega), if_neg (by omega), if_pos (by omega)]
        · rw [if_neg hk, if_neg hk]
      · have q := hAd_in (h := h) (S := S) (D := D) (s := s) (u := u) (x := x) (n := n) (m := m) (n0 := R.told) (j := 5 + f) lB (by omega)
        refine q.trans ?_
        unfold adC
        rw [show 5 + f = f + 1 + 1 + 1 + 1 + 1 by omega, List.getElem?_cons_succ, List.getElem?_cons_succ, List.getElem?_cons_succ, List.getElem?_cons_succ, List.getElem?_cons_succ, frs_at _ _ hf]
        unfold frC frO
        rw [dAd_in (show 54 + f < 102 by omega), dAd_in (show 78 + f < 102 by omega), if_neg (by omega), if_neg (by omega), if_neg (by omega), if_neg (by omega), if_neg (by omega), if_neg (by omega), if_neg (by omega), if_neg (by omega), if_neg (by omega), if_neg (by omega), if_neg (by omega), if_neg (by omega), if_neg (by omega), if_neg (by omega)]
    · have hi2 : i < R.told := by omega
      have t1 : (sAd S R.told h.1 x n m (h.1 + (5 + m)) P).t i = S.t i := updN_ne ci
      have t2 : (sAd S R.told h.1 x n m (h.1 + (5 + m)) P).w i = S.w i := updN_ne ci
      have t3 : (sAd S R.told h.1 x n m (h.1 + (5 + m)) P).len i = S.len i := updN_ne ci
      have t4 : (sAd S R.told h.1 x n m (h.1 + (5 + m)) P).fr i = S.fr i := updN_ne ci
      have l24 := L.len24 hi2
      have f24 := (ok.2.2 i hi2)
      rw [t1, t3, t4]
      refine ⟨?_, ?_, fun f hf => ?_⟩
      · have q := ln_t (h := h) (D := D) ok hi2
        rw [e] at q
        have c1 := cell (16 + 32 * i + 0) (has_t S hi2) (by omega)
        rw [adr_t S i 0 (by omega), Nat.add_zero, q] at c1
        refine c1.trans (congrArg some ?_)
        unfold tkO
        rw [oD _ (by omega) (by omega), oD _ (by omega) (by omega), oD _ (by omega) (by omega), oD _ (by omega) (by omega), oD _ (by omega) (by omega), t1, t2]
      · have q := ln_l (h := h) (D := D) ok hi2
        rw [e] at q
        have c1 := cell (16 + 32 * i + 3) (has_l S hi2) (by omega)
        rw [adr_t S i 3 (by omega), q] at c1
        refine c1.trans (congrArg some (congrArg (fun g => (.inl (0, S.len i, .inl g) : gC)) (funext fun k => ?_)))
        unfold lgF
        rw [t3]
        by_cases hk : k < S.len i
        · rw [if_pos hk, if_pos hk, oD _ (by omega) (by omega)]
        · rw [if_neg hk, if_neg hk]
      · have q := ln_f (h := h) (D := D) ok hi2 hf
        rw [e] at q
        have c1 := cell (16 + 32 * i + (5 + f)) (has_f ok hi2 hf) (by omega)
        rw [adr_t S i (5 + f) (by omega), q] at c1
        refine c1.trans (congrArg some ?_)
        unfold frO
        rw [oD _ (by omega) (by omega), oD _ (by omega) (by omega)]
  · rw [tn]; exact ok'
  · exact stl L.2.1.1
  · rw [tn]
    refine ⟨?_, rn (5 + m) (by omega) (by omega), hN _ (by show h.1 ≤ h.1 + (5 + m); omega) (by show h.1 + (5 + m) < h.1 + (5 + m + 1); omega)⟩
    show (hAd h S D s u x n m R.told).2 (h.1 + (5 + m)) = _
    rw [hAd_row lB]
    refine congrArg some (rfs_congr fun i hi => ?_)
    unfold oneMore
    by_cases ci : i = R.told
    · subst ci
      rw [if_neg (Nat.lt_irrefl _)]
      exact (updN_at _ _ _).symm
    · rw [if_pos (by omega)]
      exact (updN_ne ci).symm
  · rw [tn] at hi
    by_cases ci : i = R.told
    · subst ci
      have t1 : (sAd S R.told h.1 x n m (h.1 + (5 + m)) P).t R.told = h.1 := updN_at _ _ _
      have t2 : (sAd S R.told h.1 x n m (h.1 + (5 + m)) P).w R.told = x := updN_at _ _ _
      have t3 : (sAd S R.told h.1 x n m (h.1 + (5 + m)) P).len R.told = n := updN_at _ _ _
      have t4 : (sAd S R.told h.1 x n m (h.1 + (5 + m)) P).fr R.told = m := updN_at _ _ _
      unfold tkL
      rw [mn, t1, t2, t3, t4]
      have xB : x ≠ S.B := fun z => by have := px.2; rw [z, rB] at this; exact nomatch this
      have vB : v ≠ S.B := fun z => by have := pv.2; rw [z, rB] at this; exact nomatch this
      have lx := W _ _ ex
      have lv := W _ _ ev
      refine ⟨rfl, hmm.symm, ⟨?_, rn 4 (by omega) (by omega), hN _ (by omega) (by omega)⟩, v, a, b, g, ⟨(hAd_lo lx xB).trans ex, (if_neg (by omega) : (sAd S R.told h.1 x n m (h.1 + (5 + m)) P).r x = S.r x).trans px.2, px.1⟩, ⟨(hAd_lo lv vB).trans ev, (if_neg (by omega) : (sAd S R.told h.1 x n m (h.1 + (5 + m)) P).r v = S.r v).trans pv.2, pv.1⟩, fun k hk => ?_⟩
      · exact (hAd_in (h := h) (S := S) (D := D) (s := s) (u := u) (x := x) (n := n) (m := m) (n0 := R.told) (j := 4) lB (by omega)).trans rfl
      · have : (newM (R.ms R.told) s u R.fsize T p n).letters k = T (p + k) - 97 := by
          show ltr n p T _ k = _
          unfold ltr
          rw [if_pos hk]
        rw [this, hg k hk, Int32.sub_add_cancel]
    · have hi2 : i < R.told := by omega
      have t1 : (sAd S R.told h.1 x n m (h.1 + (5 + m)) P).t i = S.t i := updN_ne ci
      have t2 : (sAd S R.told h.1 x n m (h.1 + (5 + m)) P).w i = S.w i := updN_ne ci
      have t3 : (sAd S R.told h.1 x n m (h.1 + (5 + m)) P).len i = S.len i := updN_ne ci
      have t4 : (sAd S R.told h.1 x n m (h.1 + (5 + m)) P).fr i = S.fr i := updN_ne ci
      obtain ⟨k1, k2, k3, v', a', b', g', w1, w2, w3⟩ := L.2.1.2.2.1 i hi2
      unfold tkL
      rw [mo i hi2, t1, t2, t3, t4]
      exact ⟨k1, k2, stl k3, v', a', b', g', stl w1, stl w2, w3⟩
  · obtain ⟨nk, rw', st, tk, ky, a1, a2, a3, a4⟩ := L.2.1.2.2.2.1
    refine ⟨nk, rw', st, tk, ky, a1, stl a2, fun r hr => stl (a3 r hr), ?_⟩
    rw [ea]
    exact a4
  · obtain ⟨rm, b1, b2⟩ := L.2.1.2.2.2.2
    rw [ea]
    exact ⟨rm, stl b1, fun r hr => stl (b2 r hr)⟩
  · refine ⟨fun i hi k hk => ?_, fun b k hk => ?_, fun b => ?_⟩
    · rw [tn] at hi
      by_cases ci : i = R.told
      · subst ci
        rw [mn] at hk ⊢
        left
        have hk2 : k < n := hk
        show fil 24 (-1) _ k = -1
        unfold fil
        rw [if_pos (by omega)]
      · rw [mo i (by omega)] at hk ⊢
        exact L.2.2.2.1 i (by omega) k hk
    · rw [ea] at hk ⊢
      exact L.2.2.2.2.1 b k (by cases b <;> exact hk)
    · rw [ea]
      have := L.2.2.2.2.2 b
      cases b <;> exact this
end ADR
