/-! a Line's layout: which part of it a cell is -/
def rOf (B p0 p1 q0 q1 n : Nat) (t fr : Nat → Nat) (q : Nat) : Nat :=
  if q = B then 1 else if q = p0 then 2 else if q = p1 then 3 else if q = q0 then 4 else if q = q1 then 5 else
  match fnd (fun i => t i ≤ q ∧ q < t i + (5 + fr i)) n 0 with
  | none => 0
  | some i => if q = t i ∨ q = t i + 3 ∨ t i + 5 ≤ q then 16 + 32 * i + (q - t i) else 0
def mkS (B p0 p1 q0 q1 TA KA MA n : Nat) (t w len fr : Nat → Nat) (P : Nat → Prop) : RS := RS.mk B (fun c => if c = 0 then p0 else p1) (fun c => if c = 0 then q0 else q1) TA KA MA t w len fr (rOf B p0 p1 q0 q1 n t fr) P
/-- the parts lie apart -/
def dst (B p0 p1 q0 q1 n : Nat) (t fr : Nat → Nat) : Prop := (B ≠ p0 ∧ B ≠ p1 ∧ B ≠ q0 ∧ B ≠ q1 ∧ p0 ≠ p1 ∧ p0 ≠ q0 ∧ p0 ≠ q1 ∧ p1 ≠ q0 ∧ p1 ≠ q1 ∧ q0 ≠ q1) ∧ (∀ i, i < n → B < t i ∧ p0 < t i ∧ p1 < t i ∧ q0 < t i ∧ q1 < t i) ∧ (∀ i j, i < j → j < n → t i + (5 + fr i) ≤ t j) ∧ ∀ i, i < n → fr i ≤ 24
section LAY
variable {B p0 p1 q0 q1 TA KA MA n : Nat} {t w len fr : Nat → Nat} {P : Nat → Prop}
theorem rOf_t (d : dst B p0 p1 q0 q1 n t fr) {i k : Nat} (hi : i < n) (hk : k < 5 + fr i) : rOf B p0 p1 q0 q1 n t fr (t i + k) = if k = 0 ∨ k = 3 ∨ 5 ≤ k then 16 + 32 * i + k else 0 := by
  obtain ⟨-, d2, d3, -⟩ := d
  have := d2 i hi
  unfold rOf
  rw [if_neg (by omega), if_neg (by omega), if_neg (by omega), if_neg (by omega), if_neg (by omega)]
  cases e : fnd (fun j => t j ≤ t i + k ∧ t i + k < t j + (5 + fr j)) n 0 with
  | none => exact absurd ⟨by omega, by omega⟩ (fnd_none.mp e i (Nat.zero_le _) (by omega))
  | some j =>
    obtain ⟨-, j2, ⟨j3, j4⟩, -⟩ := fnd_some e
    have : j = i := by
      rcases Nat.lt_trichotomy j i with c | c | c
      · have := d3 j i c hi; omega
      · exact c
      · have := d3 i j c (by omega); omega
    subst this
    dsimp only
    by_cases c : k = 0 ∨ k = 3 ∨ 5 ≤ k
    · rw [if_pos c, if_pos (by omega)]; omega
    · rw [if_neg c, if_neg (by omega)]
theorem rOf_out (hB : ∀ q, rOf B p0 p1 q0 q1 n t fr q ≠ 0 → True) : True := trivial
theorem rOf_ne {q : Nat} (h : rOf B p0 p1 q0 q1 n t fr q ≠ 0) : q = B ∨ q = p0 ∨ q = p1 ∨ q = q0 ∨ q = q1 ∨ ∃ i, i < n ∧ t i ≤ q ∧ q < t i + (5 + fr i) ∧ (q = t i ∨ q = t i + 3 ∨ t i + 5 ≤ q) ∧ rOf B p0 p1 q0 q1 n t fr q = 16 + 32 * i + (q - t i) := by
  by_cases c1 : q = B
  · exact Or.inl c1
  by_cases c2 : q = p0
  · exact Or.inr (Or.inl c2)
  by_cases c3 : q = p1
  · exact Or.inr (Or.inr (Or.inl c3))
  by_cases c4 : q = q0
  · exact Or.inr (Or.inr (Or.inr (Or.inl c4)))
  by_cases c5 : q = q1
  · exact Or.inr (Or.inr (Or.inr (Or.inr (Or.inl c5))))
  refine Or.inr (Or.inr (Or.inr (Or.inr (Or.inr ?_))))
  unfold rOf at h ⊢
  rw [if_neg c1, if_neg c2, if_neg c3, if_neg c4, if_neg c5] at h ⊢
  cases e : fnd (fun j => t j ≤ q ∧ q < t j + (5 + fr j)) n 0 with
  | none => rw [e] at h; exact absurd rfl h
  | some i =>
    rw [e] at h
    dsimp only at h ⊢
    obtain ⟨-, j2, ⟨j3, j4⟩, -⟩ := fnd_some e
    by_cases c : q = t i ∨ q = t i + 3 ∨ t i + 5 ≤ q
    · exact ⟨i, by omega, j3, j4, c, if_pos c⟩
    · rw [if_neg c] at h; exact absurd rfl h
theorem rOf_5 (d : dst B p0 p1 q0 q1 n t fr) : rOf B p0 p1 q0 q1 n t fr B = 1 ∧ rOf B p0 p1 q0 q1 n t fr p0 = 2 ∧ rOf B p0 p1 q0 q1 n t fr p1 = 3 ∧ rOf B p0 p1 q0 q1 n t fr q0 = 4 ∧ rOf B p0 p1 q0 q1 n t fr q1 = 5 := by
  obtain ⟨⟨a1, a2, a3, a4, a5, a6, a7, a8, a9, a10⟩, -⟩ := d
  refine ⟨if_pos rfl, ?_, ?_, ?_, ?_⟩
  · unfold rOf; rw [if_neg (Ne.symm a1), if_pos rfl]
  · unfold rOf; rw [if_neg (Ne.symm a2), if_neg (Ne.symm a5), if_pos rfl]
  · unfold rOf; rw [if_neg (Ne.symm a3), if_neg (Ne.symm a6), if_neg (Ne.symm a8), if_pos rfl]
  · unfold rOf; rw [if_neg (Ne.symm a4), if_neg (Ne.symm a7), if_neg (Ne.symm a9), if_neg (Ne.symm a10), if_pos rfl]
theorem mkS_adr (k : Nat) (hk : 1 ≤ k ∧ k ≤ 5) : (mkS B p0 p1 q0 q1 TA KA MA n t w len fr P).adr k = if k = 1 then B else if k = 2 then p0 else if k = 3 then p1 else if k = 4 then q0 else q1 := by
  obtain rfl | rfl | rfl | rfl | rfl : k = 1 ∨ k = 2 ∨ k = 3 ∨ k = 4 ∨ k = 5 := by omega
  all_goals rfl
theorem mkS_ok (d : dst B p0 p1 q0 q1 n t fr) (hl : ∀ i, i < n → len i ≤ 24) : (mkS B p0 p1 q0 q1 TA KA MA n t w len fr P).ok n := by
  obtain ⟨r1, r2, r3, r4, r5⟩ := rOf_5 d
  refine ⟨fun q hq => ?_, fun r hr => ?_, fun i hi => ⟨d.2.2.2 i hi, hl i hi⟩⟩
  · have hq' : rOf B p0 p1 q0 q1 n t fr q ≠ 0 := hq
    show q = (mkS B p0 p1 q0 q1 TA KA MA n t w len fr P).adr (rOf B p0 p1 q0 q1 n t fr q) ∧ (mkS B p0 p1 q0 q1 TA KA MA n t w len fr P).has n (rOf B p0 p1 q0 q1 n t fr q)
    rcases rOf_ne hq' with e | e | e | e | e | ⟨i, i1, i2, i3, i4, i5⟩
    · subst e; rw [r1]; exact ⟨rfl, Or.inl ⟨by omega, by omega⟩⟩
    · subst e; rw [r2]; exact ⟨rfl, Or.inl ⟨by omega, by omega⟩⟩
    · subst e; rw [r3]; exact ⟨rfl, Or.inl ⟨by omega, by omega⟩⟩
    · subst e; rw [r4]; exact ⟨rfl, Or.inl ⟨by omega, by omega⟩⟩
    · subst e; rw [r5]; exact ⟨rfl, Or.inl ⟨by omega, by omega⟩⟩
    · have f24 := d.2.2.2 i i1
      obtain ⟨k, rfl⟩ := Nat.exists_eq_add_of_le i2
      rw [i5, show t i + k - t i = k by omega]
      refine ⟨(adr_t (mkS B p0 p1 q0 q1 TA KA MA n t w len fr P) i k (by omega)).symm, Or.inr ⟨by omega, by omega, ?_⟩⟩
      rw [show (16 + 32 * i + k - 16) / 32 = i by omega, show (16 + 32 * i + k - 16) % 32 = k by omega]
      have : (mkS B p0 p1 q0 q1 TA KA MA n t w len fr P).fr i = fr i := rfl
      omega
  · show rOf B p0 p1 q0 q1 n t fr ((mkS B p0 p1 q0 q1 TA KA MA n t w len fr P).adr r) = r
    rcases hr with hr | ⟨h1, h2, h3⟩
    · rw [mkS_adr r hr]
      obtain rfl | rfl | rfl | rfl | rfl : r = 1 ∨ r = 2 ∨ r = 3 ∨ r = 4 ∨ r = 5 := by omega
      · exact r1
      · exact r2
      · exact r3
      · exact r4
      · exact r5
    · have f24 := d.2.2.2 _ h2
      have e : r = 16 + 32 * ((r - 16) / 32) + (r - 16) % 32 := by omega
      have hk : (r - 16) % 32 = 0 ∨ (r - 16) % 32 = 3 ∨ (5 ≤ (r - 16) % 32 ∧ (r - 16) % 32 < 5 + fr ((r - 16) / 32)) := h3
      have ea : (mkS B p0 p1 q0 q1 TA KA MA n t w len fr P).adr r = t ((r - 16) / 32) + (r - 16) % 32 := by
        have := adr_t (mkS B p0 p1 q0 q1 TA KA MA n t w len fr P) ((r - 16) / 32) ((r - 16) % 32) (by omega)
        rw [← e] at this
        exact this
      rw [ea, rOf_t d h2 (by omega), if_pos (by omega)]
      exact e.symm
/-- where a Line's cells are as its row says, the heap holds it -/
theorem mkS_is {h : gH} {D : Nat → Int32} (d : dst B p0 p1 q0 q1 n t fr) (e1 : h.2 B = some (lnO (mkS B p0 p1 q0 q1 TA KA MA n t w len fr P) D)) (e2 : h.2 p0 = some (lmO (mkS B p0 p1 q0 q1 TA KA MA n t w len fr P) D 0)) (e3 : h.2 p1 = some (lmO (mkS B p0 p1 q0 q1 TA KA MA n t w len fr P) D 1)) (e4 : h.2 q0 = some (.inl (0, 8, .inl (cmF D 0)))) (e5 : h.2 q1 = some (.inl (0, 8, .inl (cmF D 1)))) (et : ∀ i, i < n → h.2 (t i) = some (tkO (mkS B p0 p1 q0 q1 TA KA MA n t w len fr P) D i) ∧ h.2 (t i + 3) = some (.inl (0, len i, .inl (lgF (mkS B p0 p1 q0 q1 TA KA MA n t w len fr P) D i))) ∧ ∀ f, f < fr i → h.2 (t i + (5 + f)) = some (frO D i f)) : lnIs h (mkS B p0 p1 q0 q1 TA KA MA n t w len fr P) D n := fun r hr => by
  rcases hr with hr | ⟨h1, h2, h3⟩
  · rw [mkS_adr r hr]
    obtain rfl | rfl | rfl | rfl | rfl : r = 1 ∨ r = 2 ∨ r = 3 ∨ r = 4 ∨ r = 5 := by omega
    · exact e1
    · exact e2
    · exact e3
    · exact e4
    · exact e5
  · have f24 := d.2.2.2 _ h2
    obtain ⟨i, hi⟩ : ∃ i, i = (r - 16) / 32 := ⟨_, rfl⟩
    obtain ⟨k, hk⟩ : ∃ k, k = (r - 16) % 32 := ⟨_, rfl⟩
    have e : r = 16 + 32 * i + k := by omega
    rw [← hi] at h2 h3 f24
    rw [← hk] at h3
    have h3' : k = 0 ∨ k = 3 ∨ (5 ≤ k ∧ k < 5 + fr i) := h3
    rw [e, adr_t _ i k (by omega)]
    obtain ⟨t1, t2, t3⟩ := et i h2
    rcases h3' with rfl | rfl | ⟨k1, k2⟩
    · rw [Nat.add_zero, Nat.add_zero, lnC_t]; exact t1
    · rw [lnC_l]; exact t2
    · obtain ⟨f, rfl⟩ := Nat.exists_eq_add_of_le k1
      rw [lnC_f _ _ _ _ (by omega)]
      exact t3 f (by omega)
end LAY
/-- what stays is also there where the layout names more cells that stay -/
theorem lnK.frame {h h' : gH} {S : RS} {R : RW} (K : lnK h S R) (e : ∀ q c, S.P q → S.r q = 0 → h.2 q = some c → h'.2 q = some c) : lnK h' S R := by
  have s : ∀ {q c}, still h S q c → still h' S q c := fun k => ⟨e _ _ k.2.2 k.2.1 k.1, k.2⟩
  obtain ⟨k1, k2, k3, ⟨nk, rw', st, tk, ky, a1, a2, a3, a4⟩, rm, b1, b2⟩ := K
  refine ⟨s k1, s k2, fun i hi => ?_, ⟨nk, rw', st, tk, ky, a1, s a2, fun r hr => s (a3 r hr), a4⟩, rm, s b1, fun r hr => s (b2 r hr)⟩
  obtain ⟨t1, t2, t3, v, a, b, g, w1, w2, w3⟩ := k3 i hi
  exact ⟨t1, t2, s t3, v, a, b, g, s w1, s w2, w3⟩
theorem lnR.frame {h h' : gH} {S : RS} {D : Nat → Int32} {R : RW} (L : lnR h S D R) (e : ∀ q c, S.P q → S.r q = 0 → h.2 q = some c → h'.2 q = some c) : lnR h' S D R := ⟨L.1, L.2.1.frame e, L.2.2⟩
/-- the same heap, the Line's own cells told by a row -/
theorem lnR.at {h : gH} {S : RS} {D D' : Nat → Int32} {R : RW} (L : lnR h S D R) : lnR (lnP h S D') S D R := L.frame fun q c _ hr e => by rw [lnP_out hr]; exact e
