/-! a copy tells what its Line told -/
theorem rOf_0 {B p0 p1 q0 q1 n : Nat} {t fr : Nat → Nat} {q : Nat} (h1 : q ≠ B ∧ q ≠ p0 ∧ q ≠ p1 ∧ q ≠ q0 ∧ q ≠ q1) (h2 : ∀ i, i < n → q < t i ∨ t i + (5 + fr i) ≤ q) : rOf B p0 p1 q0 q1 n t fr q = 0 := by
  by_cases c : rOf B p0 p1 q0 q1 n t fr q = 0
  · exact c
  · obtain ⟨a1, a2, a3, a4, a5⟩ := h1
    rcases rOf_ne c with e | e | e | e | e | ⟨i, i1, i2, i3, -⟩
    · exact absurd e a1
    · exact absurd e a2
    · exact absurd e a3
    · exact absurd e a4
    · exact absurd e a5
    · have := h2 i i1; omega
/-- words that a copy can take -/
def RW.sm (R : RW) : Prop := ∀ i, i < R.told → (R.ms i).len ≤ 16
theorem fr_le {n z : Nat} (hz : 1 ≤ z) (hn : 1 ≤ n) : (n + z - 1) / z ≤ n := by
  have h1 : (n + z - 1) / z * z ≤ n + z - 1 := Nat.div_mul_le_self _ _
  rcases Nat.lt_or_ge n ((n + z - 1) / z) with c | c
  · have h2 : (n + 1) * z ≤ (n + z - 1) / z * z := Nat.mul_le_mul c (Nat.le_refl z)
    have h3 : (n + 1) * z = n * z + z := Nat.succ_mul n z
    have h4 : n * 1 ≤ n * z := Nat.mul_le_mul (Nat.le_refl n) hz
    omega
  · exact c
section CPR
variable {G : gG} {h : gH} {S : RS} {D : Nat → Int32} {R : RW}
theorem src_of (I : lnIs h S D R.told) (L : lnR h S D R) (sm : R.sm) : srcL h S D R.told := by
  have e := lnP_self L.1 I
  have ok := L.1
  obtain ⟨v1, v2, v3, ⟨l, l1, l2, l3, l4⟩, v5, v6⟩ := L.2.2.1.inv
  refine ⟨?_, L.2.1.1.1, L.2.1.2.1.1, fun c hc => ⟨?_, ?_⟩, fun i hi => ⟨?_, ?_, (L.2.1.2.2.1 i hi).2.2.1.1, fun f hf => ?_, ?_, ?_⟩⟩
  · have q := ln_B (h := h) (D := D) ok; rwa [e] at q
  · have q := ln_p (h := h) (D := D) ok hc; rwa [e] at q
  · have q := ln_q (h := h) (D := D) ok hc; rwa [e] at q
  · have q := ln_t (h := h) (D := D) ok hi; rwa [e] at q
  · have q := ln_l (h := h) (D := D) ok hi; rwa [e] at q
  · have q := ln_f (h := h) (D := D) ok hi hf; rwa [e] at q
  · rw [L.slen hi]; exact sm i hi
  · rw [L.sfr hi, (l4 i hi).2.2.2.1]
    have := fr_le (n := (R.ms i).len) v2 (l4 i hi).2.1
    have := sm i hi
    omega
def sCp (B : Nat) (S : RS) (n : Nat) (P : Nat → Prop) : RS := mkS B (B + 9) (B + 12) (B + 11) (B + 14) (B + 15) S.KA S.MA n (Acp (B + 16) S.fr) S.w S.len S.fr P
def hCp (h : gH) (S : RS) (D : Nat → Int32) (n : Nat) : gH := ext h (lnY h.1 S D :: (cpR h.1 D S ++ rwQ 8 n n (Acp (h.1 + 16) S.fr) :: tcs S D (h.1 + 16) n))
theorem hCp_1 (h : gH) (S : RS) (D : Nat → Int32) (n : Nat) : (hCp h S D n).1 = Acp (h.1 + 16) S.fr n := by
  unfold hCp
  rw [ext_fst, ← tcs_len S D (h.1 + 16) n]
  simp only [List.length_cons, List.length_append, show (cpR h.1 D S).length = 14 from rfl]
  omega
theorem hCp_lo (h : gH) (S : RS) (D : Nat → Int32) (n : Nat) {q : Nat} (hq : q < h.1) : (hCp h S D n).2 q = h.2 q := ext_out h _ (Or.inl hq)
theorem hCp_c (h : gH) (S : RS) (D : Nat → Int32) (n : Nat) {j : Nat} (hj : j < 15) : (hCp h S D n).2 (h.1 + j) = (lnY h.1 S D :: cpR h.1 D S)[j]? := by
  unfold hCp
  have l : (cpR h.1 D S).length = 14 := rfl
  rw [ext_in h _ (by simp only [List.length_cons, List.length_append, l]; omega), ← List.cons_append, List.getElem?_append_left (by rw [List.length_cons, l]; omega)]
theorem hCp_T (h : gH) (S : RS) (D : Nat → Int32) (n : Nat) : (hCp h S D n).2 (h.1 + 15) = some (rfs 8 n (Acp (h.1 + 16) S.fr)) := by
  unfold hCp
  have l : (cpR h.1 D S).length = 14 := rfl
  rw [ext_in h _ (by simp only [List.length_cons, List.length_append, l]; omega), ← List.cons_append, List.getElem?_append_right (by rw [List.length_cons, l]; exact Nat.le_refl 15), List.length_cons, l]
  rfl
theorem hCp_t (h : gH) (S : RS) (D : Nat → Int32) {n j d : Nat} (hj : j < n) (hd : d < 5 + S.fr j) : (hCp h S D n).2 (Acp (h.1 + 16) S.fr j + d) = (tkN S D (Acp (h.1 + 16) S.fr j) j)[d]? := by
  have l : (cpR h.1 D S).length = 14 := rfl
  have g := Acp_ge (h.1 + 16) S.fr j
  have m := Acp_mono (h.1 + 16) S.fr (i := j) (j := n) hj
  have t := tcs_len S D (h.1 + 16) n
  have q := ext_in h (lnY h.1 S D :: (cpR h.1 D S ++ rwQ 8 n n (Acp (h.1 + 16) S.fr) :: tcs S D (h.1 + 16) n)) (j := 16 + (Acp (h.1 + 16) S.fr j - (h.1 + 16) + d)) (by simp only [List.length_cons, List.length_append, l]; omega)
  rw [show h.1 + (16 + (Acp (h.1 + 16) S.fr j - (h.1 + 16) + d)) = Acp (h.1 + 16) S.fr j + d by omega] at q
  unfold hCp
  rw [q, ← List.cons_append, List.getElem?_append_right (by rw [List.length_cons, l]; omega), List.length_cons, l, show 16 + (Acp (h.1 + 16) S.fr j - (h.1 + 16) + d) - (14 + 1) = (Acp (h.1 + 16) S.fr j - (h.1 + 16) + d) + 1 by omega, List.getElem?_cons_succ]
  exact tcs_at S D (h.1 + 16) hd n hj
theorem dst_cp (B : Nat) {n : Nat} (hf : ∀ i, i < n → S.fr i ≤ 24) : dst B (B + 9) (B + 12) (B + 11) (B + 14) n (Acp (B + 16) S.fr) S.fr := by
  refine ⟨⟨by omega, by omega, by omega, by omega, by omega, by omega, by omega, by omega, by omega, by omega⟩, fun i _ => ?_, fun i j hi _ => Acp_mono _ _ hi, hf⟩
  have := Acp_ge (B + 16) S.fr i
  omega
theorem copy_r (I : lnIs h S D R.told) (L : lnR h S D R) (sm : R.sm) (bd : boolD D) {P : Nat → Prop} (hP : ∀ q, S.P q → S.r q = 0 → q < h.1 → P q) (hN : ∀ q, h.1 ≤ q → q < Acp (h.1 + 16) S.fr R.told → P q) (W : wf h) : lnIs (hCp h S D R.told) (sCp h.1 S R.told P) D R.told ∧ lnR (hCp h S D R.told) (sCp h.1 S R.told P) D R := by
  have ok := L.1
  have t8 := L.2.2.1.inv.1
  have f24 : ∀ i, i < R.told → S.fr i ≤ 24 := fun i hi => (ok.2.2 i hi).1
  have d := dst_cp (S := S) h.1 f24
  have A0 := Acp_ge (h.1 + 16) S.fr
  have r0 : ∀ j, j < 16 → j ≠ 0 → j ≠ 9 → j ≠ 12 → j ≠ 11 → j ≠ 14 → (sCp h.1 S R.told P).r (h.1 + j) = 0 := fun j a b c e f g => rOf_0 (by omega) (fun i _ => Or.inl (by have := A0 i; omega))
  have rlo : ∀ q, q < h.1 → (sCp h.1 S R.told P).r q = 0 := fun q hq => rOf_0 (by omega) (fun i _ => Or.inl (by have := A0 i; omega))
  have r4 : ∀ i, i < R.told → (sCp h.1 S R.told P).r (Acp (h.1 + 16) S.fr i + 4) = 0 := fun i hi => by
    have q := rOf_t d hi (k := 4) (by omega)
    rw [if_neg (by omega)] at q
    exact q
  have An : h.1 + 16 ≤ Acp (h.1 + 16) S.fr R.told := A0 _
  have stl : ∀ {q c}, still h S q c → still (hCp h S D R.told) (sCp h.1 S R.told P) q c := fun {q c} k => by
    have hq := W _ _ k.1
    exact ⟨(hCp_lo h S D R.told hq).trans k.1, rlo q hq, hP q k.2.2 k.2.1 hq⟩
  have e8 : lmC (D 10) (D 11) (D 12) (D 13) (D 14) (decide (D 15 = 1)) (D 16) (h.1 + 11) (decide (D 17 = 1)) = lmO (sCp h.1 S R.told P) D 0 := by
    unfold lmC
    rw [bI_dec (bd 15 (by omega)), bI_dec (bd 17 (by omega))]
    rfl
  have e9 : lmC (D 26) (D 27) (D 28) (D 29) (D 30) (decide (D 31 = 1)) (D 32) (h.1 + 14) (decide (D 33 = 1)) = lmO (sCp h.1 S R.told P) D 1 := by
    unfold lmC
    rw [bI_dec (bd 31 (by omega)), bI_dec (bd 33 (by omega))]
    rfl
  refine ⟨mkS_is d ?_ ?_ ?_ ?_ ?_ fun i hi => ⟨?_, ?_, fun f hf => ?_⟩, mkS_ok d (fun i hi => (ok.2.2 i hi).2), ⟨?_, ?_, fun i hi => ?_, ?_, ?_⟩, L.2.2⟩
  · exact hCp_c h S D R.told (j := 0) (by omega)
  · exact (hCp_c h S D R.told (j := 9) (by omega)).trans (congrArg some e8)
  · exact (hCp_c h S D R.told (j := 12) (by omega)).trans (congrArg some e9)
  · exact hCp_c h S D R.told (j := 11) (by omega)
  · exact hCp_c h S D R.told (j := 14) (by omega)
  · exact hCp_t h S D hi (d := 0) (by omega)
  · exact hCp_t h S D hi (d := 3) (by omega)
  · refine (hCp_t h S D hi (d := 5 + f) (by omega)).trans ?_
    unfold tkN tkCs
    rw [show 5 + f = f + 1 + 1 + 1 + 1 + 1 by omega, List.getElem?_cons_succ, List.getElem?_cons_succ, List.getElem?_cons_succ, List.getElem?_cons_succ, List.getElem?_cons_succ, frs_at _ _ hf]
    rfl
  · exact ⟨hCp_c h S D R.told (j := 1) (by omega), r0 1 (by omega) (by omega) (by omega) (by omega) (by omega) (by omega), hN _ (by show h.1 ≤ h.1 + 1; omega) (by show h.1 + 1 < _; omega)⟩
  · exact ⟨hCp_T h S D R.told, r0 15 (by omega) (by omega) (by omega) (by omega) (by omega) (by omega), hN _ (by show h.1 ≤ h.1 + 15; omega) (by show h.1 + 15 < _; omega)⟩
  · obtain ⟨k1, k2, k3, v, a, b, g, w1, w2, w3⟩ := L.2.1.2.2.1 i hi
    have m := Acp_mono (h.1 + 16) S.fr (i := i) (j := R.told) hi
    have g0 := A0 i
    exact ⟨k1, k2, ⟨hCp_t h S D hi (d := 4) (by omega), r4 i hi, hN _ (by show h.1 ≤ Acp (h.1 + 16) S.fr i + 4; omega) (by show Acp (h.1 + 16) S.fr i + 4 < _; omega)⟩, v, a, b, g, stl w1, stl w2, w3⟩
  · obtain ⟨nk, rw', st, tk, ky, a1, a2, a3, a4⟩ := L.2.1.2.2.2.1
    exact ⟨nk, rw', st, tk, ky, a1, stl a2, fun r hr => stl (a3 r hr), a4⟩
  · obtain ⟨rm, b1, b2⟩ := L.2.1.2.2.2.2
    exact ⟨rm, stl b1, fun r hr => stl (b2 r hr)⟩
end CPR
