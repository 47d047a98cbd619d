/-! what holds of the law's heap: free cells, constants, the generator; the class between its calls; the Line; lines of before -/
def Bas (a b : Nat) (h : gH) : Prop := wf h ∧ low b h ∧ b ≤ a ∧ a + 616 ≤ h.1 ∧ rdIs h (a + 615)
def Cls (a : Nat) (h : gH) (F : RFc) : Prop := fIs h.2 a F ∧ bfO a h ∧ F.n = 0 ∧ F.pl < 8 ∧ F.ct ≤ 8
def Lin (h : gH) (P : Nat → Prop) (S : RS) (D : Nat → Int32) (R : RW) : Prop := lnIs h S D R.told ∧ lnR h S D R ∧ R.live ∧ boolD D ∧ R.sm ∧ R.idl ∧ (∀ q, S.r q ≠ 0 → P q) ∧ S.P = P
def Pq (a bA : Nat) : Nat → Prop := fun q => a + 616 ≤ q ∧ q ≠ bA
/-- a step that writes the class, the law's row, the generator, the row of lines and the Line's own cells alone -/
def stp (a bA : Nat) (S S' : RS) (h h' : gH) : Prop := h.1 ≤ h'.1 ∧ (∀ q, q < h.1 → (q < a ∨ a + 616 ≤ q) → q ≠ bA → S.r q = 0 → h'.2 q = h.2 q ∧ S'.r q = 0) ∧ (wf h → wf h')
/-- a line of before, which nothing writes -/
def Old (a bA : Nat) (h : gH) (S Si : RS) (Di : Nat → Int32) (Ri : RW) : Prop := lnIs h Si Di Ri.told ∧ lnR h Si Di Ri ∧ Ri.idl ∧ Ri.time < 2 ^ 31 ∧ ∀ q, (Si.r q ≠ 0 ∨ Si.P q) → a + 616 ≤ q ∧ q ≠ bA ∧ q < h.1 ∧ S.r q = 0
section BAS
variable {a b bA : Nat} {h h' h1 h2 : gH} {F : RFc} {P : Nat → Prop} {S S' S1 S2 Si : RS} {D Di : Nat → Int32} {R Ri : RW}
theorem Lin.frame (l : Lin h P S D R) (e : ∀ q c, P q → h.2 q = some c → h'.2 q = some c) : Lin h' P S D R := by
  obtain ⟨I, L, l1, l2, l3, l4, l5, l6⟩ := l
  refine ⟨fun r hr => ?_, L.frame (fun q c hp _ hc => e q c (by rw [← l6]; exact hp) hc), l1, l2, l3, l4, l5, l6⟩
  obtain ⟨c, hc⟩ := lnC_of (D := D) hr
  have e1 := I r hr
  rw [hc] at e1 ⊢
  have r1 := (has_b L.1 hr).1
  exact e _ _ (l5 _ (by rw [L.1.2.1 r hr]; omega)) e1
theorem Lin.fr {W : Nat → Prop} (l : Lin h P S D R) (w : wf h) (x : eff W h h') (d : ∀ q, W q → ¬ P q) : Lin h' P S D R := l.frame (fun q c hp hc => (x.2.1 q (w q c hc) (fun z => d q z hp)).trans hc)
theorem Lin.own (l : Lin h P S D R) (w : wf h) {q : Nat} (hq : S.r q ≠ 0) : q < h.1 := by
  obtain ⟨I, L, -⟩ := l
  obtain ⟨e1, e2⟩ := L.1.1 q hq
  rw [e1]
  exact own_lt I w e2
theorem Lin.self (l : Lin h P S D R) : lnP h S D = h := lnP_self l.2.1.1 l.1
theorem Bas.fr {W : Nat → Prop} (B : Bas a b h) (x : eff W h h') (d : ∀ q, W q → b ≤ q ∧ q ≠ a + 615) : Bas a b h' := by
  obtain ⟨b1, b2, b3, b4, sd, b5, b6⟩ := B
  exact ⟨x.2.2 b1, b2.eff x (by omega) (fun q hq => (d q hq).1), b3, Nat.le_trans b4 x.1, sd, (x.2.1 _ (by omega) (fun z => (d _ z).2 rfl)).trans b5, Nat.lt_of_lt_of_le b6 x.1⟩
theorem Bas.is (B : Bas a b h) : g_is h (a + 615) 11 = true := B.2.2.2.2.is
theorem below_t (G : gG) (B : Bas a b h) {n : Nat} (n0 : 0 < n) (hn : n < 2 ^ 31) {I : Int32} (eI : I = nI n) : ∃ k h', k < n ∧ f_X11_below G h (a + 615) I = some (nI k, h') ∧ Bas a b h' ∧ eff (fun q => q = a + 615) h h' ∧ h'.1 = h.1 := by
  obtain ⟨k, h', k1, k2, k3, k4, k5⟩ := below_c G B.2.2.2.2 n0 hn
  obtain ⟨b1, b2, b3, b4, b5⟩ := B
  exact ⟨k, h', k1, by rw [eI]; exact k2, ⟨k4.2.2 b1, b2.eff (eff_grew k4) (by omega) (fun q hq => by omega), b3, by omega, k3⟩, eff_grew k4, k5⟩
theorem Cls.fr {W : Nat → Prop} (C : Cls a h F) (hc : a + 615 ≤ h.1) (x : eff W h h') (d : ∀ q, W q → q < a ∨ a + 615 ≤ q) : Cls a h' F := by
  obtain ⟨c1, ⟨f, c2, c3⟩, c4⟩ := C
  exact ⟨fun j hj => (x.2.1 _ (by omega) (fun z => by have := d _ z; omega)).trans (c1 j hj), ⟨f, (x.2.1 _ (by omega) (fun z => by have := d _ z; omega)).trans c2, c3⟩, c4⟩
theorem stp.trans (x : stp a bA S S1 h h1) (y : stp a bA S1 S2 h1 h2) : stp a bA S S2 h h2 := ⟨Nat.le_trans x.1 y.1, fun q hq ha hb hr => by
  obtain ⟨x1, x2⟩ := x.2.1 q hq ha hb hr
  obtain ⟨y1, y2⟩ := y.2.1 q (Nat.lt_of_lt_of_le hq x.1) ha hb x2
  exact ⟨y1.trans x1, y2⟩, fun w => y.2.2 (x.2.2 w)⟩
theorem stp_eff {W : Nat → Prop} (x : eff W h h') (d : ∀ q, W q → (a ≤ q ∧ q < a + 616) ∨ q = bA ∨ S.r q ≠ 0) : stp a bA S S h h' := ⟨x.1, fun q hq ha hb hr => ⟨x.2.1 q hq (fun z => by
  rcases d q z with c | c | c
  · omega
  · exact hb c
  · exact c hr), hr⟩, x.2.2⟩
theorem Old.step (o : Old a bA h S Si Di Ri) (x : stp a bA S S' h h') : Old a bA h' S' Si Di Ri := by
  obtain ⟨I, L, o1, o2, o3⟩ := o
  have e : ∀ q, (Si.r q ≠ 0 ∨ Si.P q) → h'.2 q = h.2 q ∧ S'.r q = 0 := fun q hq => by
    obtain ⟨p1, p2, p3, p4⟩ := o3 q hq
    exact x.2.1 q p3 (Or.inr p1) p2 p4
  refine ⟨fun r hr => ?_, L.frame (fun q c hp _ hc => (e q (Or.inr hp)).1.trans hc), o1, o2, fun q hq => ?_⟩
  · have r1 := (has_b L.1 hr).1
    rw [(e _ (Or.inl (by rw [L.1.2.1 r hr]; omega))).1]
    exact I r hr
  · obtain ⟨p1, p2, p3, p4⟩ := o3 q hq
    exact ⟨p1, p2, Nat.lt_of_lt_of_le p3 x.1, (e q hq).2⟩
theorem eff_fP (F : RFc) (hc : a + 614 ≤ h.1) : eff (fun q => a ≤ q ∧ q < a + 614) h (fP h a F) := ⟨Nat.le_refl _, fun q _ hq => fP_out h a F (by omega), fun w q c e => by
  show q < h.1
  by_cases z : a ≤ q ∧ q < a + 614
  · omega
  · rw [fP_out h a F (by omega)] at e
    exact w q c e⟩
theorem eff_thr (W : Nat → Prop) (h : gH) : eff W h (thr h) := ⟨Nat.le_succ _, fun _ _ _ => rfl, fun w q c e => Nat.lt_succ_of_lt (w q c e)⟩
theorem eff_ln {n : Nat} (I : lnIs h S D n) (ok : S.ok n) (D' : Nat → Int32) : eff (fun q => S.r q ≠ 0) h (lnP h S D') := ⟨Nat.le_refl _, fun q _ hq => lnP_out (Classical.not_not.mp hq), fun w q c e => by
  show q < h.1
  by_cases z : S.r q = 0
  · rw [lnP_out z] at e
    exact w q c e
  · obtain ⟨e1, e2⟩ := ok.1 q z
    rw [e1]
    exact own_lt I w e2⟩
theorem lnR.told_eq {D' : Nat → Int32} {R' : RW} (L : lnR h S D R) (L' : lnR h S D' R') : R'.told = R.told := by
  have e := L.2.1.2.1.1.symm.trans L'.2.1.2.1.1
  unfold rfs at e
  injection e with e
  injection e with e
  injection e with _ e
  injection e with e _
  exact e.symm
theorem lnR.sm_eq {D' : Nat → Int32} {R' : RW} (L : lnR h S D R) (L' : lnR h S D' R') (q : R.sm) : R'.sm := fun i hi => by
  have hi2 : i < R.told := by rw [← L.told_eq L']; exact hi
  rw [← L'.slen hi, L.slen hi2]
  exact q i hi2
/-- the Line's own numbers change -/
theorem Lin.ln (l : Lin h P S D R) {D' : Nat → Int32} {R' : RW} (L' : lnR h S D' R') (l1 : R'.live) (l2 : boolD D') (l4 : R'.idl) : Lin (lnP h S D') P S D' R' := by
  obtain ⟨I, L, -, -, l3, -, l5, l6⟩ := l
  exact ⟨lnP_is L'.1, L'.at, l1, l2, L.sm_eq L' l3, l4, l5, l6⟩
theorem Lin.ln_stp (l : Lin h P S D R) (D' : Nat → Int32) : stp a bA S S h (lnP h S D') := stp_eff (eff_ln l.1 l.2.1.1 D') (fun q hq => Or.inr (Or.inr hq))
theorem Lin.ln_bas (l : Lin h (Pq a bA) S D R) (B : Bas a b h) (D' : Nat → Int32) : Bas a b (lnP h S D') := B.fr (eff_ln l.1 l.2.1.1 D') (fun q hq => by
  have := l.2.2.2.2.2.2.1 q hq
  have := B.2.2.1
  unfold Pq at *
  omega)
theorem Lin.ln_cls (l : Lin h (Pq a bA) S D R) (B : Bas a b h) (C : Cls a h F) (D' : Nat → Int32) : Cls a (lnP h S D') F := C.fr (by have := B.2.2.2.1; omega) (eff_ln l.1 l.2.1.1 D') (fun q hq => by
  have := l.2.2.2.2.2.2.1 q hq
  unfold Pq at *
  omega)
end BAS
