/-! one turn of the twenty-four -/
def bRow (f : Nat → Option Nat) : gC := .inl (9, 9, .inr (.inr (.inr (.inr f))))
def shf (f : Nat → Option Nat) (j : Nat) : Nat → Option Nat := fun i => if j < i ∧ i < 9 then f (i - 1) else f i
/-- the row of lines of before with one more -/
def pus (f : Nat → Option Nat) (v : Nat) : Nat → Option Nat := fun i => if i = 0 then some v else if i < 9 then f (i - 1) else f i
theorem brow_l {X : gH} {c : Nat} {f : Nat → Option Nat} (e : X.2 c = some (bRow f)) {j : Nat} (hj : j < 9) : g_qld X c 9 (nI j) = some (f j) := qld_of e hj (by decide)
theorem brow_s {X : gH} {c : Nat} {f : Nat → Option Nat} (e : X.2 c = some (bRow f)) {j : Nat} (hj : j < 9) (v : Nat) : g_qst X c 9 (nI j) v = some (g_set X c (bRow (va_up f j (some v)))) := qst_of e hj (by decide)
theorem brow_n {X : gH} {c : Nat} {f : Nat → Option Nat} (e : X.2 c = some (bRow f)) {j : Nat} (hj : j < 9) : g_qsO X c 9 10 (nI j) none = some (g_set X c (bRow (va_up f j none))) := by
  have q : g_aQ X c 9 = some (9, f) := aQ_of e
  show ((g_aQ X c 9).bind fun y => _) = _
  rw [q, Option.bind_some, ix_of hj (by decide)]
  rfl
theorem va_up_if (f : Nat → Option Nat) (j : Nat) (w : Option Nat) : va_up f j w = fun i => if i = j then w else f i := funext fun i => by
  by_cases c : i = j
  · subst c; simp [va_up]
  · simp [va_up, c]
section TRN
variable {G : gG} {a b bA : Nat} {h h' h1 h2 : gH} {F F' : RFc} {S S' S2 Si : RS} {D D' D2 Di : Nat → Int32} {R Ri : RW} {xs : Nat → Int32} {N : Nat} {K4 : gH → Int32 → Int32 → Option (Int32 × gH)} {K247 : gH → Int32 → Int32 → Nat → Nat → Nat → Nat → Nat → Int32 → Int32 → Option (Int32 × gH)} {l2 l8 l9 : Int32} {l4 l5 l10 : Nat}
theorem stp.any (x : stp a a S S' h h') (bA : Nat) : stp a bA S S' h h' := ⟨x.1, fun q hq ha _ hr => x.2.1 q hq ha (by omega) hr, x.2.2⟩
theorem Old.cop (o : Old a bA h S Si Di Ri) (X : RW) : Old a bA h S Si Di (Ri.copy X) := by
  obtain ⟨I, L, o1, o2, o3⟩ := o
  exact ⟨I, L.copy o1 X, idl_copy o1 X, o2, o3⟩
theorem Old.is (o : Old a bA h S Si Di Ri) : g_is h Si.B 10 = true ∧ Si.B ≠ bA := by
  obtain ⟨I, L, o1, o2, o3⟩ := o
  have hs : lnP h Si Di = h := lnP_self L.1 I
  have g := ln_gB (h := h) (D := Di) L.1
  rw [hs] at g
  have a2 := L.1.2.1 1 (Or.inl ⟨by omega, by omega⟩)
  exact ⟨g, (o3 Si.B (Or.inl (by rw [show Si.B = Si.adr 1 from rfl, a2]; decide))).2.1⟩
theorem shf_8 (f : Nat → Option Nat) : shf f 8 = f := funext fun i => if_neg (by omega)
theorem is_set {v c ci : Nat} {x : gC} (n : v ≠ c) : g_is (g_set h c x) v ci = g_is h v ci := by
  unfold g_is
  rw [set_ne n]
/-- the lines of before move on by one place -/
theorem shift_l {f : Nat → Option Nat} (hf : ∀ j v, j < 8 → f j = some v → g_is h v 10 = true ∧ v ≠ bA) {v : Nat} (hv : g_is h v 10 = true ∧ v ≠ bA) : ∀ (j fuel : Nat), j ≤ 8 → j < fuel → f_L_law_b1168 G xs N K4 K247 fuel (g_set h bA (bRow (shf f j))) 1 l2 a l4 l5 l10 bA l8 l9 v (nI j) = f_L_law_b1200 G xs N K4 K247 (g_set h bA (bRow (pus f v))) 1 l2 a l4 l5 l10 bA (l8 + 1) l9 := by
  intro j
  induction j with
  | zero =>
    intro fuel _ hfu
    obtain ⟨fu, rfl⟩ := Nat.exists_eq_succ_of_ne_zero (Nat.ne_of_gt (Nat.zero_lt_of_lt hfu))
    have st : g_qst (g_set h bA (bRow (shf f 0))) bA 9 0 v = some (g_set (g_set h bA (bRow (shf f 0))) bA (bRow (va_up (shf f 0) 0 (some v)))) := brow_s (j := 0) set_at (by decide) v
    have e : va_up (shf f 0) 0 (some v) = pus f v := by
      rw [va_up_if]
      refine funext fun i => ?_
      unfold pus
      by_cases c : i = 0
      · rw [if_pos c, if_pos c]
      · rw [if_neg c, if_neg c]
        unfold shf
        by_cases c9 : i < 9
        · rw [if_pos ⟨by omega, c9⟩, if_pos c9]
        · rw [if_neg (fun z => c9 z.2), if_neg c9]
    rw [f_L_law_b1168, if_neg (by decide), is_set hv.2, hv.1, cond_true, st, Option.bind_some, g_set_set, e]
  | succ j ih =>
    intro fuel h8 hfu
    obtain ⟨fu, rfl⟩ := Nat.exists_eq_succ_of_ne_zero (Nat.ne_of_gt (Nat.zero_lt_of_lt hfu))
    have p0 : (0 : Int32) < nI (j + 1) := by rw [← nI_0]; exact nI_lt (by omega) (by omega)
    have sb : nI (j + 1) - 1 = nI j := by rw [e1n, nI_sub (by omega)]; rfl
    have ld : g_qld (g_set h bA (bRow (shf f (j + 1)))) bA 9 (nI j) = some (f j) := by
      rw [brow_l set_at (show j < 9 by omega)]
      unfold shf
      rw [if_neg (by omega)]
    have e : va_up (shf f (j + 1)) (j + 1) (f j) = shf f j := by
      rw [va_up_if]
      refine funext fun i => ?_
      by_cases c : i = j + 1
      · rw [if_pos c]
        unfold shf
        rw [if_pos ⟨by omega, by omega⟩, show i - 1 = j by omega]
      · rw [if_neg c]
        unfold shf
        by_cases c2 : j + 1 < i ∧ i < 9
        · rw [if_pos c2, if_pos ⟨by omega, c2.2⟩]
        · rw [if_neg c2, if_neg (by omega)]
    have st : g_qsO (g_set h bA (bRow (shf f (j + 1)))) bA 9 10 (nI (j + 1)) (f j) = some (g_set h bA (bRow (shf f j))) := by
      cases ef : f j with
      | some w =>
        have fw := hf j w (by omega) ef
        show (bif g_is _ w 10 then g_qst _ bA 9 (nI (j + 1)) w else none) = _
        rw [is_set fw.2, fw.1, cond_true, brow_s set_at (show j + 1 < 9 by omega), ← ef, e]
        exact congrArg some (g_set_set h bA _ _)
      | none =>
        rw [brow_n set_at (show j + 1 < 9 by omega), ← ef, e]
        exact congrArg some (g_set_set h bA _ _)
    rw [f_L_law_b1168, if_pos p0, sb, ld, Option.bind_some, st, Option.bind_some, pred_nI]
    exact ih fu (by omega) (by omega)
/-- the state between two changes -/
def LSt (a b bA : Nat) (h : gH) (F : RFc) (S : RS) (D : Nat → Int32) (f : Nat → Option Nat) (dn k : Nat) : Prop := Bas a b h ∧ Cls a h F ∧ Lin h (Pq a bA) S D F.now ∧ a + 616 ≤ bA ∧ bA < h.1 ∧ h.2 bA = some (bRow f) ∧ F.now.time ≤ 12 * k ∧ dn ≤ k ∧ min dn 8 ≤ F.ct ∧ (∀ j, j < 8 → dn ≤ j → f j = none) ∧ ∀ j, j < 8 → j < dn → ∃ Sj Dj, f j = some Sj.B ∧ Old a bA h S Sj Dj (F.K ((F.pl + 7 - j) % 8))
theorem stp_row (l : Lin h (Pq a bA) S D R) (hb : bA < h.1) (x : gC) : stp a bA S S h (g_set h bA x) := stp_eff (eff_set (W := fun q => q = bA) hb rfl x) (fun q hq => Or.inr (Or.inl hq))
/-- agrees says that they agree, at the end of a turn -/
theorem agree_end (B : Bas a b h) (C : Cls a h F) (l : Lin h (Pq a bA) S D F.now) (ht : F.now.time < 2 ^ 31) : f_L_agrees G h a S.B = some (1, thr (thr (thr (thr h)))) ∧ Bas a b (thr (thr (thr (thr h)))) ∧ Cls a (thr (thr (thr (thr h)))) F ∧ Lin (thr (thr (thr (thr h)))) (Pq a bA) S D F.now ∧ stp a a S S h (thr (thr (thr (thr h)))) := by
  obtain ⟨B1, C1, l1, s1⟩ := fin_thr B C l
  obtain ⟨B2, C2, l2, s2⟩ := fin_thr B1 C1 l1
  obtain ⟨B3, C3, l3, s3⟩ := fin_thr B2 C2 l2
  obtain ⟨B4, C4, l4, s4⟩ := fin_thr B3 C3 l3
  exact ⟨agrees_c C.1 l.1 l.L ht, B4, C4, l4, s1.trans (s2.trans (s3.trans s4))⟩
/-- behind a change: the lines of before, agrees -/
theorem turn_end {f : Nat → Option Nat} {dn k : Nat} (k24 : k < 24) (B : Bas a b h) (C : Cls a h F) (l : Lin h (Pq a bA) S D F.now) (hA : a + 616 ≤ bA) (hAl : bA < h.1) (eA : h.2 bA = some (bRow f)) (ht : F.now.time ≤ 12 * k) (hdn : dn ≤ k) (hct : min dn 8 ≤ F.ct) (hno : ∀ j, j < 8 → dn ≤ j → f j = none) (hol : ∀ j, j < 8 → j < dn → ∃ Sj Dj, f j = some Sj.B ∧ Old a bA h S Sj Dj (F.K ((F.pl + 7 - j) % 8))) (hp : ∃ Si, Old a bA h S Si D F.now ∧ Si.B = l10) {c : Bool} (rs : Rs a b bA h F S c h') : ∃ h2 F2 S2 D2 f2 dn2, f_L_law_b1159 G xs N K4 K247 h' 1 l2 a (a + 614) (a + 615) S.B bA (nI dn) (nI k) l10 (bI c) = K247 h2 1 l2 a (a + 614) (a + 615) S.B bA (nI dn2) (nI (k + 1)) ∧ S2.B = S.B ∧ LSt a b bA h2 F2 S2 D2 f2 dn2 (k + 1) := by
  obtain ⟨F', S', D', B', C', l', eB, s, tm, kt, kf⟩ := rs
  have rA : S.r bA = 0 := Decidable.byContradiction (fun z => (l.2.2.2.2.2.2.1 bA z).2 rfl)
  have eA' : h'.2 bA = some (bRow f) := (s.2.1 bA hAl (Or.inr hA) (by omega) rA).1.trans eA
  have hAl' : bA < h'.1 := Nat.lt_of_lt_of_le hAl s.1
  have old' : ∀ {Sj Dj Rj}, Old a bA h S Sj Dj Rj → Old a bA h' S' Sj Dj Rj := fun {Sj Dj Rj} o => o.step (s.any bA)
  have pl8 := C.2.2.2.1
  cases c with
  | false =>
    obtain ⟨k1, k2, k3⟩ := kf rfl
    obtain ⟨g1, B4, C4, l4, s4⟩ := agree_end (G := G) B' C' l' (by omega)
    refine ⟨thr (thr (thr (thr h'))), F', S', D', f, dn, ?_, eB, B4, C4, l4, hA, Nat.lt_of_lt_of_le hAl' s4.1, ?_, by omega, by omega, by rw [k3]; exact hct, hno, fun j h1 h2 => ?_⟩
    · unfold f_L_law_b1159 f_L_law_b1200
      rw [bI_f, if_pos rfl, if_neg (by decide), ← eB, g1, Option.bind_some]
      dsimp only
      rw [if_neg (by decide)]
      unfold f_L_law_b1218
      rw [← nI_succ]
    · exact eA'
    · obtain ⟨Sj, Dj, o1, o2⟩ := hol j h1 h2
      refine ⟨Sj, Dj, o1, ?_⟩
      rw [k1, k2]
      exact (old' o2).step (s4.any bA)
  | true =>
    obtain ⟨k1, k2, k3⟩ := kt rfl
    obtain ⟨Si, p1, p2⟩ := hp
    have p3 := old' p1
    have q1 := p3.is
    rw [p2] at q1
    have hf : ∀ j v, j < 8 → f j = some v → g_is h' v 10 = true ∧ v ≠ bA := fun j v hj ej => by
      by_cases c : j < dn
      · obtain ⟨Sj, Dj, o1, o2⟩ := hol j hj c
        rw [o1] at ej
        injection ej with ej
        rw [← ej]
        exact (old' o2).is
      · rw [hno j hj (by omega)] at ej
        exact nomatch ej
    have sh := shift_l (G := G) (h := h') (a := a) (xs := xs) (N := N) (K4 := K4) (K247 := K247) (l2 := l2) (l8 := nI dn) (l9 := nI k) (l4 := a + 614) (l5 := a + 615) (l10 := S.B) hf q1 8 g_N (Nat.le_refl 8) (by unfold g_N; omega)
    rw [shf_8, set_self eA'] at sh
    have s5 := stp_row l' hAl' (bRow (pus f l10))
    have e5 : eff (fun q => q = bA) h' (g_set h' bA (bRow (pus f l10))) := eff_set (W := fun q => q = bA) hAl' rfl _
    have B5 : Bas a b (g_set h' bA (bRow (pus f l10))) := B'.fr e5 (fun q hq => by have := B'.2.2.1; omega)
    have C5 : Cls a (g_set h' bA (bRow (pus f l10))) F' := C'.fr (by have := B'.2.2.2.1; omega) e5 (fun q hq => by omega)
    have l5 := l'.fr B'.1 e5 (fun q hq z => z.2 hq)
    obtain ⟨g1, B4, C4, l4, s4⟩ := agree_end (G := G) B5 C5 l5 (by omega)
    have old5 : ∀ {Sj Dj Rj}, Old a bA h S Sj Dj Rj → Old a bA (thr (thr (thr (thr (g_set h' bA (bRow (pus f l10))))))) S' Sj Dj Rj := fun {Sj Dj Rj} o => ((old' o).step s5).step (s4.any bA)
    have kpl : F'.pl = (F.pl + 1) % 8 := k2
    have kct : F'.ct = min (F.ct + 1) 8 := k3
    have kK : F'.K = updW F.K F.pl (F.now.copy (F.K F.pl)) := k1
    refine ⟨thr (thr (thr (thr (g_set h' bA (bRow (pus f l10)))))), F', S', D', pus f l10, dn + 1, ?_, eB, B4, C4, l4, hA, Nat.lt_of_lt_of_le hAl' s4.1, set_at, by omega, by omega, by omega, fun j h1 h2 => ?_, fun j h1 h2 => ?_⟩
    · unfold f_L_law_b1159
      rw [bI_t, if_neg (by decide)]
      have e8 : (8 : Int32) = nI 8 := by decide
      rw [e8, sh]
      unfold f_L_law_b1200
      rw [if_neg (by decide), ← eB, g1, Option.bind_some]
      dsimp only
      rw [if_neg (by decide)]
      unfold f_L_law_b1218
      rw [← nI_succ, ← nI_succ]
    · unfold pus
      rw [if_neg (by omega), if_pos (by omega)]
      exact hno (j - 1) (by omega) (by omega)
    · unfold pus
      by_cases c : j = 0
      · subst c
        refine ⟨Si, D, by rw [if_pos rfl, p2], ?_⟩
        have ei : (F'.pl + 7 - 0) % 8 = F.pl := by omega
        rw [ei, kK]
        have : updW F.K F.pl (F.now.copy (F.K F.pl)) F.pl = F.now.copy (F.K F.pl) := if_pos rfl
        rw [this]
        exact (old5 p1).cop _
      · obtain ⟨Sj, Dj, o1, o2⟩ := hol (j - 1) (by omega) (by omega)
        refine ⟨Sj, Dj, by rw [if_neg c, if_pos (by omega)]; exact o1, ?_⟩
        have ei : (F'.pl + 7 - j) % 8 = (F.pl + 7 - (j - 1)) % 8 := by omega
        have en : (F.pl + 7 - (j - 1)) % 8 ≠ F.pl := by omega
        rw [ei, kK]
        have : updW F.K F.pl (F.now.copy (F.K F.pl)) ((F.pl + 7 - (j - 1)) % 8) = F.K ((F.pl + 7 - (j - 1)) % 8) := if_neg en
        rw [this]
        exact old5 o2
end TRN
