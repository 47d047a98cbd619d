/-! cancel, fog, the questions -/
section CA2
variable {G : gG} {a b bA : Nat} {h : gH} {F : RFc} {S : RS} {D : Nat → Int32} {xs : Nat → Int32} {N : Nat} {K4 : gH → Int32 → Int32 → Option (Int32 × gH)} {K247 : gH → Int32 → Int32 → Nat → Nat → Nat → Nat → Nat → Int32 → Int32 → Option (Int32 × gH)} {l2 l8 l9 : Int32} {l4 l5 l7 l10 : Nat}
theorem Lin.talk (l : Lin h (Pq a bA) S D F.now) {i : Nat} (hi : i < F.now.told) : g_qld h S.TA 8 (nI i) = some (some (S.t i)) ∧ g_gI h (S.t i) 12 5 = some (F.now.ms i).phase := by
  have t1 := talk_r l.L hi
  have t2 := phase_r l.L hi
  rw [l.self] at t1 t2
  exact ⟨t1, t2⟩
theorem back_time (R : RW) (i : Nat) : (R.takeBack i).2.time = R.time := by
  unfold RW.takeBack
  dsimp only
  split <;> rfl
theorem case_cancel (B : Bas a b h) (C : Cls a h F) (l : Lin h (Pq a bA) S D F.now) {m : Nat} (hm : m < F.now.told + 1) : ∃ d h', f_L_law_b1003 G xs N K4 K247 h l2 a l4 l5 S.B l7 l8 l9 l10 (nI m) (bI (decide (m < F.now.told))) = f_L_law_b1159 G xs N K4 K247 h' 1 l2 a l4 l5 S.B l7 l8 l9 l10 (bI d) ∧ Rs a b bA h F S d h' := by
  have r := l.rel
  have t8 := r.inv.1
  have fl := l.fld
  unfold f_L_law_b1003
  by_cases c : m < F.now.told
  · rw [decide_eq_true c, bI_t, if_neg (by decide), fl.2.2.1, Option.bind_some, (l.talk c).1, Option.bind_some, Option.bind_some, (l.talk c).2, Option.bind_some]
    obtain ⟨v1, v2, v3, ⟨z, z1, z2, z3, z4⟩, v5, v6⟩ := r.inv
    obtain ⟨p, p4, ep⟩ := (z4 m c).2.2.2.2.2.2.1
    have cc := cancel_c (G := G) C.1 r.ok C.2.2.2.1 C.2.2.2.2 t8 c
    have e0 : nI p = 0 ↔ p = 0 := nI_eq0 (by omega)
    have e1 : nI p = 1 ↔ p = 1 := by rw [e1n]; exact nI_eq (by omega) (by decide)
    have e2 : nI p < 2 ↔ p < 2 := by rw [e2n]; exact nI_ltI (by omega) (by decide)
    by_cases c2 : p < 2
    · have hp : (F.now.ms m).phase = 0 ∨ (F.now.ms m).phase = 1 := by rw [ep, e0, e1]; omega
      rw [if_pos hp] at cc
      have bk := r.back l.2.2.1 c hp
      have n0 := C.2.2.1
      have hc := B.2.2.2.1
      have hb := B.2.2.1
      have e := eff_fP (a := a) (h := h) (F.keep.s_now (F.now.takeBack m).2) (by omega)
      -- the class first, then the Line
      have B1 : Bas a b (fP h a (F.keep.s_now (F.now.takeBack m).2)) := B.fr e (fun q hq => by omega)
      have l1 : Lin (fP h a (F.keep.s_now (F.now.takeBack m).2)) (Pq a bA) S D F.now := l.fr B.1 e (fun q hq z => by have := z.1; omega)
      obtain ⟨f, c2', c3⟩ := C.2.1
      have C1 : Cls a (fP h a (F.keep.s_now (F.now.takeBack m).2)) (F.keep.s_now (F.now.takeBack m).2) := ⟨fP_is h a _, ⟨f, (fP_out h a _ (Or.inr (Nat.le_refl _))).trans c2', c3⟩, n0, keep_pl F, keep_ct F⟩
      obtain ⟨D', d1, d2, d3, d4⟩ := cancels_r (G := G) l1.L l1.2.2.1 c hp
      rw [l1.self] at d1
      have l2' := l1.ln d2 d3 (d4 l.2.2.2.1) (idl_back l.2.2.2.2.2.1 m)
      have s1 : stp a a S S h (fP h a (F.keep.s_now (F.now.takeBack m).2)) := stp_eff e (fun q hq => Or.inl (by omega))
      refine ⟨true, lnP (fP h a (F.keep.s_now (F.now.takeBack m).2)) S D', ?_, F.keep.s_now (F.now.takeBack m).2, S, D', l1.ln_bas B1 D', l1.ln_cls B1 C1 D', l2', rfl, s1.trans (l1.ln_stp D'), by show (F.now.takeBack m).2.time ≤ _; rw [back_time]; omega, fun _ => ⟨rfl, rfl, rfl⟩, (fun z => nomatch z)⟩
      rw [if_pos (by rw [ep]; exact e2.mpr c2)]
      unfold f_L_law_b1030
      rw [cc, Option.bind_some]
      dsimp only
      rw [if_neg (by decide), l1.fld.1, cond_true, d1, Option.bind_some]
      dsimp only
      cases (F.now.takeBack m).1
      · rw [bI_f, if_pos rfl]
        unfold f_L_law_b1073
        rw [if_pos rfl]
        rfl
      · rw [bI_t, if_neg (by decide)]
        unfold f_L_law_b1073
        rw [if_pos rfl]
        rfl
    · rw [if_neg (by rw [ep, e0, e1]; omega)] at cc
      refine ⟨false, thr h, ?_, Rs_no B C l rfl (stp.refl a a S h)⟩
      rw [if_neg (by rw [ep]; exact fun z => c2 (e2.mp z))]
      unfold f_L_law_b1029 f_L_law_b1030
      rw [cc, Option.bind_some, if_pos rfl, if_neg (by decide)]
      unfold f_L_law_b1073
      rw [if_pos rfl]
      rfl
  · have em : m = F.now.told := by omega
    subst em
    have nt : ¬ (0 ≤ nI F.now.told ∧ nI F.now.told < nI F.now.told) := fun z => Int32.lt_irrefl z.2
    have e0 := cancel_0 (G := G) C.1 nt
    refine ⟨false, thr h, ?_, Rs_no B C l rfl (stp.refl a a S h)⟩
    rw [decide_eq_false c, bI_f, if_pos rfl]
    unfold f_L_law_b1029 f_L_law_b1030
    rw [e0, Option.bind_some, if_pos rfl, if_pos rfl]
    unfold f_L_law_b1073
    rw [if_pos rfl]
    rfl
/-! a mist -/
theorem tR {t n : Nat} {x : Int32} (e : x = nI n) (ht : t ≤ n) (hn : n < 2 ^ 31) : 0 ≤ nI t ∧ nI t ≤ x := ⟨nI_pos' (by omega), by rw [e]; exact (nI_leI (by omega) hn).mpr ht⟩
theorem e9k : (9999 : Int32) = nI 9999 := by decide
theorem fog_end (B : Bas a b h) (C : Cls a h F) (l : Lin h (Pq a bA) S D F.now) (ht : F.now.time ≤ 1000) {z : Nat} (z11 : z < 11) (no : ¬ (z < 10 ∧ F.now.mi.told < 12)) : ∃ h', f_L_law_b581 G xs N K4 K247 h l2 a l4 l5 S.B l7 l8 l9 l10 0 (nI z) = f_L_law_b1159 G xs N K4 K247 h' 1 l2 a l4 l5 S.B l7 l8 l9 l10 (bI false) ∧ Rs a b bA h F S false h' := by
  have r := l.rel
  have fl := l.fld
  have c1 : 0 ≤ nI F.now.time ∧ nI F.now.time ≤ 9999 := tR e9k (by omega) (by decide)
  have a9 : nI F.now.time + 9 = nI (F.now.time + 9) := by rw [show (9 : Int32) = nI 9 by decide, nI_add]
  have c2 : nI F.now.time ≤ nI (F.now.time + 9) ∧ nI (F.now.time + 9) ≤ 9999 := ⟨(nI_leI (by omega) (by omega)).mpr (by omega), (tR e9k (by omega) (by decide)).2⟩
  have e9 : (9 : Int32) = nI 9 := by decide
  refine ⟨thr h, ?_, Rs_no B C l rfl (stp.refl a a S h)⟩
  unfold f_L_law_b581
  rw [fl.2.2.2.2.2.2.2.1, Option.bind_some, Option.bind_some, a9]
  by_cases c : z < 10
  · have m12 : 12 ≤ F.now.mi.told := by omega
    have fc := fog_c (G := G) C.1 r.ok C.2.2.2.1 C.2.2.2.2 r.inv.1 c1 c2 (x3 := nI z) (tR e9 (by omega) (by decide))
    rw [if_pos m12] at fc
    rw [fc, Option.bind_some, if_pos rfl, if_neg (by rw [e9]; exact nI_nlt (by omega) (by decide))]
    unfold f_L_law_b628
    rw [if_pos rfl]
    rfl
  · have z10 : z = 10 := by omega
    subst z10
    have fc := fog_1 (G := G) C.1 c1 c2 (x3 := nI 10) (by decide)
    rw [fc, Option.bind_some, if_pos rfl, if_pos (by decide)]
    unfold f_L_law_b628
    rw [if_pos rfl]
    rfl
theorem case_fog (B : Bas a b h) (C : Cls a h F) (l : Lin h (Pq a bA) S D F.now) (hA : bA < h.1) (ht : F.now.time ≤ 1000) {z : Nat} (z10 : z < 10) (h12 : F.now.mi.told < 12) : ∃ h', f_L_law_b534 G xs N K4 K247 h l2 a l4 l5 S.B l7 l8 l9 l10 (nI z) 1 = f_L_law_b1159 G xs N K4 K247 h' 1 l2 a l4 l5 S.B l7 l8 l9 l10 (bI true) ∧ Rs a b bA h F S true h' := by
  have r := l.rel
  have a9 : nI F.now.time + 9 = nI (F.now.time + 9) := by rw [show (9 : Int32) = nI 9 by decide, nI_add]
  have c1 : 0 ≤ nI F.now.time ∧ nI F.now.time ≤ 9999 := tR e9k (by omega) (by decide)
  have c2 : nI F.now.time ≤ nI (F.now.time + 9) ∧ nI (F.now.time + 9) ≤ 9999 := ⟨(nI_leI (by omega) (by omega)).mpr (by omega), (tR e9k (by omega) (by decide)).2⟩
  have e9 : (9 : Int32) = nI 9 := by decide
  obtain ⟨m1, m2, m3, m4⟩ := mk3 h (nI F.now.time) (nI (F.now.time + 9)) (nI z)
  have tm : ∀ f, g_gI (rw3 h f) S.B 10 6 = some (nI F.now.time) := fun f => (l.ex B.1 [.inl (0, 3, .inl f)]).fld.2.2.2.2.2.2.2.1
  obtain ⟨h2, h3, S', D', e1, e2, e3, e4, e5, e6, e7⟩ := Lin.fog (G := G) (a := a) (bA := a) l B.1 (hPq B hA) h12 (nI F.now.time) (nI (F.now.time + 9)) (nI z)
  have own : ∀ q, q = S.B → a + 616 ≤ q := fun q hq => by rw [hq]; exact (l.2.2.2.2.2.2.1 _ l.rB).1
  have B3 : Bas a b h3 := B.fr e6 (fun q hq => by have := own q hq; have := B.2.2.1; omega)
  have C3 : Cls a h3 F := C.fr (by have := B.2.2.2.1; omega) e6 (fun q hq => by have := own q hq; omega)
  have fc := fog_c (G := G) C3.1 r.ok C.2.2.2.1 C.2.2.2.2 r.inv.1 c1 c2 (x3 := nI z) (tR e9 (by omega) (by decide))
  rw [if_neg (by omega)] at fc
  have l4 : Lin h3 (Pq a bA) S' D' (F.keep.s_now (F.now.fogged (nI F.now.time) (nI (F.now.time + 9)) (nI z))).now := e3
  have em : (F.now.fogged (nI F.now.time) (nI (F.now.time + 9)) (nI z)).mi.told = F.now.mi.told + 1 := by
    show (F.now.mi.add _ _ _).told = _
    unfold RMi.add
    rw [if_pos h12]
    rfl
  have rs := Rs_ok (F' := F.keep.s_now (F.now.fogged (nI F.now.time) (nI (F.now.time + 9)) (nI z))) B3 C3 l4 e4 e5 (Nat.le_add_right _ _) C.2.2.1 ⟨rfl, rfl, rfl⟩
  have lf := (fin_fP (F' := F.keep.s_now (F.now.fogged (nI F.now.time) (nI (F.now.time + 9)) (nI z))) B3 C3 l4 C.2.2.1 (keep_pl F) (keep_ct F)).2.2.1
  have fl := lf.fld
  rw [e4] at fl
  refine ⟨_, ?_, rs⟩
  unfold f_L_law_b534
  rw [if_neg (by decide), l.fld.2.2.2.2.1, Option.bind_some, m1, Option.bind_some, tm, Option.bind_some, m2, Option.bind_some, tm, Option.bind_some, a9, m3, Option.bind_some, m4, Option.bind_some, e1, Option.bind_some]
  dsimp only
  rw [e2, Option.bind_some]
  unfold f_L_law_b581
  have t3 : g_gI h3 S.B 10 6 = some (nI F.now.time) := by rw [← e4]; exact e3.fld.2.2.2.2.2.2.2.1
  rw [t3, Option.bind_some, Option.bind_some, a9, fc, Option.bind_some, if_neg (by decide)]
  dsimp only
  rw [fl.2.2.2.2.1, Option.bind_some, fl.2.2.2.2.2.2.2.2.2, Option.bind_some]
  unfold f_L_law_b628
  have em' : (F.keep.s_now (F.now.fogged (nI F.now.time) (nI (F.now.time + 9)) (nI z))).now.mi.told = F.now.mi.told + 1 := em
  rw [em', if_pos rfl]
  rfl
end CA2
