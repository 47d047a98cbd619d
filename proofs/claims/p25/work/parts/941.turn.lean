/-! one turn: what is drawn, and each change -/
section TR2
variable {G : gG} {a b bA : Nat} {h h' h1 h2 : gH} {F F' : RFc} {S S' : RS} {D D' : Nat → Int32} {xs : Nat → Int32} {N : Nat} {K4 : gH → Int32 → Int32 → Option (Int32 × gH)} {l2 : Int32}
theorem Rs.pre {c : Bool} (s : stp a a S S h h1) (r : Rs a b bA h1 F S c h') : Rs a b bA h F S c h' := by
  obtain ⟨F', S', D', B', C', l', eB, s', k⟩ := r
  exact ⟨F', S', D', B', C', l', eB, s.trans s', k⟩
theorem draw (G : gG) (B : Bas a b h) (C : Cls a h F) (l : Lin h (Pq a bA) S D F.now) {n : Nat} (n0 : 0 < n) (hn : n < 2 ^ 31) {I : Int32} (eI : I = nI n) : ∃ k h', k < n ∧ f_X11_below G h (a + 615) I = some (nI k, h') ∧ Bas a b h' ∧ Cls a h' F ∧ Lin h' (Pq a bA) S D F.now ∧ stp a a S S h h' ∧ h'.1 = h.1 := by
  obtain ⟨k, h', k1, k2, k3, k4, k5⟩ := below_t G B n0 hn eI
  exact ⟨k, h', k1, k2, k3, C.fr (by have := B.2.2.2.1; omega) k4 (fun q hq => by omega), l.fr B.1 k4 (fun q hq z => by have := z.1; omega), stp_eff k4 (fun q hq => Or.inl (by omega)), k5⟩
theorem turn_t (cs : csG G b) {f : Nat → Option Nat} {dn k : Nat} (k24 : k < 24) (st : LSt a b bA h F S D f dn k) (fu : Nat) : ∃ h2 F2 S2 D2 f2 dn2, f_L_law_b247 G xs N K4 (fu + 1) h 1 l2 a (a + 614) (a + 615) S.B bA (nI dn) (nI k) = f_L_law_b247 G xs N K4 fu h2 1 l2 a (a + 614) (a + 615) S.B bA (nI dn2) (nI (k + 1)) ∧ S2.B = S.B ∧ LSt a b bA h2 F2 S2 D2 f2 dn2 (k + 1) := by
  obtain ⟨B, C, l, hA, hAl, eA, ht, hdn, hct, hno, hol⟩ := st
  have tm : F.now.time ≤ 1000 := by omega
  -- the copy
  obtain ⟨h1, Si, e1, l1, o1, p1, css, ec⟩ := l.cp (G := G) (a := a) B.1 (hPq B hAl) (by omega)
  have ex1 : eff (fun _ => False) h h1 := by rw [ec]; exact eff_ext _ h css
  have B1 : Bas a b h1 := B.fr ex1 (fun q hq => hq.elim)
  have C1 : Cls a h1 F := C.fr (by have := B.2.2.2.1; omega) ex1 (fun q hq => hq.elim)
  have s1 : stp a a S S h h1 := stp_eff ex1 (fun q hq => hq.elim)
  obtain ⟨s, h2, s2, e2, B2, C2, l2', st2, z2⟩ := draw G B1 C1 l1 (n := 2) (by decide) (by decide) e2n
  obtain ⟨w, h3, w9, e3, B3, C3, l3, st3, z3⟩ := draw G B2 C2 l2' (n := 9) (by decide) (by decide) (show (9 : Int32) = nI 9 by decide)
  have s13 : stp a a S S h1 h3 := st2.trans st3
  have s03 : stp a a S S h h3 := s1.trans s13
  have rA : S.r bA = 0 := Decidable.byContradiction (fun z => (l.2.2.2.2.2.2.1 bA z).2 rfl)
  have eA3 : h3.2 bA = some (bRow f) := (s03.2.1 bA hAl (Or.inr hA) (by omega) rA).1.trans eA
  have hAl3 : bA < h3.1 := Nat.lt_of_lt_of_le hAl s03.1
  have fin : ∀ d h', Rs a b bA h3 F S d h' → ∃ h2 F2 S2 D2 f2 dn2, f_L_law_b1159 G xs N K4 (f_L_law_b247 G xs N K4 fu) h' 1 l2 a (a + 614) (a + 615) S.B bA (nI dn) (nI k) h.1 (bI d) = f_L_law_b247 G xs N K4 fu h2 1 l2 a (a + 614) (a + 615) S.B bA (nI dn2) (nI (k + 1)) ∧ S2.B = S.B ∧ LSt a b bA h2 F2 S2 D2 f2 dn2 (k + 1) := fun d h' rs => turn_end k24 B3 C3 l3 hA hAl3 eA3 ht hdn hct hno (fun j j1 j2 => by
    obtain ⟨Sj, Dj, o1, o2⟩ := hol j j1 j2
    exact ⟨Sj, Dj, o1, o2.step (s03.any bA)⟩) ⟨Si, o1.step (s13.any bA), p1⟩ rs
  have r := l3.rel
  have t8 := r.inv.1
  have fl := l3.fld
  rw [f_L_law_b247, if_pos (by rw [show (24 : Int32) = nI 24 by decide]; exact nI_lt k24 (by decide)), if_neg (by decide), l.fld.1, cond_true, e1, Option.bind_some]
  dsimp only
  rw [B1.is, cond_true, e2, Option.bind_some]
  dsimp only
  rw [B2.is, cond_true, e3, Option.bind_some]
  dsimp only
  have pass : ∀ t h4, t < 12 → Bas a b h4 → Cls a h4 F → Lin h4 (Pq a bA) S D F.now → stp a a S S h3 h4 → ∃ h2 F2 S2 D2 f2 dn2, f_L_law_b345 G xs N K4 (f_L_law_b247 G xs N K4 fu) g_N h4 l2 a (a + 614) (a + 615) S.B bA (nI dn) (nI k) h.1 1 (1 + nI t) 0 0 = f_L_law_b247 G xs N K4 fu h2 1 l2 a (a + 614) (a + 615) S.B bA (nI dn2) (nI (k + 1)) ∧ S2.B = S.B ∧ LSt a b bA h2 F2 S2 D2 f2 dn2 (k + 1) := by
    intro t h4 t12 B4 C4 l4 s4
    obtain ⟨h', g1, g2⟩ := case_pass (G := G) (xs := xs) (N := N) (K4 := K4) (K247 := f_L_law_b247 G xs N K4 fu) (l2 := l2) (l8 := nI dn) (l9 := nI k) (l4 := a + 614) (l5 := a + 615) (l7 := bA) (l10 := h.1) B4 C4 l4 tm (n := 1 + t) (by omega) (by omega)
    rw [show (1 : Int32) + nI t = nI (1 + t) by rw [e1n, nI_add], g1]
    exact fin true h' (g2.pre s4)
  rcases (by omega : w = 0 ∨ w = 1 ∨ w = 2 ∨ w = 3 ∨ w = 4 ∨ w = 5 ∨ w = 6 ∨ w = 7 ∨ w = 8) with rfl | rfl | rfl | rfl | rfl | rfl | rfl | rfl | rfl
  · obtain ⟨t, h4, t12, e4, B4, C4, l4, s4, -⟩ := draw G B3 C3 l3 (n := 12) (by decide) (by decide) (show (12 : Int32) = nI 12 by decide)
    rw [if_pos (by decide), B3.is, cond_true, e4, Option.bind_some]
    exact pass t h4 t12 B4 C4 l4 s4
  · obtain ⟨t, h4, t12, e4, B4, C4, l4, s4, -⟩ := draw G B3 C3 l3 (n := 12) (by decide) (by decide) (show (12 : Int32) = nI 12 by decide)
    rw [if_neg (by decide), if_pos (by decide), B3.is, cond_true, e4, Option.bind_some]
    exact pass t h4 t12 B4 C4 l4 s4
  · obtain ⟨t, h4, t12, e4, B4, C4, l4, s4, -⟩ := draw G B3 C3 l3 (n := 12) (by decide) (by decide) (show (12 : Int32) = nI 12 by decide)
    rw [if_neg (by decide), if_neg (by decide), if_pos (by decide), B3.is, cond_true, e4, Option.bind_some]
    exact pass t h4 t12 B4 C4 l4 s4
  · -- a word
    have hc3 := B3.2.2.2.1
    obtain ⟨M, x, h4, q1, q2, q3, q4, q5, q6, q7, q8, q9⟩ := word_c (G := G) B3.2.2.2.2 B3.1 (fun css => by
      have hb := B3.2.2.1
      have cc := con_t (G := G) (h := ext h3 css) cs (fun q hq => (ext_out h3 css (Or.inl (by omega))).trans (B3.2.1 q hq)) (i := 23) (by decide) (Or.inr (by decide))
      have e0 : g_len.getD 23 0 = 0 := by decide +kernel
      rw [e0] at cc
      exact ⟨_, cc⟩)
    have f4 : eff (fun q => q = a + 615) h3 h4 := eff_grew q3
    have hb := B3.2.2.1
    have B4 : Bas a b h4 := ⟨q4, B3.2.1.eff f4 (by omega) (fun q hq => by omega), hb, Nat.le_trans hc3 q3.1, q2⟩
    have C4 := C3.fr (by omega) f4 (fun q hq => by omega)
    have l4 := l3.fr B3.1 f4 (fun q hq z => by have := z.1; omega)
    have s4 : stp a a S S h3 h4 := stp_eff f4 (fun q hq => Or.inl (by omega))
    obtain ⟨d, h', g1, g2⟩ := case_send (G := G) (xs := xs) (N := N) (K4 := K4) (K247 := f_L_law_b247 G xs N K4 fu) (l2 := l2) (l8 := nI dn) (l5 := a + 615) (l7 := bA) (l10 := h.1) B4 C4 l4 (Nat.lt_of_lt_of_le hAl3 q3.1) s2 k24 q5 q6 q7 q8 (fun q hq => ⟨⟨by omega, by omega⟩, Decidable.byContradiction (fun z => by have := l3.own B3.1 z; omega)⟩)
    have t8' : nI F.now.told < 8 ↔ F.now.told < 8 := by rw [show (8 : Int32) = nI 8 by decide]; exact nI_ltI (by omega) (by decide)
    rw [if_neg (by decide), if_neg (by decide), if_neg (by decide), if_pos (by decide), q1, Option.bind_some]
    dsimp only
    rw [l4.fld.2.2.1, Option.bind_some, l4.fld.2.2.2.2.2.2.2.2.1, Option.bind_some]
    by_cases c : F.now.told < 8
    · rw [decide_eq_true c] at g1
      rw [if_pos (t8'.mpr c)]
      exact g1.symm ▸ fin d h' (g2.pre s4)
    · rw [decide_eq_false c] at g1
      rw [if_neg (fun z => c (t8'.mp z))]
      exact g1.symm ▸ fin d h' (g2.pre s4)
  · -- a mist
    obtain ⟨z, h4, z11, e4, B4, C4, l4, s4, -⟩ := draw G B3 C3 l3 (n := 11) (by decide) (by decide) (show (11 : Int32) = nI 11 by decide)
    have m12 := r.mi.1
    have c10 : nI z < 10 ↔ z < 10 := by rw [show (10 : Int32) = nI 10 by decide]; exact nI_ltI (by omega) (by decide)
    have c12 : nI F.now.mi.told < 12 ↔ F.now.mi.told < 12 := by rw [show (12 : Int32) = nI 12 by decide]; exact nI_ltI (by omega) (by decide)
    rw [if_neg (by decide), if_neg (by decide), if_neg (by decide), if_neg (by decide), if_pos (by decide), B3.is, cond_true, e4, Option.bind_some]
    dsimp only
    have no : ¬ (z < 10 ∧ F.now.mi.told < 12) → ∃ h2 F2 S2 D2 f2 dn2, f_L_law_b533 G xs N K4 (f_L_law_b247 G xs N K4 fu) h4 l2 a (a + 614) (a + 615) S.B bA (nI dn) (nI k) h.1 (nI z) = f_L_law_b247 G xs N K4 fu h2 1 l2 a (a + 614) (a + 615) S.B bA (nI dn2) (nI (k + 1)) ∧ S2.B = S.B ∧ LSt a b bA h2 F2 S2 D2 f2 dn2 (k + 1) := by
      intro nz
      obtain ⟨h', g1, g2⟩ := fog_end (G := G) (xs := xs) (N := N) (K4 := K4) (K247 := f_L_law_b247 G xs N K4 fu) (l2 := l2) (l8 := nI dn) (l9 := nI k) (l4 := a + 614) (l5 := a + 615) (l7 := bA) (l10 := h.1) B4 C4 l4 tm z11 nz
      unfold f_L_law_b533 f_L_law_b534
      rw [if_pos rfl, g1]
      exact fin false h' (g2.pre s4)
    by_cases cz : z < 10
    · rw [if_pos (c10.mpr cz), l4.fld.2.2.2.2.1, Option.bind_some, l4.fld.2.2.2.2.2.2.2.2.2, Option.bind_some]
      by_cases cm : F.now.mi.told < 12
      · obtain ⟨h', g1, g2⟩ := case_fog (G := G) (xs := xs) (N := N) (K4 := K4) (K247 := f_L_law_b247 G xs N K4 fu) (l2 := l2) (l8 := nI dn) (l9 := nI k) (l4 := a + 614) (l5 := a + 615) (l7 := bA) (l10 := h.1) B4 C4 l4 (Nat.lt_of_lt_of_le hAl3 s4.1) tm cz cm
        rw [if_pos (c12.mpr cm), g1]
        exact fin true h' (g2.pre s4)
      · rw [if_neg (fun y => cm (c12.mp y))]
        exact no (fun y => cm y.2)
    · rw [if_neg (fun y => cz (c10.mp y))]
      exact no (fun y => cz y.1)
  · -- a keeper
    obtain ⟨y, h4, y27, e4, B4, C4, l4, s4, -⟩ := draw G B3 C3 l3 (n := 27) (by decide) (by decide) (show (27 : Int32) = nI 27 by decide)
    have kr := key_r (G := G) l4.L s2 (nI F.now.time)
    rw [l4.self] at kr
    obtain ⟨d, h', g1, g2⟩ := case_rel (G := G) (xs := xs) (N := N) (K4 := K4) (K247 := f_L_law_b247 G xs N K4 fu) (l2 := l2) (l8 := nI dn) (l9 := nI k) (l4 := a + 614) (l5 := a + 615) (l7 := bA) (l10 := h.1) B4 C4 l4 (Nat.lt_of_lt_of_le hAl3 s4.1) tm s2 y27
    rw [if_neg (by decide), if_neg (by decide), if_neg (by decide), if_neg (by decide), if_neg (by decide), if_pos (by decide), B3.is, cond_true, e4, Option.bind_some]
    dsimp only
    rw [l4.fld.2.2.2.2.2.2.2.1, Option.bind_some, l4.fld.1, cond_true, kr, Option.bind_some, g1]
    exact fin d h' (g2.pre s4)
  · -- power
    obtain ⟨p, h4, p11, e4, B4, C4, l4, s4, -⟩ := draw G B3 C3 l3 (n := 11) (by decide) (by decide) (show (11 : Int32) = nI 11 by decide)
    obtain ⟨c, ec⟩ : ∃ c, s = cn c := by
      rcases (by omega : s = 0 ∨ s = 1) with rfl | rfl
      · exact ⟨false, rfl⟩
      · exact ⟨true, rfl⟩
    have c10 : nI p < 10 ↔ p < 10 := by rw [show (10 : Int32) = nI 10 by decide]; exact nI_ltI (by omega) (by decide)
    obtain ⟨d, h', g1, g2⟩ := case_power (G := G) (xs := xs) (N := N) (K4 := K4) (K247 := f_L_law_b247 G xs N K4 fu) (l2 := l2) (l8 := nI dn) (l9 := nI k) (l4 := a + 614) (l5 := a + 615) (l7 := bA) (l10 := h.1) B4 C4 l4 c p11
    rw [if_neg (by decide), if_neg (by decide), if_neg (by decide), if_neg (by decide), if_neg (by decide), if_neg (by decide), if_pos (by decide), B3.is, cond_true, e4, Option.bind_some]
    dsimp only
    rw [ec]
    by_cases cp : p < 10
    · rw [decide_eq_true cp] at g1
      rw [if_pos (c10.mpr cp)]
      exact g1.symm ▸ fin d h' (g2.pre s4)
    · rw [decide_eq_false cp] at g1
      rw [if_neg (fun y => cp (c10.mp y))]
      exact g1.symm ▸ fin d h' (g2.pre s4)
  · -- a message taken back
    have n1 : nI F.now.told + 1 = nI (F.now.told + 1) := nI_1 _
    obtain ⟨m, h4, m1, e4, B4, C4, l4, s4, -⟩ := draw G B3 C3 l3 (n := F.now.told + 1) (by omega) (by omega) n1
    have cm : nI m < nI F.now.told ↔ m < F.now.told := nI_ltI (by omega) (by omega)
    obtain ⟨d, h', g1, g2⟩ := case_cancel (G := G) (xs := xs) (N := N) (K4 := K4) (K247 := f_L_law_b247 G xs N K4 fu) (l2 := l2) (l8 := nI dn) (l9 := nI k) (l4 := a + 614) (l5 := a + 615) (l7 := bA) (l10 := h.1) B4 C4 l4 m1
    rw [if_neg (by decide), if_neg (by decide), if_neg (by decide), if_neg (by decide), if_neg (by decide), if_neg (by decide), if_neg (by decide), if_pos (by decide), fl.2.2.1, Option.bind_some, fl.2.2.2.2.2.2.2.2.1, Option.bind_some, B3.is, cond_true, e4, Option.bind_some]
    dsimp only
    rw [l4.fld.2.2.1, Option.bind_some, l4.fld.2.2.2.2.2.2.2.2.1, Option.bind_some]
    by_cases c : m < F.now.told
    · rw [decide_eq_true c] at g1
      rw [if_pos (cm.mpr c)]
      exact g1.symm ▸ fin d h' (g2.pre s4)
    · rw [decide_eq_false c] at g1
      rw [if_neg (fun y => c (cm.mp y))]
      exact g1.symm ▸ fin d h' (g2.pre s4)
  · -- questions
    obtain ⟨a1, a2, a3, a4, a5⟩ := ask_c (G := G) B3 C3 l3 tm s2
    obtain ⟨-, -, lt, -⟩ := fin_thr B3 C3 l3
    have ft := lt.fld
    rw [if_neg (by decide), if_neg (by decide), if_neg (by decide), if_neg (by decide), if_neg (by decide), if_neg (by decide), if_neg (by decide), if_neg (by decide), fl.2.2.1, Option.bind_some, fl.2.2.2.2.2.2.2.2.1, Option.bind_some, a1, Option.bind_some]
    dsimp only
    rw [if_pos rfl, ft.2.2.2.2.2.2.2.1, Option.bind_some, a2, Option.bind_some]
    dsimp only
    rw [ft.2.2.2.2.2.2.2.1, Option.bind_some, ft.1, cond_true, a3, Option.bind_some, if_pos rfl, Option.bind_some, a4, Option.bind_some]
    dsimp only
    rw [ft.2.2.2.2.2.2.2.1, Option.bind_some, ft.1, cond_true, a5, Option.bind_some, if_pos rfl]
    exact fin false (thr h3) (Rs_no B3 C3 l3 rfl (stp.refl a a S h3))
theorem turns_l (cs : csG G b) : ∀ (d k fuel : Nat) (h : gH) (F : RFc) (S : RS) (D : Nat → Int32) (f : Nat → Option Nat) (dn : Nat), k + d = 24 → d < fuel → LSt a b bA h F S D f dn k → ∃ fu h2 F2 S2 D2 f2 dn2, f_L_law_b247 G xs N K4 fuel h 1 l2 a (a + 614) (a + 615) S.B bA (nI dn) (nI k) = f_L_law_b247 G xs N K4 (fu + 1) h2 1 l2 a (a + 614) (a + 615) S.B bA (nI dn2) (nI 24) ∧ S2.B = S.B ∧ LSt a b bA h2 F2 S2 D2 f2 dn2 24 := by
  intro d
  induction d with
  | zero =>
    intro k fuel h F S D f dn hk hf st
    obtain ⟨fu, rfl⟩ := Nat.exists_eq_succ_of_ne_zero (Nat.ne_of_gt (Nat.zero_lt_of_lt hf))
    have : k = 24 := hk
    subst this
    exact ⟨fu, h, F, S, D, f, dn, rfl, rfl, st⟩
  | succ d ih =>
    intro k fuel h F S D f dn hk hf st
    obtain ⟨fu, rfl⟩ := Nat.exists_eq_succ_of_ne_zero (Nat.ne_of_gt (Nat.zero_lt_of_lt hf))
    obtain ⟨h2, F2, S2, D2, f2, dn2, e1, e2, e3⟩ := turn_t (xs := xs) (N := N) (K4 := K4) (l2 := l2) cs (by omega) st fu
    obtain ⟨fu3, h3, F3, S3, D3, f3, dn3, g1, g2, g3⟩ := ih (k + 1) fu h2 F2 S2 D2 f2 dn2 (by omega) (by omega) e3
    rw [e2] at g1 g2
    exact ⟨fu3, h3, F3, S3, D3, f3, dn3, e1.trans g1, g2, g3⟩
end TR2
