/-! a step of the Line is a step of the world -/
/-- the numbers that are true or false -/
def boolD (D : Nat → Int32) : Prop := ∀ j, (j = 15 ∨ j = 17 ∨ j = 31 ∨ j = 33) → D j = 0 ∨ D j = 1
theorem boolD.upd {D : Nat → Int32} (h : boolD D) {i : Nat} {v : Int32} (c : (v = 0 ∨ v = 1) ∨ (i ≠ 15 ∧ i ≠ 17 ∧ i ≠ 31 ∧ i ≠ 33)) : boolD (upd D i v) := fun j hj => by
  by_cases e : j = i
  · subst e
    rw [upd_at]
    rcases c with c | c
    · exact c
    · omega
  · rw [upd_ne e]; exact h j hj
theorem boolD.sy {D : Nat → Int32} (h : boolD D) (c : Nat) (lo ga : Bool) : boolD (symd D c lo ga) := by
  unfold symd aird
  have q := ((h.upd (i := 3) (v := D 3 + 1) (Or.inr (by omega))).upd (i := 5) (v := D 5 + bI ga) (Or.inr (by omega))).upd (i := 4) (v := D 4 + bI lo) (Or.inr (by omega))
  cases lo
  · exact q
  · exact q.upd (Or.inl (Or.inr rfl))
theorem bI_01 (b : Bool) : bI b = 0 ∨ bI b = 1 := by cases b; exact Or.inl rfl; exact Or.inr rfl
theorem boolD.of {D : Nat → Int32} (h : boolD D) (c : Nat) (hc : c < 2) : (∃ b, D (10 + 16 * c + 5) = bI b) ∧ ∃ b, D (10 + 16 * c + 7) = bI b := by
  have k : ∀ j, (j = 15 ∨ j = 17 ∨ j = 31 ∨ j = 33) → ∃ b, D j = bI b := fun j hj => by
    rcases h j hj with e | e
    · exact ⟨false, e⟩
    · exact ⟨true, e⟩
  exact ⟨k _ (by omega), k _ (by omega)⟩
section STX
variable {G : gG} {x : gH} {S : RS} {D : Nat → Int32} {R : RW}
theorem step_r (L : lnR x S D R) {i : Nat} (e : R.way = some i) (b : Bool) (hi9 : (R.ch b).frame ≠ -1) {lo ga : Bool} (elo : lo = decide ((R.ch b).power < R.mi.levelAt (nI R.time))) (ega : ga = decide (R.mi.levelAt (nI R.time) = (R.ch b).power)) :
    ∃ D', f_X10_steps G (lnP x S D) S.B (S.t i) (S.p (cn b)) = some (lnP x S D') ∧ Rel ((R.counted lo ga).madeStep b i lo ga) D' ∧ (boolD D → boolD D') := by
  have h := L.2.2.1
  have ok := L.1
  have lgH := L.2.2.2.2.1 b
  have air : ∀ {E : Nat → Int32}, E (10 + 16 * cn b) = (R.ch b).power → E 0 = nI R.time → f_X10_air G (lnP x S E) S.B (S.p (cn b)) = some (howI lo ga, lnP x S (aird E lo ga)) := fun e1 e2 => by
    have q := air_p (G := G) L (cn_lt b) e1 e2
    rwa [← elo, ← ega] at q
  have hlg : lo = true → ga = false := fun q => by
    rw [elo, decide_eq_true_eq] at q
    rw [ega, decide_eq_false_iff_not]
    exact fun z => by rw [z] at q; exact Int32.lt_irrefl q
  obtain ⟨v1, v2, v3, ⟨l, l1, l2, l3, l4⟩, v5, v6⟩ := h.inv
  have hit := v5 i e
  have hi : i < 8 := by omega
  have hc := cn_lt b
  have hM := l4 i hit
  have hS := h.ms i hit
  have h24 := hM.2.2.1
  have f24 := hM.fr24 v2
  have hC := h.ch b
  have n0 := h.n.time
  have n2 := h.n.2.2.1
  have n3 := h.n.2.2.2.1
  have n4 := h.n.2.2.2.2.1
  have n5 := h.n.2.2.2.2.2.1
  have n6 := h.n.2.2.2.2.2.2.1
  have hz := h.n.fs
  have n9 : D 9 = R.limit := h.n.2.2.2.2.2.2.2.2
  obtain ⟨w1, w2⟩ := h.way.2 i e
  have hw := (w1 b).resolve_left hi9
  have ltp : ∀ {E : Nat → Int32} {f : Nat}, f < (R.ms i).frames → E 8 = nI R.fsize → f_X10_letters G (lnP x S E) S.B (S.t i) (nI f) = some (nI ((R.ms i).many f)) := fun h1 h2 => letters_p L hit h1 h2
  have lp : ∀ {E : Nat → Int32} {k : Nat}, k < (R.ms i).len → f_X12_letter G (lnP x S E) (S.t i) (nI k) = some ((R.ms i).letters k) := fun h1 => letter_p L hit h1
  have anp := fun (f t : Nat) (h1 : f < (R.ms i).frames) (E : Nat → Int32) (h2 : E (10 + 16 * cn b + 3) = nI f) (h3 : E (112 + 102 * i + (78 + f)) = nI t) (h4 : E 9 = nI l) (h5 : t < l) (yes : Bool) => ans_p (G := G) L hit hc h1 (E := E) h2 h3 h4 h5 l2 yes
  have ckp := fun (f nb : Nat) (E : Nat → Int32) (h1 : relMs (R.ms i) (112 + 102 * i) E) (h2 : f < (R.ms i).frames) (C : RCh) (h3 : C.number = nI nb) (h4 : nb < 26) (h5 : E (10 + 16 * cn b + 3) = nI f) (h6 : E 8 = nI R.fsize) (h7 : E (10 + 16 * cn b + 5) = bI C.lost) (h8 : C.lost = false → E (10 + 16 * cn b + 6) = C.number ∧ ∀ k, k < (R.ms i).many f → E (10 + 16 * cn b + (8 + k)) = C.heard k) (h9 : ∀ k, k < (R.ms i).many f → lOf (C.heard k)) => check_p (G := G) L hit hc v2 v3 hM h1 h2 C ga h3 h4 h5 h6 h7 h8 h9
  generalize hCe : R.ch b = C at *
  generalize hMe : R.ms i = M at *
  obtain ⟨f, s, nb, k1, k2, k3, k4, k5, k6, k7, k8, k9, k10, k11, k12, k13⟩ := hw
  have hfz := hM.fr' v2 k4
  have m8 := hM.many_le v3 f
  have mz : f * R.fsize + M.many f ≤ M.len := by have := hM.1; unfold RMs.many; rw [this]; omega
  have c3 : D (10 + 16 * cn b + 3) = nI f := by rw [← k1]; exact hC.2.2.2.1
  have hne : ∀ g, g < M.frames → (R.ch (!b)).frame = nI g → g ≠ f := by
    intro g hg eg e9
    subst e9
    have : R.c0.frame = R.c1.frame := by
      cases b
      · show (R.ch false).frame = (R.ch (!false)).frame
        rw [hCe, eg, k1]
      · show (R.ch (!true)).frame = (R.ch true).frame
        rw [hCe, eg, k1]
    have q := w2 this
    have : C.frame = -1 := by
      cases b
      · rw [← hCe]; exact q
      · rw [← hCe]; show R.c1.frame = -1; rw [← this]; exact q
    exact hi9 this
  have hdiff : ∀ C' : RCh, C'.frame = C.frame → C'.frame = (R.ch (!b)).frame → C'.frame = -1 := by
    intro C' q1 q2
    rcases w1 (!b) with z | ⟨g, _, _, z1, _, _, z4, _⟩
    · rw [q2]; exact z
    · exact absurd ((nI_eq (show g < 2 ^ 31 by omega) (show f < 2 ^ 31 by omega)).mp (by rw [← z1, ← q2, q1, k1])) (hne g z4 z1)
  have e24 : nI (M.many f) + 2 = nI (M.many f + 2) := by rw [show (2 : Int32) = nI 2 by decide, nI_add]
  have e1s : nI s + 1 = nI (s + 1) := (nI_succ s).symm
  have ef31 : f < 2 ^ 31 := by omega
  have cc : (nI (M.many f) + 1 < C.step) ↔ M.many f + 1 < s := by
    rw [k2, ← nI_succ]
    exact nI_ltI (by omega) (by omega)
  have lo1 : (if lo then R.lost + 1 else R.lost) = R.lost + bI lo := (bI_ite _ _).symm
  have ga1 : (if ga then R.garbled + 1 else R.garbled) = R.garbled + bI ga := (bI_ite _ _).symm
  by_cases ca : s = M.many f + 2
  · -- the answer
    subst ca
    obtain ⟨-, tt, t1, t2, t3⟩ := hM.2.2.2.2.2.2.2.2.1 f k4
    have tl : tt < l := t3 (by rw [k7]; decide)
    have rA : relMs M (112 + 102 * i) (aird D lo ga) := hS.congr h24 (fun j j1 j2 => aird_ne (by omega))
    have A3 : aird D lo ga (10 + 16 * cn b + 3) = nI f := (aird_ne (by omega)).trans c3
    have A78 : aird D lo ga (112 + 102 * i + (78 + f)) = nI tt := by rw [rA.2.2.2.2.2.2.2.2.2 f (by omega)]; exact t2
    have A9 : aird D lo ga 9 = nI l := by rw [aird_ne (by omega), n9]; exact l3
    obtain ⟨D', y1, y2, y3, y4, y5, y6, y7⟩ := anp f tt k4 _ A3 A78 A9 tl (!lo && (C.good != ga))
    have q2 : D' 3 = D 3 + 1 := by rw [y5 3 (by omega) (by omega) (by omega) (by omega) (by omega)]; exact aird_3 _ _
    have q3 : D' 4 = D 4 + bI lo := by rw [y5 4 (by omega) (by omega) (by omega) (by omega) (by omega)]; exact aird_4 _ _
    have q4 : D' 5 = D 5 + bI ga := by rw [y5 5 (by omega) (by omega) (by omega) (by omega) (by omega)]; exact aird_5 _ _
    have q9 : ∀ j, (j < 3 ∨ 6 < j) → j ≠ 10 + 16 * cn b + 3 → j ≠ 10 + 16 * cn b + 4 → (j < 112 + 102 * i ∨ 214 + 102 * i ≤ j) → D' j = D j := fun j a1 a2 a3 a4 => by rw [y5 j (by omega) a2 a3 (by omega) (by omega)]; exact aird_ne (by omega)
    have q5 : D' 6 = D 6 + bI (M.endTry f (!lo && (C.good != ga)) R.limit).1 := by
      rw [y2, aird_ne (by omega)]
      congr 2
      unfold RMs.endTry
      cases (!lo && (C.good != ga)) with
      | true => rfl
      | false =>
        rw [t2, l3, show nI tt + 1 = nI (tt + 1) from (nI_succ tt).symm]
        simp only [nI_ltI (show tt + 1 < 2 ^ 31 by omega) (show l < 2 ^ 31 by omega), Bool.false_eq_true, if_false, Bool.not_false, Bool.true_and]
        by_cases g : tt + 1 < l
        · rw [if_pos g, decide_eq_false (by omega)]
        · rw [if_neg g, decide_eq_true (by omega)]
    have q8 : relMs (M.endTry f (!lo && (C.good != ga)) R.limit).2 (112 + 102 * i) D' := by
      unfold RMs.endTry
      revert y6 y7
      cases (!lo && (C.good != ga)) with
      | true =>
        intro y6 y7
        simp only [if_true] at y6 y7 ⊢
        refine (rA.p54 h24 (show f < 24 by omega) 2).congr h24 (fun j j1 j2 => ?_)
        by_cases e1 : j = 112 + 102 * i + (54 + f)
        · rw [e1, y6, upd_at]
        · rw [upd_ne e1]
          by_cases e2 : j = 112 + 102 * i + (78 + f)
          · rw [e2, y7, A78]
          · exact y5 j (by omega) (by omega) (by omega) e1 e2
      | false =>
        intro y6 y7
        rw [t2, l3, show nI tt + 1 = nI (tt + 1) from (nI_succ tt).symm]
        simp only [nI_ltI (show tt + 1 < 2 ^ 31 by omega) (show l < 2 ^ 31 by omega), Bool.false_eq_true, if_false] at y6 y7 ⊢
        have core : ∀ v, D' (112 + 102 * i + (54 + f)) = v → relMs (RMs.mk M.sender M.urgency M.len M.fsize M.frames M.phase M.began M.ended M.unf M.letters M.log (upd M.fst f v) (upd M.tries f (nI (tt + 1)))) (112 + 102 * i) D' := fun v hv => by
          refine ((rA.p78 h24 (show f < 24 by omega) (nI (tt + 1))).p54 h24 (show f < 24 by omega) v).congr h24 (fun j j1 j2 => ?_)
          by_cases e1 : j = 112 + 102 * i + (54 + f)
          · rw [e1, hv, upd_at]
          · rw [upd_ne e1]
            by_cases e2 : j = 112 + 102 * i + (78 + f)
            · rw [e2, y7, upd_at]
            · rw [upd_ne e2]; exact y5 j (by omega) (by omega) (by omega) e1 e2
        by_cases g : tt + 1 < l
        · rw [if_pos g]
          rw [if_neg (show ¬ tt + 1 = l by omega)] at y6
          exact core 0 y6
        · rw [if_neg g]
          rw [if_pos (show tt + 1 = l by omega)] at y6
          exact core 3 y6
    refine ⟨D', ?_, ?_, fun bd j hj => by rw [q9 j (by omega) (by omega) (by omega) (by omega)]; exact bd j hj⟩
    · have ns : ¬ nI (M.many f + 2) = 0 := nI_ne0 (by omega) (by omega)
      have qb := b22_ans (G := G) L (i := i) hc (mf := M.many f) (air hC.1 n0) (by rw [aird_ne (by omega), k9, e24]) (good := C.good) (by rw [aird_ne (by omega)]; exact k12 rfl)
      simp only [f_X10_steps, lmG_work ok hc, c3, Option.bind_some, ln_gB ok, cond_true, ltp k4 hz, lmG_step ok hc, k9, ns, if_false, qb, y1]
    · have q := mk_ans R b i lo ga (f := f) (by rw [hCe]; exact k1) ef31 (by rw [hCe, hMe]; exact cc.mpr (by omega))
      rw [q, hCe, hMe, e]
      have ds := endTry_same M f (!lo && (C.good != ga)) R.limit
      have dsh := endTry_sh M f (!lo && (C.good != ga)) R.limit
      refine Rel_on h e (fun j j1 j2 j3 => q9 j (by omega) (by omega) (by omega) (by omega)) (q9 2 (by omega) (by omega) (by omega) (by omega)) (by rw [q2, n3]) (by rw [q3, n4, lo1]) (by rw [q4, n5, ga1]) (by rw [q5, n6, bI_ite]) ?_ q8 (fun l' a1 a2 a3 => ?_) (by rw [hMe]; exact ds.1) (Or.inl rfl) (by rw [hMe]; exact sh_frames dsh) (fun g => by rw [hMe]; exact sh_many dsh g) (fun g g1 g2 g3 => ?_) (fun _ => rfl)
      · refine ⟨?_, ?_, ?_, y3, fun _ => y4⟩ <;> rw [q9 _ (by omega) (by omega) (by omega) (by omega)]
        · exact hC.1
        · exact hC.2.1
        · exact hC.2.2.1
      · rw [hMe] at a3
        have : l' = l := lim_one l2 a1 l3 a2
        subst this
        exact endTry_inv hM v2 k4 k7 l2 _ l3
      · rw [hMe] at g1 g3
        rw [ds.2 g (hne g g1 g2)]; exact g3
  · have hs1 : s ≤ M.many f + 1 := by omega
    have nca : ¬ nI s = nI (M.many f + 2) := fun z => ca ((nI_eq (by omega) (by omega)).mp z)
    have ncc : ¬ (nI ((R.ms i).many f) + 1 < (R.ch b).step) := by rw [hCe, hMe]; exact fun z => by have := cc.mp z; omega
    have efr : (R.ch b).frame = nI f := by rw [hCe]; exact k1
    obtain ⟨u1, u2, u3, u4, u5, u6, u7, u8, u9⟩ := lst_f C lo
    by_cases c0 : s = 0
    · -- the number
      subst c0
      obtain ⟨nb', b1, b2⟩ := rem26 (f + (if ga then 1 else 0)) (by split <;> omega)
      have eg : nI f + bI ga = nI (f + (if ga then 1 else 0)) := by
        rw [← nI_add]; congr 1; cases ga
        · exact nI_0.symm
        · rfl
      generalize hD1 : upd D (10 + 16 * cn b + 5) 0 = D1
      have D1o : ∀ j, j ≠ 10 + 16 * cn b + 5 → D1 j = D j := fun j hj => by rw [← hD1, upd_ne hj]
      refine ⟨upd (upd (symd D1 (cn b) lo ga) (10 + 16 * cn b + 6) (g_rem (nI f + bI ga) 26)) (10 + 16 * cn b + 4) (nI 0 + 1), ?_, ?_, fun bd => ((((show boolD D1 from hD1 ▸ bd.upd (Or.inl (Or.inl rfl))).sy _ _ _).upd (Or.inr (by omega))).upd (Or.inr (by omega)))⟩
      · have n4' : ¬ D1 (10 + 16 * cn b + 4) = nI (M.many f) + 2 := by
          rw [D1o _ (by omega), k9, e24]; exact nca
        have qb := b22_sym (G := G) L (i := i) hc (mf := M.many f) hlg (air (by rw [D1o _ (by omega)]; exact hC.1) (by rw [D1o _ (by omega)]; exact n0)) n4' (lost := false) (by rw [← hD1, upd_at]; rfl)
        have k9' : D (10 + 16 * cn b + 4) = 0 := by rw [k9, nI_0]
        have s4 : symd D1 (cn b) lo ga (10 + 16 * cn b + 4) = 0 := by rw [symd_ne (by omega) (by omega), D1o _ (by omega)]; exact k9'
        have s3 : symd D1 (cn b) lo ga (10 + 16 * cn b + 3) = nI f := by rw [symd_ne (by omega) (by omega), D1o _ (by omega)]; exact c3
        have s4' : upd (symd D1 (cn b) lo ga) (10 + 16 * cn b + 6) (g_rem (nI f + bI ga) 26) (10 + 16 * cn b + 4) = nI 0 := by rw [upd_ne (by omega), s4, nI_0]
        simp only [f_X10_steps, lmG_work ok hc, c3, Option.bind_some, ln_gB ok, cond_true, ltp k4 hz, lmG_step ok hc, k9', if_true, lmT_isLost ok hc, hD1, qb, f_X10_steps_b195, s4, s3, lmT_number ok hc]
        exact b481_p ok hc s4'
      · rw [mk_0 R b i lo ga efr ef31 ncc (by rw [hCe, k2, nI_0]), hCe, hMe, e, u5]
        have hl0 : C.lost = false := k13 rfl
        refine Rel_on h e (fun j j1 j2 j3 => by rw [upd_ne (by omega), upd_ne (by omega), symd_ne (by omega) (by omega), D1o j (by omega)]) (by rw [upd_ne (by omega), upd_ne (by omega), symd_ne (by omega) (by omega), D1o 2 (by omega)]) ?_ ?_ ?_ ?_ ?_ ?_ (fun l' a1 a2 a3 => by rw [hMe] at a3; exact a3) (by rw [hMe]) ?_ (by rw [hMe]) (fun g => by rw [hMe]) (fun g g1 g2 g3 => by rw [hMe] at g3; exact g3) (hdiff _ (by exact u4))
        · rw [upd_ne (by omega), upd_ne (by omega), symd_3, D1o 3 (by omega), n3]
        · rw [upd_ne (by omega), upd_ne (by omega), symd_4, D1o 4 (by omega), n4, lo1]
        · rw [upd_ne (by omega), upd_ne (by omega), symd_5, D1o 5 (by omega), n5, ga1]
        · rw [upd_ne (by omega), upd_ne (by omega), symd_ne (by omega) (by omega), D1o 6 (by omega), n6]
        · refine ⟨?_, ?_, ?_, ?_, fun z => absurd (u4.symm.trans z) hi9⟩ <;> rw [upd_ne (by omega), upd_ne (by omega), symd_ne (by omega) (by omega), D1o _ (by omega)]
          · exact hC.1.trans u1.symm
          · exact hC.2.1.trans u2.symm
          · exact hC.2.2.1.trans u3.symm
          · exact hC.2.2.2.1.trans u4.symm
        · exact hS.congr h24 (fun j j1 j2 => by rw [upd_ne (by omega), upd_ne (by omega), symd_ne (by omega) (by omega), D1o j (by omega)])
        · refine Or.inr ⟨f, 1, nb', u4.trans k1, ?_, ?_, k4, by omega, b1, k7, ?_, ?_, fun _ => ?_, fun _ z => ?_, fun z => absurd z (by omega), fun z => absurd z (by omega)⟩
          · show C.step + 1 = nI 1
            rw [k2, e1s]
          · show g_rem (nI f + bI ga) 26 = nI nb'
            rw [eg, b2]
          · show (C.lst lo).n = _
            rw [u7, k8]
          · rw [upd_at, e1s]
          · show upd _ _ _ _ = bI (C.lst lo).lost
            rw [upd_ne (by omega), upd_ne (by omega), symd_l, u9, hl0, ← hD1, upd_at]
            cases lo <;> rfl
          · have z2 : (C.lst lo).lost = false := z
            rw [u9, hl0, Bool.or_false] at z2
            refine ⟨?_, fun k hk => absurd hk ?_⟩
            · show upd _ _ _ _ = g_rem (nI f + bI ga) 26
              rw [upd_ne (by omega), upd_at]
            · show ¬ k < (C.lst lo).n
              rw [u7, k8]; omega
    · have ns0 : ¬ nI s = 0 := nI_ne0 (by omega) (by omega)
      by_cases c1 : s ≤ M.many f
      · -- a letter
        have s1 : nI s ≤ nI (M.many f) := (nI_leI (by omega) (by omega)).mpr c1
        obtain ⟨sd, sd2, esd⟩ : ∃ sd : Nat, sd < 2 ∧ M.sender = nI sd := by
          rcases hM.2.2.2.2.1 with z | z
          · exact ⟨0, by omega, by rw [z, nI_0]⟩
          · exact ⟨1, by omega, by rw [z]; rfl⟩
        have e1sd : 1 - nI sd = nI (1 - sd) := by rw [show (1 : Int32) = nI 1 by decide, nI_sub (by omega)]
        have ei : nI f * nI R.fsize + nI s - 1 = nI (f * R.fsize + s - 1) := by
          rw [nI_mul, nI_add, show (1 : Int32) = nI 1 by decide, nI_sub (by omega)]
        have e8 : nI s - 1 = nI (s - 1) := by
          rw [show (1 : Int32) = nI 1 by decide, nI_sub (by omega)]
        obtain ⟨q, q1, q2⟩ := hM.2.2.2.2.2.2.2.2.2 (f * R.fsize + s - 1) (by omega)
        obtain ⟨p, p1, p2⟩ := keyAt_lOf (h.kp sd2) (nI R.time)
        obtain ⟨r, r1, r2⟩ := keyAt_lOf (h.kp (show 1 - sd < 2 by omega)) (nI R.time)
        have nca' : ¬ D (10 + 16 * cn b + 4) = nI (M.many f) + 2 := by rw [k9, e24]; exact nca
        have qb := b22_sym (G := G) L (i := i) hc (mf := M.many f) hlg (air hC.1 n0) nca' (lost := C.lost) (k10 (by omega))
        generalize hD1 : symd D (cn b) lo ga = D1 at qb
        have D1o : ∀ j, (j < 3 ∨ 5 < j) → j ≠ 10 + 16 * cn b + 5 → D1 j = D j := fun j a1 a2 => by rw [← hD1]; exact symd_ne a1 a2
        have d4 : D1 (10 + 16 * cn b + 4) = nI s := (D1o _ (by omega) (by omega)).trans k9
        have d3 : D1 (10 + 16 * cn b + 3) = nI f := (D1o _ (by omega) (by omega)).trans c3
        have dz : D1 8 = nI R.fsize := (D1o _ (by omega) (by omega)).trans hz
        have dt : D1 0 = nI R.time := (D1o _ (by omega) (by omega)).trans n0
        have ds : D1 (112 + 102 * i) = nI sd := (D1o _ (by omega) (by omega)).trans (hS.1.trans esd)
        refine ⟨upd (upd D1 (10 + 16 * cn b + (8 + (s - 1))) (g_rem (g_rem (M.letters (f * R.fsize + s - 1) + (R.kp (nI sd)).keyAt (nI R.time) + bI ga) 26 - (R.kp (nI (1 - sd))).keyAt (nI R.time) + 26) 26)) (10 + 16 * cn b + 4) (nI s + 1), ?_, ?_, fun bd => (((show boolD D1 from hD1 ▸ bd.sy _ _ _).upd (Or.inr (by omega))).upd (Or.inr (by omega)))⟩
        · have d4' : ∀ v, upd D1 (10 + 16 * cn b + (8 + (s - 1))) v (10 + 16 * cn b + 4) = nI s := fun v => by rw [upd_ne (by omega)]; exact d4
          simp only [f_X10_steps, lmG_work ok hc, c3, Option.bind_some, ln_gB ok, cond_true, ltp k4 hz, lmG_step ok hc, k9, ns0, if_false, qb, f_X10_steps_b195, d4, s1, if_true, d3, lnG_size ok, dz, ei, ln_gt ok hit, lp (show f * R.fsize + s - 1 < M.len by omega), tkG_sender ok hit, ds, lnG_time ok, dt, key_p L sd2, e1sd, key_p L (show 1 - sd < 2 by omega), lm_came ok hc, e8, cmS ok hc (show s - 1 < 8 by omega)]
          exact b481_p ok hc (d4' _)
        · rw [mk_1 R b i lo ga efr ef31 ncc (by rw [hCe, k2]; exact ns0) (by rw [hCe, hMe, k2]; exact s1), hCe, hMe, e, hM.1, k2, nI_clamp (show s < 2 ^ 31 by omega), esd, e1sd, u5]
          have hn : (C.lst lo).n = s - 1 := by rw [u7, k8]; omega
          refine Rel_on h e (fun j j1 j2 j3 => by rw [upd_ne (by omega), upd_ne (by omega), D1o j (by omega) (by omega)]) (by rw [upd_ne (by omega), upd_ne (by omega), D1o 2 (by omega) (by omega)]) ?_ ?_ ?_ ?_ ?_ ?_ (fun l' a1 a2 a3 => by rw [hMe] at a3; exact a3) (by rw [hMe]) ?_ (by rw [hMe]) (fun g => by rw [hMe]) (fun g g1 g2 g3 => by rw [hMe] at g3; exact g3) (hdiff _ (by exact u4))
          · rw [upd_ne (by omega), upd_ne (by omega), ← hD1, symd_3, n3]
          · rw [upd_ne (by omega), upd_ne (by omega), ← hD1, symd_4, n4, lo1]
          · rw [upd_ne (by omega), upd_ne (by omega), ← hD1, symd_5, n5, ga1]
          · rw [upd_ne (by omega), upd_ne (by omega), D1o 6 (by omega) (by omega), n6]
          · refine ⟨?_, ?_, ?_, ?_, fun z => absurd (u4.symm.trans z) hi9⟩ <;> rw [upd_ne (by omega), upd_ne (by omega), D1o _ (by omega) (by omega)]
            · exact hC.1.trans u1.symm
            · exact hC.2.1.trans u2.symm
            · exact hC.2.2.1.trans u3.symm
            · exact hC.2.2.2.1.trans u4.symm
          · exact hS.congr h24 (fun j j1 j2 => by rw [upd_ne (by omega), upd_ne (by omega), D1o j (by omega) (by omega)])
          · refine Or.inr ⟨f, s + 1, nb, u4.trans k1, ?_, u6.trans k3, k4, by omega, k6, k7, ?_, ?_, fun _ => ?_, fun _ z => ?_, fun z => absurd z (by omega), fun z => absurd z (by omega)⟩
            · show C.step + 1 = nI (s + 1)
              rw [k2]; exact e1s
            · show (C.lst lo).n + 1 = _
              rw [hn]; omega
            · rw [upd_at, e1s]
            · show upd _ _ _ _ = bI (C.lst lo).lost
              rw [upd_ne (by omega), upd_ne (by omega), ← hD1, symd_l, u9, k10 (by omega)]
              cases lo <;> rfl
            · have z2 : (C.lst lo).lost = false := z
              rw [u9, Bool.or_eq_false_iff] at z2
              obtain ⟨y1, y2⟩ := k11 (by omega) z2.2
              refine ⟨?_, fun k hk => ?_⟩
              · show upd _ _ _ _ = (C.lst lo).number
                rw [upd_ne (by omega), upd_ne (by omega), D1o _ (by omega) (by omega), u6]; exact y1
              · have hk2 : k < (C.lst lo).n + 1 := hk
                rw [hn] at hk2
                show upd _ _ _ _ = rowSet 8 (C.lst lo).heard (nI (C.lst lo).n) _ k
                rw [hn, rowSet_in (show s - 1 < 8 by omega) (by decide), u8, upd_ne (by omega)]
                by_cases ck : k = s - 1
                · subst ck
                  rw [upd_at, upd_at, q2, p2, r2]
                  obtain ⟨g, g1, g2⟩ := bI_nI ga
                  rw [g2]
                  exact flm_eq2 q1 p1 r1 g1
                · rw [upd_ne ck, upd_ne (by omega), D1o _ (by omega) (by omega)]
                  exact y2 k (by rw [k8]; omega)
      · -- the check symbol
        have es : s = M.many f + 1 := by omega
        have s1 : ¬ nI s ≤ nI (M.many f) := fun z => c1 ((nI_leI (by omega) (by omega)).mp z)
        have nca' : ¬ D (10 + 16 * cn b + 4) = nI (M.many f) + 2 := by rw [k9, e24]; exact nca
        have qb := b22_sym (G := G) L (i := i) hc (mf := M.many f) hlg (air hC.1 n0) nca' (lost := C.lost) (k10 (by omega))
        generalize hD1 : symd D (cn b) lo ga = D1 at qb
        have D1o : ∀ j, (j < 3 ∨ 5 < j) → j ≠ 10 + 16 * cn b + 5 → D1 j = D j := fun j a1 a2 => by rw [← hD1]; exact symd_ne a1 a2
        have rS1 : relMs M (112 + 102 * i) D1 := hS.congr h24 (fun j j1 j2 => D1o j (by omega) (by omega))
        have hl5 : D1 (10 + 16 * cn b + 5) = bI (C.lst lo).lost := by
          rw [← hD1, symd_l, u9, k10 (by omega)]
          cases lo <;> rfl
        have d4 : D1 (10 + 16 * cn b + 4) = nI s := (D1o _ (by omega) (by omega)).trans k9
        have d3 : D1 (10 + 16 * cn b + 3) = nI f := (D1o _ (by omega) (by omega)).trans c3
        have dz : D1 8 = nI R.fsize := (D1o _ (by omega) (by omega)).trans hz
        obtain ⟨D', j1, j2, j3, j4⟩ := ckp f nb _ rS1 k4 (C.lst lo) (u6.trans k3) k6 d3 dz hl5 (fun z => by
          rw [u9, Bool.or_eq_false_iff] at z
          obtain ⟨y1, y2⟩ := k11 (by omega) z.2
          refine ⟨by rw [D1o _ (by omega) (by omega), u6]; exact y1, fun k hk => ?_⟩
          rw [D1o _ (by omega) (by omega), u8]
          exact y2 k (by rw [k8]; omega)) (fun k hk => by rw [u8]; exact lgH k (by rw [k8]; omega))
        generalize hJ : (C.lst lo).judge (M.many f) (g_rem (M.check f + bI ga) 26) = J at j2 j3
        have J1 : J.power = C.power ∧ J.opening = C.opening ∧ J.closing = C.closing ∧ J.frame = C.frame ∧ J.number = C.number ∧ J.n = C.n ∧ J.heard = C.heard ∧ J.lost = (lo || C.lost) ∧ J.step = C.step := by
          rw [← hJ]
          exact ⟨u1, u2, u3, u4, u6, u7, u8, u9, u5⟩
        obtain ⟨J1, J2, J3, J4, J5, J6, J7, J8, J9⟩ := J1
        have bb : boolD D → boolD D' := fun bd j hj => by
          by_cases e : j = 10 + 16 * cn b + 7
          · rw [e, j2]; exact bI_01 _
          · rw [j4 j e (by omega)]; exact (show boolD D1 from hD1 ▸ bd.sy _ _ _) j hj
        refine ⟨upd D' (10 + 16 * cn b + 4) (nI s + 1), ?_, ?_, fun bd => (bb bd).upd (Or.inr (by omega))⟩
        · have d4' : D' (10 + 16 * cn b + 4) = nI s := by rw [j4 _ (by omega) (by omega)]; exact d4
          simp only [f_X10_steps, lmG_work ok hc, c3, Option.bind_some, ln_gB ok, cond_true, ltp k4 hz, lmG_step ok hc, k9, ns0, if_false, qb, f_X10_steps_b195, d4, s1, d3, lmG_number ok hc, j1]
          exact b481_p ok hc d4'
        · rw [mk_2 R b i lo ga efr ef31 ncc (by rw [hCe, k2]; exact ns0) (by rw [hCe, hMe, k2]; exact s1), hCe, hMe, e, u6, k3, nI_clamp (show nb < 2 ^ 31 by omega), hJ, u5, k2]
          have hmsh : (if J.good then M.written nb (C.lst lo).heard (M.many f) else M).sh = M.sh := iteSh (written_sh _ _ _ _)
          refine Rel_on h e (fun j a1 a2 a3 => by rw [upd_ne (by omega), j4 j (by omega) (by omega), D1o j (by omega) (by omega)]) (by rw [upd_ne (by omega), j4 2 (by omega) (by omega), D1o 2 (by omega) (by omega)]) ?_ ?_ ?_ ?_ ?_ ?_ (fun l' a1 a2 a3 => ?_) ?_ ?_ ?_ ?_ (fun g g1 g2 g3 => ?_) (hdiff _ (by exact J4))
          · rw [upd_ne (by omega), j4 3 (by omega) (by omega), ← hD1, symd_3, n3]
          · rw [upd_ne (by omega), j4 4 (by omega) (by omega), ← hD1, symd_4, n4, lo1]
          · rw [upd_ne (by omega), j4 5 (by omega) (by omega), ← hD1, symd_5, n5, ga1]
          · rw [upd_ne (by omega), j4 6 (by omega) (by omega), D1o 6 (by omega) (by omega), n6]
          · refine ⟨?_, ?_, ?_, ?_, fun z => absurd (J4.symm.trans z) hi9⟩ <;> rw [upd_ne (by omega), j4 _ (by omega) (by omega), D1o _ (by omega) (by omega)]
            · exact hC.1.trans J1.symm
            · exact hC.2.1.trans J2.symm
            · exact hC.2.2.1.trans J3.symm
            · exact hC.2.2.2.1.trans J4.symm
          · refine j3.congr ?_ (fun j a1 a2 => upd_ne (by omega))
            have : (if J.good then M.written nb (C.lst lo).heard (M.many f) else M).len = M.len := congrArg (fun z => z.2.2) hmsh
            rw [this]; exact h24
          · rw [hMe] at a3
            split
            · exact written_inv a3 _ _ _
            · exact a3
          · rw [hMe]
            split
            · exact (written_same _ _ _ _).1
            · rfl
          · refine Or.inr ⟨f, s + 1, nb, J4.trans k1, ?_, J5.trans k3, ?_, ?_, k6, ?_, ?_, ?_, fun _ => ?_, fun _ z => ?_, fun _ => ?_, fun z => absurd z (by omega)⟩
            · show nI s + 1 = nI (s + 1)
              exact e1s
            · rw [sh_frames hmsh]; exact k4
            · rw [sh_many hmsh]; omega
            · split
              · rw [(written_same _ _ _ _).2]; exact k7
              · exact k7
            · show J.n = _
              rw [J6, k8, sh_many hmsh]; omega
            · rw [upd_at, e1s]
            · show upd _ _ _ _ = bI J.lost
              rw [upd_ne (by omega), j4 _ (by omega) (by omega), hl5, u9, J8]
            · have z2 : J.lost = false := z
              rw [J8, Bool.or_eq_false_iff] at z2
              obtain ⟨y1, y2⟩ := k11 (by omega) z2.2
              refine ⟨?_, fun k hk => ?_⟩
              · show upd _ _ _ _ = J.number
                rw [upd_ne (by omega), j4 _ (by omega) (by omega), D1o _ (by omega) (by omega), J5]; exact y1
              · have hk2 : k < J.n := hk
                rw [J6] at hk2
                show upd _ _ _ _ = J.heard k
                rw [upd_ne (by omega), j4 _ (by omega) (by rw [k8] at hk2; omega), D1o _ (by omega) (by rw [k8] at hk2; omega), J7]; exact y2 k hk2
            · show upd _ _ _ _ = bI J.good
              rw [upd_ne (by omega)]; exact j2
          · rw [hMe]; exact sh_frames hmsh
          · intro g; rw [hMe]; exact sh_many hmsh g
          · rw [hMe] at g3
            split
            · rw [(written_same _ _ _ _).2]; exact g3
            · exact g3
end STX
