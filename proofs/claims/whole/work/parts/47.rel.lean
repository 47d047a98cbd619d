/-! one step of a channel -/
theorem lst_f (C : RCh) (lo : Bool) : (C.lst lo).power = C.power ∧ (C.lst lo).opening = C.opening ∧ (C.lst lo).closing = C.closing ∧ (C.lst lo).frame = C.frame ∧ (C.lst lo).step = C.step ∧ (C.lst lo).number = C.number ∧ (C.lst lo).n = C.n ∧ (C.lst lo).heard = C.heard ∧ (C.lst lo).lost = (lo || C.lost) := by cases lo <;> exact ⟨rfl, rfl, rfl, rfl, rfl, rfl, rfl, rfl, rfl⟩
theorem relN.time {R : RW} {D : Nat → Int32} (h : relN R D) : D 0 = nI R.time := h.1
theorem endTry_inv {M : RMs} {z l f : Nat} (hM : M.inv z l) (h1 : 1 ≤ z) (hf : f < M.frames) (hw : M.fst f = 1) (hl : l ≤ 9) (yes : Bool) {limit : Int32} (el : limit = nI l) : (M.endTry f yes limit).2.inv z l := by
  have w2 : M.fst f < 2 := by rw [hw]; decide
  obtain ⟨-, t, t1, t2, t3⟩ := hM.2.2.2.2.2.2.2.2.1 f hf
  have tl := t3 w2
  unfold RMs.endTry
  cases yes with
  | true => exact hM.done h1 hf w2 (Or.inl rfl) M.tries (fun _ _ => rfl) ⟨t, t1, t2⟩
  | false =>
    rw [t2, el, show nI t + 1 = nI (t + 1) from (nI_succ t).symm]
    simp only [Bool.false_eq_true, if_false, nI_ltI (show t + 1 < 2 ^ 31 by omega) (show l < 2 ^ 31 by omega)]
    by_cases c : t + 1 < l
    · rw [if_pos c]
      exact hM.again hf w2 c
    · rw [if_neg c]
      exact hM.done h1 hf w2 (Or.inr rfl) (upd M.tries f (nI (t + 1))) (fun g hg => upd_ne hg) ⟨t + 1, by omega, upd_at _ _ _⟩
theorem endTry_same (M : RMs) (f : Nat) (yes : Bool) (limit : Int32) : (M.endTry f yes limit).2.phase = M.phase ∧ (∀ g, g ≠ f → (M.endTry f yes limit).2.fst g = M.fst g) := by
  unfold RMs.endTry
  split
  · exact ⟨rfl, fun g hg => upd_ne hg⟩
  · split
    · exact ⟨rfl, fun g hg => upd_ne hg⟩
    · exact ⟨rfl, fun g hg => upd_ne hg⟩
theorem written_same (M : RMs) (b : Nat) (g : Nat → Int32) (k : Nat) : (M.written b g k).phase = M.phase ∧ (M.written b g k).fst = M.fst := by
  unfold RMs.written
  split <;> exact ⟨rfl, rfl⟩
theorem written_inv {M : RMs} {z l : Nat} (h : M.inv z l) (b : Nat) (g : Nat → Int32) (k : Nat) : (M.written b g k).inv z l := by
  unfold RMs.written
  split
  · exact h
  · exact h
theorem sh_frames {M M' : RMs} (e : M'.sh = M.sh) : M'.frames = M.frames := congrArg (fun p : Nat × Nat × Nat => p.1) e
theorem lim_one {l l' : Nat} {v : Int32} (h1 : l ≤ 9) (h2 : l' ≤ 9) (e1 : v = nI l) (e2 : v = nI l') : l' = l := (nI_eq (by omega) (by omega)).mp (e2.symm.trans e1)
section REL7
variable {x : gH} {m : Nat} {D : Nat → Int32}
theorem step_d (hx : isM x m) {R : RW} (h : Rel R D) {i : Nat} (e : R.way = some i) (b : Bool) (hi9 : (R.ch b).frame ≠ -1) {lo ga : Bool} (elo : lo = decide ((R.ch b).power < R.mi.levelAt (nI R.time))) (ega : ga = decide (R.mi.levelAt (nI R.time) = (R.ch b).power)) :
    ∃ D', f_X8_step (dP x m D) m (nI i) (nI (cn b)) = some (dP x m D') ∧ Rel ((R.counted lo ga).madeStep b i lo ga) D' := by
  obtain ⟨v1, v2, v3, ⟨l, l1, l2, l3, l4⟩, v5, v6⟩ := h.inv
  have hit := v5 i e
  have hi : i < 8 := by omega
  have hc := cn_lt b
  have hM := l4 i hit
  have hS := h.ms i hit
  have h24 := hM.2.2.1
  have f24 := hM.fr24 v2
  have hC := h.ch b
  have n0 := h.n.time
  have n2 := h.n.2.2.1
  have n3 := h.n.2.2.2.1
  have n4 := h.n.2.2.2.2.1
  have n5 := h.n.2.2.2.2.2.1
  have n6 := h.n.2.2.2.2.2.2.1
  have hz := h.n.fs
  have n9 : D 9 = R.limit := h.n.2.2.2.2.2.2.2.2
  obtain ⟨w1, w2⟩ := h.way.2 i e
  have hw := (w1 b).resolve_left hi9
  generalize hCe : R.ch b = C at *
  generalize hMe : R.ms i = M at *
  obtain ⟨f, s, nb, k1, k2, k3, k4, k5, k6, k7, k8, k9, k10, k11, k12, k13⟩ := hw
  have hfz := hM.fr' v2 k4
  have m8 := hM.many_le v3 f
  have mz : f * R.fsize + M.many f ≤ M.len := by have := hM.1; unfold RMs.many; rw [this]; omega
  have c3 : D (10 + 16 * cn b + 3) = nI f := by rw [← k1]; exact hC.2.2.2.1
  have hne : ∀ g, g < M.frames → (R.ch (!b)).frame = nI g → g ≠ f := by
    intro g hg eg e9
    subst e9
    have : R.c0.frame = R.c1.frame := by
      cases b
      · show (R.ch false).frame = (R.ch (!false)).frame
        rw [hCe, eg, k1]
      · show (R.ch (!true)).frame = (R.ch true).frame
        rw [hCe, eg, k1]
    have q := w2 this
    have : C.frame = -1 := by
      cases b
      · rw [← hCe]; exact q
      · rw [← hCe]; show R.c1.frame = -1; rw [← this]; exact q
    exact hi9 this
  have hdiff : ∀ C' : RCh, C'.frame = C.frame → C'.frame = (R.ch (!b)).frame → C'.frame = -1 := by
    intro C' q1 q2
    rcases w1 (!b) with z | ⟨g, _, _, z1, _, _, z4, _⟩
    · rw [q2]; exact z
    · exact absurd ((nI_eq (show g < 2 ^ 31 by omega) (show f < 2 ^ 31 by omega)).mp (by rw [← z1, ← q2, q1, k1])) (hne g z4 z1)
  have e24 : nI (M.many f) + 2 = nI (M.many f + 2) := by rw [show (2 : Int32) = nI 2 by decide, nI_add]
  have e1s : nI s + 1 = nI (s + 1) := (nI_succ s).symm
  have ef31 : f < 2 ^ 31 := by omega
  have cc : (nI (M.many f) + 1 < C.step) ↔ M.many f + 1 < s := by
    rw [k2, ← nI_succ]
    exact nI_ltI (by omega) (by omega)
  have lo1 : (if lo then R.lost + 1 else R.lost) = R.lost + bI lo := (bI_ite _ _).symm
  have ga1 : (if ga then R.garbled + 1 else R.garbled) = R.garbled + bI ga := (bI_ite _ _).symm
  by_cases ca : s = M.many f + 2
  · -- the answer
    subst ca
    obtain ⟨D', q1, q2, q3, q4, q5, q6, q7, q8, q9⟩ := answer_d hx hi hc v2 hM l2 hS k4 k7 l3 n9 h.mi hC (k12 rfl) (lo := lo) (ga := ga) (by rw [n0]; exact elo) (by rw [n0]; exact ega)
    refine ⟨D', ?_, ?_⟩
    · simp only [f_X8_step, dI hx, cond_true, chL3 hx hc, c3, chL4 hx hc, k9, lettersOf_d hx hi v3 hz hM hS (Nat.le_of_lt hfz), msL0 hx hi, Option.bind_some, e24, if_true, q1]
    · have q := mk_ans R b i lo ga (f := f) (by rw [hCe]; exact k1) ef31 (by rw [hCe, hMe]; exact cc.mpr (by omega))
      rw [q, hCe, hMe, e]
      have ds := endTry_same M f (!lo && (C.good != ga)) R.limit
      have dsh := endTry_sh M f (!lo && (C.good != ga)) R.limit
      refine Rel_on h e (fun j j1 j2 j3 => q9 j (by omega) (by omega) (by omega) (by omega)) (q9 2 (by omega) (by omega) (by omega) (by omega)) (by rw [q2, n3]) (by rw [q3, n4, lo1]) (by rw [q4, n5, ga1]) (by rw [q5, n6, bI_ite]) ?_ q8 (fun l' a1 a2 a3 => ?_) (by rw [hMe]; exact ds.1) (Or.inl rfl) (by rw [hMe]; exact sh_frames dsh) (fun g => by rw [hMe]; exact sh_many dsh g) (fun g g1 g2 g3 => ?_) (fun _ => rfl)
      · refine ⟨?_, ?_, ?_, q6, fun _ => q7⟩ <;> rw [q9 _ (by omega) (by omega) (by omega) (by omega)]
        · exact hC.1
        · exact hC.2.1
        · exact hC.2.2.1
      · rw [hMe] at a3
        have : l' = l := lim_one l2 a1 l3 a2
        subst this
        exact endTry_inv hM v2 k4 k7 l2 _ l3
      · rw [hMe] at g1 g3
        rw [ds.2 g (hne g g1 g2)]; exact g3
  · have hs1 : s ≤ M.many f + 1 := by omega
    have nca : ¬ nI s = nI (M.many f + 2) := fun z => ca ((nI_eq (by omega) (by omega)).mp z)
    have ncc : ¬ (nI ((R.ms i).many f) + 1 < (R.ch b).step) := by rw [hCe, hMe]; exact fun z => by have := cc.mp z; omega
    have efr : (R.ch b).frame = nI f := by rw [hCe]; exact k1
    obtain ⟨u1, u2, u3, u4, u5, u6, u7, u8, u9⟩ := lst_f C lo
    by_cases c0 : s = 0
    · -- the number
      subst c0
      obtain ⟨nb', b1, b2⟩ := rem26 (f + (if ga then 1 else 0)) (by split <;> omega)
      have eg : nI f + bI ga = nI (f + (if ga then 1 else 0)) := by
        rw [← nI_add]; congr 1; cases ga
        · exact nI_0.symm
        · rfl
      generalize hD1 : upd D (10 + 16 * cn b + 5) 0 = D1
      have D1o : ∀ j, j ≠ 10 + 16 * cn b + 5 → D1 j = D j := fun j hj => by rw [← hD1, upd_ne hj]
      have rM1 : relMi R.mi D1 := h.mi.congr (D1o 7 (by omega)) (fun j j1 j2 => D1o j (by omega))
      have rC1 : relCh C (10 + 16 * cn b) D1 := hC.congr (fun j j1 j2 => D1o j (by omega))
      have sy := symbol_d hx hc rM1 rC1 (nI f)
      rw [D1o 0 (by omega), n0, ← elo, ← ega] at sy
      refine ⟨upd (upd (symd D1 (cn b) lo ga) (10 + 16 * cn b + 6) (g_rem (nI f + howI lo ga) 26)) (10 + 16 * cn b + 4) (nI 0 + 1), ?_, ?_⟩
      · simp only [f_X8_step, dI hx, cond_true, chL3 hx hc, c3, chL4 hx hc, k9, lettersOf_d hx hi v3 hz hM hS (Nat.le_of_lt hfz), msL0 hx hi, Option.bind_some, e24, nca, if_false, nI_0, if_true, chS5 hx hc, hD1, sy, chS6 hx hc, f_X8_step_b192, chS4 hx hc]
        rw [if_neg (by rw [← nI_0]; exact nca)]
      · rw [mk_0 R b i lo ga efr ef31 ncc (by rw [hCe, k2, nI_0]), hCe, hMe, e, u5]
        have hl0 : C.lost = false := k13 rfl
        refine Rel_on h e (fun j j1 j2 j3 => by rw [upd_ne (by omega), upd_ne (by omega), symd_ne (by omega) (by omega), D1o j (by omega)]) (by rw [upd_ne (by omega), upd_ne (by omega), symd_ne (by omega) (by omega), D1o 2 (by omega)]) ?_ ?_ ?_ ?_ ?_ ?_ (fun l' a1 a2 a3 => by rw [hMe] at a3; exact a3) (by rw [hMe]) ?_ (by rw [hMe]) (fun g => by rw [hMe]) (fun g g1 g2 g3 => by rw [hMe] at g3; exact g3) (hdiff _ (by exact u4))
        · rw [upd_ne (by omega), upd_ne (by omega), symd_3, D1o 3 (by omega), n3]
        · rw [upd_ne (by omega), upd_ne (by omega), symd_4, D1o 4 (by omega), n4, lo1]
        · rw [upd_ne (by omega), upd_ne (by omega), symd_5, D1o 5 (by omega), n5, ga1]
        · rw [upd_ne (by omega), upd_ne (by omega), symd_ne (by omega) (by omega), D1o 6 (by omega), n6]
        · refine ⟨?_, ?_, ?_, ?_, fun z => absurd (u4.symm.trans z) hi9⟩ <;> rw [upd_ne (by omega), upd_ne (by omega), symd_ne (by omega) (by omega), D1o _ (by omega)]
          · exact hC.1.trans u1.symm
          · exact hC.2.1.trans u2.symm
          · exact hC.2.2.1.trans u3.symm
          · exact hC.2.2.2.1.trans u4.symm
        · exact hS.congr h24 (fun j j1 j2 => by rw [upd_ne (by omega), upd_ne (by omega), symd_ne (by omega) (by omega), D1o j (by omega)])
        · refine Or.inr ⟨f, 1, nb', u4.trans k1, ?_, ?_, k4, by omega, b1, k7, ?_, ?_, fun _ => ?_, fun _ z => ?_, fun z => absurd z (by omega), fun z => absurd z (by omega)⟩
          · show C.step + 1 = nI 1
            rw [k2, e1s]
          · show g_rem (nI f + bI ga) 26 = nI nb'
            rw [eg, b2]
          · show (C.lst lo).n = _
            rw [u7, k8]
          · rw [upd_at, e1s]
          · show upd _ _ _ _ = bI (C.lst lo).lost
            rw [upd_ne (by omega), upd_ne (by omega), symd_l, u9, hl0, ← hD1, upd_at]
            cases lo <;> rfl
          · have z2 : (C.lst lo).lost = false := z
            rw [u9, hl0, Bool.or_false] at z2
            refine ⟨?_, fun k hk => absurd hk ?_⟩
            · show upd _ _ _ _ = g_rem (nI f + bI ga) 26
              rw [upd_ne (by omega), upd_at, z2]; rfl
            · show ¬ k < (C.lst lo).n
              rw [u7, k8]; omega
    · have ns0 : ¬ nI s = 0 := nI_ne0 (by omega) (by omega)
      by_cases c1 : s ≤ M.many f
      · -- a letter
        have s1 : nI s ≤ nI (M.many f) := (nI_leI (by omega) (by omega)).mpr c1
        obtain ⟨sd, sd2, esd⟩ : ∃ sd : Nat, sd < 2 ∧ M.sender = nI sd := by
          rcases hM.2.2.2.2.1 with z | z
          · exact ⟨0, by omega, by rw [z, nI_0]⟩
          · exact ⟨1, by omega, by rw [z]; rfl⟩
        have e1sd : 1 - nI sd = nI (1 - sd) := by rw [show (1 : Int32) = nI 1 by decide, nI_sub (by omega)]
        have ei : (6 : Int32) + nI f * nI R.fsize + nI s - 1 = nI (6 + (f * R.fsize + s - 1)) := by
          rw [show (6 : Int32) = nI 6 by decide, nI_mul, nI_add, nI_add, show (1 : Int32) = nI 1 by decide, nI_sub (by omega)]; congr 1; omega
        have e8 : (8 : Int32) + nI s - 1 = nI (8 + (s - 1)) := by
          rw [show (8 : Int32) = nI 8 by decide, nI_add, show (1 : Int32) = nI 1 by decide, nI_sub (by omega)]; congr 1; omega
        have eL : D (112 + 102 * i + (6 + (f * R.fsize + s - 1))) = M.letters (f * R.fsize + s - 1) := hS.2.2.2.2.2.2.1 _ (by omega)
        obtain ⟨q, q1, q2⟩ := hM.2.2.2.2.2.2.2.2.2 (f * R.fsize + s - 1) (by omega)
        obtain ⟨p, p1, p2⟩ := keyAt_lOf (h.kp sd2) (nI R.time)
        obtain ⟨r, r1, r2⟩ := keyAt_lOf (h.kp (show 1 - sd < 2 by omega)) (nI R.time)
        have sy := symbol_d hx hc h.mi hC (g_rem (M.letters (f * R.fsize + s - 1) + (R.kp (nI sd)).keyAt (nI R.time)) 26)
        rw [n0, ← elo, ← ega] at sy
        generalize hD1 : symd D (cn b) lo ga = D1 at sy
        have D1o : ∀ j, (j < 3 ∨ 5 < j) → j ≠ 10 + 16 * cn b + 5 → D1 j = D j := fun j a1 a2 => by rw [← hD1]; exact symd_ne a1 a2
        have rK1 : relKp (R.kp (nI (1 - sd))) (42 + 17 * (1 - sd)) D1 := (h.kp (show 1 - sd < 2 by omega)).congr (fun j j1 j2 => D1o j (by omega) (by omega))
        refine ⟨upd (upd D1 (10 + 16 * cn b + (8 + (s - 1))) (g_rem (g_rem (g_rem (M.letters (f * R.fsize + s - 1) + (R.kp (nI sd)).keyAt (nI R.time)) 26 + howI lo ga) 26 + 26 - (R.kp (nI (1 - sd))).keyAt (nI R.time)) 26)) (10 + 16 * cn b + 4) (nI s + 1), ?_, ?_⟩
        · simp only [f_X8_step, dI hx, cond_true, chL3 hx hc, c3, chL4 hx hc, k9, lettersOf_d hx hi v3 hz hM hS (Nat.le_of_lt hfz), msL0 hx hi, Option.bind_some, e24, nca, if_false, ns0, s1, if_true, dG hx, dL8, hz, dL0, n0, ei, msLn hx hi (show 6 + (f * R.fsize + s - 1) < 102 by omega), eL, show D (112 + 102 * i + 0) = nI sd from hS.1.trans esd, keyOf_d hx sd2 (h.kp sd2), sy, e1sd, show D1 0 = nI R.time from (D1o 0 (by omega) (by omega)).trans n0, keyOf_d hx (show 1 - sd < 2 by omega) rK1, e8, chSn hx hc (show 8 + (s - 1) < 16 by omega), f_X8_step_b192, chS4 hx hc]
        · rw [mk_1 R b i lo ga efr ef31 ncc (by rw [hCe, k2]; exact ns0) (by rw [hCe, hMe, k2]; exact s1), hCe, hMe, e, hM.1, k2, nI_clamp (show s < 2 ^ 31 by omega), esd, e1sd, u5]
          have hn : (C.lst lo).n = s - 1 := by rw [u7, k8]; omega
          refine Rel_on h e (fun j j1 j2 j3 => by rw [upd_ne (by omega), upd_ne (by omega), D1o j (by omega) (by omega)]) (by rw [upd_ne (by omega), upd_ne (by omega), D1o 2 (by omega) (by omega)]) ?_ ?_ ?_ ?_ ?_ ?_ (fun l' a1 a2 a3 => by rw [hMe] at a3; exact a3) (by rw [hMe]) ?_ (by rw [hMe]) (fun g => by rw [hMe]) (fun g g1 g2 g3 => by rw [hMe] at g3; exact g3) (hdiff _ (by exact u4))
          · rw [upd_ne (by omega), upd_ne (by omega), ← hD1, symd_3, n3]
          · rw [upd_ne (by omega), upd_ne (by omega), ← hD1, symd_4, n4, lo1]
          · rw [upd_ne (by omega), upd_ne (by omega), ← hD1, symd_5, n5, ga1]
          · rw [upd_ne (by omega), upd_ne (by omega), D1o 6 (by omega) (by omega), n6]
          · refine ⟨?_, ?_, ?_, ?_, fun z => absurd (u4.symm.trans z) hi9⟩ <;> rw [upd_ne (by omega), upd_ne (by omega), D1o _ (by omega) (by omega)]
            · exact hC.1.trans u1.symm
            · exact hC.2.1.trans u2.symm
            · exact hC.2.2.1.trans u3.symm
            · exact hC.2.2.2.1.trans u4.symm
          · exact hS.congr h24 (fun j j1 j2 => by rw [upd_ne (by omega), upd_ne (by omega), D1o j (by omega) (by omega)])
          · refine Or.inr ⟨f, s + 1, nb, u4.trans k1, ?_, u6.trans k3, k4, by omega, k6, k7, ?_, ?_, fun _ => ?_, fun _ z => ?_, fun z => absurd z (by omega), fun z => absurd z (by omega)⟩
            · show C.step + 1 = nI (s + 1)
              rw [k2]; exact e1s
            · show (C.lst lo).n + 1 = _
              rw [hn]; omega
            · rw [upd_at, e1s]
            · show upd _ _ _ _ = bI (C.lst lo).lost
              rw [upd_ne (by omega), upd_ne (by omega), ← hD1, symd_l, u9, k10 (by omega)]
              cases lo <;> rfl
            · have z2 : (C.lst lo).lost = false := z
              rw [u9, Bool.or_eq_false_iff] at z2
              obtain ⟨y1, y2⟩ := k11 (by omega) z2.2
              refine ⟨?_, fun k hk => ?_⟩
              · show upd _ _ _ _ = (C.lst lo).number
                rw [upd_ne (by omega), upd_ne (by omega), D1o _ (by omega) (by omega), u6]; exact y1
              · have hk2 : k < (C.lst lo).n + 1 := hk
                rw [hn] at hk2
                show upd _ _ _ _ = rowSet 8 (C.lst lo).heard (nI (C.lst lo).n) _ k
                rw [hn, rowSet_in (show s - 1 < 8 by omega) (by decide), u8, upd_ne (by omega)]
                by_cases ck : k = s - 1
                · subst ck
                  rw [upd_at, upd_at, z2.1, q2, p2, r2]
                  obtain ⟨g, g1, g2⟩ := bI_nI ga
                  show g_rem (g_rem (g_rem (nI q + nI p) 26 + bI ga) 26 + 26 - nI r) 26 = flm (nI q + (nI p - nI r) + bI ga)
                  rw [g2]
                  exact (flm_eq q1 p1 r1 g1).symm
                · rw [upd_ne ck, upd_ne (by omega), D1o _ (by omega) (by omega)]
                  exact y2 k (by rw [k8]; omega)
      · -- the check symbol
        have es : s = M.many f + 1 := by omega
        have s1 : ¬ nI s ≤ nI (M.many f) := fun z => c1 ((nI_leI (by omega) (by omega)).mp z)
        have sy := symbol_d hx hc h.mi hC (M.check f)
        rw [n0, ← elo, ← ega] at sy
        generalize hD1 : symd D (cn b) lo ga = D1 at sy
        have D1o : ∀ j, (j < 3 ∨ 5 < j) → j ≠ 10 + 16 * cn b + 5 → D1 j = D j := fun j a1 a2 => by rw [← hD1]; exact symd_ne a1 a2
        have rS1 : relMs M (112 + 102 * i) D1 := hS.congr h24 (fun j j1 j2 => D1o j (by omega) (by omega))
        have hl5 : D1 (10 + 16 * cn b + 5) = bI (C.lst lo).lost := by
          rw [← hD1, symd_l, u9, k10 (by omega)]
          cases lo <;> rfl
        obtain ⟨D', j1, j2, j3, j4⟩ := judge_d hx hi hc v2 v3 (by rw [D1o 8 (by omega) (by omega)]; exact hz) hM rS1 k4 (C.lst lo) (g_rem (M.check f + howI lo ga) 26) (u6.trans k3) k6 hl5 (fun z => by
          rw [u9, Bool.or_eq_false_iff] at z
          obtain ⟨y1, y2⟩ := k11 (by omega) z.2
          refine ⟨by rw [D1o _ (by omega) (by omega), u6]; exact y1, fun k hk => ?_⟩
          rw [D1o _ (by omega) (by omega), u8]
          exact y2 k (by rw [k8]; omega))
        have ej : (C.lst lo).judge (M.many f) (g_rem (M.check f + howI lo ga) 26) = (C.lst lo).judge (M.many f) (g_rem (M.check f + bI ga) 26) := by
          cases lo with
          | false => rfl
          | true => rfl
        rw [ej] at j2 j3
        generalize hJ : (C.lst lo).judge (M.many f) (g_rem (M.check f + bI ga) 26) = J at j2 j3
        have J1 : J.power = C.power ∧ J.opening = C.opening ∧ J.closing = C.closing ∧ J.frame = C.frame ∧ J.number = C.number ∧ J.n = C.n ∧ J.heard = C.heard ∧ J.lost = (lo || C.lost) ∧ J.step = C.step := by
          rw [← hJ]
          exact ⟨u1, u2, u3, u4, u6, u7, u8, u9, u5⟩
        obtain ⟨J1, J2, J3, J4, J5, J6, J7, J8, J9⟩ := J1
        refine ⟨upd D' (10 + 16 * cn b + 4) (nI s + 1), ?_, ?_⟩
        · simp only [f_X8_step, dI hx, cond_true, chL3 hx hc, c3, chL4 hx hc, k9, lettersOf_d hx hi v3 hz hM hS (Nat.le_of_lt hfz), msL0 hx hi, Option.bind_some, e24, nca, if_false, ns0, s1, checkOf_d hx hi v2 v3 hz hM hS k4, sy, j1, f_X8_step_b192, chS4 hx hc]
        · rw [mk_2 R b i lo ga efr ef31 ncc (by rw [hCe, k2]; exact ns0) (by rw [hCe, hMe, k2]; exact s1), hCe, hMe, e, u6, k3, nI_clamp (show nb < 2 ^ 31 by omega), hJ, u5, k2]
          have hmsh : (if J.good then M.written nb (C.lst lo).heard (M.many f) else M).sh = M.sh := iteSh (written_sh _ _ _ _)
          refine Rel_on h e (fun j a1 a2 a3 => by rw [upd_ne (by omega), j4 j (by omega) (by omega), D1o j (by omega) (by omega)]) (by rw [upd_ne (by omega), j4 2 (by omega) (by omega), D1o 2 (by omega) (by omega)]) ?_ ?_ ?_ ?_ ?_ ?_ (fun l' a1 a2 a3 => ?_) ?_ ?_ ?_ ?_ (fun g g1 g2 g3 => ?_) (hdiff _ (by exact J4))
          · rw [upd_ne (by omega), j4 3 (by omega) (by omega), ← hD1, symd_3, n3]
          · rw [upd_ne (by omega), j4 4 (by omega) (by omega), ← hD1, symd_4, n4, lo1]
          · rw [upd_ne (by omega), j4 5 (by omega) (by omega), ← hD1, symd_5, n5, ga1]
          · rw [upd_ne (by omega), j4 6 (by omega) (by omega), D1o 6 (by omega) (by omega), n6]
          · refine ⟨?_, ?_, ?_, ?_, fun z => absurd (J4.symm.trans z) hi9⟩ <;> rw [upd_ne (by omega), j4 _ (by omega) (by omega), D1o _ (by omega) (by omega)]
            · exact hC.1.trans J1.symm
            · exact hC.2.1.trans J2.symm
            · exact hC.2.2.1.trans J3.symm
            · exact hC.2.2.2.1.trans J4.symm
          · refine j3.congr ?_ (fun j a1 a2 => upd_ne (by omega))
            have : (if J.good then M.written nb (C.lst lo).heard (M.many f) else M).len = M.len := congrArg (fun z => z.2.2) hmsh
            rw [this]; exact h24
          · rw [hMe] at a3
            split
            · exact written_inv a3 _ _ _
            · exact a3
          · rw [hMe]
            split
            · exact (written_same _ _ _ _).1
            · rfl
          · refine Or.inr ⟨f, s + 1, nb, J4.trans k1, ?_, J5.trans k3, ?_, ?_, k6, ?_, ?_, ?_, fun _ => ?_, fun _ z => ?_, fun _ => ?_, fun z => absurd z (by omega)⟩
            · show nI s + 1 = nI (s + 1)
              exact e1s
            · rw [sh_frames hmsh]; exact k4
            · rw [sh_many hmsh]; omega
            · split
              · rw [(written_same _ _ _ _).2]; exact k7
              · exact k7
            · show J.n = _
              rw [J6, k8, sh_many hmsh]; omega
            · rw [upd_at, e1s]
            · show upd _ _ _ _ = bI J.lost
              rw [upd_ne (by omega), j4 _ (by omega) (by omega), hl5, u9, J8]
            · have z2 : J.lost = false := z
              rw [J8, Bool.or_eq_false_iff] at z2
              obtain ⟨y1, y2⟩ := k11 (by omega) z2.2
              refine ⟨?_, fun k hk => ?_⟩
              · show upd _ _ _ _ = J.number
                rw [upd_ne (by omega), j4 _ (by omega) (by omega), D1o _ (by omega) (by omega), J5]; exact y1
              · have hk2 : k < J.n := hk
                rw [J6] at hk2
                show upd _ _ _ _ = J.heard k
                rw [upd_ne (by omega), j4 _ (by omega) (by rw [k8] at hk2; omega), D1o _ (by omega) (by rw [k8] at hk2; omega), J7]; exact y2 k hk2
            · show upd _ _ _ _ = bI J.good
              rw [upd_ne (by omega)]; exact j2
          · rw [hMe]; exact sh_frames hmsh
          · intro g; rw [hMe]; exact sh_many hmsh g
          · rw [hMe] at g3
            split
            · rw [(written_same _ _ _ _).2]; exact g3
            · exact g3
end REL7
