/-! what the ticks leave as it is; letters stay letters -/
def RW.same (R R' : RW) : Prop := R'.told = R.told ∧ R'.mi = R.mi ∧ R'.k0 = R.k0 ∧ R'.k1 = R.k1 ∧ ∀ i, (R'.ms i).sh = (R.ms i).sh ∧ (R'.ms i).letters = (R.ms i).letters
theorem RW.same.refl (R : RW) : R.same R := ⟨rfl, rfl, rfl, rfl, fun _ => ⟨rfl, rfl⟩⟩
theorem RW.same.trans {R R1 R2 : RW} (h1 : R.same R1) (h2 : R1.same R2) : R.same R2 := ⟨h2.1.trans h1.1, h2.2.1.trans h1.2.1, h2.2.2.1.trans h1.2.2.1, h2.2.2.2.1.trans h1.2.2.2.1, fun i => ⟨(h2.2.2.2.2 i).1.trans (h1.2.2.2.2 i).1, (h2.2.2.2.2 i).2.trans (h1.2.2.2.2 i).2⟩⟩
theorem RW.same.kp {R R' : RW} (h : R.same R') (s : Int32) : R'.kp s = R.kp s := by
  unfold RW.kp
  rw [h.2.2.1, h.2.2.2.1]
theorem RW.same.len {R R' : RW} (h : R.same R') (i : Nat) : (R'.ms i).len = (R.ms i).len := congrArg (fun p : Nat × Nat × Nat => p.2.2) (h.2.2.2.2 i).1
theorem RW.same.frames {R R' : RW} (h : R.same R') (i : Nat) : (R'.ms i).frames = (R.ms i).frames := congrArg (fun p : Nat × Nat × Nat => p.1) (h.2.2.2.2 i).1
theorem lnK.same {h : gH} {S : RS} {R R' : RW} (K : lnK h S R) (e : R.same R') : lnK h S R' := by
  obtain ⟨k1, k2, k3, ⟨nk, rw', st, tk, ky, a1, a2, a3, a4⟩, rm, b1, b2⟩ := K
  refine ⟨k1, by rw [e.1]; exact k2, fun i hi => ?_, ⟨nk, rw', st, tk, ky, a1, a2, a3, ?_⟩, rm, ?_, ?_⟩
  · rw [e.1] at hi
    obtain ⟨t1, t2, t3, t4⟩ := k3 i hi
    refine ⟨by rw [e.len]; exact t1, by rw [e.frames]; exact t2, t3, ?_⟩
    rw [(e.2.2.2.2 i).2]
    exact t4
  · unfold kpR
    simp only [e.kp]
    exact a4
  · rw [e.2.1]; exact b1
  · rw [e.2.1]; exact b2
theorem upd3_same {R : RW} {b : Bool} {m : Nat} {C : RCh} {M : RMs} {s lo ga gv : Int32} {w : Option Nat} (h1 : M.sh = (R.ms m).sh) (h2 : M.letters = (R.ms m).letters) : R.same (R.upd3 b m C M s lo ga gv w) := ⟨rfl, rfl, rfl, rfl, fun i => by
  by_cases c : i = m
  · subst c; rw [upd3_ms]; exact ⟨h1, h2⟩
  · rw [upd3_mo _ _ _ _ _ _ _ _ _ c]; exact ⟨rfl, rfl⟩⟩
theorem upd3_lgs {R : RW} {b : Bool} {m : Nat} {C : RCh} {M : RMs} {s lo ga gv : Int32} {w : Option Nat} (h : R.lgs) (h1 : M.sh = (R.ms m).sh) (hl : m < R.told → ∀ k, k < (R.ms m).len → M.log k = -1 ∨ lOf (M.log k)) (hc : ∀ k, k < C.n → lOf (C.heard k)) (ho : C.opening = (R.ch b).opening) (hcl : C.closing = (R.ch b).closing) : (R.upd3 b m C M s lo ga gv w).lgs := by
  refine ⟨fun i hi k hk => ?_, fun c k hk => ?_, fun c => ?_⟩
  · have hi2 : i < R.told := hi
    by_cases c : i = m
    · subst c
      rw [upd3_ms] at hk ⊢
      have e : M.len = (R.ms i).len := congrArg (fun p : Nat × Nat × Nat => p.2.2) h1
      exact hl hi2 k (by rw [← e]; exact hk)
    · rw [upd3_mo _ _ _ _ _ _ _ _ _ c] at hk ⊢
      exact h.1 i hi2 k hk
  · revert c k
    refine all_b b (fun k hk => ?_) (fun k hk => ?_)
    · rw [upd3_ch] at hk ⊢; exact hc k hk
    · rw [upd3_co] at hk ⊢; exact h.2.1 (!b) k hk
  · revert c
    refine all_b b ?_ ?_
    · rw [upd3_ch, ho, hcl]; exact h.2.2 b
    · rw [upd3_co]; exact h.2.2 (!b)
theorem endTry_log (M : RMs) (f : Nat) (yes : Bool) (limit : Int32) : (M.endTry f yes limit).2.log = M.log ∧ (M.endTry f yes limit).2.letters = M.letters := by
  unfold RMs.endTry
  split
  · exact ⟨rfl, rfl⟩
  · split <;> exact ⟨rfl, rfl⟩
theorem written_let (M : RMs) (b : Nat) (g : Nat → Int32) (k : Nat) : (M.written b g k).letters = M.letters := by
  unfold RMs.written
  split <;> rfl
theorem wrt_lgs {z b len mf : Nat} {heard : Nat → Int32} (hh : ∀ j, j < mf → lOf (heard j)) : ∀ (d k : Nat) (Lg : Nat → Int32), k + d ≤ mf → (∀ j, j < len → Lg j = -1 ∨ lOf (Lg j)) → ∀ j, j < len → up (wrt z b len heard) d k Lg j = -1 ∨ lOf (up (wrt z b len heard) d k Lg j)
  | 0, _, _, _, h => h
  | d + 1, k, Lg, hk, h => by
    rw [up]
    refine wrt_lgs hh d (k + 1) _ (by omega) (fun j hj => ?_)
    unfold wrt
    split
    · by_cases c : j = b * z + k
      · subst c; rw [upd_at]; exact Or.inr (hh k (by omega))
      · rw [upd_ne c]; exact h j hj
    · exact h j hj
theorem written_lgs {M : RMs} {b mf : Nat} {heard : Nat → Int32} (hh : ∀ j, j < mf → lOf (heard j)) (h : ∀ j, j < M.len → M.log j = -1 ∨ lOf (M.log j)) : ∀ j, j < M.len → (M.written b heard mf).log j = -1 ∨ lOf ((M.written b heard mf).log j) := by
  unfold RMs.written
  split
  · exact h
  · exact wrt_lgs hh mf 0 M.log (by omega) h
theorem flm_lOf {a p q : Int32} (ha : lOf a) (hp : lOf p) (hq : lOf q) (ga : Bool) : lOf (flm (a + (p - q) + bI ga)) := by
  obtain ⟨a, a1, rfl⟩ := ha
  obtain ⟨p, p1, rfl⟩ := hp
  obtain ⟨q, q1, rfl⟩ := hq
  obtain ⟨g, g1, g2⟩ := bI_nI ga
  rw [g2, flm_eq a1 p1 q1 g1, nI_add, rem_nI _ (by omega), nI_add, rem_nI _ (by omega), show (26 : Int32) = nI 26 by decide, nI_add, nI_sub (by omega), show nI 26 = (26 : Int32) by decide, rem_nI _ (by omega)]
  exact ⟨_, Nat.mod_lt _ (by decide), rfl⟩
theorem step_keep {R : RW} {D : Nat → Int32} (h : Rel R D) (lg : R.lgs) {i : Nat} (e : R.way = some i) (b : Bool) (hi9 : (R.ch b).frame ≠ -1) (lo ga : Bool) : ((R.counted lo ga).madeStep b i lo ga).lgs ∧ R.same ((R.counted lo ga).madeStep b i lo ga) := by
  obtain ⟨v1, v2, v3, ⟨l, l1, l2, l3, l4⟩, v5, v6⟩ := h.inv
  have hit := v5 i e
  have hM := l4 i hit
  have h24 := hM.2.2.1
  have f24 := hM.fr24 v2
  obtain ⟨f, s, nb, k1, k2, k3, k4, k5, k6, k7, k8, k9, k10, k11, k12, k13⟩ := ((h.way.2 i e).1 b).resolve_left hi9
  have m8 := hM.many_le v3 f
  have hfz := hM.fr' v2 k4
  have mz : f * R.fsize + (R.ms i).many f ≤ (R.ms i).len := by have := hM.1; unfold RMs.many; rw [this]; omega
  have cc : (nI ((R.ms i).many f) + 1 < (R.ch b).step) ↔ (R.ms i).many f + 1 < s := by
    rw [k2, ← nI_succ]
    exact nI_ltI (by omega) (by omega)
  obtain ⟨u1, u2, u3, u4, u5, u6, u7, u8, u9⟩ := lst_f (R.ch b) lo
  have lgi : i < R.told → ∀ k, k < (R.ms i).len → (R.ms i).log k = -1 ∨ lOf ((R.ms i).log k) := fun hi => lg.1 i hi
  have hh : ∀ k, k < ((R.ch b).lst lo).n → lOf (((R.ch b).lst lo).heard k) := fun k hk => by rw [u7] at hk; rw [u8]; exact lg.2.1 b k hk
  by_cases ca : s = (R.ms i).many f + 2
  · rw [mk_ans R b i lo ga k1 (by omega) (cc.mpr (by omega))]
    have q := endTry_log (R.ms i) f (!lo && ((R.ch b).good != ga)) R.limit
    exact ⟨upd3_lgs lg (endTry_sh _ _ _ _) (fun hi k hk => by rw [q.1]; exact lgi hi k hk) (fun k hk => absurd hk (Nat.not_lt_zero _)) rfl rfl, upd3_same (endTry_sh _ _ _ _) q.2⟩
  · have ncc : ¬ (nI ((R.ms i).many f) + 1 < (R.ch b).step) := fun z => by have := cc.mp z; omega
    by_cases c0 : s = 0
    · rw [mk_0 R b i lo ga k1 (by omega) ncc (by rw [k2, c0, nI_0])]
      exact ⟨upd3_lgs lg rfl lgi hh u2 u3, upd3_same rfl rfl⟩
    · have ns0 : ¬ (R.ch b).step = 0 := by rw [k2]; exact nI_ne0 (by omega) (by omega)
      by_cases c1 : s ≤ (R.ms i).many f
      · have s1 : (R.ch b).step ≤ nI ((R.ms i).many f) := by rw [k2]; exact (nI_leI (by omega) (by omega)).mpr c1
        rw [mk_1 R b i lo ga k1 (by omega) ncc ns0 s1]
        refine ⟨upd3_lgs lg rfl lgi (fun k hk => ?_) u2 u3, upd3_same rfl rfl⟩
        have hn : ((R.ch b).lst lo).n = s - 1 := by rw [u7, k8]; omega
        have hk2 : k < ((R.ch b).lst lo).n + 1 := hk
        rw [hn] at hk2
        show lOf (rowSet 8 ((R.ch b).lst lo).heard (nI ((R.ch b).lst lo).n) _ k)
        rw [hn, rowSet_in (show s - 1 < 8 by omega) (by decide)]
        by_cases ck : k = s - 1
        · subst ck
          rw [upd_at]
          obtain ⟨sd, sd2, esd⟩ : ∃ sd : Nat, sd < 2 ∧ (R.ms i).sender = nI sd := by
            rcases hM.2.2.2.2.1 with z | z
            · exact ⟨0, by omega, by rw [z, nI_0]⟩
            · exact ⟨1, by omega, by rw [z]; rfl⟩
          have e1sd : 1 - nI sd = nI (1 - sd) := by rw [show (1 : Int32) = nI 1 by decide, nI_sub (by omega)]
          rw [esd, e1sd]
          refine flm_lOf ?_ (keyAt_lOf (h.kp sd2) (nI R.time)) (keyAt_lOf (h.kp (show 1 - sd < 2 by omega)) (nI R.time)) ga
          rw [hM.1, k2, nI_clamp (show s < 2 ^ 31 by omega)]
          exact hM.2.2.2.2.2.2.2.2.2 _ (by omega)
        · rw [upd_ne ck]
          exact hh k (by rw [hn]; omega)
      · have s1 : ¬ (R.ch b).step ≤ nI ((R.ms i).many f) := by rw [k2]; exact fun z => c1 ((nI_leI (by omega) (by omega)).mp z)
        rw [mk_2 R b i lo ga k1 (by omega) ncc ns0 s1]
        have hm : ((R.ch b).lst lo).n = (R.ms i).many f := by rw [u7, k8]; omega
        have sh : ∀ {c : Prop} [Decidable c] (n : Nat), (if c then (R.ms i).written n ((R.ch b).lst lo).heard ((R.ms i).many f) else R.ms i).sh = (R.ms i).sh := fun n => iteSh (written_sh _ _ _ _)
        refine ⟨upd3_lgs lg (sh _) (fun hi k hk => ?_) hh u2 u3, upd3_same (sh _) ?_⟩
        · split
          · exact written_lgs (fun j hj => hh j (by rw [hm]; exact hj)) (lgi hi) k hk
          · exact lgi hi k hk
        · split
          · exact written_let _ _ _ _
          · rfl
theorem took_keep {R : RW} (lg : R.lgs) (b : Bool) (m : Nat) : (R.took b m).lgs ∧ R.same (R.took b m) := by
  unfold RW.took
  split
  · rw [setChMs]
    have q : (R.ms m).takeOpen.2.log = (R.ms m).log ∧ (R.ms m).takeOpen.2.letters = (R.ms m).letters := by
      unfold RMs.takeOpen
      cases (R.ms m).openFrame <;> exact ⟨rfl, rfl⟩
    exact ⟨upd3_lgs lg (takeOpen_sh _) (fun hi k hk => by rw [q.1]; exact lg.1 m hi k hk) (fun k hk => absurd hk (Nat.not_lt_zero _)) rfl rfl, upd3_same (takeOpen_sh _) q.2⟩
  · exact ⟨lg, RW.same.refl R⟩
theorem fin_keep {R : RW} (lg : R.lgs) (m : Nat) : (R.fin m).lgs ∧ R.same (R.fin m) := by
  unfold RW.fin
  split
  · have e : RW.mk R.time R.told none R.fsize R.limit R.sent R.lost R.garbled R.given R.no R.c0 R.c1 R.k0 R.k1 R.mi (updM R.ms m (((R.ms m).s_phase 2).s_ended (nI R.time))) = R.upd3 false m R.c0 (((R.ms m).s_phase 2).s_ended (nI R.time)) R.sent R.lost R.garbled R.given none := rfl
    rw [e]
    exact ⟨upd3_lgs lg rfl (fun hi k hk => lg.1 m hi k hk) (fun k hk => lg.2.1 false k hk) rfl rfl, upd3_same rfl rfl⟩
  · exact ⟨lg, RW.same.refl R⟩
theorem start_keep {R : RW} (lg : R.lgs) : R.start.lgs ∧ R.same R.start := by
  unfold RW.start
  cases R.servedAs 0 with
  | none =>
    dsimp only
    exact ⟨⟨lg.1, fun b k hk => lg.2.1 b k (by cases b <;> exact hk), fun b => by have := lg.2.2 b; cases b <;> exact this⟩, rfl, rfl, rfl, rfl, fun _ => ⟨rfl, rfl⟩⟩
  | some m =>
    dsimp only
    have e : RW.mk R.time R.told (some m) R.fsize R.limit R.sent R.lost R.garbled R.given R.no R.c0 R.c1 R.k0 R.k1 R.mi (updM R.ms m (((R.ms m).s_phase 1).s_began (nI R.time))) = R.upd3 false m R.c0 (((R.ms m).s_phase 1).s_began (nI R.time)) R.sent R.lost R.garbled R.given (some m) := rfl
    rw [e]
    exact ⟨upd3_lgs lg rfl (fun hi k hk => lg.1 m hi k hk) (fun k hk => lg.2.1 false k hk) rfl rfl, upd3_same rfl rfl⟩
theorem timed_keep {R : RW} (lg : R.lgs) (t : Nat) : (R.s_time t).lgs ∧ R.same (R.s_time t) :=
  ⟨⟨lg.1, fun b k hk => by cases b; exact lg.2.1 false k hk; exact lg.2.1 true k hk, fun b => by cases b; exact lg.2.2 false; exact lg.2.2 true⟩, rfl, rfl, rfl, rfl, fun _ => ⟨rfl, rfl⟩⟩
theorem lnR.next {h : gH} {S : RS} {D D' : Nat → Int32} {R R' : RW} (L : lnR h S D R) (r : Rel R' D') (k : R'.lgs ∧ R.same R') : lnR h S D' R' := ⟨by rw [k.2.1]; exact L.1, L.2.1.same k.2, r, k.1⟩
