/-! the shapes of a channel's step -/
theorem bI_ite (b : Bool) (v : Int32) : v + bI b = if b then v + 1 else v := by
  cases b
  · simp only [bI_f, Int32.add_zero, Bool.false_eq_true, if_false]
  · simp only [bI_t, if_true]
theorem mk_ans (R : RW) (b : Bool) (m : Nat) (lo ga : Bool) {f : Nat} (ef : (R.ch b).frame = nI f) (f31 : f < 2 ^ 31) (c : nI ((R.ms m).many f) + 1 < (R.ch b).step) : (R.counted lo ga).madeStep b m lo ga = R.upd3 b m ((R.ch b).take (-1)) ((R.ms m).endTry f (!lo && ((R.ch b).good != ga)) R.limit).2 (R.sent + 1) (if lo then R.lost + 1 else R.lost) (if ga then R.garbled + 1 else R.garbled) (if ((R.ms m).endTry f (!lo && ((R.ch b).good != ga)) R.limit).1 then R.given + 1 else R.given) R.way := by
  have e : (R.ch b).frame.toNatClampNeg = f := by rw [ef]; exact nI_clamp f31
  subst e
  cases b
  · refine Eq.trans (if_pos c) ?_
    by_cases hy : ((R.ms m).endTry (R.ch false).frame.toNatClampNeg (!lo && ((R.ch false).good != ga)) R.limit).1 = true
    · rw [if_pos hy]
      refine Eq.trans (if_pos hy) ?_
      rfl
    · rw [if_neg hy]
      refine Eq.trans (if_neg hy) ?_
      rfl
  · refine Eq.trans (if_pos c) ?_
    by_cases hy : ((R.ms m).endTry (R.ch true).frame.toNatClampNeg (!lo && ((R.ch true).good != ga)) R.limit).1 = true
    · rw [if_pos hy]
      refine Eq.trans (if_pos hy) ?_
      rfl
    · rw [if_neg hy]
      refine Eq.trans (if_neg hy) ?_
      rfl
/-- a channel's state behind a lost or another symbol -/
def RCh.lst (C : RCh) (lo : Bool) : RCh := if lo then C.s_lost true else C
theorem updM_id (R : RW) (b : Bool) (m : Nat) (C : RCh) (s lo ga : Int32) : R.upd3 b m C (R.ms m) s lo ga R.given R.way = RW.mk R.time R.told R.way R.fsize R.limit s lo ga R.given R.no (if b then R.c0 else C) (if b then C else R.c1) R.k0 R.k1 R.mi R.ms := by
  unfold RW.upd3
  rw [updM_self]
theorem mk_0 (R : RW) (b : Bool) (m : Nat) (lo ga : Bool) {f : Nat} (ef : (R.ch b).frame = nI f) (f31 : f < 2 ^ 31) (c : ¬ nI ((R.ms m).many f) + 1 < (R.ch b).step) (c0 : (R.ch b).step = 0) : (R.counted lo ga).madeStep b m lo ga = R.upd3 b m ((((R.ch b).lst lo).s_number (g_rem (nI f + bI ga) 26)).s_step (((R.ch b).lst lo).step + 1)) (R.ms m) (R.sent + 1) (if lo then R.lost + 1 else R.lost) (if ga then R.garbled + 1 else R.garbled) R.given R.way := by
  have e : (R.ch b).frame.toNatClampNeg = f := by rw [ef]; exact nI_clamp f31
  subst e
  rw [updM_id]
  cases b
  · refine Eq.trans (if_neg c) ?_
    refine Eq.trans (if_pos c0) ?_
    cases lo <;> rfl
  · refine Eq.trans (if_neg c) ?_
    refine Eq.trans (if_pos c0) ?_
    cases lo <;> rfl
theorem mk_1 (R : RW) (b : Bool) (m : Nat) (lo ga : Bool) {f : Nat} (ef : (R.ch b).frame = nI f) (f31 : f < 2 ^ 31) (c : ¬ nI ((R.ms m).many f) + 1 < (R.ch b).step) (c0 : ¬ (R.ch b).step = 0) (c1 : (R.ch b).step ≤ nI ((R.ms m).many f)) : (R.counted lo ga).madeStep b m lo ga = R.upd3 b m ((((R.ch b).lst lo).hear (flm ((R.ms m).letters (f * (R.ms m).fsize + (R.ch b).step.toNatClampNeg - 1) + ((R.kp (R.ms m).sender).keyAt (nI R.time) - (R.kp (1 - (R.ms m).sender)).keyAt (nI R.time)) + bI ga))).s_step (((R.ch b).lst lo).step + 1)) (R.ms m) (R.sent + 1) (if lo then R.lost + 1 else R.lost) (if ga then R.garbled + 1 else R.garbled) R.given R.way := by
  have e : (R.ch b).frame.toNatClampNeg = f := by rw [ef]; exact nI_clamp f31
  subst e
  rw [updM_id]
  cases b
  · refine Eq.trans (if_neg c) ?_
    refine Eq.trans (if_neg c0) ?_
    refine Eq.trans (if_pos c1) ?_
    cases lo <;> rfl
  · refine Eq.trans (if_neg c) ?_
    refine Eq.trans (if_neg c0) ?_
    refine Eq.trans (if_pos c1) ?_
    cases lo <;> rfl
theorem mk_2 (R : RW) (b : Bool) (m : Nat) (lo ga : Bool) {f : Nat} (ef : (R.ch b).frame = nI f) (f31 : f < 2 ^ 31) (c : ¬ nI ((R.ms m).many f) + 1 < (R.ch b).step) (c0 : ¬ (R.ch b).step = 0) (c1 : ¬ (R.ch b).step ≤ nI ((R.ms m).many f)) : (R.counted lo ga).madeStep b m lo ga = R.upd3 b m ((((R.ch b).lst lo).judge ((R.ms m).many f) (g_rem ((R.ms m).check f + bI ga) 26)).s_step (((R.ch b).lst lo).step + 1)) (if (((R.ch b).lst lo).judge ((R.ms m).many f) (g_rem ((R.ms m).check f + bI ga) 26)).good then (R.ms m).written ((R.ch b).lst lo).number.toNatClampNeg ((R.ch b).lst lo).heard ((R.ms m).many f) else R.ms m) (R.sent + 1) (if lo then R.lost + 1 else R.lost) (if ga then R.garbled + 1 else R.garbled) R.given R.way := by
  have e : (R.ch b).frame.toNatClampNeg = f := by rw [ef]; exact nI_clamp f31
  subst e
  cases b
  · refine Eq.trans (if_neg c) ?_
    refine Eq.trans (if_neg c0) ?_
    refine Eq.trans (if_neg c1) ?_
    cases lo <;> rfl
  · refine Eq.trans (if_neg c) ?_
    refine Eq.trans (if_neg c0) ?_
    refine Eq.trans (if_neg c1) ?_
    cases lo <;> rfl
section REL6
variable {x : gH} {m : Nat}
/-! a frame is judged and written down -/
theorem up_id {β : Type} {g : Nat → β → β} : ∀ (d i : Nat) (v : β), (∀ j, i ≤ j → ∀ y, g j y = y) → up g d i v = v
  | 0, _, _, _ => rfl
  | d + 1, i, v, h => by
    rw [up, h i (Nat.le_refl _)]
    exact up_id d (i + 1) v (fun j hj => h j (by omega))
theorem write_l (hx : isM x m) {i c k9 n p : Nat} (hi : i < 8) (hc : c < 2) (hk9 : k9 ≤ 8) (hn : n ≤ 24) (hp : p ≤ 1000) (heard : Nat → Int32) : ∀ (d k fuel : Nat) (D : Nat → Int32) (L : Nat → Int32), k + d = k9 → d < fuel → D (112 + 102 * i + 2) = nI n → (∀ j, j < 24 → D (112 + 102 * i + (30 + j)) = L j) → (∀ j, j < k9 → D (10 + 16 * c + (8 + j)) = heard j) →
    ∃ D', f_X8_judge_b126 fuel (dP x m D) m (nI i) (nI c) (nI k9) (nI p) (nI k) = some (dP x m D') ∧ (∀ j, j < 24 → D' (112 + 102 * i + (30 + j)) = up (fun i L => if p + i < n ∧ L (p + i) = -1 then upd L (p + i) (heard i) else L) d k L j) ∧ (∀ j, j < 112 + 102 * i + 30 ∨ 112 + 102 * i + 54 ≤ j → D' j = D j) := by
  intro d
  induction d with
  | zero =>
    intro k fuel D L hk hf h2 hL hh
    obtain ⟨fu, rfl⟩ := Nat.exists_eq_succ_of_ne_zero (Nat.ne_of_gt hf)
    refine ⟨D, ?_, hL, fun j _ => rfl⟩
    simp only [f_X8_judge_b126, if_neg (nI_nlt (show k9 ≤ k by omega) (show k < 2 ^ 31 by omega))]
  | succ d ih =>
    intro k fuel D L hk hf h2 hL hh
    obtain ⟨fu, rfl⟩ := Nat.exists_eq_succ_of_ne_zero (Nat.ne_of_gt (Nat.zero_lt_of_lt hf))
    simp only [f_X8_judge_b126, if_pos (nI_lt (show k < k9 by omega) (show k9 < 2 ^ 31 by omega)), dI hx, cond_true, msL2 hx hi, Option.bind_some, h2, nI_add, nI_ltI (show p + k < 2 ^ 31 by omega) (show n < 2 ^ 31 by omega), f_X8_judge_b187, ← nI_succ, up]
    by_cases q : p + k < n
    · have e30 : (30 : Int32) + nI p + nI k = nI (30 + (p + k)) := by rw [show (30 : Int32) = nI 30 by decide, nI_add, nI_add]; congr 1; omega
      simp only [q, if_true, true_and, e30, msLn hx hi (show 30 + (p + k) < 102 by omega), hL (p + k) (by omega), Option.bind_some]
      by_cases q2 : L (p + k) = -1
      · simp only [q2, if_true, chL8 hx hc (show k < 8 by omega), hh k (by omega), Option.bind_some, msSn hx hi (show 30 + (p + k) < 102 by omega)]
        obtain ⟨D', e1, e2, e3⟩ := ih (k + 1) fu (upd D (112 + 102 * i + (30 + (p + k))) (heard k)) (upd L (p + k) (heard k)) (by omega) (by omega) (by rw [upd_ne (by omega)]; exact h2) (fun j hj => by
          by_cases cj : j = p + k
          · subst cj; rw [upd_at, upd_at]
          · rw [upd_ne (by omega), upd_ne cj]; exact hL j hj) (fun j hj => by rw [upd_ne (by omega)]; exact hh j hj)
        exact ⟨D', e1, e2, fun j hj => by rw [e3 j hj, upd_ne (by omega)]⟩
      · simp only [q2, if_false]
        exact ih (k + 1) fu D L (by omega) (by omega) h2 hL hh
    · simp only [q, if_false, false_and]
      refine ⟨D, rfl, fun j hj => ?_, fun j _ => rfl⟩
      rw [up_id d (k + 1) L (fun j hj y => by rw [if_neg (fun z => by omega)])]
      exact hL j hj
theorem judge_l (hx : isM x m) {D : Nat → Int32} {c k9 : Nat} (hc : c < 2) (hk9 : k9 ≤ 8) (mi chk nu : Int32) : ∀ (d k fuel : Nat) (v : Int32), k + d = k9 → d < fuel → f_X8_judge_b24 fuel (dP x m D) m mi (nI c) chk (nI k9) nu v (nI k) = (if D (10 + 16 * c + 5) = 0 ∧ g_rem (up (fun k s => s + D (10 + 16 * c + (8 + k))) d k v) 26 = chk then f_X8_judge_b76 (dP x m D) m mi (nI c) (nI k9) nu 1 else f_X8_judge_b76 (dP x m D) m mi (nI c) (nI k9) nu 0) := by
  intro d
  induction d with
  | zero =>
    intro k fuel v hk hf
    obtain ⟨fu, rfl⟩ := Nat.exists_eq_succ_of_ne_zero (Nat.ne_of_gt hf)
    simp only [f_X8_judge_b24, if_neg (nI_nlt (show k9 ≤ k by omega) (show k < 2 ^ 31 by omega)), dI hx, cond_true, chL5 hx hc, Option.bind_some, up, f_X8_judge_b75]
    by_cases q1 : D (10 + 16 * c + 5) = 0
    · by_cases q2 : g_rem v 26 = chk
      · simp only [q1, q2, if_true, and_self]
      · simp only [q1, q2, if_true, if_false, and_false]
    · simp only [q1, if_false, false_and]
  | succ d ih =>
    intro k fuel v hk hf
    obtain ⟨fu, rfl⟩ := Nat.exists_eq_succ_of_ne_zero (Nat.ne_of_gt (Nat.zero_lt_of_lt hf))
    simp only [f_X8_judge_b24, if_pos (nI_lt (show k < k9 by omega) (show k9 < 2 ^ 31 by omega)), dI hx, cond_true, chL8 hx hc (show k < 8 by omega), Option.bind_some, ← nI_succ, up]
    exact ih (k + 1) fu _ (by omega) (by omega)
theorem relMs.logs {M : RMs} {a : Nat} {D D' : Nat → Int32} {L : Nat → Int32} (h : relMs M a D) (h24 : M.len ≤ 24) (e1 : ∀ j, j < 24 → D' (a + (30 + j)) = L j) (e2 : ∀ j, a ≤ j → j < a + 102 → (j < a + 30 ∨ a + 54 ≤ j) → D' j = D j) : relMs (M.s_log L) a D' := by
  obtain ⟨h1, h2, h3, h4, h5, h6, h7, h8, h9, h10⟩ := h
  refine ⟨?_, ?_, ?_, ?_, ?_, ?_, fun k (hk : k < M.len) => ?_, e1, fun k hk => ?_, fun k hk => ?_⟩ <;> rw [e2 _ (by omega) (by omega) (by omega)]
  · exact h1
  · exact h2
  · exact h3
  · exact h4
  · exact h5
  · exact h6
  · exact h7 k hk
  · exact h9 k hk
  · exact h10 k hk
theorem judge_d (hx : isM x m) {D : Nat → Int32} {M : RMs} {i c z l f b : Nat} (hi : i < 8) (hc : c < 2) (h1 : 1 ≤ z) (h8 : z ≤ 8) (hz : D 8 = nI z) (hM : M.inv z l) (h : relMs M (112 + 102 * i) D) (hf : f < M.frames) (C : RCh) (chk : Int32) (eb : C.number = nI b) (hb : b < 26) (e5 : D (10 + 16 * c + 5) = bI C.lost) (e6 : C.lost = false → D (10 + 16 * c + 6) = C.number ∧ ∀ k, k < M.many f → D (10 + 16 * c + (8 + k)) = C.heard k) :
    ∃ D', f_X8_judge (dP x m D) m (nI i) (nI c) (nI f) chk = some (dP x m D') ∧ D' (10 + 16 * c + 7) = bI (C.judge (M.many f) chk).good ∧ relMs (if (C.judge (M.many f) chk).good then M.written b C.heard (M.many f) else M) (112 + 102 * i) D' ∧ (∀ j, j ≠ 10 + 16 * c + 7 → (j < 112 + 102 * i ∨ 214 + 102 * i ≤ j) → D' j = D j) := by
  have hfz := hM.fr' h1 hf
  have k8 := hM.many_le h8 f
  have h24 := hM.2.2.1
  have f24 := hM.fr24 h1
  have z10 : ((1 : Int32) = 0) = False := eq_false (by decide)
  have w0 : ∀ nu, f_X8_judge_b76 (dP x m D) m (nI i) (nI c) (nI (M.many f)) nu 0 = some (dP x m (upd D (10 + 16 * c + 7) 0)) := fun nu => by
    simp only [f_X8_judge_b76, f_X8_judge_b92, dI hx, cond_true, chS7 hx hc, Option.bind_some, if_true]
  have r0 : relMs M (112 + 102 * i) (upd D (10 + 16 * c + 7) 0) := h.congr h24 (fun j j1 j2 => upd_ne (by omega))
  have l0 : f_X8_judge_b24 g_N (dP x m D) m (nI i) (nI c) chk (nI (M.many f)) (D (10 + 16 * c + 6)) (D (10 + 16 * c + 6)) 0 = f_X8_judge_b24 g_N (dP x m D) m (nI i) (nI c) chk (nI (M.many f)) (D (10 + 16 * c + 6)) (D (10 + 16 * c + 6)) (nI 0) := by rw [nI_0]
  simp only [f_X8_judge, dI hx, cond_true, lettersOf_d hx hi h8 hz hM h (Nat.le_of_lt hfz), chL6 hx hc, Option.bind_some]
  rw [l0, judge_l hx hc k8 (nI i) chk (D (10 + 16 * c + 6)) (M.many f) 0 g_N (D (10 + 16 * c + 6)) (by omega) (by unfold g_N; omega), e5]
  unfold RCh.judge
  cases hl : C.lost with
  | true =>
    simp only [bI_t, z10, false_and, if_false, w0, RCh_s, Bool.not_true, Bool.false_and, bI_f, Bool.false_eq_true]
    exact ⟨_, rfl, upd_at _ _ _, r0, fun j j1 j2 => upd_ne j1⟩
  | false =>
    obtain ⟨q1, q2⟩ := e6 hl
    have eu : up (fun k s => s + D (10 + 16 * c + (8 + k))) (M.many f) 0 (D (10 + 16 * c + 6)) = up (fun i s => s + C.heard i) (M.many f) 0 C.number := by
      rw [q1]
      exact up_congr _ _ _ (fun j j1 j2 y => by rw [q2 j (by omega)])
    rw [eu]
    simp only [bI_f, true_and, RCh_s, Bool.not_false, Bool.true_and]
    by_cases g : g_rem (up (fun i s => s + C.heard i) (M.many f) 0 C.number) 26 = chk
    · simp only [g, if_true, decide_true, bI_t]
      have hd7 : ∀ j, j ≠ 10 + 16 * c + 7 → upd D (10 + 16 * c + 7) 1 j = D j := fun j hj => upd_ne hj
      have rr : relMs M (112 + 102 * i) (upd D (10 + 16 * c + 7) 1) := h.congr h24 (fun j j1 j2 => hd7 j (by omega))
      have hz7 : upd D (10 + 16 * c + 7) 1 8 = nI z := by rw [hd7 8 (by omega)]; exact hz
      simp only [f_X8_judge_b76, f_X8_judge_b92, dI hx, cond_true, chS7 hx hc, Option.bind_some, z10, if_false, frames_d hx hi h1 h8 hz7 hM rr, q1, eb, nI_leI (show M.frames < 2 ^ 31 by omega) (show b < 2 ^ 31 by omega), dG hx, dL8, hz7, nI_mul]
      by_cases g2 : M.frames ≤ b
      · simp only [g2, if_true, RMs.written]
        exact ⟨_, rfl, upd_at _ _ _, rr, fun j j1 j2 => hd7 j j1⟩
      · have hbz : b * z ≤ 26 * 8 := Nat.mul_le_mul (by omega) h8
        have l2 : f_X8_judge_b126 g_N (dP x m (upd D (10 + 16 * c + 7) 1)) m (nI i) (nI c) (nI (M.many f)) (nI (b * z)) 0 = f_X8_judge_b126 g_N (dP x m (upd D (10 + 16 * c + 7) 1)) m (nI i) (nI c) (nI (M.many f)) (nI (b * z)) (nI 0) := by rw [nI_0]
        obtain ⟨D', e1, e2, e3⟩ := write_l hx hi hc k8 h24 (show b * z ≤ 1000 by omega) C.heard (M.many f) 0 g_N (upd D (10 + 16 * c + 7) 1) M.log (by omega) (by unfold g_N; omega) rr.2.2.1 (fun j hj => rr.2.2.2.2.2.2.2.1 j hj) (fun j hj => by rw [hd7 _ (by omega)]; exact q2 j hj)
        simp only [g2, if_false, l2, e1, RMs.written]
        refine ⟨D', rfl, by rw [e3 _ (by omega)]; exact upd_at _ _ _, ?_, fun j j1 j2 => by rw [e3 j (by omega)]; exact hd7 j j1⟩
        rw [hM.1]
        exact rr.logs h24 e2 (fun j j1 j2 j3 => e3 j j3)
    · simp only [g, if_false, decide_false, Bool.false_eq_true, w0, bI_f]
      exact ⟨_, rfl, upd_at _ _ _, r0, fun j j1 j2 => upd_ne j1⟩
/-! the answer -/
theorem rest_d (hx : isM x m) {D : Nat → Int32} {c : Nat} (hc : c < 2) : f_X8_rest (dP x m D) m (nI c) = some (dP x m (upd (upd D (10 + 16 * c + 3) (-1)) (10 + 16 * c + 4) (-1))) := by
  simp only [f_X8_rest, dI hx, cond_true, chS3 hx hc, chS4 hx hc, Option.bind_some]
theorem b52_d (hx : isM x m) {D : Nat → Int32} {M : RMs} {i c z l f : Nat} {limit : Int32} (hi : i < 8) (hc : c < 2) (h1 : 1 ≤ z) (hM : M.inv z l) (hl : l ≤ 9) (h : relMs M (112 + 102 * i) D) (hf : f < M.frames) (hw : M.fst f = 1) (el : limit = nI l) (e9 : D 9 = limit) (yes : Bool) :
    ∃ D', f_X8_answer_b52 (dP x m D) m (nI i) (nI c) (nI f) (bI yes) = some (dP x m D') ∧ D' 6 = D 6 + bI (M.endTry f yes limit).1 ∧ D' (10 + 16 * c + 3) = -1 ∧ D' (10 + 16 * c + 4) = -1 ∧ relMs (M.endTry f yes limit).2 (112 + 102 * i) D' ∧ (∀ j, j ≠ 6 → j ≠ 10 + 16 * c + 3 → j ≠ 10 + 16 * c + 4 → (j < 112 + 102 * i ∨ 214 + 102 * i ≤ j) → D' j = D j) := by
  have h24 := hM.2.2.1
  have f24 := hM.fr24 h1
  have z10 : ((1 : Int32) = 0) = False := eq_false (by decide)
  obtain ⟨-, t, t1, t2, t3⟩ := hM.2.2.2.2.2.2.2.2.1 f hf
  have tl : t < l := t3 (by rw [hw]; decide)
  generalize hE : upd (upd D (10 + 16 * c + 3) (-1)) (10 + 16 * c + 4) (-1) = E
  have E3 : E (10 + 16 * c + 3) = -1 := by rw [← hE, upd_ne (by omega), upd_at]
  have E4 : E (10 + 16 * c + 4) = -1 := by rw [← hE, upd_at]
  have Eo : ∀ j, j ≠ 10 + 16 * c + 3 → j ≠ 10 + 16 * c + 4 → E j = D j := fun j a b => by rw [← hE, upd_ne b, upd_ne a]
  have rE : relMs M (112 + 102 * i) E := h.congr h24 (fun j j1 j2 => Eo j (by omega) (by omega))
  simp only [f_X8_answer_b52, dI hx, cond_true, rest_d hx hc, Option.bind_some, hE]
  cases yes with
  | true =>
    simp only [bI_t, z10, if_false, msS54 hx hi (show f < 24 by omega), Option.bind_some, RMs.endTry, if_true]
    refine ⟨_, rfl, ?_, ?_, ?_, rE.p54 h24 (show f < 24 by omega) 2, fun j a b d e => ?_⟩
    · rw [upd_ne (by omega), Eo 6 (by omega) (by omega)]; simp only [bI_f, Int32.add_zero]
    · rw [upd_ne (by omega)]; exact E3
    · rw [upd_ne (by omega)]; exact E4
    · rw [upd_ne (by omega)]; exact Eo j b d
  | false =>
    have et : E (112 + 102 * i + (78 + f)) = nI t := by rw [rE.2.2.2.2.2.2.2.2.2 f (by omega)]; exact t2
    have e1 : nI t + 1 = nI (t + 1) := (nI_succ t).symm
    generalize hF : upd E (112 + 102 * i + (78 + f)) (nI (t + 1)) = F
    have rF : relMs (M.s_tries (upd M.tries f (nI (t + 1)))) (112 + 102 * i) F := by rw [← hF]; exact rE.p78 h24 (by omega) _
    have F78 : F (112 + 102 * i + (78 + f)) = nI (t + 1) := by rw [← hF, upd_at]
    have Fo : ∀ j, (j < 112 + 102 * i ∨ 214 + 102 * i ≤ j) → F j = E j := fun j a => by rw [← hF, upd_ne (by omega)]
    have F9 : F 9 = nI l := by rw [Fo 9 (by omega), Eo 9 (by omega) (by omega), e9, el]
    simp only [bI_f, if_true, msL78 hx hi (show f < 24 by omega), et, e1, msS78 hx hi (show f < 24 by omega), Option.bind_some, hF, F78, dG hx, dL9, F9, nI_eq (show t + 1 < 2 ^ 31 by omega) (show l < 2 ^ 31 by omega), f_X8_answer_b119, f_X8_answer_b137, f_X8_answer_b158, dI hx, cond_true, msS54 hx hi (show f < 24 by omega), dL6, dS6, RMs.endTry, Bool.false_eq_true, if_false, t2, el, nI_ltI (show t + 1 < 2 ^ 31 by omega) (show l < 2 ^ 31 by omega)]
    by_cases g : t + 1 = l
    · have g2 : ¬ t + 1 < l := by omega
      simp only [g, if_true, z10, if_false, Nat.lt_irrefl]
      rw [g] at rF
      refine ⟨_, rfl, ?_, ?_, ?_, ?_, fun j a b d e => ?_⟩
      · rw [upd_at, upd_ne (by omega), Fo 6 (by omega), Eo 6 (by omega) (by omega)]; simp only [bI_t]
      · rw [upd_ne (by omega), upd_ne (by omega), Fo _ (by omega)]; exact E3
      · rw [upd_ne (by omega), upd_ne (by omega), Fo _ (by omega)]; exact E4
      · exact (rF.p54 h24 (show f < 24 by omega) 3).congr h24 (fun j j1 j2 => upd_ne (by omega))
      · rw [upd_ne a, upd_ne (by omega), Fo j e]; exact Eo j b d
    · have g2 : t + 1 < l := by omega
      simp only [g, g2, if_true, if_false]
      refine ⟨_, rfl, ?_, ?_, ?_, ?_, fun j a b d e => ?_⟩
      · rw [upd_at, upd_ne (by omega), Fo 6 (by omega), Eo 6 (by omega) (by omega)]; simp only [bI_f]
      · rw [upd_ne (by omega), upd_ne (by omega), Fo _ (by omega)]; exact E3
      · rw [upd_ne (by omega), upd_ne (by omega), Fo _ (by omega)]; exact E4
      · exact (rF.p54 h24 (show f < 24 by omega) 0).congr h24 (fun j j1 j2 => upd_ne (by omega))
      · rw [upd_ne a, upd_ne (by omega), Fo j e]; exact Eo j b d
theorem answer_d (hx : isM x m) {D : Nat → Int32} {M : RMs} {K : RMi} {C : RCh} {i c z l f : Nat} {limit : Int32} (hi : i < 8) (hc : c < 2) (h1 : 1 ≤ z) (hM : M.inv z l) (hl : l ≤ 9) (h : relMs M (112 + 102 * i) D) (hf : f < M.frames) (hw : M.fst f = 1) (el : limit = nI l) (e9 : D 9 = limit) (hK : relMi K D) (hC : relCh C (10 + 16 * c) D) (e7 : D (10 + 16 * c + 7) = bI C.good) {lo ga : Bool} (elo : lo = decide (C.power < K.levelAt (D 0))) (ega : ga = decide (K.levelAt (D 0) = C.power)) :
    ∃ D', f_X8_answer (dP x m D) m (nI i) (nI c) (nI f) = some (dP x m D') ∧ D' 3 = D 3 + 1 ∧ D' 4 = D 4 + bI lo ∧ D' 5 = D 5 + bI ga ∧ D' 6 = D 6 + bI (M.endTry f (!lo && (C.good != ga)) limit).1 ∧ D' (10 + 16 * c + 3) = -1 ∧ D' (10 + 16 * c + 4) = -1 ∧ relMs (M.endTry f (!lo && (C.good != ga)) limit).2 (112 + 102 * i) D' ∧ (∀ j, (j < 3 ∨ 6 < j) → j ≠ 10 + 16 * c + 3 → j ≠ 10 + 16 * c + 4 → (j < 112 + 102 * i ∨ 214 + 102 * i ≤ j) → D' j = D j) := by
  have h24 := hM.2.2.1
  have rA : relMs M (112 + 102 * i) (aird D lo ga) := h.congr h24 (fun j j1 j2 => aird_ne (by omega))
  obtain ⟨D', q1, q2, q3, q4, q5, q6⟩ := b52_d hx hi hc h1 hM hl rA hf hw el (by rw [aird_ne (by omega)]; exact e9) (!lo && (C.good != ga))
  refine ⟨D', ?_, ?_, ?_, ?_, ?_, q3, q4, q5, fun j a b d e => by rw [q6 j (by omega) b d e, aird_ne (by omega)]⟩
  · rw [← q1]
    simp only [f_X8_answer, dI hx, cond_true, air_d hx hc hK hC, Option.bind_some, ← elo, ← ega, howI, chL7 hx hc, f_X8_answer_b51, show aird D lo ga (10 + 16 * c + 7) = bI C.good from (aird_ne (by omega)).trans e7]
    have z10 : ((1 : Int32) = 0) = False := eq_false (by decide)
    have z01 : ((0 : Int32) = 1) = False := eq_false (by decide)
    have z20 : ((2 : Int32) = 0) = False := eq_false (by decide)
    have z21 : ((2 : Int32) = 1) = False := eq_false (by decide)
    cases lo <;> cases ga <;> cases C.good <;> simp only [bI_t, bI_f, z10, z01, z20, z21, if_true, if_false, Bool.false_eq_true, Bool.not_true, Bool.not_false, Bool.true_and, Bool.false_and, bne_self_eq_false, Bool.true_bne, Bool.false_bne, Bool.bne_true, Bool.bne_false]
  · rw [q6 3 (by omega) (by omega) (by omega) (by omega)]; exact aird_3 _ _
  · rw [q6 4 (by omega) (by omega) (by omega) (by omega)]; exact aird_4 _ _
  · rw [q6 5 (by omega) (by omega) (by omega) (by omega)]; exact aird_5 _ _
  · rw [q2, aird_ne (by omega)]
end REL6
