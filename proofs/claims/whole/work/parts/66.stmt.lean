/-! statements, on both sides -/
/-- the reference's state when all is well so far: what the class's reader S and world W say -/
def gd (R0 : RMo) (N P : Nat) (S : RRd) (W : RW) (X : RMo) : Prop := S.len = N ∧ P ≤ S.pos ∧ S.pos ≤ N ∧ (∃ k : Nat, k < 4 ∧ S.told = nI k) ∧ (∃ ns D, X = sS R0 N (nI S.pos) 0 (-1) ns S.told D ∧ Rel W D) ∧ W.live ∧ W.time = 0
/-- and when an error is found -/
def bd (R0 : RMo) (N : Nat) (S : RRd) (X : RMo) : Prop := S.code ≠ 0 ∧ ∃ p ns tc D, X = sS R0 N p S.code S.err ns tc D
def oc (R0 : RMo) (N P : Nat) (y : Bool × RRd × RW) (X : RMo) : Prop := (y.1 = true → gd R0 N P y.2.1 y.2.2 X) ∧ (y.1 = false → bd R0 N y.2.1 X)
section STMT
variable {x : gH} {m : Nat} {R0 : RMo} {N : Nat} {T : Nat → Int32} {p e o ns tc : Int32} {D : Nat → Int32}
theorem oc_t {R0 : RMo} {N P : Nat} {S : RRd} {W : RW} {X : RMo} (h : gd R0 N P S W X) : oc R0 N P (true, S, W) X := ⟨fun _ => h, fun z => nomatch z⟩
theorem oc_f {R0 : RMo} {N P : Nat} {S : RRd} {W : RW} {X : RMo} (h : bd R0 N S X) : oc R0 N P (false, S, W) X := ⟨(fun z => nomatch z), fun _ => h⟩
theorem num_e {lo hi : Int32} {l u : Nat} (el : lo = nI l) (eu : hi = nI u) (hN : N ≤ 500) (hB : ∀ i, i < N → relB (R0.buf i) (T i)) (hl : l ≤ 9999) (hu : u ≤ 9999) {R : RRd} (hR : R.len = N) (hp : R.pos ≤ N) (x : gH) (m : Nat) (o ns tc : Int32) (D : Nat → Int32) :
    ((R.num T lo hi).1 ≠ -1 ∧ (∃ v : Nat, l ≤ v ∧ v ≤ u ∧ (R.num T lo hi).1 = nI v) ∧ (R.num T lo hi).2.told = R.told ∧ (R.num T lo hi).2.len = N ∧ R.pos ≤ (R.num T lo hi).2.pos ∧ (R.num T lo hi).2.pos ≤ N ∧ f_X8_number (mP x m (sS R0 N (nI R.pos) 0 o ns tc D)) m lo hi = some ((R.num T lo hi).1, mP x m (sS R0 N (nI (R.num T lo hi).2.pos) 0 o (nI (R.num T lo hi).2.tok) tc D))) ∨
    ((R.num T lo hi).1 = -1 ∧ (R.num T lo hi).2.code ≠ 0 ∧ ∃ q ns', f_X8_number (mP x m (sS R0 N (nI R.pos) 0 o ns tc D)) m lo hi = some (0, mP x m (sS R0 N q (R.num T lo hi).2.code (R.num T lo hi).2.err ns' tc D))) := by
  subst el
  subst eu
  exact num_0 hN hB hl hu hR hp
theorem sW {i : Nat} {j : Int32} (ej : j = nI i) (hi : i < 928) (v : Int32) : g_ast (mP x m (sS R0 N p e o ns tc D)) (m + 3) j v = some (mP x m (sS R0 N p e o ns tc (upd D i v))) := s_row (f := fun h p => g_ast h p j v) (rSe ej hi v)
theorem sL {i : Nat} {j : Int32} (ej : j = nI i) (hi : i < 928) : g_ald (mP x m (sS R0 N p e o ns tc D)) (m + 3) j = some (D i) := s_rowV (f := fun h p => g_ald h p j) (rLe ej hi)
theorem semi_0 (hN : N ≤ 500) (hB : ∀ i, i < N → relB (R0.buf i) (T i)) {P : Nat} {y : Bool × RRd × RW} {X : RMo} (h : oc R0 N P y X) (x : gH) (m : Nat) : ∃ X', f_X8_statement_b83 (mP x m X) m = some (mP x m X') ∧ f_X8_expect (mP x m X) m 59 = some (mP x m X') ∧ oc R0 N (P + 1) (thenSemi T y) X' := by
  obtain ⟨b, S, W⟩ := y
  cases b with
  | false =>
    obtain ⟨h1, p, ns, tc, D, rfl⟩ := h.2 rfl
    have e1 := exp_1 (x := x) (m := m) (R0 := R0) (N := N) (p := p) (o := S.err) (ns := ns) (tc := tc) (D := D) h1 59
    refine ⟨_, ?_, e1, oc_f ⟨h1, p, ns, tc, D, rfl⟩⟩
    simp only [f_X8_statement_b83, sI, cond_true, e1, Option.bind_some]
  | true =>
    obtain ⟨h1, h2, h3, h4, ⟨ns, D, rfl, h5⟩, h6, h7⟩ := h.1 rfl
    dsimp only at h1 h2 h3 h4 h5 h6 h7
    subst h1
    have e0 := exp_0 (x := x) (m := m) (o := -1) (ns := ns) (tc := S.told) (D := D) hN hB h3
    have sp := spc_le (T := T) h3
    unfold thenSemi
    rw [if_pos rfl]
    unfold RRd.semi
    dsimp only
    by_cases c : spc T S.len S.pos < S.len ∧ T (spc T S.len S.pos) = 59
    · have c' : (S.found T).pos < S.len ∧ T (S.found T).pos = 59 := c
      rw [if_pos c] at e0
      rw [if_pos c']
      refine ⟨_, ?_, e0, oc_t ⟨rfl, ?_, ?_, h4, ⟨ns, D, rfl, h5⟩, h6, h7⟩⟩
      · simp only [f_X8_statement_b83, sI, cond_true, e0, Option.bind_some]
      · show P + 1 ≤ spc T S.len S.pos + 1
        omega
      · show spc T S.len S.pos + 1 ≤ S.len
        omega
    · have c' : ¬ ((S.found T).pos < S.len ∧ T (S.found T).pos = 59) := c
      rw [if_neg c] at e0
      rw [if_neg c']
      refine ⟨_, ?_, e0, oc_f ⟨?_, _, _, _, _, rfl⟩⟩
      · simp only [f_X8_statement_b83, sI, cond_true, e0, Option.bind_some]
      · show (-2 : Int32) ≠ 0
        decide
/-! channel -/
theorem tcb : ∀ k, k < 4 → ∀ v, v < 2 → (((((nI k) >>> (nI v &&& 31)) &&& 1) = 1 ↔ ¬ ((nI k &&& (1 <<< (nI v &&& 31))) = 0)) ∧ ∃ k', k' < 4 ∧ (nI k ||| (1 <<< (nI v &&& 31))) = nI k') := by decide +kernel
theorem b36_1 (he : ¬ e = 0) (v : Int32) : f_X8_readChannel_b36 (mP x m (sS R0 N p e o ns tc D)) m v = some (mP x m (sS R0 N p e o ns tc D)) := by
  simp only [f_X8_readChannel_b36, sI, cond_true, num_1 he, Option.bind_some, good_1 he, if_true]
theorem setCh_2 (W : RW) (b : Bool) (C C' : RCh) : (W.setCh b C).setCh b C' = W.setCh b C' := by cases b <;> rfl
theorem ch_0 (hN : N ≤ 500) (hB : ∀ i, i < N → relB (R0.buf i) (T i)) {R : RRd} (hR : R.len = N) (hp : R.pos ≤ N) {W : RW} (hk : ∃ k : Nat, k < 4 ∧ R.told = nI k) (hr : Rel W D) (hl : W.live) (ht : W.time = 0) : ∃ X, f_X8_readChannel (mP x m (sS R0 N (nI R.pos) 0 (-1) ns R.told D)) m = some (mP x m X) ∧ oc R0 N R.pos (readChannel T R W) X := by
  have n1 := num_e (lo := 0) (hi := 1) (l := 0) (u := 1) (by decide) (by decide) hN hB (by decide) (by decide) hR hp x m (-1) ns R.told D
  unfold readChannel
  dsimp only
  generalize R.num T 0 1 = y at n1 ⊢
  rcases n1 with ⟨y1, ⟨v, -, hv, yv⟩, yt, yl, yp, yq, f1⟩ | ⟨y1, y2, q, ns', f1⟩
  · rw [if_neg y1]
    obtain ⟨k, hk4, ek⟩ := hk
    obtain ⟨t1, k', k4', ek'⟩ := tcb k hk4 v (by omega)
    obtain ⟨b, hb⟩ := nI_cn (nI v) ⟨by rw [show (0 : Int32) = nI 0 by decide]; exact (nI_leI (by decide) (by omega)).mpr (Nat.zero_le _), by rw [show (1 : Int32) = nI 1 by decide]; exact (nI_leI (by omega) (by decide)).mpr hv⟩
    have bd' : decide (y.1 ≠ 0) = b := by
      rw [yv, hb]
      cases b <;> decide
    by_cases c : (y.2.told &&& (1 <<< (y.1 &&& 31))) = 0
    · rw [if_pos c]
      have c8 : ¬ ((R.told >>> (y.1 &&& 31)) &&& 1) = 1 := by
        rw [ek, yv, t1, ← ek, ← yt, ← yv]
        exact fun z => z c
      have pre : f_X8_readChannel (mP x m (sS R0 N (nI R.pos) 0 (-1) ns R.told D)) m = f_X8_readChannel_b36 (mP x m (sS R0 N (nI y.2.pos) 0 (-1) (nI y.2.tok) R.told D)) m y.1 := by
        simp only [f_X8_readChannel, sI, cond_true, f1, Option.bind_some, good_0, z10', if_false, sG_tc, c8]
      rw [pre]
      have told' : (y.2.told ||| (1 <<< (y.1 &&& 31))) = nI k' := by rw [yt, ek, yv]; exact ek'
      generalize hR1 : RRd.mk y.2.text y.2.len y.2.pos y.2.tok (y.2.told ||| (1 <<< (y.1 &&& 31))) y.2.code y.2.err = R1
      have r1l : R1.len = N := by rw [← hR1]; exact yl
      have r1p : R1.pos = y.2.pos := by rw [← hR1]; rfl
      have r1t : R1.told = nI k' := by rw [← hR1]; exact told'
      have n2 := num_e (lo := 0) (hi := 9) (l := 0) (u := 9) (by decide) (by decide) hN hB (by decide) (by decide) r1l (by rw [r1p]; exact yq) x m (-1) (nI y.2.tok) R.told D
      rw [r1p] at n2
      generalize R1.num T 0 9 = z at n2 ⊢
      rcases n2 with ⟨z1, ⟨w, -, -, -⟩, zt, zl, zp, zq, f2⟩ | ⟨z1, z2, q, ns', f2⟩
      · rw [if_neg z1]
        have n3 := num_e (lo := 0) (hi := 23) (l := 0) (u := 23) (by decide) (by decide) hN hB (by decide) (by decide) zl zq x m (-1) (nI z.2.tok) R.told D
        generalize z.2.num T 0 23 = u at n3 ⊢
        rcases n3 with ⟨u1, -, ut, ul, up', uq, f3⟩ | ⟨u1, u2, q, ns', f3⟩
        · rw [if_neg u1]
          have n4 := num_e (lo := 0) (hi := 23) (l := 0) (u := 23) (by decide) (by decide) hN hB (by decide) (by decide) ul uq x m (-1) (nI u.2.tok) R.told D
          generalize u.2.num T 0 23 = r at n4 ⊢
          rcases n4 with ⟨r1, -, rt, rl, rp, rq, f4⟩ | ⟨r1, r2, q, ns', f4⟩
          · rw [decide_eq_true r1, bd', setCh_ch, setCh_2, setCh_ch, setCh_2]
            have hb2 := cn_lt b
            have cAt : f_X8_channelAt y.1 = nI (10 + 16 * cn b) := by rw [yv, hb, chAt]
            have g0 : nI (10 + 16 * cn b) + 0 = nI (10 + 16 * cn b + 0) := by rw [show (0 : Int32) = nI 0 by decide, nI_add]
            have g1 : nI (10 + 16 * cn b) + 1 = nI (10 + 16 * cn b + 1) := by rw [show (1 : Int32) = nI 1 by decide, nI_add]
            have g2 : nI (10 + 16 * cn b) + 2 = nI (10 + 16 * cn b + 2) := by rw [show (2 : Int32) = nI 2 by decide, nI_add]
            have w0 : ∀ (p e o ns tc : Int32) (D : Nat → Int32) (v : Int32), g_ast (mP x m (sS R0 N p e o ns tc D)) (m + 3) (nI (10 + 16 * cn b) + 0) v = some (mP x m (sS R0 N p e o ns tc (upd D (10 + 16 * cn b + 0) v))) := fun p e o ns tc D v => sW g0 (by omega) v
            have w1 : ∀ (p e o ns tc : Int32) (D : Nat → Int32) (v : Int32), g_ast (mP x m (sS R0 N p e o ns tc D)) (m + 3) (nI (10 + 16 * cn b) + 1) v = some (mP x m (sS R0 N p e o ns tc (upd D (10 + 16 * cn b + 1) v))) := fun p e o ns tc D v => sW g1 (by omega) v
            have w2 : ∀ (p e o ns tc : Int32) (D : Nat → Int32) (v : Int32), g_ast (mP x m (sS R0 N p e o ns tc D)) (m + 3) (nI (10 + 16 * cn b) + 2) v = some (mP x m (sS R0 N p e o ns tc (upd D (10 + 16 * cn b + 2) v))) := fun p e o ns tc D v => sW g2 (by omega) v
            have et : (R.told ||| (1 <<< (y.1 &&& 31))) = r.2.told := by rw [rt, ut, zt, r1t, ← told', yt]
            refine ⟨sS R0 N (nI r.2.pos) 0 (-1) (nI r.2.tok) r.2.told (upd (upd (upd D (10 + 16 * cn b + 0) z.1) (10 + 16 * cn b + 1) u.1) (10 + 16 * cn b + 2) r.1), ?_, oc_t ⟨rl, by show R.pos ≤ r.2.pos; omega, rq, ⟨k', k4', by rw [rt, ut, zt, r1t]⟩, ⟨_, _, rfl, ?_⟩, setCh_live hl, by rw [setCh_time]; exact ht⟩⟩
            · simp only [f_X8_readChannel_b36, sI, cond_true, f2, f3, f4, Option.bind_some, good_0, z10', if_false, sG_tc, sT_tc, sG_draft, cAt, w0, w1, w2, et]
            · refine hr.chan b ⟨rfl, rfl, rfl, rfl, rfl, rfl, rfl⟩ ?_ ?_ ?_ (fun j j1 j2 => ?_)
              · rw [upd_ne (by omega), upd_ne (by omega)]; exact upd_at _ _ _
              · rw [upd_ne (by omega), upd_at]; rfl
              · rw [upd_at]; rfl
              · rw [upd_ne (by omega), upd_ne (by omega), upd_ne (by omega)]
          · rw [decide_eq_false (fun z => z r1)]
            refine ⟨sS R0 N q r.2.code r.2.err ns' R.told D, ?_, oc_f ⟨r2, _, _, _, _, rfl⟩⟩
            simp only [f_X8_readChannel_b36, sI, cond_true, f2, f3, f4, Option.bind_some, good_1 r2, if_true]
        · rw [if_pos u1]
          refine ⟨sS R0 N q u.2.code u.2.err ns' R.told D, ?_, oc_f ⟨u2, _, _, _, _, rfl⟩⟩
          simp only [f_X8_readChannel_b36, sI, cond_true, f2, f3, num_1 u2, Option.bind_some, good_1 u2, if_true]
      · rw [if_pos z1]
        refine ⟨sS R0 N q z.2.code z.2.err ns' R.told D, ?_, oc_f ⟨z2, _, _, _, _, rfl⟩⟩
        simp only [f_X8_readChannel_b36, sI, cond_true, f2, num_1 z2, Option.bind_some, good_1 z2, if_true]
    · rw [if_neg c]
      have c8 : ((R.told >>> (y.1 &&& 31)) &&& 1) = 1 := by
        rw [ek, yv, t1, ← ek, ← yt, ← yv]
        exact c
      refine ⟨sS R0 N (nI y.2.pos) (-4) (nI y.2.tok) (nI y.2.tok) R.told D, ?_, oc_f ⟨by show (-4 : Int32) ≠ 0; decide, _, _, _, _, rfl⟩⟩
      simp only [f_X8_readChannel, sI, cond_true, f1, Option.bind_some, good_0, z10', if_false, sG_tc, c8, if_true, sG_ns, rep_0, b36_1 (show ¬ (-4 : Int32) = 0 by decide)]
  · rw [if_pos y1]
    refine ⟨sS R0 N q y.2.code y.2.err ns' R.told D, ?_, oc_f ⟨y2, _, _, _, _, rfl⟩⟩
    simp only [f_X8_readChannel, sI, cond_true, f1, Option.bind_some, good_1 y2, if_true, b36_1 y2]
end STMT
