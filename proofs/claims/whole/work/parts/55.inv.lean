/-! what holds between the calls -/
/-- a byte as the reference keeps it (u) and as the class does (v) -/
def relB (u v : Int32) : Prop := (∃ k : Nat, k < 128 ∧ u = nI k ∧ v = nI k) ∨ (∃ k : Nat, 128 ≤ k ∧ k < 256 ∧ u = nI k ∧ v < 0)
def RelAll (t : Nat) (F : RFc) (R : RMo) : Prop := F.n ≤ 500 ∧ R.bl = nI F.n ∧ (∀ i, i < F.n → relB (R.buf i) (F.B i)) ∧ R.eo = F.err ∧ Rel F.now (R.rows 0) ∧ F.now.live ∧ F.now.time ≤ 100 * t ∧ F.pl < 8 ∧ F.ct ≤ 8 ∧ R.ud = nI F.ct ∧ (∀ i, i < F.ct → Rel (F.K ((F.pl + 7 - i) % 8)) (R.rows (4 + F.ct - 1 - i)) ∧ (F.K ((F.pl + 7 - i) % 8)).live ∧ (F.K ((F.pl + 7 - i) % 8)).time ≤ 100 * t)
theorem RelAll.n {t : Nat} {F : RFc} {R : RMo} (h : RelAll t F R) : F.n ≤ 500 := h.1
theorem RelAll.bl {t : Nat} {F : RFc} {R : RMo} (h : RelAll t F R) : R.bl = nI F.n := h.2.1
theorem RelAll.buf {t : Nat} {F : RFc} {R : RMo} (h : RelAll t F R) : ∀ i, i < F.n → relB (R.buf i) (F.B i) := h.2.2.1
theorem RelAll.eo {t : Nat} {F : RFc} {R : RMo} (h : RelAll t F R) : R.eo = F.err := h.2.2.2.1
theorem RelAll.now {t : Nat} {F : RFc} {R : RMo} (h : RelAll t F R) : Rel F.now (R.rows 0) := h.2.2.2.2.1
theorem RelAll.live {t : Nat} {F : RFc} {R : RMo} (h : RelAll t F R) : F.now.live := h.2.2.2.2.2.1
theorem RelAll.time {t : Nat} {F : RFc} {R : RMo} (h : RelAll t F R) : F.now.time ≤ 100 * t := h.2.2.2.2.2.2.1
theorem RelAll.pl {t : Nat} {F : RFc} {R : RMo} (h : RelAll t F R) : F.pl < 8 := h.2.2.2.2.2.2.2.1
theorem RelAll.ct {t : Nat} {F : RFc} {R : RMo} (h : RelAll t F R) : F.ct ≤ 8 := h.2.2.2.2.2.2.2.2.1
theorem RelAll.ud {t : Nat} {F : RFc} {R : RMo} (h : RelAll t F R) : R.ud = nI F.ct := h.2.2.2.2.2.2.2.2.2.1
theorem RelAll.hist {t : Nat} {F : RFc} {R : RMo} (h : RelAll t F R) : ∀ i, i < F.ct → Rel (F.K ((F.pl + 7 - i) % 8)) (R.rows (4 + F.ct - 1 - i)) ∧ (F.K ((F.pl + 7 - i) % 8)).live ∧ (F.K ((F.pl + 7 - i) % 8)).time ≤ 100 * t := h.2.2.2.2.2.2.2.2.2.2
theorem RelAll.later {t t' : Nat} {F : RFc} {R : RMo} (h : RelAll t F R) (ht : t ≤ t') : RelAll t' F R :=
  ⟨h.n, h.bl, h.buf, h.eo, h.now, h.live, Nat.le_trans h.time (Nat.mul_le_mul_left _ ht), h.pl, h.ct, h.ud, fun i hi => ⟨(h.hist i hi).1, (h.hist i hi).2.1, Nat.le_trans (h.hist i hi).2.2 (Nat.mul_le_mul_left _ ht)⟩⟩
def cInv (a : Nat) (t : Nat) (h : gH) : Prop := ∃ (F : RFc) (R : RMo), fIs h.2 a F ∧ mIs h.2 (a + 614) R ∧ (∃ g : Nat → Int64, h.2 (a + 628) = some (.inl (2, 1, .inr (.inl g)))) ∧ RelAll t F R
section INV
variable {a t : Nat} {h : gH}
theorem lst_of {x : gH} {q : Nat} {g : Nat → Int64} (e : x.2 q = some (.inl (2, 1, .inr (.inl g)))) (v : Int64) : g_lst x q 0 v = some (g_set x q (.inl (2, 1, .inr (.inl (vp_updL g 0 v))))) := by
  have : g_ix 0 1 = some 0 := by decide
  simp [g_lst, g_aL, e, this]
theorem lld_of {x : gH} {q : Nat} {g : Nat → Int64} (e : x.2 q = some (.inl (2, 1, .inr (.inl g)))) : g_lld x q 0 = some (g 0) := by
  have : g_ix 0 1 = some 0 := by decide
  simp [g_lld, g_aL, e, this]
theorem vp_updL_at (g : Nat → Int64) (v : Int64) : vp_updL g 0 v 0 = v := by simp [vp_updL]
theorem mIs_g {x : gH} {m : Nat} {R : RMo} (hm : mIs x.2 m R) : g_is x m 8 = true := by
  have := mI x m R
  rwa [mP_self hm] at this
theorem fIs_g {x : gH} {F : RFc} (hf : fIs x.2 a F) : g_is x a 7 = true := by
  have := fP_g x a F
  rwa [fP_self hf] at this
theorem thr_of {x : gH} {m : Nat} (R : RMo) : f_X8_thrown (mP x m R) m = some R.th := by
  simp only [f_X8_thrown, mG_th, Option.bind_some]
/-- a call that comes to its end -/
theorem S_okx {F F' : RFc} {R : RMo} (hf : fIs h.2 a F) (hm : mIs h.2 (a + 614) R) (hq : ∃ g : Nat → Int64, h.2 (a + 628) = some (.inl (2, 1, .inr (.inl g)))) (x1 : gH) (hx1 : ∀ q, (q < a + 614 ∨ (a + 614 ≤ q ∧ q < a + 629)) → x1.2 q = (fP h a F').2 q) {w : Int32 → Int64} {fc : Option (Int32 × gH)} {fr : gH → Option (Int32 × gH)} {v : Int32} {t' : Nat}
    (e1 : fc = (g_lst x1 (a + 628) 0 (w v)).bind fun h2 => some (0, h2)) (e2 : ∀ x : gH, ∃ R', fr (mP x (a + 614) R) = some (v, mP x (a + 614) R') ∧ R'.th = 0 ∧ RelAll t' F' R') : lw_S (cInv a t') (a + 614) (a + 628) w fc fr := by
  obtain ⟨g, hq⟩ := hq
  have q0 : x1.2 (a + 628) = some (.inl (2, 1, .inr (.inl g))) := by rw [hx1 _ (by omega), fP_out _ _ _ (by omega)]; exact hq
  refine ⟨0, g_set x1 (a + 628) (.inl (2, 1, .inr (.inl (vp_updL g 0 (w v))))), ?_, fun n' => ?_⟩
  · rw [e1, lst_of q0, Option.bind_some]
  · have hset : (g_set x1 (a + 628) (.inl (2, 1, .inr (.inl (vp_updL g 0 (w v)))))).2 (a + 628) = some (.inl (2, 1, .inr (.inl (vp_updL g 0 (w v))))) := set_at
    have hm' : mIs (n', (g_set x1 (a + 628) (.inl (2, 1, .inr (.inl (vp_updL g 0 (w v)))))).2).2 (a + 614) R := fun j hj => by
      show (g_set _ _ _).2 (a + 614 + j) = _
      rw [set_ne (by omega), hx1 _ (by omega), fP_out _ _ _ (by omega)]
      exact hm j hj
    obtain ⟨R', k2, e3, e4⟩ := e2 (n', (g_set x1 (a + 628) (.inl (2, 1, .inr (.inl (vp_updL g 0 (w v)))))).2)
    rw [mP_self hm'] at k2
    have hcell : (mP (n', (g_set x1 (a + 628) (.inl (2, 1, .inr (.inl (vp_updL g 0 (w v)))))).2) (a + 614) R').2 (a + 628) = some (.inl (2, 1, .inr (.inl (vp_updL g 0 (w v))))) := by
      rw [mP_out _ _ _ (by omega)]
      dsimp only
      exact hset
    refine ⟨v, _, k2, ?_, mIs_g hm', mI _ _ _, fun _ => ?_, F', R', fun j hj => ?_, mP_is _ _ _, ⟨vp_updL g 0 (w v), ?_⟩, e4⟩
    · rw [thr_of, e3]
    · rw [lld_of hcell, vp_updL_at]
    · rw [mP_out _ _ _ (by omega)]
      show (g_set _ _ _).2 (a + j) = _
      rw [set_ne (by omega), hx1 _ (by omega)]
      exact fP_in h a F' hj
    · exact hcell
theorem S_ok {F F' : RFc} {R R' : RMo} (hf : fIs h.2 a F) (hm : mIs h.2 (a + 614) R) (hq : ∃ g : Nat → Int64, h.2 (a + 628) = some (.inl (2, 1, .inr (.inl g)))) (x1 : gH) (hx1 : ∀ q, (q < a + 614 ∨ (a + 614 ≤ q ∧ q < a + 629)) → x1.2 q = (fP h a F').2 q) {w : Int32 → Int64} {fc : Option (Int32 × gH)} {fr : gH → Option (Int32 × gH)} {v : Int32} {t' : Nat}
    (e1 : fc = (g_lst x1 (a + 628) 0 (w v)).bind fun h2 => some (0, h2)) (e2 : ∀ x : gH, fr (mP x (a + 614) R) = some (v, mP x (a + 614) R')) (e3 : R'.th = 0) (e4 : RelAll t' F' R') : lw_S (cInv a t') (a + 614) (a + 628) w fc fr := S_okx hf hm hq x1 hx1 e1 (fun x => ⟨R', e2 x, e3, e4⟩)
/-- a call that throws -/
theorem S_ex {F : RFc} {R R' : RMo} (hf : fIs h.2 a F) (hm : mIs h.2 (a + 614) R) (hq : ∃ g : Nat → Int64, h.2 (a + 628) = some (.inl (2, 1, .inr (.inl g)))) {w : Int32 → Int64} {fc : Option (Int32 × gH)} {fr : gH → Option (Int32 × gH)} {c r : Int32} {t' : Nat}
    (e1 : fc = some (c, h)) (hc : c ≠ 0) (e2 : ∀ x : gH, fr (mP x (a + 614) R) = some (r, mP x (a + 614) R')) (e3 : R'.th = c) (e4 : RelAll t' F R') : lw_S (cInv a t') (a + 614) (a + 628) w fc fr := by
  refine ⟨c, h, e1, fun n' => ?_⟩
  have hm' : mIs (n', h.2).2 (a + 614) R := hm
  refine ⟨r, _, (by have q := e2 (n', h.2); rwa [mP_self hm'] at q), ?_, mIs_g hm', mI _ _ _, fun z => absurd z hc, F, R', fun j hj => ?_, mP_is _ _ _, ?_, e4⟩
  · rw [thr_of, e3]
  · rw [mP_out _ _ _ (by omega)]
    exact hf j hj
  · obtain ⟨g, hq⟩ := hq
    exact ⟨g, by rw [mP_out _ _ _ (by omega)]; exact hq⟩
/-- a call that cannot throw -/
theorem S_0 {F F' : RFc} {R : RMo} (hf : fIs h.2 a F) (hm : mIs h.2 (a + 614) R) (hq : ∃ g : Nat → Int64, h.2 (a + 628) = some (.inl (2, 1, .inr (.inl g)))) {fc : Option (Int32 × gH)} {fr : gH → Option (Int32 × gH)} {v : Int32} {t' : Nat}
    (e1 : fc = some (v, fP h a F')) (e2 : ∀ x : gH, ∃ R', fr (mP x (a + 614) R) = some (v, mP x (a + 614) R') ∧ RelAll t' F' R') : lw_S0 (cInv a t') a (a + 614) h fc fr := by
  have hm' : mIs (fP h a F').2 (a + 614) R := fun j hj => by rw [fP_out _ _ _ (by omega)]; exact hm j hj
  obtain ⟨g, hq⟩ := hq
  obtain ⟨R', k2, e4⟩ := e2 (fP h a F')
  rw [mP_self hm'] at k2
  refine ⟨fIs_g hf, v, fP h a F', mP (fP h a F') (a + 614) R', e1, mIs_g hm', k2, F', R', fun j hj => ?_, mP_is _ _ _, ⟨g, ?_⟩, e4⟩
  · rw [mP_out _ _ _ (by omega)]; exact fP_in h a F' hj
  · rw [mP_out _ _ _ (by omega), fP_out _ _ _ (by omega)]; exact hq
/-! the reference's exceptions -/
variable {x : gH} {m : Nat}
theorem fails_0 {R : RMo} (h0 : R.th = 0) (e : Int32) : f_X8_fails (mP x m R) m 0 e = some (0, mP x m R) := by
  simp only [f_X8_fails, f_X8_fails_b16, mG_th, Option.bind_some, h0, if_true]
theorem fails_1 {R : RMo} (h0 : R.th = 0) {e : Int32} (he : ¬ e = 0) : f_X8_fails (mP x m R) m 1 e = some (1, mP x m (R.s_th e)) := by
  have z10 : ((1 : Int32) = 0) = False := eq_false (by decide)
  simp only [f_X8_fails, f_X8_fails_b16, mG_th, Option.bind_some, h0, if_true, z10, if_false, mT_th, RMo_s, he]
theorem rng {v hi : Int32} {n : Nat} (hn : hi.toInt = n) (h : 0 ≤ v ∧ v ≤ hi) : ∃ k : Nat, k ≤ n ∧ v = nI k := nI_of2 hn (Int32.not_lt.mpr h.1) h.2
theorem rngT {v : Int32} {n : Nat} (h8 : n < 2 ^ 31) (h : 0 ≤ v ∧ v < nI n) : ∃ k : Nat, k < n ∧ v = nI k := by
  obtain ⟨j, hj, rfl⟩ := nI_of (Int32.not_lt.mpr h.1)
  exact ⟨j, (nI_ltI hj h8).mp h.2, rfl⟩
theorem le_pred {v : Int32} {n : Nat} (hn : n < 2 ^ 31) : v ≤ nI n - 1 ↔ v < nI n := by
  rw [Int32.le_iff_toInt_le, Int32.lt_iff_toInt_lt, Int32.toInt_sub, nI_toInt hn, show (1 : Int32).toInt = 1 by decide]
  have := v.toInt_lt
  have := v.le_toInt
  rw [Int.bmod_eq_of_le (by omega) (by omega)]
  omega
theorem noChannel_m {R : RMo} (h0 : R.th = 0) (c : Int32) : f_X8_noChannel (mP x m R) m c = some (if 0 ≤ c ∧ c ≤ 1 then (0, mP x m R) else (1, mP x m (R.s_th 1))) := by
  have z0 : g_z 0 = some 0 := rfl
  have z1 : g_z 1 = some 1 := rfl
  simp only [f_X8_noChannel, f_X8_noChannel_b15, in_eq, bI_eq0, mI, cond_true, fails_0 h0, fails_1 h0 (show ¬ (1 : Int32) = 0 by decide), Option.bind_some, z0, z1]
  by_cases c : 0 ≤ c ∧ c ≤ 1
  · simp only [c, and_self, decide_true, Bool.true_eq_false, if_false, if_true]
  · simp only [c, decide_false, if_true, if_false]
theorem noStation_m {R : RMo} (h0 : R.th = 0) (c : Int32) : f_X8_noStation (mP x m R) m c = some (if 0 ≤ c ∧ c ≤ 1 then (0, mP x m R) else (1, mP x m (R.s_th 1))) := by
  have z0 : g_z 0 = some 0 := rfl
  have z1 : g_z 1 = some 1 := rfl
  simp only [f_X8_noStation, f_X8_noStation_b15, in_eq, bI_eq0, mI, cond_true, fails_0 h0, fails_1 h0 (show ¬ (1 : Int32) = 0 by decide), Option.bind_some, z0, z1]
  by_cases c : 0 ≤ c ∧ c ≤ 1
  · simp only [c, and_self, decide_true, Bool.true_eq_false, if_false, if_true]
  · simp only [c, decide_false, if_true, if_false]
theorem mL {R : RMo} {i : Nat} {j : Int32} (e : j = nI i) (hi : i < 928) : g_ald (mP x m R) (m + 2) j = some (R.rows 0 i) := by
  rw [e]
  exact ald_of (mR x m R (j := 0) (by decide) (by decide)) hi (by decide)
theorem mLl {R : RMo} (i : Nat) (j : Int32) (e : j = nI i := by decide) (hi : i < 928 := by decide) : g_ald (mP x m R) (m + 2) j = some (R.rows 0 i) := mL e hi
theorem noMessage_m {R : RMo} (h0 : R.th = 0) {n : Nat} (hn : R.rows 0 1 = nI n) (h8 : n ≤ 8) (c : Int32) : f_X8_noMessage (mP x m R) m c = some (if 0 ≤ c ∧ c < nI n then (0, mP x m R) else (1, mP x m (R.s_th 1))) := by
  have z0 : g_z 0 = some 0 := rfl
  have z1 : g_z 1 = some 1 := rfl
  simp only [f_X8_noMessage, f_X8_noMessage_b22, mG_data, mLl 1 1, hn, in_eq, le_pred (show n < 2 ^ 31 by omega), bI_eq0, mI, cond_true, fails_0 h0, fails_1 h0 (show ¬ (1 : Int32) = 0 by decide), Option.bind_some, z0, z1]
  by_cases c : 0 ≤ c ∧ c < nI n
  · simp only [c, and_self, decide_true, Bool.true_eq_false, if_false, if_true]
  · simp only [c, decide_false, if_true, if_false]
/-- a function of the data row alone, over the whole object -/
theorem of_d {β : Type} {R : RMo} {f : gH → Option β} {r : β} (h : f (dP (mP x m R) m (R.rows 0)) = some r) : f (mP x m R) = some r := by rwa [mE_d] at h
theorem of_dU {f : gH → Option gH} {R : RMo} {D' : Nat → Int32} (h : f (dP (mP x m R) m (R.rows 0)) = some (dP (mP x m R) m D')) : f (mP x m R) = some (mP x m (R.s_rows (updR R.rows 0 D'))) := by rwa [mE_d, mU_d] at h
theorem of_dV {β : Type} {f : gH → Option (β × gH)} {R : RMo} {D' : Nat → Int32} {r : β} (h : f (dP (mP x m R) m (R.rows 0)) = some (r, dP (mP x m R) m D')) : f (mP x m R) = some (r, mP x m (R.s_rows (updR R.rows 0 D'))) := by rwa [mE_d, mU_d] at h
end INV
