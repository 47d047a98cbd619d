/-! append -/
/-- one byte of a word, as the class keeps it (byC) and as the reference does (byR) -/
def byC (w : Int32) (s : Nat) : Int32 := ((Int32.toInt8 ((w.toUInt32 >>> ((nI s).toUInt32 &&& Int32.toUInt32 31)).toInt32)).toInt32).toInt8.toInt32
def byR (w : Int32) (s : Nat) : Int32 := (w >>> (nI s &&& 31)) &&& 255
theorem low8 (x : Int32) : relB (x &&& 255) x.toInt8.toInt32 := by
  have e1 : x &&& 255 = nI (x.toBitVec.toNat % 256) := by
    apply Int32.toBitVec_inj.mp
    apply BitVec.eq_of_toNat_eq
    rw [Int32.toBitVec_and, BitVec.toNat_and]
    show x.toBitVec.toNat &&& 255 = (BitVec.ofNat 32 (x.toBitVec.toNat % 256)).toNat
    rw [BitVec.toNat_ofNat, show 255 = 2 ^ 8 - 1 by decide, Nat.and_two_pow_sub_one_eq_mod]
    omega
  have e2 : x.toInt8.toInt32.toInt = if x.toBitVec.toNat % 256 < 128 then ((x.toBitVec.toNat % 256 : Nat) : Int) else ((x.toBitVec.toNat % 256 : Nat) : Int) - 256 := by
    rw [Int8.toInt_toInt32, Int32.toInt_toInt8]
    have : x.toInt = x.toBitVec.toInt := rfl
    rw [this, BitVec.toInt_eq_toNat_bmod]
    have h := x.toBitVec.isLt
    rw [Int.bmod_def, Int.bmod_def]
    split <;> split <;> omega
  by_cases c : x.toBitVec.toNat % 256 < 128
  · rw [if_pos c] at e2
    refine Or.inl ⟨_, c, e1, Int32.toInt.inj ?_⟩
    rw [e2, nI_toInt (by omega)]
  · rw [if_neg c] at e2
    refine Or.inr ⟨_, by omega, Nat.mod_lt _ (by decide), e1, ?_⟩
    rw [Int32.lt_iff_toInt_lt, e2, show (0 : Int32).toInt = 0 by decide]
    omega
theorem sh8 (X : BitVec 32) {s : Nat} (hs : s ≤ 24) : (X.sshiftRight s) &&& 255#32 = (X >>> s) &&& 255#32 := by
  apply BitVec.eq_of_getLsbD_eq
  intro i hi
  rw [BitVec.getLsbD_and, BitVec.getLsbD_and, BitVec.getLsbD_sshiftRight, BitVec.getLsbD_ushiftRight]
  by_cases c : i < 8
  · have c1 : ¬ 32 ≤ i := by omega
    have c2 : s + i < 32 := by omega
    simp [c1, c2]
  · have e : (255#32).getLsbD i = false := by
      rw [BitVec.getLsbD_ofNat, show 255 = 2 ^ 8 - 1 by decide, Nat.testBit_two_pow_sub_one]
      simp [c]
    rw [e, Bool.and_false, Bool.and_false]
theorem sh_eq (w : Int32) {s : Nat} (h : s = 24 ∨ s = 16 ∨ s = 8 ∨ s = 0) : byR w s = ((w.toUInt32 >>> ((nI s).toUInt32 &&& Int32.toUInt32 31)).toInt32) &&& 255 := by
  unfold byR
  apply Int32.toBitVec_inj.mp
  rcases h with rfl | rfl | rfl | rfl
  · show (w.toBitVec.sshiftRight' (24#32)) &&& 255#32 = (w.toBitVec >>> (24#32)) &&& 255#32
    exact sh8 w.toBitVec (s := 24) (by decide)
  · show (w.toBitVec.sshiftRight' (16#32)) &&& 255#32 = (w.toBitVec >>> (16#32)) &&& 255#32
    exact sh8 w.toBitVec (s := 16) (by decide)
  · show (w.toBitVec.sshiftRight' (8#32)) &&& 255#32 = (w.toBitVec >>> (8#32)) &&& 255#32
    exact sh8 w.toBitVec (s := 8) (by decide)
  · show (w.toBitVec.sshiftRight' (0#32)) &&& 255#32 = (w.toBitVec >>> (0#32)) &&& 255#32
    exact sh8 w.toBitVec (s := 0) (by decide)
theorem by_rel (w : Int32) {s : Nat} (h : s = 24 ∨ s = 16 ∨ s = 8 ∨ s = 0) : relB (byR w s) (byC w s) := by
  have q := low8 ((w.toUInt32 >>> ((nI s).toUInt32 &&& Int32.toUInt32 31)).toInt32)
  rw [← sh_eq w h] at q
  unfold byC
  rw [Int8.toInt8_toInt32]
  exact q
section APP
variable {a t : Nat} {h : gH}
def RFc.put (F : RFc) (v : Int32) : RFc := (F.s_B (upd F.B F.n v)).s_n (F.n + 1)
def RMo.put (R : RMo) (n : Nat) (v : Int32) : RMo := (R.s_buf (upd R.buf n v)).s_bl (nI (n + 1))
theorem aw_step (h : gH) (a : Nat) (F : RFc) (fu : Nat) (w l2 : Int32) {s : Nat} (e : l2 = nI s) (h0 : 0 ≤ l2) (hn : F.n < 500) : f_X7_appendWord_b3 (fu + 1) (fP h a F) a w l2 = f_X7_appendWord_b3 fu (fP h a (F.put (byC w s))) a w (l2 + (-8)) := by
  subst e
  have g1 := fG_n h a F
  have g2 := fG_B h a F
  have g3 := fL_B h a F
  have c : nI F.n < 500 := by rw [show (500 : Int32) = nI 500 by decide]; exact nI_lt hn (by decide)
  have st := fB_st h a F hn ((Int32.toInt8 ((w.toUInt32 >>> ((nI s).toUInt32 &&& Int32.toUInt32 31)).toInt32)).toInt32)
  have g4 := fG_n h a (F.s_B (upd F.B F.n (byC w s)))
  have g5 := fT_n h a (F.s_B (upd F.B F.n (byC w s))) (F.n + 1)
  replace st : g_bst (fP h a F) (a + 1) (nI F.n) ((Int32.toInt8 ((w.toUInt32 >>> ((nI s).toUInt32 &&& Int32.toUInt32 31)).toInt32)).toInt32) = some (fP h a (F.s_B (upd F.B F.n (byC w s)))) := st
  replace g4 : g_gI (fP h a (F.s_B (upd F.B F.n (byC w s)))) a 7 1 = some (nI F.n) := g4
  rw [nI_succ] at g5
  simp only [f_X7_appendWord_b3, f_X7_appendWord_b42, h0, if_true, g1, g2, g3, c, Option.bind_some, st, g4, g5]
  rfl
theorem aw_all (h : gH) (a : Nat) (F : RFc) (fu : Nat) (w : Int32) (hn : F.n + 4 ≤ 500) : f_X7_appendWord_b3 (fu + 5) (fP h a F) a w 24 = some (fP h a ((((F.put (byC w 24)).put (byC w 16)).put (byC w 8)).put (byC w 0))) := by
  have s1 := aw_step h a F (fu + 4) w 24 (s := 24) (by decide) (by decide) (by omega)
  have s2 := aw_step h a (F.put (byC w 24)) (fu + 3) w (24 + (-8)) (s := 16) (by decide) (by decide) (by show F.n + 1 < 500; omega)
  have s3 := aw_step h a ((F.put (byC w 24)).put (byC w 16)) (fu + 2) w (24 + (-8) + (-8)) (s := 8) (by decide) (by decide) (by show F.n + 1 + 1 < 500; omega)
  have s4 := aw_step h a (((F.put (byC w 24)).put (byC w 16)).put (byC w 8)) (fu + 1) w (24 + (-8) + (-8) + (-8)) (s := 0) (by decide) (by decide) (by show F.n + 1 + 1 + 1 < 500; omega)
  rw [s1, s2, s3, s4, f_X7_appendWord_b3, if_neg (by decide)]
theorem aw_all2 (h : gH) (a : Nat) (F : RFc) (w : Int32) (hn : F.n + 4 ≤ 500) : f_X7_appendWord (fP h a F) a w = some (fP h a ((((F.put (byC w 24)).put (byC w 16)).put (byC w 8)).put (byC w 0))) := aw_all h a F 8187 w hn
def wd (x1 x2 x3 x4 x5 : Int32) (i : Nat) : Int32 := if i = 0 then x1 else if i = 1 then x2 else if i = 2 then x3 else if i = 3 then x4 else x5
def gC7 (W : Nat → Int32) : Nat → RFc → RFc := fun k F => F.put (byC (W (k / 4)) (24 - 8 * (k % 4)))
def gR8 (W : Nat → Int32) (n : Nat) : Nat → RMo → RMo := fun k R => R.put (n + k) (byR (W (k / 4)) (24 - 8 * (k % 4)))
def relU (N : Nat) (F : RFc) (R : RMo) : Prop := F.n = N ∧ R.bl = nI N ∧ ∀ i, i < N → relB (R.buf i) (F.B i)
theorem put_rel {N : Nat} {F : RFc} {R : RMo} (hr : relU N F R) {u v : Int32} (hb : relB u v) : relU (N + 1) (F.put v) (R.put N u) := by
  obtain ⟨r1, r2, r3⟩ := hr
  subst r1
  refine ⟨rfl, rfl, fun i hi => ?_⟩
  show relB (upd R.buf F.n u i) (upd F.B F.n v i)
  by_cases c : i = F.n
  · subst c; rw [upd_at, upd_at]; exact hb
  · rw [upd_ne c, upd_ne c]; exact r3 i (by omega)
theorem up_rel (W : Nat → Int32) {n : Nat} : ∀ (d k : Nat) (F : RFc) (R : RMo), k + d ≤ 20 → relU (n + k) F R → relU (n + k + d) (up (gC7 W) d k F) (up (gR8 W n) d k R)
  | 0, _, _, _, _, h => h
  | d + 1, k, F, R, hd, h => by
    have s : 24 - 8 * (k % 4) = 24 ∨ 24 - 8 * (k % 4) = 16 ∨ 24 - 8 * (k % 4) = 8 ∨ 24 - 8 * (k % 4) = 0 := by omega
    have q := up_rel W (n := n) d (k + 1) (gC7 W k F) (gR8 W n k R) (by omega) (put_rel h (by_rel (W (k / 4)) s))
    rw [show n + (k + 1) + d = n + k + (d + 1) by omega] at q
    exact q
/-- append leaves all but the buffers as it was -/
theorem up_c (W : Nat → Int32) : ∀ (d k : Nat) (F : RFc), up (gC7 W) d k F = ((F.s_B (up (gC7 W) d k F).B).s_n (F.n + d))
  | 0, _, _ => rfl
  | d + 1, k, F => by
    have q := up_c W d (k + 1) (gC7 W k F)
    show up (gC7 W) d (k + 1) (gC7 W k F) = _
    rw [show F.n + (d + 1) = (gC7 W k F).n + d from (Nat.add_right_comm F.n 1 d).symm ▸ rfl]
    exact q
theorem up_m (W : Nat → Int32) (n : Nat) : ∀ (d k : Nat) (R : RMo), up (gR8 W n) d k R = ((R.s_buf (up (gR8 W n) d k R).buf).s_bl (up (gR8 W n) d k R).bl)
  | 0, _, _ => rfl
  | d + 1, k, R => up_m W n d (k + 1) (gR8 W n k R)
theorem rem4 : ∀ n, n < 20 → (24 - (8 * (g_rem (nI n) 4))) &&& 31 = nI (24 - 8 * (n % 4)) &&& 31 := by decide +kernel
theorem ar_b76 (x : gH) (m : Nat) (R : RMo) (K : gH → Nat → Int32 → Int32 → Int32 → Int32 → Int32 → Int32 → Option (Int32 × gH)) (x1 x2 x3 x4 x5 s0 : Int32) {n k : Nat} (hk : k < 20) (hn : n + k < 500) (hb : R.bl = nI (n + k)) : f_X8_append_b76 K (mP x m R) m x1 x2 x3 x4 x5 (nI k) s0 = K (mP x m (R.put (n + k) (byR s0 (24 - 8 * (k % 4))))) m x1 x2 x3 x4 x5 (nI (k + 1)) := by
  have g1 := mG_bl x m R
  rw [hb] at g1
  have st := mB_st x m R hn (byR s0 (24 - 8 * (k % 4)))
  have g2 := mG_bl x m (R.s_buf (upd R.buf (n + k) (byR s0 (24 - 8 * (k % 4)))))
  replace g2 : g_gI (mP x m (R.s_buf (upd R.buf (n + k) (byR s0 (24 - 8 * (k % 4)))))) m 8 2 = some (nI (n + k)) := g2.trans (congrArg some hb)
  have g3 := mT_bl x m (R.s_buf (upd R.buf (n + k) (byR s0 (24 - 8 * (k % 4))))) (nI (n + k + 1))
  have st' : g_ast (mP x m R) (m + 1) (nI (n + k)) ((s0 >>> ((24 - (8 * (g_rem (nI k) 4))) &&& 31)) &&& 255) = some (mP x m (R.s_buf (upd R.buf (n + k) (byR s0 (24 - 8 * (k % 4)))))) := by rw [rem4 k hk]; exact st
  simp only [f_X8_append_b76, mG_buf, g1, Option.bind_some, st', g2, ← nI_succ, g3]
  rfl
theorem ar_l (x : gH) (m : Nat) (x1 x2 x3 x4 x5 : Int32) {n : Nat} (hn : n + 20 ≤ 500) : ∀ (d k fuel : Nat) (R : RMo), k + d = 20 → d < fuel → R.bl = nI (n + k) → f_X8_append_b23 fuel (mP x m R) m x1 x2 x3 x4 x5 (nI k) = some (nI (n + 20), mP x m (up (gR8 (wd x1 x2 x3 x4 x5) n) d k R)) := by
  intro d
  induction d with
  | zero =>
    intro k fuel R hk hf hb
    obtain ⟨fu, rfl⟩ := Nat.exists_eq_succ_of_ne_zero (Nat.ne_of_gt hf)
    have : k = 20 := by omega
    subst this
    simp only [f_X8_append_b23, show ¬ nI 20 < 20 by decide, if_false, mG_bl, hb, Option.bind_some]
    rfl
  | succ d ih =>
    intro k fuel R hk hf hb
    obtain ⟨fu, rfl⟩ := Nat.exists_eq_succ_of_ne_zero (Nat.ne_of_gt (Nat.zero_lt_of_lt hf))
    have i20 : nI k < 20 := by rw [show (20 : Int32) = nI 20 by decide]; exact nI_lt (by omega) (by decide)
    have lt : ∀ c : Nat, c < 2 ^ 31 → ((nI k < nI c) ↔ k < c) := fun c hc => nI_ltI (by omega) hc
    have l4 := lt 4 (by decide)
    have l8 := lt 8 (by decide)
    have l12 := lt 12 (by decide)
    have l16 := lt 16 (by decide)
    rw [show nI 4 = (4 : Int32) by decide] at l4
    rw [show nI 8 = (8 : Int32) by decide] at l8
    rw [show nI 12 = (12 : Int32) by decide] at l12
    rw [show nI 16 = (16 : Int32) by decide] at l16
    have b := fun s0 => ar_b76 x m R (f_X8_append_b23 fu) x1 x2 x3 x4 x5 s0 (n := n) (k := k) (by omega) (by omega) hb
    have e := ih (k + 1) fu (R.put (n + k) (byR (wd x1 x2 x3 x4 x5 (k / 4)) (24 - 8 * (k % 4)))) (by omega) (by omega) rfl
    have goal : f_X8_append_b23 (fu + 1) (mP x m R) m x1 x2 x3 x4 x5 (nI k) = f_X8_append_b76 (f_X8_append_b23 fu) (mP x m R) m x1 x2 x3 x4 x5 (nI k) (wd x1 x2 x3 x4 x5 (k / 4)) := by
      unfold wd
      simp only [f_X8_append_b23, i20, if_true, l4, l8, l12, l16]
      by_cases c1 : k < 4
      · rw [if_pos c1, if_pos (show k / 4 = 0 by omega)]
      · rw [if_neg c1, if_neg (show ¬ k / 4 = 0 by omega)]
        by_cases c2 : k < 8
        · rw [if_pos c2, if_pos (show k / 4 = 1 by omega)]
        · rw [if_neg c2, if_neg (show ¬ k / 4 = 1 by omega)]
          by_cases c3 : k < 12
          · rw [if_pos c3, if_pos (show k / 4 = 2 by omega)]
          · rw [if_neg c3, if_neg (show ¬ k / 4 = 2 by omega)]
            by_cases c4 : k < 16
            · rw [if_pos c4, if_pos (show k / 4 = 3 by omega)]
            · rw [if_neg c4, if_neg (show ¬ k / 4 = 3 by omega)]
    rw [goal, b, e]
    rfl
theorem op_append (hI : cInv a t h) (x1 x2 x3 x4 x5 : Int32) : lw_S0 (cInv a (t + 1)) a (a + 614) h (f_X7_append h a x1 x2 x3 x4 x5) (fun h9 => f_X8_append h9 (a + 614) x1 x2 x3 x4 x5) := by
  obtain ⟨F, R, hf, hm, hq, hr, ef, ew, g7, gn, gw⟩ := cH_of hI
  have n5 := hr.n
  have g1 := fG_n h a F
  rw [ef] at g1
  have cc : (500 < nI F.n + 20) ↔ 500 < F.n + 20 := by
    rw [show (20 : Int32) = nI 20 by decide, nI_add, show (500 : Int32) = nI 500 by decide]
    exact nI_ltI (by decide) (by omega)
  by_cases c : 500 < F.n + 20
  · refine S_0 (F' := F) hf hm hq (v := -1) ?_ (fun x => ⟨R.s_th 0, ?_, hr.later (by omega)⟩)
    · simp only [f_X7_append, g1, Option.bind_some, cc, c, if_true, ef]
    · simp only [f_X8_append, mT_th, Option.bind_some, mG_bl, RMo_s, hr.bl, cc, c, if_true]
  · generalize hW : wd x1 x2 x3 x4 x5 = W
    have w0 : W 0 = x1 := by rw [← hW]; rfl
    have w1 : W 1 = x2 := by rw [← hW]; rfl
    have w2 : W 2 = x3 := by rw [← hW]; rfl
    have w3 : W 3 = x4 := by rw [← hW]; rfl
    have w4 : W 4 = x5 := by rw [← hW]; rfl
    have step : ∀ (G : RFc) (w : Int32) (k : Nat), G.n + 4 ≤ 500 → k % 4 = 0 → W (k / 4) = w → f_X7_appendWord (fP h a G) a w = some (fP h a (up (gC7 W) 4 k G)) ∧ (up (gC7 W) 4 k G).n = G.n + 4 := fun G w k hn hk hw => by
      refine ⟨?_, by rw [up_c]; rfl⟩
      rw [aw_all2 h a G w hn]
      have d1 : (k + 1) / 4 = k / 4 := by omega
      have d2 : (k + 1 + 1) / 4 = k / 4 := by omega
      have d3 : (k + 1 + 1 + 1) / 4 = k / 4 := by omega
      have m1 : 24 - 8 * ((k + 1) % 4) = 16 := by omega
      have m2 : 24 - 8 * ((k + 1 + 1) % 4) = 8 := by omega
      have m3 : 24 - 8 * ((k + 1 + 1 + 1) % 4) = 0 := by omega
      have m0 : 24 - 8 * (k % 4) = 24 := by omega
      simp only [up, gC7, d1, d2, d3, m0, m1, m2, m3, hw]
    obtain ⟨s1, n1⟩ := step F x1 0 (by omega) (by decide) w0
    obtain ⟨s2, n2⟩ := step (up (gC7 W) 4 0 F) x2 4 (by omega) (by decide) w1
    obtain ⟨s3, n3⟩ := step (up (gC7 W) 4 4 (up (gC7 W) 4 0 F)) x3 8 (by omega) (by decide) w2
    obtain ⟨s4, n4⟩ := step (up (gC7 W) 4 8 (up (gC7 W) 4 4 (up (gC7 W) 4 0 F))) x4 12 (by omega) (by decide) w3
    obtain ⟨s5, n5'⟩ := step (up (gC7 W) 4 12 (up (gC7 W) 4 8 (up (gC7 W) 4 4 (up (gC7 W) 4 0 F)))) x5 16 (by omega) (by decide) w4
    have e20 : up (gC7 W) 4 16 (up (gC7 W) 4 12 (up (gC7 W) 4 8 (up (gC7 W) 4 4 (up (gC7 W) 4 0 F)))) = up (gC7 W) 20 0 F := rfl
    rw [e20] at s5 n5'
    rw [ef] at s1
    have ur := up_rel W (n := F.n) 20 0 F (R.s_th 0) (by decide) ⟨rfl, hr.bl, hr.buf⟩
    obtain ⟨B', ec⟩ : ∃ B', up (gC7 W) 20 0 F = (F.s_B B').s_n (F.n + 20) := ⟨_, up_c W 20 0 F⟩
    obtain ⟨bf, bl, em⟩ : ∃ bf bl, up (gR8 W F.n) 20 0 (R.s_th 0) = ((R.s_th 0).s_buf bf).s_bl bl := ⟨_, _, up_m W F.n 20 0 (R.s_th 0)⟩
    have qr : ∀ x, f_X8_append_b23 g_N (mP x (a + 614) (R.s_th 0)) (a + 614) x1 x2 x3 x4 x5 0 = some (nI (F.n + 20), mP x (a + 614) (up (gR8 W F.n) 20 0 (R.s_th 0))) := fun x => by
      have q := ar_l x (a + 614) x1 x2 x3 x4 x5 (n := F.n) (by omega) 20 0 g_N (R.s_th 0) (by omega) (by unfold g_N; omega) hr.bl
      rw [nI_0, hW] at q
      exact q
    have ur' : relU (F.n + 20) (up (gC7 W) 20 0 F) (up (gR8 W F.n) 20 0 (R.s_th 0)) := ur
    clear ur
    generalize up (gC7 W) 20 0 F = F2 at *
    generalize up (gR8 W F.n) 20 0 (R.s_th 0) = R2 at *
    subst ec
    subst em
    have gb : ∀ x, g_gI (mP x (a + 614) (R.s_th 0)) (a + 614) 8 2 = some (nI F.n) := fun x => (mG_bl x (a + 614) (R.s_th 0)).trans (congrArg some hr.bl)
    have g9 : g_gI (fP h a ((F.s_B B').s_n (F.n + 20))) a 7 1 = some (nI (F.n + 20)) := fG_n h a ((F.s_B B').s_n (F.n + 20))
    refine S_0 (F' := (F.s_B B').s_n (F.n + 20)) hf hm hq (v := nI (F.n + 20)) ?_ (fun x => ⟨((R.s_th 0).s_buf bf).s_bl bl, ?_, ?_⟩)
    · simp only [f_X7_append, g1, Option.bind_some, cc, c, if_false, g7, cond_true, s1, s2, s3, s4, s5, fP_g, g9]
    · simp only [f_X8_append, mT_th, Option.bind_some, gb, cc, c, if_false, qr]
    · have ur2 : bl = nI (F.n + 20) := ur'.2.1
      have ur3 : ∀ i, i < F.n + 20 → relB (bf i) (B' i) := ur'.2.2
      exact ⟨show F.n + 20 ≤ 500 by omega, ur2, ur3, hr.eo, hr.now, hr.live, show F.now.time ≤ 100 * (t + 1) by have := hr.time; omega, hr.pl, hr.ct, hr.ud, (hr.later (show t ≤ t + 1 by omega)).hist⟩
end APP
