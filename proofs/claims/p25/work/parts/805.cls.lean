/-! the class's checksum and append (rows of whole's 61 and 62) -/
section CSUM
variable {a : Nat} {h : gH} {w : Nat} {R : RW}
theorem sum_c3 (gn : g_gA h a 7 3 = some w) (ew : wdP h w R = h) (ok : R.ok) (t8 : R.told ≤ 8) : ∀ (d i fuel : Nat) (x : Int64), i + d = R.told → d < fuel → f_X7_checksum_b91 h fuel a x (nI i) = some (up (cM R) d i x) := by
  have tl := wdG_told h w R
  have gw := wdP_g h w R
  rw [ew] at tl gw
  intro d
  induction d with
  | zero =>
    intro i fuel x hi hf
    obtain ⟨fu, rfl⟩ := Nat.exists_eq_succ_of_ne_zero (Nat.ne_of_gt hf)
    simp only [f_X7_checksum_b91, gn, tl, Option.bind_some, if_neg (nI_nlt (show R.told ≤ i by omega) (show i < 2 ^ 31 by omega)), up]
  | succ d ih =>
    intro i fuel x hi hf
    obtain ⟨fu, rfl⟩ := Nat.exists_eq_succ_of_ne_zero (Nat.ne_of_gt (Nat.zero_lt_of_lt hf))
    have mN := msgNo h w R (show i < 8 by omega)
    have mA := w_ms_added h w R (show i < 8 by omega) (ok.ms i (by omega)) x
    have mG := w_ms_g h w R (show i < 8 by omega)
    rw [ew] at mN mA mG
    simp only [f_X7_checksum_b91, gn, tl, gw, cond_true, mN, mG, mA, Option.bind_some, if_pos (nI_lt (show i < R.told by omega) (show R.told < 2 ^ 31 by omega)), ← nI_succ, up]
    exact ih (i + 1) fu _ (by omega) (by omega)
theorem sum_c2a (gn : g_gA h a 7 3 = some w) (ew : wdP h w R = h) (K : Nat → Int64 → Int32 → Option Int64) (b : Bool) : ∀ (d i fuel : Nat) (x : Int64), i + d = 6 → d < fuel → f_X7_checksum_b42 h K fuel a x (nI (cn b)) (nI i) = K a (up (cC R b) d i x) (nI (cn b) + 1) := by
  have tm := wdG_time h w R
  have gw := wdP_g h w R
  have cN := chanN h w R b
  rw [ew] at tm gw cN
  intro d
  induction d with
  | zero =>
    intro i fuel x hi hf
    obtain ⟨fu, rfl⟩ := Nat.exists_eq_succ_of_ne_zero (Nat.ne_of_gt hf)
    have : i = 6 := by omega
    subst this
    simp only [f_X7_checksum_b42, n6, if_false, up]
  | succ d ih =>
    intro i fuel x hi hf
    obtain ⟨fu, rfl⟩ := Nat.exists_eq_succ_of_ne_zero (Nat.ne_of_gt (Nat.zero_lt_of_lt hf))
    have cF := chanF h w R b (nI i) (nI R.time)
    rw [ew] at cF
    simp only [f_X7_checksum_b42, i6 (show i < 6 by omega), if_true, gn, gw, tm, cN, cF.1, cF.2, cond_true, Option.bind_some, ← nI_succ i, up]
    exact ih (i + 1) fu _ (by omega) (by omega)
theorem sum_c2 (gn : g_gA h a 7 3 = some w) (ew : wdP h w R = h) (ok : R.ok) (t8 : R.told ≤ 8) : ∀ (d i fuel : Nat) (x : Int64), i + d = 2 → d < fuel → f_X7_checksum_b34 h fuel a x (nI i) = some (up (cM R) R.told 0 (up (cB R) d i x)) := by
  intro d
  induction d with
  | zero =>
    intro i fuel x hi hf
    obtain ⟨fu, rfl⟩ := Nat.exists_eq_succ_of_ne_zero (Nat.ne_of_gt hf)
    have : i = 2 := by omega
    subst this
    have q := sum_c3 gn ew ok t8 R.told 0 g_N x (by omega) (by unfold g_N; omega)
    rw [nI_0] at q
    simp only [f_X7_checksum_b34, n2, if_false, up, q]
  | succ d ih =>
    intro i fuel x hi hf
    obtain ⟨fu, rfl⟩ := Nat.exists_eq_succ_of_ne_zero (Nat.ne_of_gt (Nat.zero_lt_of_lt hf))
    have q := sum_c2a gn ew (f_X7_checksum_b34 h fu) (bO i) 6 0 g_N x (by omega) (by unfold g_N; omega)
    rw [nI_0, ← bO_cn (show i < 2 by omega), ← nI_succ] at q
    simp only [f_X7_checksum_b34, i2 (show i < 2 by omega), if_true, q, up]
    exact ih (i + 1) fu _ (by omega) (by omega)
theorem sum_c1 (gn : g_gA h a 7 3 = some w) (ew : wdP h w R = h) (ok : R.ok) (t8 : R.told ≤ 8) : ∀ (d i fuel : Nat) (x : Int64), i + d = 13 → d < fuel → f_X7_checksum_b4 h fuel a x (nI i) = some (up (cM R) R.told 0 (up (cB R) 2 0 (up (cS R) d i x))) := by
  have gw := wdP_g h w R
  rw [ew] at gw
  intro d
  induction d with
  | zero =>
    intro i fuel x hi hf
    obtain ⟨fu, rfl⟩ := Nat.exists_eq_succ_of_ne_zero (Nat.ne_of_gt hf)
    have : i = 13 := by omega
    subst this
    have q := sum_c2 gn ew ok t8 2 0 g_N x (by omega) (by unfold g_N; omega)
    rw [nI_0] at q
    simp only [f_X7_checksum_b4, n13, if_false, q]
    rfl
  | succ d ih =>
    intro i fuel x hi hf
    obtain ⟨fu, rfl⟩ := Nat.exists_eq_succ_of_ne_zero (Nat.ne_of_gt (Nat.zero_lt_of_lt hf))
    have fg := figure_wd (h := h) (w := w) (R := R) ok (nI i)
    rw [ew] at fg
    have e := ih (i + 1) fu (31 * x + (R.figure (nI i)).toInt64) (by omega) (by omega)
    simp only [f_X7_checksum_b4, i13 (show i < 13 by omega), if_true, gn, gw, cond_true, fg, Option.bind_some, ← nI_succ, e]
    rfl
end CSUM
def byC (w : Int32) (s : Nat) : Int32 := ((Int32.toInt8 ((w.toUInt32 >>> ((nI s).toUInt32 &&& Int32.toUInt32 31)).toInt32)).toInt32).toInt8.toInt32
def RFc.put (F : RFc) (v : Int32) : RFc := (F.s_B (upd F.B F.n v)).s_n (F.n + 1)
theorem aw_step (h : gH) (a : Nat) (F : RFc) (fu : Nat) (w l2 : Int32) {s : Nat} (e : l2 = nI s) (h0 : 0 ≤ l2) (hn : F.n < 500) : f_X7_appendWord_b3 (fu + 1) (fP h a F) a w l2 = f_X7_appendWord_b3 fu (fP h a (F.put (byC w s))) a w (l2 + (-8)) := by
  subst e
  have g1 := fG_n h a F
  have g2 := fG_B h a F
  have g3 := fL_B h a F
  have c : nI F.n < 500 := by rw [show (500 : Int32) = nI 500 by decide]; exact nI_lt hn (by decide)
  have st := fB_st h a F hn ((Int32.toInt8 ((w.toUInt32 >>> ((nI s).toUInt32 &&& Int32.toUInt32 31)).toInt32)).toInt32)
  have g4 := fG_n h a (F.s_B (upd F.B F.n (byC w s)))
  have g5 := fT_n h a (F.s_B (upd F.B F.n (byC w s))) (F.n + 1)
  replace st : g_bst (fP h a F) (a + 1) (nI F.n) ((Int32.toInt8 ((w.toUInt32 >>> ((nI s).toUInt32 &&& Int32.toUInt32 31)).toInt32)).toInt32) = some (fP h a (F.s_B (upd F.B F.n (byC w s)))) := st
  replace g4 : g_gI (fP h a (F.s_B (upd F.B F.n (byC w s)))) a 7 1 = some (nI F.n) := g4
  rw [nI_succ] at g5
  simp only [f_X7_appendWord_b3, f_X7_appendWord_b42, h0, if_true, g1, g2, g3, c, Option.bind_some, st, g4, g5]
  rfl
theorem aw_all (h : gH) (a : Nat) (F : RFc) (fu : Nat) (w : Int32) (hn : F.n + 4 ≤ 500) : f_X7_appendWord_b3 (fu + 5) (fP h a F) a w 24 = some (fP h a ((((F.put (byC w 24)).put (byC w 16)).put (byC w 8)).put (byC w 0))) := by
  have s1 := aw_step h a F (fu + 4) w 24 (s := 24) (by decide) (by decide) (by omega)
  have s2 := aw_step h a (F.put (byC w 24)) (fu + 3) w (24 + (-8)) (s := 16) (by decide) (by decide) (by show F.n + 1 < 500; omega)
  have s3 := aw_step h a ((F.put (byC w 24)).put (byC w 16)) (fu + 2) w (24 + (-8) + (-8)) (s := 8) (by decide) (by decide) (by show F.n + 1 + 1 < 500; omega)
  have s4 := aw_step h a (((F.put (byC w 24)).put (byC w 16)).put (byC w 8)) (fu + 1) w (24 + (-8) + (-8) + (-8)) (s := 0) (by decide) (by decide) (by show F.n + 1 + 1 + 1 < 500; omega)
  rw [s1, s2, s3, s4, f_X7_appendWord_b3, if_neg (by decide)]
theorem aw_all2 (h : gH) (a : Nat) (F : RFc) (w : Int32) (hn : F.n + 4 ≤ 500) : f_X7_appendWord (fP h a F) a w = some (fP h a ((((F.put (byC w 24)).put (byC w 16)).put (byC w 8)).put (byC w 0))) := aw_all h a F 8187 w hn
def wd (x1 x2 x3 x4 x5 : Int32) (i : Nat) : Int32 := if i = 0 then x1 else if i = 1 then x2 else if i = 2 then x3 else if i = 3 then x4 else x5
def gC7 (W : Nat → Int32) : Nat → RFc → RFc := fun k F => F.put (byC (W (k / 4)) (24 - 8 * (k % 4)))
theorem up_c (W : Nat → Int32) : ∀ (d k : Nat) (F : RFc), up (gC7 W) d k F = ((F.s_B (up (gC7 W) d k F).B).s_n (F.n + d))
  | 0, _, _ => rfl
  | d + 1, k, F => by
    have q := up_c W d (k + 1) (gC7 W k F)
    show up (gC7 W) d (k + 1) (gC7 W k F) = _
    rw [show F.n + (d + 1) = (gC7 W k F).n + d from (Nat.add_right_comm F.n 1 d).symm ▸ rfl]
    exact q
def isL (v : Int32) : Prop := 97 ≤ v ∧ v ≤ 122
theorem isL_l {v : Int32} (h : isL v) : lOf (v - 97) := by
  have h1 := h.1
  have h2 := h.2
  rw [Int32.le_iff_toInt_le, show (97 : Int32).toInt = 97 by decide] at h1
  rw [Int32.le_iff_toInt_le, show (122 : Int32).toInt = 122 by decide] at h2
  refine ⟨(v.toInt - 97).toNat, by omega, Int32.toInt.inj ?_⟩
  rw [Int32.toInt_sub, nI_toInt (by omega), show (97 : Int32).toInt = 97 by decide, Int.bmod_eq_of_le (by omega) (by omega)]
  omega
section BL
variable {a : Nat} {h : gH}
theorem bl_c {F : RFc} (ef : fP h a F = h) {n : Nat} (hn : n ≤ 500) : ∀ (d i fuel : Nat), i + d = n → d < fuel → (∀ j, j < i → isL (F.B j)) → ∃ b : Bool, f_X7_buffersLetters_b22 h fuel a (nI n) (nI i) = some (bI b) ∧ (b = true ↔ ∀ j, j < n → isL (F.B j)) := by
  have g2 := fG_B h a F
  have g3 := fL_B h a F
  rw [ef] at g2 g3
  intro d
  induction d with
  | zero =>
    intro i fuel hi hf hp
    obtain ⟨fu, rfl⟩ := Nat.exists_eq_succ_of_ne_zero (Nat.ne_of_gt hf)
    refine ⟨true, ?_, ⟨fun _ => by rw [← hi]; exact hp, fun _ => rfl⟩⟩
    simp only [f_X7_buffersLetters_b22, if_neg (nI_nlt (show n ≤ i by omega) (show i < 2 ^ 31 by omega)), bI_t]
  | succ d ih =>
    intro i fuel hi hf hp
    obtain ⟨fu, rfl⟩ := Nat.exists_eq_succ_of_ne_zero (Nat.ne_of_gt (Nat.zero_lt_of_lt hf))
    have ld := fB_ld h a F (show i < 500 by omega)
    rw [ef] at ld
    have c500 : nI i < 500 := by rw [show (500 : Int32) = nI 500 by decide]; exact nI_lt (by omega) (by decide)
    by_cases c : 97 ≤ F.B i ∧ F.B i ≤ 122
    · obtain ⟨b, q1, q2⟩ := ih (i + 1) fu (by omega) (by omega) (fun j hj => by
        by_cases e : j = i
        · subst e; exact c
        · exact hp j (by omega))
      refine ⟨b, ?_, q2⟩
      simp only [f_X7_buffersLetters_b22, if_pos (nI_lt (show i < n by omega) (show n < 2 ^ 31 by omega)), g2, g3, c500, if_true, ld, f7, c, and_self, not_true_eq_false, if_false, Option.bind_some, ← nI_succ]
      exact q1
    · refine ⟨false, ?_, ⟨(fun z => nomatch z), fun z => absurd (z i (by omega)) c⟩⟩
      simp only [f_X7_buffersLetters_b22, if_pos (nI_lt (show i < n by omega) (show n < 2 ^ 31 by omega)), g2, g3, c500, if_true, ld, f7, c, not_false_eq_true, Option.bind_some, bI_f]
end BL
theorem dfl5 : g_dfl 5 = [.null, .int 0, .int 0, .int 0, .int 0, .int 0, .int 0] := by decide +kernel
theorem g_set_set (H : gH) (c : Nat) (x y : gC) : g_set (g_set H c x) c y = g_set H c y := by
  refine Prod.ext rfl (funext fun q => ?_)
  by_cases e : q = c
  · subst e; rw [set_at, set_at]
  · rw [set_ne e, set_ne e, set_ne e]
theorem put_on {H : gH} {c j : Nat} {fs : List Value} (v : Value) (hj : j < fs.length) : g_put (g_set H c (.inr (5, fs))) c 5 j v = some (g_set H c (.inr (5, fs.set j v))) := by
  rw [put_of set_at hj, g_set_set]
theorem init_rd (H : gH) (c tx N : Nat) : f_X5_init (g_set H c (.inr (5, g_dfl 5))) c tx (nI N) = some (rdP H c (RRd.mk tx N 0 0 0 0 (-1))) := by
  rw [dfl5]
  unfold f_X5_init
  rw [put_on _ (by simp), Option.bind_some, put_on _ (by simp), Option.bind_some, put_on _ (by simp), Option.bind_some, put_on _ (by simp), Option.bind_some, put_on _ (by simp), Option.bind_some, put_on _ (by simp), Option.bind_some, put_on _ (by simp), Option.bind_some]
  rfl
theorem set_self {H : gH} {c : Nat} {x : gC} (e : H.2 c = some x) : g_set H c x = H := by
  refine Prod.ext rfl (funext fun q => ?_)
  by_cases ec : q = c
  · subst ec; rw [set_at, e]
  · rw [set_ne ec]
theorem gadd_ne {H : gH} {x : gC} {q : Nat} (n : q ≠ H.1) : (g_add H x).2 q = H.2 q := by
  show (if q = H.1 then some x else H.2 q) = _
  rw [if_neg n]
theorem wd_add {H : gH} {x : gC} {w q : Nat} (V : RW) (n : q ≠ H.1) : (wdP (g_add H x) w V).2 q = (wdP H w V).2 q := by
  show (if w ≤ q ∧ q < w + 61 then wdC w V (q - w) else (if q = H.1 then some x else H.2 q)) = (if w ≤ q ∧ q < w + 61 then wdC w V (q - w) else H.2 q)
  rw [if_neg n]
section LOAD
variable {a : Nat} {h : gH}
def ldH (h : gH) (a : Nat) (F : RFc) (S : RRd) (V : RW) : gH := rdP (wdP (g_add (fP h a F) (.inr (5, g_dfl 5))) (a + 63) V) (fP h a F).1 S
theorem ld_in {F : RFc} (hc : a + 614 ≤ h.1) (S : RRd) (V : RW) : fIs (ldH h a F S V).2 a (F.s_tr V) := fun j hj => by
  have e1 : (fP h a F).1 = h.1 := rfl
  unfold ldH
  rw [rdP_ne (by omega), wd_add V (by omega), fU_tr, fP_in h a _ hj]
theorem ld_out {F : RFc} (hc : a + 614 ≤ h.1) (S : RRd) (V : RW) {q : Nat} (hq : q < a ∨ (a + 614 ≤ q ∧ q < h.1)) : (ldH h a F S V).2 q = h.2 q := by
  have e1 : (fP h a F).1 = h.1 := rfl
  unfold ldH
  rw [rdP_ne (by omega), wd_add V (by omega), wdP_out _ _ _ (by omega), fP_out _ _ _ (by omega)]
theorem ld_rd (F : RFc) (S : RRd) (V : RW) : (ldH h a F S V).2 (fP h a F).1 = some (rdO S) := rd0 _ _ _
theorem ld_fP {F : RFc} (hc : a + 614 ≤ h.1) (S : RRd) (V : RW) : fP (ldH h a F S V) a (F.s_tr V) = ldH h a F S V := fP_self (ld_in hc S V)
theorem ld_start {F : RFc} (hc : a + 614 ≤ h.1) (N : Nat) : f_X5_init (g_add (fP h a F) (.inr (5, g_dfl 5))) (fP h a F).1 (a + 1) (nI N) = some (ldH h a F (RRd.mk (a + 1) N 0 0 0 0 (-1)) F.tr) := by
  have e1 : (fP h a F).1 = h.1 := rfl
  have q := init_rd (g_add (fP h a F) (.inr (5, g_dfl 5))) (fP h a F).1 (a + 1) N
  rw [set_self add_at] at q
  rw [q]
  unfold ldH
  rw [wdP_self (show wdIs (g_add (fP h a F) (.inr (5, g_dfl 5))) (a + 63) F.tr from fun j hj => by rw [gadd_ne (by omega)]; exact fW_tr h a F j hj)]
theorem ld_cls {F : RFc} {N : Nat} (ef : fP h a F = h) (hc : a + 614 ≤ h.1) (hn : N ≤ F.n) (h5 : F.n ≤ 500) {b : Bool} {S : RRd} {V : RW} (e : f_X5_readInto (ldH h a (F.s_n 0) (RRd.mk (a + 1) N 0 0 0 0 (-1)) F.tr) (fP h a (F.s_n 0)).1 (a + 63) = some (bI b, ldH h a (F.s_n 0) S V)) : f_X7_load h a (nI N) = if b = true then (g_put (ldH h a (F.s_n 0) S V) a 7 2 (.int (-1))).bind fun h66 =>
        (g_gA h66 a 7 5).bind fun v70 =>
        (g_gA h66 a 7 3).bind fun v74 =>
        bif g_is h66 v70 1 then
        (f_X1_keep h66 v70 v74).bind fun h77 =>
        (g_gA h77 a 7 3).bind fun v81 =>
        (g_gA h77 a 7 4).bind fun v85 =>
        bif g_is h77 v81 6 then
        (f_X6_copyFrom h77 v81 v85).bind fun h88 =>
        (g_gA h88 a 7 3).bind fun v92 =>
        (g_gI h88 v92 6 1).bind fun v95 =>
        some (.inr v95, h88)
        else none
        else none else some (.inr S.code, fP (ldH h a (F.s_n 0) S V) a (((F.s_n 0).s_tr V).s_err S.err)) := by
  have c0 : (0 : Int32) ≤ nI N := by rw [show (0 : Int32) = nI 0 by decide]; exact (nI_leI (by decide) (by omega)).mpr (Nat.zero_le _)
  have lt : ¬ nI F.n < nI N := nI_nlt hn (by omega)
  have g1 := fG_n h a F
  rw [ef] at g1
  have p0 := fT_n h a F 0
  rw [ef, nI_0] at p0
  have e1 : (fP h a (F.s_n 0)).1 = h.1 := rfl
  have gB : g_gA (g_add (fP h a (F.s_n 0)) (.inr (5, g_dfl 5))) a 7 0 = some (a + 1) := gA_of (fs := [.ref (a + 1), .int (nI (F.s_n 0).n), .int (F.s_n 0).err, .ref (a + 2), .ref (a + 63), .ref (a + 124)]) (by rw [gadd_ne (by omega)]; exact f0 h a (F.s_n 0)) rfl
  have st := ld_start (h := h) (a := a) (F := F.s_n 0) hc N
  have st' : f_X5_init (g_add (fP h a (F.s_n 0)) (.inr (5, g_dfl 5))) (fP h a (F.s_n 0)).1 (a + 1) (nI N) = some (ldH h a (F.s_n 0) (RRd.mk (a + 1) N 0 0 0 0 (-1)) F.tr) := st
  have gT : g_gA (ldH h a (F.s_n 0) (RRd.mk (a + 1) N 0 0 0 0 (-1)) F.tr) a 7 4 = some (a + 63) := by
    have q := fG_tr (ldH h a (F.s_n 0) (RRd.mk (a + 1) N 0 0 0 0 (-1)) F.tr) a ((F.s_n 0).s_tr F.tr)
    rwa [ld_fP hc] at q
  have i5 : g_is (ldH h a (F.s_n 0) (RRd.mk (a + 1) N 0 0 0 0 (-1)) F.tr) (fP h a (F.s_n 0)).1 5 = true := rdP_g _ _ _
  unfold f_X7_load
  rw [if_pos c0, g1, Option.bind_some, if_neg lt, p0, Option.bind_some]
  unfold g_mk
  rw [Option.bind_some, gB, Option.bind_some, st', Option.bind_some, gT, Option.bind_some, i5, cond_true, e, Option.bind_some]
  cases b with
  | true => rw [if_neg (by show ¬ (1 : Int32) = 0; decide), if_pos rfl]
  | false =>
    have ge : g_gI (ldH h a (F.s_n 0) S V) (fP h a (F.s_n 0)).1 5 6 = some S.err := rdG_err _ _ _
    have pe := fT_err (ldH h a (F.s_n 0) S V) a ((F.s_n 0).s_tr V) S.err
    rw [ld_fP hc] at pe
    have gc : g_gI (fP (ldH h a (F.s_n 0) S V) a (((F.s_n 0).s_tr V).s_err S.err)) (fP h a (F.s_n 0)).1 5 5 = some S.code := gI_of (fs := [.ref S.text, .int (nI S.len), .int (nI S.pos), .int (nI S.tok), .int S.told, .int S.code, .int S.err]) (by rw [fP_out _ _ _ (by omega)]; exact ld_rd _ _ _) rfl
    rw [if_pos (show bI false = 0 from rfl), if_neg (fun z => nomatch z)]
    show ((g_gI (ldH h a (F.s_n 0) S V) (fP h a (F.s_n 0)).1 5 6).bind fun v53 => (g_put (ldH h a (F.s_n 0) S V) a 7 2 (.int v53)).bind fun h56 => (g_gI h56 (fP h a (F.s_n 0)).1 5 5).bind fun v60 => some (Sum.inr v60, h56)) = _
    rw [ge, Option.bind_some, pe, Option.bind_some, gc, Option.bind_some]
end LOAD
theorem ld_good_c (H : gH) (a : Nat) {F2 : RFc} {V : RW} (eH : fP H a F2 = H) (pl : F2.pl < 8) (ct : F2.ct ≤ 8) (n8 : F2.now.told ≤ 8) (tr : F2.tr = V) (V8 : V.told ≤ 8) : ((g_put H a 7 2 (.int (-1))).bind fun h66 =>
        (g_gA h66 a 7 5).bind fun v70 =>
        (g_gA h66 a 7 3).bind fun v74 =>
        bif g_is h66 v70 1 then
        (f_X1_keep h66 v70 v74).bind fun h77 =>
        (g_gA h77 a 7 3).bind fun v81 =>
        (g_gA h77 a 7 4).bind fun v85 =>
        bif g_is h77 v81 6 then
        (f_X6_copyFrom h77 v81 v85).bind fun h88 =>
        (g_gA h88 a 7 3).bind fun v92 =>
        (g_gI h88 v92 6 1).bind fun v95 =>
        some ((Sum.inr v95 : Nat ⊕ Int32), h88)
        else none
        else none) = some (.inr (nI V.told), fP H a ((F2.s_err (-1)).keep.s_now (V.copy (F2.s_err (-1)).keep.now))) := by
  have pe := fT_err H a F2 (-1)
  rw [eH] at pe
  have pl3 : (F2.s_err (-1)).pl < 8 := pl
  have ct3 : (F2.s_err (-1)).ct ≤ 8 := ct
  have n83 : (F2.s_err (-1)).now.told ≤ 8 := n8
  have tr3 : (F2.s_err (-1)).keep.tr = V := tr
  generalize F2.s_err (-1) = F3 at *
  have kp := keep_f H a F3 pl3 ct3 n83
  have HS : wdIs (fP H a F3.keep) (a + 63) V := by
    have q := fW_tr H a F3.keep
    rwa [tr3] at q
  have cp := copy_wd (h := fP H a F3.keep) (a := a + 2) (p := a + 63) (S := V) (R := F3.keep.now) HS (Or.inr (by omega)) V8
  rw [fE_now, fU_now] at cp
  generalize F3.keep = F4 at *
  have vt : (V.copy F4.now).told = V.told := rfl
  generalize V.copy F4.now = W at *
  have e9 : wdP (fP H a (F4.s_now W)) (a + 2) W = fP H a (F4.s_now W) := fE_now H a (F4.s_now W)
  have tl := wdG_told (fP H a (F4.s_now W)) (a + 2) W
  rw [e9, vt] at tl
  simp only [pe, Option.bind_some, (gA H a F3).1, (gA H a F3).2.1, (gA H a F3).2.2.1, cond_true, kp, (gA H a F4).1, (gA H a F4).2.2.2, fG_tr, cp, (gA H a (F4.s_now W)).1, tl]
