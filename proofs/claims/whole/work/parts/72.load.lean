section LOAD2
variable {a t : Nat} {h : gH}
theorem ld_x1 {F : RFc} (hc : a + 629 ≤ h.1) (S : RRd) (V : RW) (F' : RFc) : ∀ q, (q < a + 614 ∨ (a + 614 ≤ q ∧ q < a + 629)) → (fP (ldH h a F S V) a F').2 q = (fP h a F').2 q := fun q hq => by
  by_cases c : a ≤ q ∧ q < a + 614
  · obtain ⟨j, rfl⟩ := Nat.exists_eq_add_of_le c.1
    rw [fP_in _ _ _ (by omega), fP_in _ _ _ (by omega)]
  · rw [fP_out _ _ _ (by omega), fP_out _ _ _ (by omega), ld_out hc S V (by omega)]
theorem ld_ref (x : gH) (m : Nat) {F : RFc} {R : RMo} (hr : RelAll t F R) {N : Nat} (hn : N ≤ F.n) : f_X8_load (mP x m R) m (nI N) = rf8 (mP x m (sS ((R.s_th 0).s_bl 0) N 0 0 (-1) R.ns 0 (R.rows 1))) m := by
  have n5 := hr.n
  have c : (0 : Int32) ≤ nI N ∧ nI N ≤ R.bl := ⟨by rw [show (0 : Int32) = nI 0 by decide]; exact (nI_leI (by decide) (by omega)).mpr (Nat.zero_le _), by rw [hr.bl]; exact (nI_leI (by omega) (by omega)).mpr hn⟩
  have es : ((((((R.s_th 0).s_bl 0).s_tl (nI N)).s_pos 0).s_err 0).s_ea (-1)).s_tc 0 = sS ((R.s_th 0).s_bl 0) N 0 0 (-1) R.ns 0 (R.rows 1) := by
    unfold sS
    rw [show ((R.s_th 0).s_bl 0).rows = R.rows from rfl, updR_self]
    rfl
  have gb : g_gI (mP x m (R.s_th 0)) m 8 2 = some R.bl := mG_bl x m (R.s_th 0)
  unfold f_X8_load f_X8_load_b23
  rw [mT_th, Option.bind_some, gb, Option.bind_some, if_neg (show ¬ f_X8_in (nI N) 0 R.bl = 0 by rw [f8]; exact fun z => z c), mI, cond_true, fails_0 (R := R.s_th 0) rfl, Option.bind_some, if_pos rfl]
  show ((g_put (mP x m (R.s_th 0)) m 8 2 (.int 0)).bind fun h34 => (g_put h34 m 8 3 (.int (nI N))).bind fun h39 => (g_put h39 m 8 4 (.int 0)).bind fun h44 => (g_put h44 m 8 5 (.int 0)).bind fun h49 => (g_put h49 m 8 6 (.int (-1))).bind fun h54 => (g_put h54 m 8 14 (.int 0)).bind fun h59 => bif g_is h59 m 8 then rf8 h59 m else none) = _
  rw [mT_bl, Option.bind_some, mT_tl, Option.bind_some, mT_pos, Option.bind_some, mT_err, Option.bind_some, mT_ea, Option.bind_some, mT_tc, Option.bind_some, mI, cond_true, es]
theorem ld_all {F : RFc} {R : RMo} (hr : RelAll t F R) (V : RW) (c : Int32) (N : Nat) (p e o ns tc : Int32) (D : Nat → Int32) : RelAll t (((F.s_n 0).s_tr V).s_err c) (sS (((R.s_th 0).s_bl 0).s_eo c) N p e o ns tc D) := by
  refine ⟨Nat.zero_le _, nI_0.symm, fun i (hi : i < 0) => absurd hi (Nat.not_lt_zero i), rfl, ?_, hr.live, hr.time, hr.pl, hr.ct, hr.ud, fun i (hi : i < F.ct) => ?_⟩
  · show Rel F.now (updR R.rows 1 D 0)
    rw [updR_ne (by decide)]
    exact hr.now
  · show Rel (F.K ((F.pl + 7 - i) % 8)) (updR R.rows 1 D (4 + F.ct - 1 - i)) ∧ _
    rw [updR_ne (by omega)]
    exact hr.hist i hi
theorem eo_s (R0 : RMo) (N : Nat) (p e o ns tc : Int32) (D : Nat → Int32) (v : Int32) : (sS R0 N p e o ns tc D).s_eo v = sS (R0.s_eo v) N p e o ns tc D := rfl
theorem b134_hd (x : gH) (m : Nat) (R0 : RMo) (N : Nat) (p e o ns tc : Int32) (D : Nat → Int32) : f_X8_load_b134 (mP x m (sS R0 N p e o ns tc D)) m = if e = 0 then ((f_X8_remember (mP x m (sS (R0.s_eo o) N p e o ns tc D)) m).bind fun h155 =>
    (g_gA h155 m 8 9).bind fun v159 =>
    (g_gA h155 m 8 8).bind fun v163 =>
    (f_X8_copy h155 v159 v163).bind fun h166 =>
    (g_gA h166 m 8 8).bind fun v170 =>
    (g_ald h166 v170 1).bind fun v174 =>
    some (v174, h166)) else some (e, mP x m (sS (R0.s_eo o) N p e o ns tc D)) := by
  have ge : g_gI (mP x m (sS R0 N p e o ns tc D)) m 8 6 = some o := mG_ea x m _
  have pe := mT_eo x m (sS R0 N p e o ns tc D) o
  rw [eo_s] at pe
  unfold f_X8_load_b134
  rw [ge, Option.bind_some, pe, Option.bind_some, sI, cond_true, good_s, Option.bind_some]
  by_cases c : e = 0
  · rw [if_pos c, if_pos c, if_neg (by decide), cond_true]
  · rw [if_neg c, if_neg c, if_pos rfl, sG_err, Option.bind_some]
theorem cp_draft (x : gH) (m : Nat) (Z : RMo) : f_X8_copy (mP x m Z) (m + 3) (m + 2) = some (mP x m (Z.s_rows (updR Z.rows 0 (cpyr 928 (Z.rows 1) (Z.rows 0))))) := mcopy x m Z (i := 1) (j := 0) (by decide) (by decide) (by decide) (by decide) (by decide)
theorem ld_good_r (x : gH) (m : Nat) {F3 : RFc} {Y : RMo} {V : RW} {D : Nat → Int32} (aY : RelAll t F3 Y) (Y0 : Y.s_th 0 = Y) (Yth : Y.th = 0) (Y1 : Y.rows 1 = D) (rV : Rel V D) (lV : V.live) (tV : V.time = 0) : ∃ R', ((f_X8_remember (mP x m Y) m).bind fun h155 =>
    (g_gA h155 m 8 9).bind fun v159 =>
    (g_gA h155 m 8 8).bind fun v163 =>
    (f_X8_copy h155 v159 v163).bind fun h166 =>
    (g_gA h166 m 8 8).bind fun v170 =>
    (g_ald h166 v170 1).bind fun v174 =>
    some (v174, h166)) = some (nI V.told, mP x m R') ∧ R'.th = 0 ∧ RelAll (t + 1) (F3.keep.s_now (V.copy F3.keep.now)) R' := by
  obtain ⟨rows', r1, r2⟩ := remember_m x m Y (u := F3.ct) aY.ct aY.ud
  have d1 : rows' 1 = D := by rw [r2.1 1 (by decide), Y1]
  have rc := rV.copy F3.keep.now
  have fin := chg_all (W' := V.copy F3.keep.now) (D' := cpyr 928 D (rows' 0)) (c := 0) aY r2 (rc.1.ext (fun j hj => cpyr_in hj)) (rc.2 lV) (by show V.time ≤ _; rw [tV]; exact Nat.zero_le _)
  rw [Y0] at fin
  generalize hZ : (Y.s_rows rows').s_ud (nI (min (F3.ct + 1) 8)) = Z at r1 fin
  have Zr : Z.rows = rows' := by rw [← hZ]; rfl
  have Zth : Z.th = 0 := by rw [← hZ]; exact Yth
  have mc := cp_draft x m Z
  rw [Zr, d1] at mc
  have la : g_ald (mP x m (Z.s_rows (updR rows' 0 (cpyr 928 D (rows' 0))))) (m + 2) 1 = some (nI V.told) := by
    rw [mLl 1 1, rows_s, updR_at, cpyr_in (by decide)]
    exact congrArg some rV.n.2.1
  refine ⟨Z.s_rows (updR rows' 0 (cpyr 928 D (rows' 0))), ?_, Zth, fin⟩
  rw [r1, Option.bind_some, mG_draft, Option.bind_some, mG_data, Option.bind_some, mc, Option.bind_some, mG_data, Option.bind_some, la, Option.bind_some]
theorem ld_good_c (H : gH) (a : Nat) {F2 : RFc} {V : RW} (eH : fP H a F2 = H) (pl : F2.pl < 8) (ct : F2.ct ≤ 8) (n8 : F2.now.told ≤ 8) (tr : F2.tr = V) (V8 : V.told ≤ 8) : ((g_put H a 7 2 (.int (-1))).bind fun h66 =>
        (g_gA h66 a 7 5).bind fun v70 =>
        (g_gA h66 a 7 3).bind fun v74 =>
        bif g_is h66 v70 1 then
        (f_X1_keep h66 v70 v74).bind fun h77 =>
        (g_gA h77 a 7 3).bind fun v81 =>
        (g_gA h77 a 7 4).bind fun v85 =>
        bif g_is h77 v81 6 then
        (f_X6_copyFrom h77 v81 v85).bind fun h88 =>
        (g_gA h88 a 7 3).bind fun v92 =>
        (g_gI h88 v92 6 1).bind fun v95 =>
        some ((Sum.inr v95 : Nat ⊕ Int32), h88)
        else none
        else none) = some (.inr (nI V.told), fP H a ((F2.s_err (-1)).keep.s_now (V.copy (F2.s_err (-1)).keep.now))) := by
  have pe := fT_err H a F2 (-1)
  rw [eH] at pe
  have pl3 : (F2.s_err (-1)).pl < 8 := pl
  have ct3 : (F2.s_err (-1)).ct ≤ 8 := ct
  have n83 : (F2.s_err (-1)).now.told ≤ 8 := n8
  have tr3 : (F2.s_err (-1)).keep.tr = V := tr
  generalize F2.s_err (-1) = F3 at *
  have kp := keep_f H a F3 pl3 ct3 n83
  have HS : wdIs (fP H a F3.keep) (a + 63) V := by
    have q := fW_tr H a F3.keep
    rwa [tr3] at q
  have cp := copy_wd (h := fP H a F3.keep) (a := a + 2) (p := a + 63) (S := V) (R := F3.keep.now) HS (Or.inr (by omega)) V8
  rw [fE_now, fU_now] at cp
  generalize F3.keep = F4 at *
  have vt : (V.copy F4.now).told = V.told := rfl
  generalize V.copy F4.now = W at *
  have e9 : wdP (fP H a (F4.s_now W)) (a + 2) W = fP H a (F4.s_now W) := fE_now H a (F4.s_now W)
  have tl := wdG_told (fP H a (F4.s_now W)) (a + 2) W
  rw [e9, vt] at tl
  simp only [pe, Option.bind_some, (gA H a F3).1, (gA H a F3).2.1, (gA H a F3).2.2.1, cond_true, kp, (gA H a F4).1, (gA H a F4).2.2.2, fG_tr, cp, (gA H a (F4.s_now W)).1, tl]
theorem sS_th0 {R0 : RMo} (e0 : R0.th = 0) (N : Nat) (p e o ns tc : Int32) (D : Nat → Int32) : (sS R0 N p e o ns tc D).s_th 0 = sS R0 N p e o ns tc D := by
  unfold sS
  rw [e0]
  rfl
theorem ld_fin (x : gH) (m : Nat) {F : RFc} {R : RMo} (hr : RelAll t F R) {N : Nat} (hN : N ≤ F.n) {S : RRd} {V : RW} (q : ∃ X, rf8 (mP x m (sS ((R.s_th 0).s_bl 0) N 0 0 (-1) R.ns 0 (R.rows 1))) m = f_X8_load_b134 (mP x m X) m ∧ oc ((R.s_th 0).s_bl 0) N 0 (true, S, V) X) : ∃ R', f_X8_load (mP x m R) m (nI N) = some (nI V.told, mP x m R') ∧ R'.th = 0 ∧ RelAll (t + 1) ((((F.s_n 0).s_tr V).s_err (-1)).keep.s_now (V.copy (((F.s_n 0).s_tr V).s_err (-1)).keep.now)) R' := by
  obtain ⟨X, s1, s2⟩ := q
  obtain ⟨-, -, -, -, ⟨ns2, D, rfl, rV⟩, lV, tV⟩ := s2.1 rfl
  have rl := ld_ref x m hr hN
  rw [s1, b134_hd, if_pos rfl] at rl
  have Y1 : (sS (((R.s_th 0).s_bl 0).s_eo (-1)) N (nI S.pos) 0 (-1) ns2 S.told D).rows 1 = D := updR_at R.rows 1 D
  have Yth : (sS (((R.s_th 0).s_bl 0).s_eo (-1)) N (nI S.pos) 0 (-1) ns2 S.told D).th = 0 := rfl
  have Y0 := sS_th0 (R0 := ((R.s_th 0).s_bl 0).s_eo (-1)) rfl N (nI S.pos) 0 (-1) ns2 S.told D
  have aY := ld_all hr V (-1) N (nI S.pos) 0 (-1) ns2 S.told D
  generalize sS (((R.s_th 0).s_bl 0).s_eo (-1)) N (nI S.pos) 0 (-1) ns2 S.told D = Y at *
  generalize ((F.s_n 0).s_tr V).s_err (-1) = F3 at *
  obtain ⟨R', g1, g2, g3⟩ := ld_good_r x m aY Y0 Yth Y1 rV lV tV
  exact ⟨R', rl.trans g1, g2, g3⟩
theorem ld_fin0 (x : gH) (m : Nat) {F : RFc} {R : RMo} (hr : RelAll t F R) {N : Nat} (hN : N ≤ F.n) {S : RRd} {V : RW} (q : ∃ X, rf8 (mP x m (sS ((R.s_th 0).s_bl 0) N 0 0 (-1) R.ns 0 (R.rows 1))) m = f_X8_load_b134 (mP x m X) m ∧ oc ((R.s_th 0).s_bl 0) N 0 (false, S, V) X) : ∃ R', f_X8_load (mP x m R) m (nI N) = some (S.code, mP x m R') ∧ R'.th = 0 ∧ RelAll (t + 1) (((F.s_n 0).s_tr V).s_err S.err) R' := by
  obtain ⟨X, s1, s2⟩ := q
  obtain ⟨c1, p, ns2, tc, D2, rfl⟩ := s2.2 rfl
  dsimp only at c1
  refine ⟨sS (((R.s_th 0).s_bl 0).s_eo S.err) N p S.code S.err ns2 tc D2, ?_, rfl, (ld_all hr V S.err N p S.code S.err ns2 tc D2).later (by omega)⟩
  rw [ld_ref x m hr hN, s1, b134_hd, if_neg c1]
theorem op_load (hI : cInv a t h) (hfr : lw_fr h) (x1 : Int32) : lw_S (cInv a (t + 1)) (a + 614) (a + 628) (fun r => r.toInt64) (f_L_load h a x1 (a + 628)) (fun h9 => f_X8_load h9 (a + 614) x1) := by
  obtain ⟨F, R, hf, hm, hq, hr, ef, ew, g7, gn, gw⟩ := cH_of hI
  have z10 : ((1 : Int32) = 0) = False := eq_false (by decide)
  have n5 := hr.n
  have hc : a + 629 ≤ h.1 := by
    obtain ⟨g, hg⟩ := hq
    have := hfr _ _ hg
    omega
  have g1 := fG_n h a F
  rw [ef] at g1
  by_cases c : 0 ≤ x1 ∧ x1 ≤ nI F.n
  · obtain ⟨N, hN, rfl⟩ : ∃ N, N ≤ F.n ∧ x1 = nI N := by
      obtain ⟨j, hj, rfl⟩ := nI_of (Int32.not_lt.mpr c.1)
      exact ⟨j, (nI_leI hj (by omega)).mp c.2, rfl⟩
    obtain ⟨b, S, V, q1, q2⟩ := ld_into (R0 := (R.s_th 0).s_bl 0) (h := h) (a := a) (F := F.s_n 0) (N := N) hc (by omega) (fun i hi => hr.buf i (by omega))
    have cl := ld_cls ef hc hN n5 q1
    cases b with
    | false =>
      rw [if_neg (fun z => nomatch z)] at cl
      refine S_okx (F' := ((F.s_n 0).s_tr V).s_err S.err) hf hm hq (fP (ldH h a (F.s_n 0) S V) a (((F.s_n 0).s_tr V).s_err S.err)) (ld_x1 (F := F.s_n 0) hc S V _) (v := S.code) ?_ (fun x => ?_)
      · simp only [f_L_load, g7, cond_true, cl]
      · exact ld_fin0 x (a + 614) hr hN (q2 x (a + 614) R.ns (R.rows 1))
    | true =>
      rw [if_pos rfl] at cl
      obtain ⟨X0, s10, s20⟩ := q2 h 0 0 (fun _ => 0)
      obtain ⟨k1, -, k3, k4, ⟨ns0, D0, -, rV0⟩, lV, tV⟩ := s20.1 rfl
      have cg := ld_good_c (ldH h a (F.s_n 0) S V) a (F2 := (F.s_n 0).s_tr V) (V := V) (ld_fP hc S V) hr.pl hr.ct hr.now.inv.1 rfl rV0.inv.1
      rw [cg] at cl
      refine S_okx (F' := (((F.s_n 0).s_tr V).s_err (-1)).keep.s_now (V.copy (((F.s_n 0).s_tr V).s_err (-1)).keep.now)) hf hm hq (fP (ldH h a (F.s_n 0) S V) a ((((F.s_n 0).s_tr V).s_err (-1)).keep.s_now (V.copy (((F.s_n 0).s_tr V).s_err (-1)).keep.now))) (ld_x1 (F := F.s_n 0) hc S V _) (v := nI V.told) ?_ (fun x => ?_)
      · simp only [f_L_load, g7, cond_true, cl]
      · exact ld_fin x (a + 614) hr hN (q2 x (a + 614) R.ns (R.rows 1))
  · refine S_ex (R' := R.s_th 1) (c := 1) (r := 0) hf hm hq ?_ (by decide) (fun x => ?_) rfl (hr.later (by omega))
    · by_cases c0 : 0 ≤ x1
      · have lt : nI F.n < x1 := Int32.not_le.mp (fun z => c ⟨c0, z⟩)
        simp only [f_L_load, g7, cond_true, f_X7_load, f_X7_load_b12, c0, if_true, g1, lt, Option.bind_some]
      · simp only [f_L_load, g7, cond_true, f_X7_load, f_X7_load_b12, c0, if_false]
    · have gb : g_gI (mP x (a + 614) (R.s_th 0)) (a + 614) 8 2 = some (nI F.n) := (mG_bl x (a + 614) (R.s_th 0)).trans (congrArg some hr.bl)
      simp only [f_X8_load, f_X8_load_b23, mT_th, Option.bind_some, gb, f8, c, not_false_eq_true, if_true, mI, cond_true, fails_1 (R := R.s_th 0) rfl (show ¬ (1 : Int32) = 0 by decide), z10, if_false]
      rfl
end LOAD2
