section JO2
variable {h : gH} {a w t : Nat} {T : Nat → Int32}
def cp (w : Nat) (b : Bool) : Nat := if b then w + 9 else w + 7
theorem j_chan (J : Jo h a w t T) (R : RRd) (W : RW) (x : Int32) : f_X6_channelNumbered (rdP (wdP h w W) a R) w x = some (cp w (decide (x ≠ 0))) := by
  rw [rd_wd J.aw]
  unfold f_X6_channelNumbered cp
  by_cases c : x = 0 <;> simp [RCh_s, RKp_s, RMs_s, RMi_s, RW_s, RRd_s, bI_t, bI_f, oI_none, oI_some, SIM_m40, SIM_m45, SIM_m46, SIM_m54_3, c]
theorem j_put (J : Jo h a w t T) (R : RRd) (W : RW) (b : Bool) (v : Int32) :
    g_put (rdP (wdP h w W) a R) (cp w b) 0 0 (.int v) = some (rdP (wdP h w (W.setCh b ((W.ch b).s_power v))) a R) ∧
    g_put (rdP (wdP h w W) a R) (cp w b) 0 1 (.int v) = some (rdP (wdP h w (W.setCh b ((W.ch b).s_opening v))) a R) ∧
    g_put (rdP (wdP h w W) a R) (cp w b) 0 2 (.int v) = some (rdP (wdP h w (W.setCh b ((W.ch b).s_closing v))) a R) := by
  rw [rd_wd J.aw, rd_wd J.aw, rd_wd J.aw, rd_wd J.aw]
  cases b
  · exact ⟨w_c0_Tpower _ _ _ _, w_c0_Topening _ _ _ _, w_c0_Tclosing _ _ _ _⟩
  · exact ⟨w_c1_Tpower _ _ _ _, w_c1_Topening _ _ _ _, w_c1_Tclosing _ _ _ _⟩
theorem j_get (J : Jo h a w t T) (R : RRd) (W : RW) (b : Bool) (C : RCh) :
    g_gI (rdP (wdP h w (W.setCh b C)) a R) (cp w b) 0 0 = some C.power ∧
    g_gI (rdP (wdP h w (W.setCh b C)) a R) (cp w b) 0 1 = some C.opening ∧
    g_gI (rdP (wdP h w (W.setCh b C)) a R) (cp w b) 0 2 = some C.closing := by
  rw [rd_wd J.aw]
  cases b
  · exact ⟨w_c0_Gpower _ _ _, w_c0_Gopening _ _ _, w_c0_Gclosing _ _ _⟩
  · exact ⟨w_c1_Gpower _ _ _, w_c1_Gopening _ _ _, w_c1_Gclosing _ _ _⟩
def readChannel (T : Nat → Int32) (R : RRd) (W : RW) : Bool × RRd × RW :=
  let y := R.num T 0 1
  if y.1 = -1 then (false, y.2, W) else
  if (y.2.told &&& (1 <<< (y.1 &&& 31))) = 0 then
    let b := decide (y.1 ≠ 0)
    let p := ((RRd.mk y.2.text y.2.len y.2.pos y.2.tok (y.2.told ||| (1 <<< (y.1 &&& 31))) y.2.code y.2.err) : RRd).num T 0 9
    let W1 := W.setCh b ((W.ch b).s_power p.1)
    if p.1 = -1 then (false, p.2, W1) else
    let q := p.2.num T 0 23
    let W2 := W1.setCh b ((W1.ch b).s_opening q.1)
    if q.1 = -1 then (false, q.2, W2) else
    let r := q.2.num T 0 23
    (decide (r.1 ≠ -1), r.2, W2.setCh b ((W2.ch b).s_closing r.1))
  else (false, y.2.fail (-4), W)
theorem w_told {R : RRd} (hR : R.w h a w t T) (x : Int32) : ((RRd.mk R.text R.len R.pos R.tok x R.code R.err) : RRd).w h a w t T := ⟨hR.1, fun W => ⟨(hR.2 W).at', (hR.2 W).ne, (hR.2 W).len, (hR.2 W).pos, (hR.2 W).tok⟩⟩
theorem channel_rd (J : Jo h a w t T) {R : RRd} (hR : R.w h a w t T) (W : RW) : f_X5_readChannel (rdP (wdP h w W) a R) a w = some (bI (readChannel T R W).1, rdP (wdP h w (readChannel T R W).2.2) a (readChannel T R W).2.1) := by
  have z0 : g_z 0 = some 0 := rfl
  simp only [RCh_s, RKp_s, RMs_s, RMi_s, RW_s, RRd_s, f_X5_readChannel, rdP_g, cond_true, num_rd (hR.2 W), Option.bind_some, readChannel]
  have w1 := w_num hR 0 1
  generalize R.num T 0 1 = y at w1 ⊢
  by_cases c1 : y.1 = -1
  · simp only [RCh_s, RKp_s, RMs_s, RMi_s, RW_s, RRd_s, c1, if_true, bI_f]
  · simp only [RCh_s, RKp_s, RMs_s, RMi_s, RW_s, RRd_s, c1, if_false, rdG_told, Option.bind_some]
    by_cases c2 : (y.2.told &&& (1 <<< (y.1 &&& 31))) = 0
    · have w2 := w_told w1 (y.2.told ||| (1 <<< (y.1 &&& 31)))
      simp only [RCh_s, RKp_s, RMs_s, RMi_s, RW_s, RRd_s, c2, if_true, rdT_told, Option.bind_some, j_g J, cond_true, j_chan J, rdP_g, num_rd (w2.2 W)]
      have w3 := w_num w2 0 9
      generalize (((RRd.mk y.2.text y.2.len y.2.pos y.2.tok (y.2.told ||| (1 <<< (y.1 &&& 31))) y.2.code y.2.err) : RRd).num T 0 9) = p at w3 ⊢
      generalize decide (y.1 ≠ 0) = b
      simp only [RCh_s, RKp_s, RMs_s, RMi_s, RW_s, RRd_s, (j_put J _ W b p.1).1, Option.bind_some, (j_get J _ W b _).1]
      by_cases c3 : p.1 = -1
      · simp only [RCh_s, RKp_s, RMs_s, RMi_s, RW_s, RRd_s, c3, if_true, bI_f]
      · simp only [RCh_s, RKp_s, RMs_s, RMi_s, RW_s, RRd_s, c3, if_false, rdP_g, cond_true, num_rd (w3.2 _), Option.bind_some]
        have w4 := w_num w3 0 23
        generalize p.2.num T 0 23 = q at w4 ⊢
        simp only [RCh_s, RKp_s, RMs_s, RMi_s, RW_s, RRd_s, (j_put J _ _ b q.1).2.1, Option.bind_some, (j_get J _ _ b _).2.1]
        by_cases c4 : q.1 = -1
        · simp only [RCh_s, RKp_s, RMs_s, RMi_s, RW_s, RRd_s, c4, if_true, bI_f]
        · simp only [RCh_s, RKp_s, RMs_s, RMi_s, RW_s, RRd_s, c4, if_false, rdP_g, cond_true, num_rd (w4.2 _), Option.bind_some]
          generalize q.2.num T 0 23 = r
          simp only [RCh_s, RKp_s, RMs_s, RMi_s, RW_s, RRd_s, (j_put J _ _ b r.1).2.2, Option.bind_some, (j_get J _ _ b _).2.2]
          by_cases c5 : r.1 = -1
          · simp [RCh_s, RKp_s, RMs_s, RMi_s, RW_s, RRd_s, bI_t, bI_f, oI_none, oI_some, SIM_m40, SIM_m45, SIM_m46, SIM_m54_3, c5]
          · simp [RCh_s, RKp_s, RMs_s, RMi_s, RW_s, RRd_s, bI_t, bI_f, oI_none, oI_some, SIM_m40, SIM_m45, SIM_m46, SIM_m54_3, c5]
    · simp only [RCh_s, RKp_s, RMs_s, RMi_s, RW_s, RRd_s, c2, if_false, rdP_g, cond_true, fail_rd, Option.bind_some, z0, bI_f]
/-- the keepers' place -/
def kpp (w : Nat) (s : Int32) : Nat := if s = 0 then w + 11 else w + 14
def RW.setKp (R : RW) (s : Int32) (K : RKp) : RW := if s = 0 then (RW.mk R.time R.told R.way R.fsize R.limit R.sent R.lost R.garbled R.given R.no R.c0 R.c1 K R.k1 R.mi R.ms) else (RW.mk R.time R.told R.way R.fsize R.limit R.sent R.lost R.garbled R.given R.no R.c0 R.c1 R.k0 K R.mi R.ms)
theorem j_keep (J : Jo h a w t T) (R : RRd) (W : RW) (s : Int32) : f_X6_keepersOf (rdP (wdP h w W) a R) w s = some (kpp w s) := by
  rw [rd_wd J.aw]
  unfold f_X6_keepersOf kpp
  by_cases c : s = 0 <;> simp [RCh_s, RKp_s, RMs_s, RMi_s, RW_s, RRd_s, bI_t, bI_f, oI_none, oI_some, SIM_m40, SIM_m45, SIM_m46, SIM_m54_3, c]
theorem j_keepers (J : Jo h a w t T) (R : RRd) (W : RW) (s : Int32) (hn : (W.kp s).told ≤ 8) : g_is (rdP (wdP h w W) a R) (kpp w s) 2 = true ∧ f_X2_isFull (rdP (wdP h w W) a R) (kpp w s) = some (bI (decide (8 ≤ (W.kp s).told))) ∧ (∀ x, f_X2_hasOneAt (rdP (wdP h w W) a R) (kpp w s) x = some (bI ((W.kp s).place x).isSome)) ∧ (∀ x y, f_X2_come (rdP (wdP h w W) a R) (kpp w s) x y = some (rdP (wdP h w (W.setKp s ((W.kp s).come x y))) a R)) := by
  simp only [RCh_s, RKp_s, RMs_s, RMi_s, RW_s, RRd_s, rd_wd J.aw]
  unfold kpp RW.kp RW.setKp at *
  by_cases c : s = 0
  · simp only [RCh_s, RKp_s, RMs_s, RMi_s, RW_s, RRd_s, c, if_true] at hn ⊢
    exact ⟨w_k0_g _ _ _, w_k0_isFull _ _ _ hn, fun x => w_k0_hasOneAt _ _ _ hn x, fun x y => w_k0_come _ _ _ hn x y⟩
  · simp only [RCh_s, RKp_s, RMs_s, RMi_s, RW_s, RRd_s, c, if_false] at hn ⊢
    exact ⟨w_k1_g _ _ _, w_k1_isFull _ _ _ hn, fun x => w_k1_hasOneAt _ _ _ hn x, fun x y => w_k1_come _ _ _ hn x y⟩
def readKeeper (T : Nat → Int32) (R : RRd) (W : RW) : Bool × RRd × RW :=
  let y := R.num T 0 1
  if y.1 = -1 then (false, y.2, W) else
  if 8 ≤ (W.kp y.1).told then (false, y.2.fail (-5), W) else
  let z := y.2.num T 0 9999
  if z.1 = -1 then (false, z.2, W) else
  if ((W.kp y.1).place z.1).isSome then (false, z.2.fail (-4), W) else
  let k := z.2.num T 0 25
  if k.1 = -1 then (false, k.2, W) else (true, k.2, W.setKp y.1 ((W.kp y.1).come z.1 k.1))
theorem keeper_rd (J : Jo h a w t T) {R : RRd} (hR : R.w h a w t T) {W : RW} (hW : W.ok) : f_X5_readKeeper (rdP (wdP h w W) a R) a w = some (bI (readKeeper T R W).1, rdP (wdP h w (readKeeper T R W).2.2) a (readKeeper T R W).2.1) := by
  have z0 : g_z 0 = some 0 := rfl
  have h10 : ((1 : Int32) = 0) = False := eq_false (by decide)
  have hn : ∀ s, (W.kp s).told ≤ 8 := fun s => by unfold RW.kp; split; exact hW.k0; exact hW.k1
  simp only [RCh_s, RKp_s, RMs_s, RMi_s, RW_s, RRd_s, f_X5_readKeeper, rdP_g, cond_true, num_rd (hR.2 W), Option.bind_some, readKeeper]
  have w1 := w_num hR 0 1
  generalize R.num T 0 1 = y at w1 ⊢
  by_cases c1 : y.1 = -1
  · simp only [RCh_s, RKp_s, RMs_s, RMi_s, RW_s, RRd_s, c1, if_true, bI_f]
  · simp only [RCh_s, RKp_s, RMs_s, RMi_s, RW_s, RRd_s, c1, if_false, j_g J, cond_true, j_keep J, Option.bind_some, (j_keepers J _ W y.1 (hn _)).1, (j_keepers J _ W y.1 (hn _)).2.1, bI_0]
    by_cases c2 : 8 ≤ (W.kp y.1).told
    · simp only [RCh_s, RKp_s, RMs_s, RMi_s, RW_s, RRd_s, c2, decide_true, Bool.true_eq_false, if_false, if_true, rdP_g, cond_true, fail_rd, Option.bind_some, z0, bI_f]
    · simp only [RCh_s, RKp_s, RMs_s, RMi_s, RW_s, RRd_s, c2, decide_false, if_true, if_false, rdP_g, cond_true, num_rd (w1.2 W), Option.bind_some]
      have w2 := w_num w1 0 9999
      generalize y.2.num T 0 9999 = z at w2 ⊢
      by_cases c3 : z.1 = -1
      · simp only [RCh_s, RKp_s, RMs_s, RMi_s, RW_s, RRd_s, c3, if_true, bI_f]
      · simp only [RCh_s, RKp_s, RMs_s, RMi_s, RW_s, RRd_s, c3, if_false, (j_keepers J _ W y.1 (hn _)).1, cond_true, (j_keepers J _ W y.1 (hn _)).2.2.1, Option.bind_some, bI_0]
        cases c4 : ((W.kp y.1).place z.1).isSome
        · simp only [RCh_s, RKp_s, RMs_s, RMi_s, RW_s, RRd_s, if_true, rdP_g, cond_true, num_rd (w2.2 W), Option.bind_some, Bool.false_eq_true, if_false]
          generalize z.2.num T 0 25 = k
          by_cases c5 : k.1 = -1
          · simp only [RCh_s, RKp_s, RMs_s, RMi_s, RW_s, RRd_s, c5, if_true, bI_f]
          · simp only [RCh_s, RKp_s, RMs_s, RMi_s, RW_s, RRd_s, c5, if_false, (j_keepers J _ W y.1 (hn _)).1, cond_true, (j_keepers J _ W y.1 (hn _)).2.2.2, Option.bind_some, bI_t]
        · simp only [RCh_s, RKp_s, RMs_s, RMi_s, RW_s, RRd_s, Bool.true_eq_false, if_false, if_true, rdP_g, cond_true, fail_rd, Option.bind_some, z0, bI_f]
end JO2
