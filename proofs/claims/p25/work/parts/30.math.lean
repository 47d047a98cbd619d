/-! a tick -/
theorem counted_ok {R : RW} (hR : R.ok) (b c : Bool) : (R.counted b c).ok := ⟨hR.told, hR.way, hR.fs1, hR.fs8, hR.k0, hR.k1, hR.mi, hR.ms⟩
def RW.served2 (R : RW) (b : Bool) (m : Nat) (lost garbled : Bool) : RW :=
  let R2 := (R.counted lost garbled).madeStep b m lost garbled
  if (R2.ms m).unf = 0 then (RW.mk R2.time R2.told none R2.fsize R2.limit R2.sent R2.lost R2.garbled R2.given R2.no R2.c0 R2.c1 R2.k0 R2.k1 R2.mi (updM R2.ms m (((R2.ms m).s_phase 2).s_ended (nI R2.time)))) else R2
def RW.served (R : RW) (b : Bool) (m : Nat) (level : Int32) : RW :=
  if (R.ch b).frame = -1 then R else R.served2 b m (decide ((R.ch b).power < level)) (decide (level = (R.ch b).power))
def RW.serve (R : RW) (b : Bool) (level : Int32) : RW := match R.way with
  | none => R
  | some m => if (R.ch b).isOpen (nI R.time) then
      (if (R.ch b).frame = -1 then ((R.setMs m (R.ms m).takeOpen.2).setCh b ((R.ch b).take (R.ms m).takeOpen.1)).served b m level else R.served b m level)
    else R
/-- each frame has a letter -/
def RMs.fr (M : RMs) : Prop := ∀ f, f < M.frames → f * M.fsize < M.len
theorem takeOpen_facts (M : RMs) : (M.takeOpen.2).ok = M.ok ∧ M.takeOpen.2.frames = M.frames ∧ M.takeOpen.2.fsize = M.fsize ∧ M.takeOpen.2.len = M.len ∧ (M.takeOpen.1 = -1 ∨ ∃ f, M.takeOpen.1 = nI f ∧ f < M.frames) := by
  unfold RMs.takeOpen
  cases e : M.openFrame with
  | none => exact ⟨rfl, rfl, rfl, rfl, Or.inl rfl⟩
  | some f =>
    have := fnd_some (show fnd (fun f => M.fst f = 0) M.frames 0 = some f from e)
    exact ⟨rfl, rfl, rfl, rfl, Or.inr ⟨f, rfl, by omega⟩⟩
theorem b80_c0 {h : gH} {w : Nat} {R : RW} {m : Nat} (hR : R.ok) (hm : m < R.told) (hC : R.c0.ok (R.ms m)) (hi : R.c0.frame ≠ -1) (lost garbled : Bool) : f_X6_serve_b80 (wdP h w R) w (w + 7) (w + 21 + 5 * m) (bI lost) (bI garbled) = some (wdP h w (R.served2 false m lost garbled)) := by
  have h8 : m < 8 := by have := hR.told; omega
  have q := madeStep_c0 (h := h) (w := w) (R := R.counted lost garbled) (counted_ok hR lost garbled) hm hC hi lost garbled
  simp only [RCh_s, RKp_s, RMs_s, RMi_s, RW_s, f_X6_serve_b80, wdP_g, cond_true, counted_wd, Option.bind_some, q, RW.served2]
  generalize (R.counted lost garbled).madeStep false m lost garbled = R2
  simp only [RCh_s, RKp_s, RMs_s, RMi_s, RW_s, w_ms_Gunf h w R2 h8, Option.bind_some, wdG_time, w_ms_g h w R2 h8, cond_true, w_ms_end h w R2 h8]
  by_cases c : (R2.ms m).unf = 0
  · have tw := wdT_way h w (RW.mk R2.time R2.told R2.way R2.fsize R2.limit R2.sent R2.lost R2.garbled R2.given R2.no R2.c0 R2.c1 R2.k0 R2.k1 R2.mi (updM R2.ms m (((R2.ms m).s_phase 2).s_ended (nI R2.time)))) none
    simp only [RCh_s, RKp_s, RMs_s, RMi_s, RW_s, oI_none] at tw
    rw [if_pos c, if_pos c, tw]
    rfl
  · rw [if_neg c, if_neg c]
theorem b44_c0 {h : gH} {w : Nat} {R : RW} {m : Nat} (hR : R.ok) (hm : m < R.told) (hC : R.c0.ok (R.ms m)) (level : Int32) : f_X6_serve_b44 (wdP h w R) w (w + 7) level (w + 21 + 5 * m) = some (wdP h w (R.served false m level)) := by
  have h10 : ((1 : Int32) = 0) = False := eq_false (by decide)
  simp only [RCh_s, RKp_s, RMs_s, RMi_s, RW_s, f_X6_serve_b44, f_X6_serve_b65, w_c0_g, cond_true, w_c0_isIdle, Option.bind_some, w_c0_Gpower, RW.served, RW.ch, Bool.false_eq_true, if_false]
  by_cases hi : R.c0.frame = -1
  · simp only [RCh_s, RKp_s, RMs_s, RMi_s, RW_s, hi, decide_true, bI_t, h10, if_false, if_true]
  · have y := b80_c0 (h := h) (w := w) hR hm hC hi
    have y1 := y true true
    have y2 := y true false
    have y3 := y false true
    have y4 := y false false
    simp only [RCh_s, RKp_s, RMs_s, RMi_s, RW_s, bI_f, bI_t] at y1 y2 y3 y4
    simp only [RCh_s, RKp_s, RMs_s, RMi_s, RW_s, hi, decide_false, bI_f, if_true, if_false]
    by_cases c1 : R.c0.power < level <;> by_cases c2 : level = R.c0.power <;> simp only [RCh_s, RKp_s, RMs_s, RMi_s, RW_s, c1, c2, if_true, if_false, decide_true, decide_false, y1, y2, y3, y4] <;> simp_all
theorem serve_c0 {h : gH} {w : Nat} {R : RW} (hR : R.ok) (hF : ∀ i, i < R.told → (R.ms i).fr) (hC : ∀ m, R.way = some m → R.c0.ok (R.ms m)) (level : Int32) : f_X6_serve (wdP h w R) w (w + 7) level = some (wdP h w (R.serve false level)) := by
  have h10 : ((1 : Int32) = 0) = False := eq_false (by decide)
  simp only [RCh_s, RKp_s, RMs_s, RMi_s, RW_s, f_X6_serve, wdG_way, Option.bind_some, RW.serve]
  cases e : R.way with
  | none => simp only [RCh_s, RKp_s, RMs_s, RMi_s, RW_s, oI_none, if_true]
  | some m =>
    have hm := hR.way m e
    have h8 : m < 8 := by have := hR.told; omega
    have hne : nI m ≠ -1 := nI_neN (by omega)
    simp only [RCh_s, RKp_s, RMs_s, RMi_s, RW_s, oI_some, hne, if_false, wdG_time, Option.bind_some, w_c0_g, cond_true, w_c0_isOpen, RW.ch, Bool.false_eq_true, if_false]
    cases R.c0.isOpen (nI R.time)
    · simp only [RCh_s, RKp_s, RMs_s, RMi_s, RW_s, bI_f, if_true, Bool.false_eq_true, if_false]
    · simp only [RCh_s, RKp_s, RMs_s, RMi_s, RW_s, bI_t, h10, if_false, wdP_g, cond_true, msgNo h w R h8, Option.bind_some, w_c0_isIdle, if_true]
      by_cases hi : R.c0.frame = -1
      · obtain ⟨k1, k2, k3, k4, k5⟩ := takeOpen_facts (R.ms m)
        have ok2 : ((RW.mk R.time R.told R.way R.fsize R.limit R.sent R.lost R.garbled R.given R.no (R.c0.take (R.ms m).takeOpen.1) R.c1 R.k0 R.k1 R.mi (updM R.ms m (R.ms m).takeOpen.2)) : RW).ok := ⟨hR.told, hR.way, hR.fs1, hR.fs8, hR.k0, hR.k1, hR.mi, fun i hi9 => by
          show (updM R.ms m (R.ms m).takeOpen.2 i).ok
          unfold updM
          split
          · rw [k1]; exact hR.ms m hm
          · exact hR.ms i hi9⟩
        have hC2 : (R.c0.take (R.ms m).takeOpen.1).ok (updM R.ms m (R.ms m).takeOpen.2 m) := by
          rw [updM_at]
          rcases k5 with k5 | ⟨f, k5, k6⟩
          · exact Or.inl k5
          · refine Or.inr ⟨f, 0, 0, k5, nI_0.symm, nI_0.symm, by rw [k2]; exact k6, by rw [k3, k4]; exact hF m hm f k6, by omega, by omega⟩
        have q := b44_c0 (h := h) (w := w) (R := (RW.mk R.time R.told R.way R.fsize R.limit R.sent R.lost R.garbled R.given R.no (R.c0.take (R.ms m).takeOpen.1) R.c1 R.k0 R.k1 R.mi (updM R.ms m (R.ms m).takeOpen.2))) ok2 hm hC2 level
        simp only [RCh_s, RKp_s, RMs_s, RMi_s, RW_s, hi, decide_true, bI_t, h10, if_false, w_ms_g h w R h8, cond_true, w_ms_takeOpen h w R h8 (hR.ms m hm).2.1, Option.bind_some, w_c0_g, w_c0_take, if_true, RW.setCh, Bool.false_eq_true, if_false, RW.setMs]
        exact q
      · simp only [RCh_s, RKp_s, RMs_s, RMi_s, RW_s, hi, decide_false, bI_f, if_true, if_false]
        exact b44_c0 hR hm (hC m e) level
theorem b80_c1 {h : gH} {w : Nat} {R : RW} {m : Nat} (hR : R.ok) (hm : m < R.told) (hC : R.c1.ok (R.ms m)) (hi : R.c1.frame ≠ -1) (lost garbled : Bool) : f_X6_serve_b80 (wdP h w R) w (w + 9) (w + 21 + 5 * m) (bI lost) (bI garbled) = some (wdP h w (R.served2 true m lost garbled)) := by
  have h8 : m < 8 := by have := hR.told; omega
  have q := madeStep_c1 (h := h) (w := w) (R := R.counted lost garbled) (counted_ok hR lost garbled) hm hC hi lost garbled
  simp only [RCh_s, RKp_s, RMs_s, RMi_s, RW_s, f_X6_serve_b80, wdP_g, cond_true, counted_wd, Option.bind_some, q, RW.served2]
  generalize (R.counted lost garbled).madeStep true m lost garbled = R2
  simp only [RCh_s, RKp_s, RMs_s, RMi_s, RW_s, w_ms_Gunf h w R2 h8, Option.bind_some, wdG_time, w_ms_g h w R2 h8, cond_true, w_ms_end h w R2 h8]
  by_cases c : (R2.ms m).unf = 0
  · have tw := wdT_way h w (RW.mk R2.time R2.told R2.way R2.fsize R2.limit R2.sent R2.lost R2.garbled R2.given R2.no R2.c0 R2.c1 R2.k0 R2.k1 R2.mi (updM R2.ms m (((R2.ms m).s_phase 2).s_ended (nI R2.time)))) none
    simp only [RCh_s, RKp_s, RMs_s, RMi_s, RW_s, oI_none] at tw
    rw [if_pos c, if_pos c, tw]
    rfl
  · rw [if_neg c, if_neg c]
theorem b44_c1 {h : gH} {w : Nat} {R : RW} {m : Nat} (hR : R.ok) (hm : m < R.told) (hC : R.c1.ok (R.ms m)) (level : Int32) : f_X6_serve_b44 (wdP h w R) w (w + 9) level (w + 21 + 5 * m) = some (wdP h w (R.served true m level)) := by
  have h10 : ((1 : Int32) = 0) = False := eq_false (by decide)
  simp only [RCh_s, RKp_s, RMs_s, RMi_s, RW_s, f_X6_serve_b44, f_X6_serve_b65, w_c1_g, cond_true, w_c1_isIdle, Option.bind_some, w_c1_Gpower, RW.served, RW.ch, if_true]
  by_cases hi : R.c1.frame = -1
  · simp only [RCh_s, RKp_s, RMs_s, RMi_s, RW_s, hi, decide_true, bI_t, h10, if_false, if_true]
  · have y := b80_c1 (h := h) (w := w) hR hm hC hi
    have y1 := y true true
    have y2 := y true false
    have y3 := y false true
    have y4 := y false false
    simp only [RCh_s, RKp_s, RMs_s, RMi_s, RW_s, bI_f, bI_t] at y1 y2 y3 y4
    simp only [RCh_s, RKp_s, RMs_s, RMi_s, RW_s, hi, decide_false, bI_f, if_true, if_false]
    by_cases c1 : R.c1.power < level <;> by_cases c2 : level = R.c1.power <;> simp only [RCh_s, RKp_s, RMs_s, RMi_s, RW_s, c1, c2, if_true, if_false, decide_true, decide_false, y1, y2, y3, y4] <;> simp_all
theorem serve_c1 {h : gH} {w : Nat} {R : RW} (hR : R.ok) (hF : ∀ i, i < R.told → (R.ms i).fr) (hC : ∀ m, R.way = some m → R.c1.ok (R.ms m)) (level : Int32) : f_X6_serve (wdP h w R) w (w + 9) level = some (wdP h w (R.serve true level)) := by
  have h10 : ((1 : Int32) = 0) = False := eq_false (by decide)
  simp only [RCh_s, RKp_s, RMs_s, RMi_s, RW_s, f_X6_serve, wdG_way, Option.bind_some, RW.serve]
  cases e : R.way with
  | none => simp only [RCh_s, RKp_s, RMs_s, RMi_s, RW_s, oI_none, if_true]
  | some m =>
    have hm := hR.way m e
    have h8 : m < 8 := by have := hR.told; omega
    have hne : nI m ≠ -1 := nI_neN (by omega)
    simp only [RCh_s, RKp_s, RMs_s, RMi_s, RW_s, oI_some, hne, if_false, wdG_time, Option.bind_some, w_c1_g, cond_true, w_c1_isOpen, RW.ch, if_true]
    cases R.c1.isOpen (nI R.time)
    · simp only [RCh_s, RKp_s, RMs_s, RMi_s, RW_s, bI_f, if_true, Bool.false_eq_true, if_false]
    · simp only [RCh_s, RKp_s, RMs_s, RMi_s, RW_s, bI_t, h10, if_false, wdP_g, cond_true, msgNo h w R h8, Option.bind_some, w_c1_isIdle, if_true]
      by_cases hi : R.c1.frame = -1
      · obtain ⟨k1, k2, k3, k4, k5⟩ := takeOpen_facts (R.ms m)
        have ok2 : ((RW.mk R.time R.told R.way R.fsize R.limit R.sent R.lost R.garbled R.given R.no R.c0 (R.c1.take (R.ms m).takeOpen.1) R.k0 R.k1 R.mi (updM R.ms m (R.ms m).takeOpen.2)) : RW).ok := ⟨hR.told, hR.way, hR.fs1, hR.fs8, hR.k0, hR.k1, hR.mi, fun i hi9 => by
          show (updM R.ms m (R.ms m).takeOpen.2 i).ok
          unfold updM
          split
          · rw [k1]; exact hR.ms m hm
          · exact hR.ms i hi9⟩
        have hC2 : (R.c1.take (R.ms m).takeOpen.1).ok (updM R.ms m (R.ms m).takeOpen.2 m) := by
          rw [updM_at]
          rcases k5 with k5 | ⟨f, k5, k6⟩
          · exact Or.inl k5
          · refine Or.inr ⟨f, 0, 0, k5, nI_0.symm, nI_0.symm, by rw [k2]; exact k6, by rw [k3, k4]; exact hF m hm f k6, by omega, by omega⟩
        have q := b44_c1 (h := h) (w := w) (R := (RW.mk R.time R.told R.way R.fsize R.limit R.sent R.lost R.garbled R.given R.no R.c0 (R.c1.take (R.ms m).takeOpen.1) R.k0 R.k1 R.mi (updM R.ms m (R.ms m).takeOpen.2))) ok2 hm hC2 level
        simp only [RCh_s, RKp_s, RMs_s, RMi_s, RW_s, hi, decide_true, bI_t, h10, if_false, w_ms_g h w R h8, cond_true, w_ms_takeOpen h w R h8 (hR.ms m hm).2.1, Option.bind_some, w_c1_g, w_c1_take, if_true, RW.setCh, if_true, RW.setMs]
        exact q
      · simp only [RCh_s, RKp_s, RMs_s, RMi_s, RW_s, hi, decide_false, bI_f, if_true, if_false]
        exact b44_c1 hR hm (hC m e) level
