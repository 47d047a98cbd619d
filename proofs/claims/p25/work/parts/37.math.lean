theorem dig_le (T : Nat → Int32) : ∀ d i x, i ≤ (dig T d i x).1 ∧ (dig T d i x).1 ≤ i + d
  | 0, i, x => ⟨Nat.le_refl _, Nat.le_refl _⟩
  | d + 1, i, x => by
    rw [dig]
    split
    · have := dig_le T d (i + 1) (g_min (10 * x + T i - 48) 1000000)
      omega
    · exact ⟨Nat.le_refl _, by omega⟩
theorem fail_ok {h : gH} {a : Nat} {R : RRd} {T : Nat → Int32} (hR : R.ok h a T) (c : Int32) : (R.fail c).ok h a T := ⟨hR.at', hR.ne, hR.len, hR.pos, hR.tok⟩
theorem numEnd_ok {h : gH} {a : Nat} {R : RRd} {T : Nat → Int32} (hR : R.ok h a T) (lo hi x : Int32) : (R.numEnd lo hi x).2.ok h a T ∧ ((R.numEnd lo hi x).1 = -1 ∨ (lo ≤ (R.numEnd lo hi x).1 ∧ (R.numEnd lo hi x).1 ≤ hi)) ∧ (R.numEnd lo hi x).2.text = R.text ∧ (R.numEnd lo hi x).2.len = R.len := by
  unfold RRd.numEnd
  split
  · exact ⟨fail_ok hR _, Or.inl rfl, rfl, rfl⟩
  · split
    · exact ⟨hR, Or.inr (by assumption), rfl, rfl⟩
    · exact ⟨fail_ok hR _, Or.inl rfl, rfl, rfl⟩
theorem num_ok {h : gH} {a : Nat} {R : RRd} {T : Nat → Int32} (hR : R.ok h a T) (lo hi : Int32) : (R.num T lo hi).2.ok h a T ∧ ((R.num T lo hi).1 = -1 ∨ (lo ≤ (R.num T lo hi).1 ∧ (R.num T lo hi).1 ≤ hi)) ∧ (R.num T lo hi).2.text = R.text ∧ (R.num T lo hi).2.len = R.len := by
  have q := (found_ok hR).1
  have h6 : (R.found T).pos ≤ R.len := q.pos
  have d := dig_le T (R.len - (R.found T).pos) (R.found T).pos 0
  have k : (((R.found T).s_pos ((dig T (R.len - (R.found T).pos) (R.found T).pos 0).1)) : RRd).ok h a T := ⟨q.at', q.ne, q.len, by show (dig T (R.len - (R.found T).pos) (R.found T).pos 0).1 ≤ R.len; omega, q.tok⟩
  exact numEnd_ok k lo hi _
theorem semi_ok {h : gH} {a : Nat} {R : RRd} {T : Nat → Int32} (hR : R.ok h a T) : (R.semi T).2.ok h a T ∧ (R.semi T).2.text = R.text ∧ (R.semi T).2.len = R.len := by
  have q := (found_ok hR).1
  unfold RRd.semi
  dsimp only [RCh_power, RCh_u_power, RCh_opening, RCh_u_opening, RCh_closing, RCh_u_closing, RCh_frame, RCh_u_frame, RCh_step, RCh_u_step, RCh_number, RCh_u_number, RCh_n, RCh_u_n, RCh_heard, RCh_u_heard, RCh_lost, RCh_u_lost, RCh_good, RCh_u_good, RKp_told, RKp_u_told, RKp_ticks, RKp_u_ticks, RKp_keys, RKp_u_keys, RMs_sender, RMs_u_sender, RMs_urgency, RMs_u_urgency, RMs_len, RMs_u_len, RMs_fsize, RMs_u_fsize, RMs_frames, RMs_u_frames, RMs_phase, RMs_u_phase, RMs_began, RMs_u_began, RMs_ended, RMs_u_ended, RMs_unf, RMs_u_unf, RMs_letters, RMs_u_letters, RMs_log, RMs_u_log, RMs_fst, RMs_u_fst, RMs_tries, RMs_u_tries, RMi_told, RMi_u_told, RMi_firsts, RMi_u_firsts, RMi_lasts, RMi_u_lasts, RMi_levels, RMi_u_levels, RW_time, RW_u_time, RW_told, RW_u_told, RW_way, RW_u_way, RW_fsize, RW_u_fsize, RW_limit, RW_u_limit, RW_sent, RW_u_sent, RW_lost, RW_u_lost, RW_garbled, RW_u_garbled, RW_given, RW_u_given, RW_no, RW_u_no, RW_c0, RW_u_c0, RW_c1, RW_u_c1, RW_k0, RW_u_k0, RW_k1, RW_u_k1, RW_mi, RW_u_mi, RW_ms, RW_u_ms, RRd_text, RRd_u_text, RRd_len, RRd_u_len, RRd_pos, RRd_u_pos, RRd_tok, RRd_u_tok, RRd_told, RRd_u_told, RRd_code, RRd_u_code, RRd_err, RRd_u_err, RCh_eta, RKp_eta, RMs_eta, RMi_eta, RW_eta, RRd_eta]
  split
  · rename_i c
    exact ⟨⟨q.at', q.ne, q.len, by show _ + 1 ≤ R.len; omega, q.tok⟩, rfl, rfl⟩
  · exact ⟨fail_ok q _, rfl, rfl⟩
/-- where reader, text and World lie -/
def Jo (h : gH) (a w t : Nat) (T : Nat → Int32) : Prop := (h.2 t = some (.inl (1, 500, .inl T))) ∧ (t ≠ a) ∧ (t < w ∨ w + 61 ≤ t) ∧ (a < w ∨ w + 61 ≤ a)
theorem Jo.tx {h : gH} {a w t : Nat} {T : Nat → Int32} (H : Jo h a w t T) : h.2 t = some (.inl (1, 500, .inl T)) := H.1
theorem Jo.ta {h : gH} {a w t : Nat} {T : Nat → Int32} (H : Jo h a w t T) : t ≠ a := H.2.1
theorem Jo.tw {h : gH} {a w t : Nat} {T : Nat → Int32} (H : Jo h a w t T) : t < w ∨ w + 61 ≤ t := H.2.2.1
theorem Jo.aw {h : gH} {a w t : Nat} {T : Nat → Int32} (H : Jo h a w t T) : a < w ∨ w + 61 ≤ a := H.2.2.2
theorem Jo.wd {h : gH} {a w t : Nat} {T : Nat → Int32} (J : Jo h a w t T) (W : RW) {R : RRd} (e : R.text = t) (h1 : R.len ≤ 500) (h2 : R.pos ≤ R.len) (h3 : R.tok ≤ R.len) : R.ok (wdP h w W) a T :=
  ⟨by rw [e, wdP_out _ _ _ J.tw]; exact J.tx, by rw [e]; exact J.ta, h1, h2, h3⟩
/-- the reader is well, wherever the World stands -/
def RRd.w (R : RRd) (h : gH) (a w t : Nat) (T : Nat → Int32) : Prop := R.text = t ∧ ∀ W, R.ok (wdP h w W) a T
theorem numEnd_text (R : RRd) (lo hi x : Int32) : (R.numEnd lo hi x).2.text = R.text := by
  unfold RRd.numEnd
  by_cases c : R.pos = R.tok
  · rw [if_pos c]; rfl
  · rw [if_neg c]
    by_cases c2 : lo ≤ x ∧ x ≤ hi
    · rw [if_pos c2]
    · rw [if_neg c2]; rfl
theorem num_text (T : Nat → Int32) (R : RRd) (lo hi : Int32) : (R.num T lo hi).2.text = R.text := numEnd_text _ lo hi _
theorem w_num {h : gH} {a w t : Nat} {T : Nat → Int32} {R : RRd} (hR : R.w h a w t T) (lo hi : Int32) : (R.num T lo hi).2.w h a w t T := ⟨(num_text T R lo hi).trans hR.1, fun W => (num_ok (hR.2 W) lo hi).1⟩
theorem w_word {h : gH} {a w t : Nat} {T : Nat → Int32} {R : RRd} (hR : R.w h a w t T) : (R.word T).w h a w t T := ⟨hR.1, fun W => (word_ok (hR.2 W)).1⟩
theorem w_fail {h : gH} {a w t : Nat} {T : Nat → Int32} {R : RRd} (hR : R.w h a w t T) (c : Int32) : (R.fail c).w h a w t T := ⟨hR.1, fun W => fail_ok (hR.2 W) c⟩
section JO
variable {h : gH} {a w t : Nat} {T : Nat → Int32}
theorem j_g (J : Jo h a w t T) (R : RRd) (W : RW) : g_is (rdP (wdP h w W) a R) w 6 = true := by rw [rd_wd J.aw]; exact wdP_g _ _ _
theorem j_clear (J : Jo h a w t T) (R : RRd) (W : RW) (z : Nat) (l : Int32) : f_X6_clear (rdP (wdP h w W) a R) w (nI z) l = some (rdP (wdP h w (W.clear z l)) a R) := by rw [rd_wd J.aw, clear_wd, ← rd_wd J.aw]
def readRelay (T : Nat → Int32) (R : RRd) (W : RW) : Bool × RRd × RW :=
  let R1 := R.word T
  if R1.isTok T 0 then
    let y := R1.num T 1 8
    if y.1 = -1 then (false, y.2, W) else
    let z := y.2.num T 1 9
    if z.1 = -1 then (false, z.2, W) else
    ((z.2.semi T).1, (z.2.semi T).2, W.clear y.1.toNatClampNeg z.1)
  else (false, R1.fail (-2), W)
theorem relay_rd (J : Jo h a w t T) {R : RRd} (hR : R.w h a w t T) (W : RW) : f_X5_readRelay (rdP (wdP h w W) a R) a w = some (bI (readRelay T R W).1, rdP (wdP h w (readRelay T R W).2.2) a (readRelay T R W).2.1) := by
  have h10 : ((1 : Int32) = 0) = False := eq_false (by decide)
  have z0 : g_z 0 = some 0 := rfl
  have w1 := w_word hR
  have t1 := (word_ok (hR.2 W)).2
  simp only [RCh_s, RKp_s, RMs_s, RMi_s, RW_s, RRd_s, f_X5_readRelay, rdP_g, cond_true, word_rd (hR.2 W), Option.bind_some, tok_rd (show 0 < 5 by decide) (w1.2 W) t1, readRelay]
  cases (R.word T).isTok T 0
  · simp only [RCh_s, RKp_s, RMs_s, RMi_s, RW_s, RRd_s, bI_f, if_true, fail_rd, Option.bind_some, z0, Bool.false_eq_true, if_false]
  · simp only [RCh_s, RKp_s, RMs_s, RMi_s, RW_s, RRd_s, bI_t, h10, if_false, if_true, num_rd (w1.2 W), Option.bind_some]
    by_cases c1 : ((R.word T).num T 1 8).1 = -1
    · simp only [RCh_s, RKp_s, RMs_s, RMi_s, RW_s, RRd_s, c1, if_true, bI_f]
    · have w2 := w_num w1 1 8
      have b2 := ((num_ok (w1.2 W) 1 8).2.1).resolve_left c1
      obtain ⟨k, hk, ek⟩ := nI_of (show ¬ ((R.word T).num T 1 8).1 < 0 from Int32.not_lt.mpr (Int32.le_trans (by decide) b2.1))
      simp only [RCh_s, RKp_s, RMs_s, RMi_s, RW_s, RRd_s, c1, if_false, rdP_g, cond_true, num_rd (w2.2 W), Option.bind_some]
      by_cases c2 : (((R.word T).num T 1 8).2.num T 1 9).1 = -1
      · simp only [RCh_s, RKp_s, RMs_s, RMi_s, RW_s, RRd_s, c2, if_true, bI_f]
      · have w3 := w_num w2 1 9
        have e9 : ∀ l, f_X6_clear (rdP (wdP h w W) a (((R.word T).num T 1 8).2.num T 1 9).2) w ((R.word T).num T 1 8).1 l = some (rdP (wdP h w (W.clear ((R.word T).num T 1 8).1.toNatClampNeg l)) a (((R.word T).num T 1 8).2.num T 1 9).2) := fun l => by
          rw [ek, nI_clamp hk]
          exact j_clear J _ W k l
        simp only [RCh_s, RKp_s, RMs_s, RMi_s, RW_s, RRd_s, c2, if_false, j_g J, rdP_g, cond_true, e9, Option.bind_some, semi_rd (w3.2 _), g_z_bI]
end JO
