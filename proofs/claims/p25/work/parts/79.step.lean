/-! the Line's step: the answer, the symbols, the check -/
section STP
variable {G : gG} {h : gH} {S : RS} {D : Nat → Int32} {R : RW}
theorem z20' : ((2 : Int32) = 0) = False := eq_false (by decide)
theorem z21' : ((2 : Int32) = 1) = False := eq_false (by decide)
theorem z01' : ((0 : Int32) = 1) = False := eq_false (by decide)
theorem b153_p {n : Nat} (ok : S.ok n) {c : Nat} (hc : c < 2) (E : Nat → Int32) : f_X10_steps_b153 G (lnP h S E) (S.p c) = some (lnP h S (upd (upd E (10 + 16 * c + 3) (-1)) (10 + 16 * c + 4) (-1))) := by
  simp only [f_X10_steps_b153, lmT_work ok hc, lmT_step ok hc, Option.bind_some]
theorem ans_p (L : lnR h S D R) {i c f t l : Nat} (hi : i < R.told) (hc : c < 2) (hf : f < (R.ms i).frames) {E : Nat → Int32} (e3 : E (10 + 16 * c + 3) = nI f) (e78 : E (112 + 102 * i + (78 + f)) = nI t) (e9 : E 9 = nI l) (tl : t < l) (hl : l ≤ 9) (yes : Bool) :
    ∃ D', f_X10_steps_b69 G (lnP h S E) S.B (S.t i) (S.p c) (bI yes) = some (lnP h S D') ∧ D' 6 = E 6 + bI (!yes && decide (t + 1 = l)) ∧ D' (10 + 16 * c + 3) = -1 ∧ D' (10 + 16 * c + 4) = -1 ∧ (∀ j, j ≠ 6 → j ≠ 10 + 16 * c + 3 → j ≠ 10 + 16 * c + 4 → j ≠ 112 + 102 * i + (54 + f) → j ≠ 112 + 102 * i + (78 + f) → D' j = E j) ∧ D' (112 + 102 * i + (54 + f)) = (if yes then 2 else if t + 1 = l then 3 else 0) ∧ D' (112 + 102 * i + (78 + f)) = nI (if yes then t else t + 1) := by
  have ok := L.1
  have h24 := L.len24 hi
  have hs : f < S.fr i := by rw [L.sfr hi]; exact hf
  have z10 : ((1 : Int32) = 0) = False := eq_false (by decide)
  have z23 : ((2 : Int32) = 3) = False := eq_false (by decide)
  have z03 : ((0 : Int32) = 3) = False := eq_false (by decide)
  have bb : ∀ F : Nat → Int32, g_gI (lnP h S F) (S.t i + (5 + f)) 8 0 = some (F (112 + 102 * i + (54 + f))) := fun F => frG0 ok hi hs
  cases yes with
  | true =>
    refine ⟨upd (upd (upd E (112 + 102 * i + (54 + f)) 2) (10 + 16 * c + 3) (-1)) (10 + 16 * c + 4) (-1), ?_, ?_, ?_, ?_, fun j a b d e f => ?_, ?_, ?_⟩
    · simp only [f_X10_steps_b69, f_X10_steps_b107, f_X10_steps_b134, tk_frames ok hi, lmG_work ok hc, e3, Option.bind_some, frame_p L hi hf, bI_t, z10, if_false, frT0 ok hi hs, bb, upd_at, z23, b153_p ok hc]
    · rw [upd_ne (by omega), upd_ne (by omega), upd_ne (by omega)]; simp [bI]
    · rw [upd_ne (by omega), upd_at]
    · exact upd_at _ _ _
    · rw [upd_ne d, upd_ne b, upd_ne e]
    · rw [upd_ne (by omega), upd_ne (by omega), upd_at]; rfl
    · rw [upd_ne (by omega), upd_ne (by omega), upd_ne (by omega)]; exact e78
  | false =>
    have e1 : nI t + 1 = nI (t + 1) := (nI_succ t).symm
    generalize hF : upd E (112 + 102 * i + (78 + f)) (nI (t + 1)) = F
    have F78 : F (112 + 102 * i + (78 + f)) = nI (t + 1) := by rw [← hF, upd_at]
    have Fo : ∀ j, j ≠ 112 + 102 * i + (78 + f) → F j = E j := fun j a => by rw [← hF, upd_ne a]
    have F9 : F 9 = nI l := by rw [Fo 9 (by omega), e9]
    have etl : (nI (t + 1) = nI l) ↔ t + 1 = l := nI_eq (by omega) (by omega)
    by_cases g : t + 1 = l
    · subst g
      generalize hH : upd F (112 + 102 * i + (54 + f)) 3 = H
      have H54 : H (112 + 102 * i + (54 + f)) = 3 := by rw [← hH, upd_at]
      have Ho : ∀ j, j ≠ 112 + 102 * i + (54 + f) → H j = F j := fun j a => by rw [← hH, upd_ne a]
      refine ⟨upd (upd (upd H 6 (H 6 + 1)) (10 + 16 * c + 3) (-1)) (10 + 16 * c + 4) (-1), ?_, ?_, ?_, ?_, fun j a b d e f => ?_, ?_, ?_⟩
      · simp only [f_X10_steps_b69, f_X10_steps_b107, f_X10_steps_b131, f_X10_steps_b134, tk_frames ok hi, lmG_work ok hc, e3, Option.bind_some, frame_p L hi hf, bI_f, if_true, frG1 ok hi hs, e78, e1, frT1 ok hi hs, hF, F78, lnG_limit ok, F9, etl, frT0 ok hi hs, hH, bb, H54, lnG_given ok, lnT_given ok, b153_p ok hc]
      · rw [upd_ne (by omega), upd_ne (by omega), upd_at, Ho 6 (by omega), Fo 6 (by omega)]; simp [bI]
      · rw [upd_ne (by omega), upd_at]
      · exact upd_at _ _ _
      · rw [upd_ne d, upd_ne b, upd_ne a, Ho j e, Fo j f]
      · rw [upd_ne (by omega), upd_ne (by omega), upd_ne (by omega), H54]; simp
      · rw [upd_ne (by omega), upd_ne (by omega), upd_ne (by omega), Ho _ (by omega), F78]; simp
    · generalize hH : upd F (112 + 102 * i + (54 + f)) 0 = H
      have H54 : H (112 + 102 * i + (54 + f)) = 0 := by rw [← hH, upd_at]
      have Ho : ∀ j, j ≠ 112 + 102 * i + (54 + f) → H j = F j := fun j a => by rw [← hH, upd_ne a]
      refine ⟨upd (upd H (10 + 16 * c + 3) (-1)) (10 + 16 * c + 4) (-1), ?_, ?_, ?_, ?_, fun j a b d e f => ?_, ?_, ?_⟩
      · simp only [f_X10_steps_b69, f_X10_steps_b107, f_X10_steps_b131, f_X10_steps_b134, tk_frames ok hi, lmG_work ok hc, e3, Option.bind_some, frame_p L hi hf, bI_f, if_true, frG1 ok hi hs, e78, e1, frT1 ok hi hs, hF, F78, lnG_limit ok, F9, etl, g, if_false, frT0 ok hi hs, hH, bb, H54, z03, b153_p ok hc]
      · rw [upd_ne (by omega), upd_ne (by omega), Ho 6 (by omega), Fo 6 (by omega)]; simp [bI, g]
      · rw [upd_ne (by omega), upd_at]
      · exact upd_at _ _ _
      · rw [upd_ne d, upd_ne b, Ho j e, Fo j f]
      · rw [upd_ne (by omega), upd_ne (by omega), H54]; simp [g]
      · rw [upd_ne (by omega), upd_ne (by omega), Ho _ (by omega), F78]; simp
/-- the answer as the symbol says -/
theorem b22_ans (L : lnR h S D R) {i c : Nat} (hc : c < 2) {mf : Nat} {lo ga : Bool} {E : Nat → Int32} (hair : f_X10_air G (lnP h S D) S.B (S.p c) = some (howI lo ga, lnP h S E)) (e4 : E (10 + 16 * c + 4) = nI mf + 2) {good : Bool} (e7 : E (10 + 16 * c + 7) = bI good) : f_X10_steps_b22 G (lnP h S D) S.B (S.t i) (S.p c) (nI mf) = f_X10_steps_b69 G (lnP h S E) S.B (S.t i) (S.p c) (bI (!lo && (good != ga))) := by
  have ok := L.1
  have z10 : ((1 : Int32) = 0) = False := eq_false (by decide)
  simp only [f_X10_steps_b22, f_X10_steps_b51, f_X10_steps_b64, f_X10_steps_b68, ln_gB ok, cond_true, hair, Option.bind_some, lmG_step ok hc, e4, if_true, lmG_isGood ok hc, e7, howI]
  cases lo <;> cases ga <;> cases good <;> simp only [bI_t, bI_f, z10, z01', z20', z21', if_true, if_false, Bool.false_eq_true, Bool.not_true, Bool.not_false, Bool.true_and, Bool.false_and, bne_self_eq_false, Bool.true_bne, Bool.false_bne, Bool.bne_true, Bool.bne_false]
/-- a symbol that is no answer -/
theorem b22_sym (L : lnR h S D R) {i c : Nat} (hc : c < 2) {mf : Nat} {lo ga : Bool} {E : Nat → Int32} (hlg : lo = true → ga = false) (hair : f_X10_air G (lnP h S E) S.B (S.p c) = some (howI lo ga, lnP h S (aird E lo ga))) (e4 : ¬ E (10 + 16 * c + 4) = nI mf + 2) {lost : Bool} (e5 : E (10 + 16 * c + 5) = bI lost) : f_X10_steps_b22 G (lnP h S E) S.B (S.t i) (S.p c) (nI mf) = f_X10_steps_b195 G (lnP h S (symd E c lo ga)) S.B (S.t i) (S.p c) (nI mf) (bI ga) := by
  have ok := L.1
  have a4 : aird E lo ga (10 + 16 * c + 4) = E (10 + 16 * c + 4) := aird_ne (by omega)
  have a5 : aird E lo ga (10 + 16 * c + 5) = bI lost := (aird_ne (by omega)).trans e5
  have o0 := or_bI lost false
  have o1 := or_bI lost true
  rw [bI_f] at o0
  rw [bI_t] at o1
  simp only [f_X10_steps_b22, f_X10_steps_b180, ln_gB ok, cond_true, hair, Option.bind_some, lmG_step ok hc, a4, e4, if_false, lmG_isLost ok hc, a5, howI]
  cases lo with
  | true =>
    have hg : ga = false := hlg rfl
    subst hg
    simp only [if_true, o1, g_z_bI, lmT_isLost ok hc, Option.bind_some, z21', if_false, bI_f, Bool.or_true, bI_t]
    rfl
  | false =>
    have n2 : ¬ bI ga = 2 := by cases ga <;> decide
    simp only [Bool.false_eq_true, if_false, n2, o0, g_z_bI, lmT_isLost ok hc, Option.bind_some, Bool.or_false]
    rw [upd_same a5]
    cases ga
    · simp only [bI_f, z01', if_false]; rfl
    · simp only [bI_t, if_true]; rfl
theorem b481_p {n : Nat} (ok : S.ok n) {c s : Nat} (hc : c < 2) {E : Nat → Int32} (e : E (10 + 16 * c + 4) = nI s) : f_X10_steps_b481 G (lnP h S E) (S.p c) = some (lnP h S (upd E (10 + 16 * c + 4) (nI s + 1))) := by
  simp only [f_X10_steps_b481, lmG_step ok hc, lmT_step ok hc, e, Option.bind_some]
/-- what a frame with number b writes into the log -/
def wrt (z b len : Nat) (heard : Nat → Int32) : Nat → (Nat → Int32) → Nat → Int32 := fun k L => if b * z + k < len ∧ L (b * z + k) = -1 then upd L (b * z + k) (heard k) else L
theorem write_l (L : lnR h S D R) {i c z b mf : Nat} (hi : i < R.told) (hc : c < 2) (hb : b < (R.ms i).frames) (hz : z ≤ 8) (hm : mf ≤ 8) {heard : Nat → Int32} (hh : ∀ j, j < mf → lOf (heard j)) : ∀ (d k fuel : Nat) (E Lg : Nat → Int32), k + d = mf → d < fuel → E (10 + 16 * c + 7) = 1 → E (10 + 16 * c + 6) = nI b → E 8 = nI z → (∀ j, j < 24 → E (112 + 102 * i + (30 + j)) = Lg j) → (∀ j, j < (R.ms i).len → Lg j = -1 ∨ lOf (Lg j)) → (∀ j, j < mf → E (10 + 16 * c + (8 + j)) = heard j) → ∃ D', f_X10_steps_b402 G fuel (lnP h S E) S.B (S.t i) (S.p c) (nI mf) (nI k) = f_X10_steps_b481 G (lnP h S D') (S.p c) ∧ (∀ j, j < 24 → D' (112 + 102 * i + (30 + j)) = up (wrt z b (R.ms i).len heard) d k Lg j) ∧ ∀ j, (j < 112 + 102 * i + 30 ∨ 112 + 102 * i + 54 ≤ j) → D' j = E j := by
  have ok := L.1
  have h24 := L.len24 hi
  have z10 : ((1 : Int32) = 0) = False := eq_false (by decide)
  have hbz : b * z ≤ 24 * 8 := Nat.mul_le_mul (by omega) hz
  intro d
  induction d with
  | zero =>
    intro k fuel E Lg hk hf e7 e6 e8 hL hl he
    obtain ⟨fu, rfl⟩ := Nat.exists_eq_succ_of_ne_zero (Nat.ne_of_gt hf)
    refine ⟨E, ?_, hL, fun j _ => rfl⟩
    simp only [f_X10_steps_b402, if_neg (nI_nlt (show mf ≤ k by omega) (show k < 2 ^ 31 by omega))]
  | succ d ih =>
    intro k fuel E Lg hk hf e7 e6 e8 hL hl he
    obtain ⟨fu, rfl⟩ := Nat.exists_eq_succ_of_ne_zero (Nat.ne_of_gt (Nat.zero_lt_of_lt hf))
    simp only [f_X10_steps_b402, if_pos (nI_lt (show k < mf by omega) (show mf < 2 ^ 31 by omega)), lmG_isGood ok hc, e7, Option.bind_some, z10, if_false, lmG_number ok hc, e6, tk_frames ok hi, frameN_p L hi, if_pos (nI_lt hb (show (R.ms i).frames < 2 ^ 31 by omega)), lnG_size ok, e8, tk_log ok hi, logN_p L hi, nI_mul, nI_add, nI_ltI (show b * z + k < 2 ^ 31 by omega) (show (R.ms i).len < 2 ^ 31 by omega), f_X10_steps_b475, ← nI_succ, up]
    by_cases q : b * z + k < (R.ms i).len
    · have ld : g_ald (lnP h S E) (S.t i + 3) (nI (b * z + k)) = some (Lg (b * z + k)) := by
        rw [lgL ok hi (by rw [L.slen hi]; exact q), hL _ (by omega)]
      simp only [q, if_true, ld, Option.bind_some, lg_neg (hl _ q)]
      by_cases q2 : Lg (b * z + k) = -1
      · simp only [q2, if_true, lm_came ok hc, Option.bind_some, cmL ok hc (show k < 8 by omega), he k (by omega), lgS ok hi (show b * z + k < S.len i by rw [L.slen hi]; exact q)]
        have ew : wrt z b (R.ms i).len heard k Lg = upd Lg (b * z + k) (heard k) := if_pos ⟨q, q2⟩
        obtain ⟨D', d1, d2, d3⟩ := ih (k + 1) fu (upd E (112 + 102 * i + (30 + (b * z + k))) (heard k)) (upd Lg (b * z + k) (heard k)) (by omega) (by omega) (by rw [upd_ne (by omega)]; exact e7) (by rw [upd_ne (by omega)]; exact e6) (by rw [upd_ne (by omega)]; exact e8) (fun j hj => by
          by_cases cj : j = b * z + k
          · subst cj; rw [upd_at, upd_at]
          · rw [upd_ne (by omega), upd_ne cj]; exact hL j hj) (fun j hj => by
          by_cases cj : j = b * z + k
          · subst cj; rw [upd_at]; exact Or.inr (hh k (by omega))
          · rw [upd_ne cj]; exact hl j hj) (fun j hj => by rw [upd_ne (by omega)]; exact he j hj)
        rw [ew]
        exact ⟨D', d1, d2, fun j hj => by rw [d3 j hj, upd_ne (by omega)]⟩
      · have ew : wrt z b (R.ms i).len heard k Lg = Lg := if_neg (fun z => q2 z.2)
        simp only [q2, if_false]
        rw [ew]
        exact ih (k + 1) fu E Lg (by omega) (by omega) e7 e6 e8 hL hl he
    · have ew : wrt z b (R.ms i).len heard k Lg = Lg := if_neg (fun z => q z.1)
      simp only [q, if_false]
      rw [ew]
      exact ih (k + 1) fu E Lg (by omega) (by omega) e7 e6 e8 hL hl he
theorem b325_l (L : lnR h S D R) {i c f z mf : Nat} (hi : i < R.told) (hc : c < 2) (hm : mf ≤ 8) {E : Nat → Int32} (e3 : E (10 + 16 * c + 3) = nI f) (e8 : E 8 = nI z) (hfz : f * z + mf ≤ (R.ms i).len) : ∀ (d k fuel : Nat) (x y : Int32), k + d = mf → d < fuel → f_X10_steps_b325 G fuel (lnP h S E) S.B (S.t i) (S.p c) (nI mf) x y (nI k) = (if E (10 + 16 * c + 5) = 0 ∧ g_rem (up (fun k s => s + (R.ms i).letters (f * z + k)) d k x) 26 = g_rem (up (fun k s => s + E (10 + 16 * c + (8 + k))) d k y) 26 then f_X10_steps_b396 G (lnP h S E) S.B (S.t i) (S.p c) (nI mf) 1 (S.p c) else f_X10_steps_b396 G (lnP h S E) S.B (S.t i) (S.p c) (nI mf) 0 (S.p c)) := by
  have ok := L.1
  have h24 := L.len24 hi
  intro d
  induction d with
  | zero =>
    intro k fuel x y hk hf
    obtain ⟨fu, rfl⟩ := Nat.exists_eq_succ_of_ne_zero (Nat.ne_of_gt hf)
    simp only [f_X10_steps_b325, f_X10_steps_b395, if_neg (nI_nlt (show mf ≤ k by omega) (show k < 2 ^ 31 by omega)), lmG_isLost ok hc, Option.bind_some, up]
    by_cases c1 : E (10 + 16 * c + 5) = 0
    · by_cases c2 : g_rem x 26 = g_rem y 26
      · simp only [c1, c2, if_true, and_self]
      · simp only [c1, c2, if_true, if_false, and_false]
    · simp only [c1, if_false, false_and]
  | succ d ih =>
    intro k fuel x y hk hf
    obtain ⟨fu, rfl⟩ := Nat.exists_eq_succ_of_ne_zero (Nat.ne_of_gt (Nat.zero_lt_of_lt hf))
    simp only [f_X10_steps_b325, if_pos (nI_lt (show k < mf by omega) (show mf < 2 ^ 31 by omega)), lmG_work ok hc, e3, lnG_size ok, e8, Option.bind_some, ln_gt ok hi, cond_true, nI_mul, nI_add, letter_p L hi (show f * z + k < (R.ms i).len by omega), lm_came ok hc, cmL ok hc (show k < 8 by omega), ← nI_succ, up]
    exact ih (k + 1) fu _ _ (by omega) (by omega)
end STP
