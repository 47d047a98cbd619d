/-! a symbol over a channel; the letters of a frame; what is asked of rows other than the Line's own -/
theorem upd_self (f : Nat → Int32) (i : Nat) : upd f i (f i) = f := funext fun j => by
  by_cases c : j = i
  · subst c; exact upd_at _ _ _
  · exact upd_ne c
theorem upd_same {f : Nat → Int32} {i : Nat} {v : Int32} (h : f i = v) : upd f i v = f := by rw [← h]; exact upd_self f i
section AIR
variable {G : gG} {h : gH} {S : RS} {D D1 : Nat → Int32} {R : RW}
theorem mist_p (L : lnR h S D R) (t : Int32) : f_X10_mist G (lnP h S D1) S.B t = some (R.mi.levelAt t) := by
  obtain ⟨ok, K, rel, -⟩ := L
  obtain ⟨rw', h1, h2⟩ := K.2.2.2.2
  have t12 := rel.mi.1
  simp only [f_X10_mist, ln_mists ok, Option.bind_some, rfs_n (h1.P D1)]
  exact mist_l ok h1 h2 t12 t R.mi.told g_N (by omega) (by unfold g_N; omega)
theorem key_p (L : lnR h S D R) {s : Nat} (hs : s < 2) (t : Int32) : f_X10_key G (lnP h S D1) S.B (nI s) t = some ((R.kp (nI s)).keyAt t) := by
  obtain ⟨ok, K, rel, -⟩ := L
  obtain ⟨nk, rw', st, tk, ky, hn, h1, h2, h3⟩ := K.2.2.2.1
  obtain ⟨o, o1, o2⟩ := key_l (G := G) (D := D1) hn h1 h2 (fun r hr => (h3.1 r hr).1) hs t nk 0 g_N none (by omega) (by unfold g_N; omega) (fun r hr => absurd hr (by omega))
  rw [← key_one rel h3 hs t o1, ← o2]
  simp only [f_X10_key, ln_keepers ok, Option.bind_some, rfs_n (h1.P D1), Option.map_none, nI_0]
theorem letter_p (L : lnR h S D R) {i k : Nat} (hi : i < R.told) (hk : k < (R.ms i).len) : f_X12_letter G (lnP h S D1) (S.t i) (nI k) = some ((R.ms i).letters k) := by
  have h24 := L.len24 hi
  have k1 := L.slen hi
  obtain ⟨l, -, -, hM⟩ := L.inv1 hi
  obtain ⟨ok, K, rel, -⟩ := L
  obtain ⟨-, k2, k3, v, a, b, g, w1, w2, w3⟩ := K.2.2.1 i hi
  have t := txt_dyn (G := G) (w1.P D1) (w2.P D1)
  have ha := wrd_asc w3 (by rw [k1]; exact hM.2.2.2.2.2.2.2.2.2)
  simp only [f_X12_letter, tk_word ok hi, Option.bind_some, t.isS, cond_true, charAt_t t ha (by omega) (show k < S.len i by omega), w3 k (by omega)]
  rw [Int32.add_sub_cancel]
theorem frame_p (L : lnR h S D R) {i f : Nat} (hi : i < R.told) (hf : f < (R.ms i).frames) : g_qld (lnP h S D1) (S.t i + 4) 6 (nI f) = some (some (S.t i + (5 + f))) := by
  have h24 := L.len24 hi
  have k1 := L.sfr hi
  exact rfs_l ((L.2.1.2.2.1 i hi).2.2.1.P D1) (by omega) (by omega)
theorem frameN_p (L : lnR h S D R) {i : Nat} (hi : i < R.told) : g_aln (lnP h S D1) (S.t i + 4) = some (nI (R.ms i).frames) := by
  rw [← L.sfr hi]
  exact rfs_n ((L.2.1.2.2.1 i hi).2.2.1.P D1)
theorem logN_p (L : lnR h S D R) {i : Nat} (hi : i < R.told) : g_aln (lnP h S D1) (S.t i + 3) = some (nI (R.ms i).len) := by
  rw [← L.slen hi]
  exact lgN L.1 hi
theorem talk_p (L : lnR h S D R) {i : Nat} (hi : i < R.told) : g_qld (lnP h S D1) S.TA 8 (nI i) = some (some (S.t i)) := by
  have := L.2.2.1.inv.1
  exact rfs_l (L.2.1.2.1.P D1) hi (by omega)
theorem talkN_p (L : lnR h S D R) : g_aln (lnP h S D1) S.TA = some (nI R.told) := rfs_n (L.2.1.2.1.P D1)
theorem lamp_p (L : lnR h S D R) {c : Nat} (hc : c < 2) : g_qld (lnP h S D1) (S.B + 1) 7 (nI c) = some (some (S.p c)) := rfs_l (L.2.1.1.P D1) hc (by decide)
theorem lampN_p (L : lnR h S D R) : g_aln (lnP h S D1) (S.B + 1) = some 2 := rfs_n (L.2.1.1.P D1)
theorem letters_p (L : lnR h S D R) {i f : Nat} (hi : i < R.told) (hf : f < (R.ms i).frames) (e8 : D1 8 = nI R.fsize) : f_X10_letters G (lnP h S D1) S.B (S.t i) (nI f) = some (nI ((R.ms i).many f)) := by
  have h24 := L.len24 hi
  have k1 := L.slen hi
  obtain ⟨l, -, -, hM⟩ := L.inv1 hi
  obtain ⟨v1, v2, v3, -⟩ := L.2.2.1.inv
  have hfz := hM.fr' v2 hf
  obtain ⟨ok, K, rel, -⟩ := L
  obtain ⟨-, k2, k3, v, a, b, g, w1, w2, w3⟩ := K.2.2.1 i hi
  have t := txt_dyn (G := G) (w1.P D1) (w2.P D1)
  have e1 : nI f + 1 = nI (f + 1) := (nI_succ f).symm
  have em : f * R.fsize ≤ 24 * 8 := Nat.mul_le_mul (by omega) v3
  have em2 : (f + 1) * R.fsize = f * R.fsize + R.fsize := Nat.succ_mul f R.fsize
  simp only [f_X10_letters, tk_word ok hi, Option.bind_some, t.isS, cond_true, length_t t, lnG_size ok, e8, e1, nI_mul]
  rw [g_min_nI (by omega) (by omega), nI_sub (by omega)]
  unfold RMs.many
  rw [hM.1, k1]
  congr 2
  omega
theorem air_p (L : lnR h S D R) {c : Nat} (hc : c < 2) {p : Int32} (ep : D1 (10 + 16 * c) = p) {t : Nat} (et : D1 0 = nI t) : f_X10_air G (lnP h S D1) S.B (S.p c) = some (howI (decide (p < R.mi.levelAt (nI t))) (decide (R.mi.levelAt (nI t) = p)), lnP h S (aird D1 (decide (p < R.mi.levelAt (nI t))) (decide (R.mi.levelAt (nI t) = p)))) := by
  have ok := L.1
  generalize hE : upd D1 3 (D1 3 + 1) = E
  have Eo : ∀ j, j ≠ 3 → E j = D1 j := fun j hj => by rw [← hE, upd_ne hj]
  have e1 : E (10 + 16 * c) = p := (Eo _ (by omega)).trans ep
  simp only [f_X10_air, lnG_time ok, et, Option.bind_some, ln_gB ok, cond_true, mist_p L, lnG_sent ok, lnT_sent ok, hE, lmG_power ok hc, e1, lnG_lost ok, lnG_garb ok, lnT_lost ok, lnT_garb ok, Eo 4 (by omega), Eo 5 (by omega), aird, howI]
  generalize R.mi.levelAt (nI t) = m
  by_cases c1 : p < m
  · have c2 : ¬ m = p := fun z => by rw [z] at c1; exact Int32.lt_irrefl c1
    simp only [c1, c2, if_true, decide_true, decide_false, bI_t, bI_f, Int32.add_zero]
    rw [upd_same (f := E) (i := 5) (Eo 5 (by omega))]
  · by_cases c2 : m < p
    · have c3 : ¬ m = p := fun z => by rw [z] at c2; exact Int32.lt_irrefl c2
      simp only [c1, c2, c3, if_true, if_false, decide_false, bI_f, Int32.add_zero, Bool.false_eq_true]
      rw [upd_same (f := E) (i := 5) (Eo 5 (by omega)), upd_same (f := E) (i := 4) (Eo 4 (by omega))]
    · have c3 : m = p := Int32.le_antisymm (Int32.not_lt.mp c1) (Int32.not_lt.mp c2)
      subst c3
      simp only [c1, if_false, decide_true, decide_false, bI_t, bI_f, Int32.add_zero, Bool.false_eq_true]
      rw [upd_same (f := upd E 5 (D1 5 + 1)) (i := 4) (by rw [upd_ne (by omega)]; exact Eo 4 (by omega))]
end AIR
