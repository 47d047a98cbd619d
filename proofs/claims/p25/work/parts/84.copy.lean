/-! a new Line; a Line's copy -/
theorem nx9 {β : Type} (G : gG) (X : gH) (K : gH → Option β) : ((g_mk X (.inr (9, g_dfl 9))).bind fun h11 => (f_X9_init G h11 X.1).bind K) = K (ext X [lm0 X.1, zI 8]) := by
  unfold g_mk
  rw [Option.bind_some, x9_c, Option.bind_some]
def lnC0 (B : Nat) : gC := .inr (10, [.ref (B + 1), .ref (B + 6), .ref (B + 7), .ref (B + 8), .int 4, .int 3, .int 0, .int (-1), .int 0, .int 0, .int 0, .int 0])
def two (a b : Nat) : Nat → Nat := fun c => if c = 0 then a else b
def csL (B : Nat) : List gC := [lnC0 B, rfs 7 2 (two (B + 2) (B + 4)), lm0 (B + 2), zI 8, lm0 (B + 4), zI 8, rwQ 8 0 0 (fun _ => 0), rwQ 3 0 0 (fun _ => 0), rwQ 3 0 0 (fun _ => 0)]
theorem e0n : (0 : Int32) = nI 0 := by decide
theorem e1n : (1 : Int32) = nI 1 := by decide
theorem e2n : (2 : Int32) = nI 2 := by decide
theorem x10_c (G : gG) (h : gH) : f_X10_init G (g_add h (.inr (10, g_dfl 10))) h.1 = some (ext h (csL h.1)) := by
  have L0 : (g_add h (.inr (10, g_dfl 10)) : gH) = ext h [.inr (10, [.null, .null, .null, .null, .int 0, .int 0, .int 0, .int 0, .int 0, .int 0, .int 0, .int 0])] := by rw [ext_one, dfl10]
  rw [L0]
  generalize hL : (.inr (10, [.null, .null, .null, .null, .int 0, .int 0, .int 0, .int 0, .int 0, .int 0, .int 0, .int 0]) : gC) = c0
  have s1 : g_nwQ (ext h [c0]) 7 2 2 = some (ext h [c0, rwQ 7 2 0 (two (h.1 + 2) (h.1 + 4))]) := by
    rw [e2n, nwQ_of _ 7 (Nat.le_refl 2) (by decide), rwQ_0 7 2 (two (h.1 + 2) (h.1 + 4)), ext_add]
    rfl
  have q1 : g_qst (ext h [c0, rwQ 7 2 0 (two (h.1 + 2) (h.1 + 4)), lm0 (h.1 + 2), zI 8]) (h.1 + 1) 7 0 (h.1 + 2) = some (ext h [c0, rwQ 7 2 1 (two (h.1 + 2) (h.1 + 4)), lm0 (h.1 + 2), zI 8]) := by
    rw [e0n, rwQ_s (ext_in h _ (j := 1) (by simp)) (show 0 < 2 by omega) (by decide) (v := h.1 + 2) rfl, ext_set h _ 1 _ (by simp)]
    rfl
  have q2 : g_qst (ext h [c0, rwQ 7 2 1 (two (h.1 + 2) (h.1 + 4)), lm0 (h.1 + 2), zI 8, lm0 (h.1 + 4), zI 8]) (h.1 + 1) 7 1 (h.1 + 4) = some (ext h [c0, rwQ 7 2 2 (two (h.1 + 2) (h.1 + 4)), lm0 (h.1 + 2), zI 8, lm0 (h.1 + 4), zI 8]) := by
    rw [e1n, rwQ_s (ext_in h _ (j := 1) (by simp)) (show 1 < 2 by omega) (by decide) (v := h.1 + 4) rfl, ext_set h _ 1 _ (by simp)]
    rfl
  have m1 : ext (ext h [c0, rwQ 7 2 0 (two (h.1 + 2) (h.1 + 4))]) [lm0 (ext h [c0, rwQ 7 2 0 (two (h.1 + 2) (h.1 + 4))]).1, zI 8] = ext h [c0, rwQ 7 2 0 (two (h.1 + 2) (h.1 + 4)), lm0 (h.1 + 2), zI 8] := ext_ext _ _ _
  have m2 : ext (ext h [c0, rwQ 7 2 1 (two (h.1 + 2) (h.1 + 4)), lm0 (h.1 + 2), zI 8]) [lm0 (ext h [c0, rwQ 7 2 1 (two (h.1 + 2) (h.1 + 4)), lm0 (h.1 + 2), zI 8]).1, zI 8] = ext h [c0, rwQ 7 2 1 (two (h.1 + 2) (h.1 + 4)), lm0 (h.1 + 2), zI 8, lm0 (h.1 + 4), zI 8] := ext_ext _ _ _
  have i1 : g_is (ext h [c0, rwQ 7 2 0 (two (h.1 + 2) (h.1 + 4)), lm0 (h.1 + 2), zI 8]) (h.1 + 2) 9 = true := is_of (ext_in h _ (j := 2) (by simp))
  have i2 : g_is (ext h [c0, rwQ 7 2 1 (two (h.1 + 2) (h.1 + 4)), lm0 (h.1 + 2), zI 8, lm0 (h.1 + 4), zI 8]) (h.1 + 4) 9 = true := is_of (ext_in h _ (j := 4) (by simp))
  have f1 : (ext h [c0]).1 = h.1 + 1 := rfl
  have f2 : (ext h [c0, rwQ 7 2 0 (two (h.1 + 2) (h.1 + 4))]).1 = h.1 + 2 := rfl
  have f4 : (ext h [c0, rwQ 7 2 1 (two (h.1 + 2) (h.1 + 4)), lm0 (h.1 + 2), zI 8]).1 = h.1 + 4 := rfl
  unfold f_X10_init
  rw [s1, Option.bind_some, nx9, m1, f2, i1, cond_true, f1, q1, Option.bind_some, nx9, m2, f4, i2, cond_true, q2, Option.bind_some]
  subst hL
  rw [ext_put _ _ _ _ _ _ (by simp), Option.bind_some, nwQ_0, Option.bind_some, ext_add]
  simp only [List.cons_append, List.nil_append]
  rw [ext_put _ _ _ _ _ _ (by simp), Option.bind_some, nwQ_0, Option.bind_some, ext_add]
  simp only [List.cons_append, List.nil_append]
  rw [ext_put _ _ _ _ _ _ (by simp), Option.bind_some, nwQ_0, Option.bind_some, ext_add]
  simp only [List.cons_append, List.nil_append]
  rw [ext_put _ _ _ _ _ _ (by simp), Option.bind_some, ext_put _ _ _ _ _ _ (by simp), Option.bind_some, ext_put _ _ _ _ _ _ (by simp), Option.bind_some, ext_put _ _ _ _ _ _ (by simp), Option.bind_some]
  rfl
/-- the row of numbers of a new Line -/
def dNew : Nat → Int32 := fun j => if j = 2 then -1 else if j = 8 then 4 else if j = 9 then 3 else if j = 10 then 5 else if j = 26 then 5 else if j = 13 then -1 else if j = 14 then -1 else if j = 29 then -1 else if j = 30 then -1 else 0
def sNew (B : Nat) (P : Nat → Prop) : RS := mkS B (B + 2) (B + 4) (B + 3) (B + 5) (B + 6) (B + 7) (B + 8) 0 (fun _ => 0) (fun _ => 0) (fun _ => 0) (fun _ => 0) P
theorem dst_new (B : Nat) : dst B (B + 2) (B + 4) (B + 3) (B + 5) 0 (fun _ => 0) (fun _ => 0) := ⟨⟨by omega, by omega, by omega, by omega, by omega, by omega, by omega, by omega, by omega, by omega⟩, fun i hi => absurd hi (Nat.not_lt_zero i), fun i j _ hj => absurd hj (Nat.not_lt_zero j), fun i hi => absurd hi (Nat.not_lt_zero i)⟩
theorem new_is (h : gH) (P : Nat → Prop) : lnIs (ext h (csL h.1)) (sNew h.1 P) dNew 0 := by
  have z8 : zI 8 = (.inl (0, 8, .inl (cmF dNew 0)) : gC) := by
    refine congrArg (fun g => (.inl (0, 8, .inl g) : gC)) (funext fun k => ?_)
    unfold cmF dNew
    by_cases hk : k < 8
    · rw [if_pos hk]
      simp only [show ¬ 10 + 16 * 0 + 8 + k = 2 by omega, show ¬ 10 + 16 * 0 + 8 + k = 8 by omega, show ¬ 10 + 16 * 0 + 8 + k = 9 by omega, show ¬ 10 + 16 * 0 + 8 + k = 10 by omega, show ¬ 10 + 16 * 0 + 8 + k = 26 by omega, show ¬ 10 + 16 * 0 + 8 + k = 13 by omega, show ¬ 10 + 16 * 0 + 8 + k = 14 by omega, show ¬ 10 + 16 * 0 + 8 + k = 29 by omega, show ¬ 10 + 16 * 0 + 8 + k = 30 by omega, if_false]
    · rw [if_neg hk]
  have z8' : zI 8 = (.inl (0, 8, .inl (cmF dNew 1)) : gC) := by
    refine congrArg (fun g => (.inl (0, 8, .inl g) : gC)) (funext fun k => ?_)
    unfold cmF dNew
    by_cases hk : k < 8
    · rw [if_pos hk]
      simp only [show ¬ 10 + 16 * 1 + 8 + k = 2 by omega, show ¬ 10 + 16 * 1 + 8 + k = 8 by omega, show ¬ 10 + 16 * 1 + 8 + k = 9 by omega, show ¬ 10 + 16 * 1 + 8 + k = 10 by omega, show ¬ 10 + 16 * 1 + 8 + k = 26 by omega, show ¬ 10 + 16 * 1 + 8 + k = 13 by omega, show ¬ 10 + 16 * 1 + 8 + k = 14 by omega, show ¬ 10 + 16 * 1 + 8 + k = 29 by omega, show ¬ 10 + 16 * 1 + 8 + k = 30 by omega, if_false]
    · rw [if_neg hk]
  exact mkS_is (dst_new h.1) (ext_in h (csL h.1) (j := 0) (by simp [csL])) (ext_in h (csL h.1) (j := 2) (by simp [csL])) (ext_in h (csL h.1) (j := 4) (by simp [csL])) ((ext_in h (csL h.1) (j := 3) (by simp [csL])).trans (congrArg some z8)) ((ext_in h (csL h.1) (j := 5) (by simp [csL])).trans (congrArg some z8')) (fun i hi => absurd hi (Nat.not_lt_zero i))
theorem new_lgs (W : RW) (z : Nat) (l : Int32) : (W.clear z l).lgs := ⟨fun i hi => absurd hi (Nat.not_lt_zero i), fun b k hk => by cases b <;> exact absurd hk (Nat.not_lt_zero k), fun b => ⟨0, 0, by omega, by omega, by cases b <;> rfl, by cases b <;> rfl⟩⟩
theorem new_rel (W : RW) : Rel (W.clear 4 3) dNew ∧ (W.clear 4 3).live := by
  refine Rel_clear W (z := 4) (l := 3) (by decide) (by decide) (by decide) (by decide) rfl rfl rfl (fun c hc => ?_) (fun j j0 j2 j8 j9 j10 j13 j14 j26 j29 j30 => ?_)
  · obtain rfl | rfl : c = 0 ∨ c = 1 := by omega
    · exact ⟨rfl, rfl, rfl⟩
    · exact ⟨rfl, rfl, rfl⟩
  · unfold dNew
    rw [if_neg j2, if_neg j8, if_neg j9, if_neg j10, if_neg j26, if_neg j13, if_neg j14, if_neg j29, if_neg j30]
theorem new_bool : boolD dNew := fun j hj => by
  obtain rfl | rfl | rfl | rfl := hj
  all_goals exact Or.inl rfl
theorem new_r (h : gH) (W : RW) (P : Nat → Prop) (hP : ∀ j, j < 9 → P (h.1 + j)) : lnR (ext h (csL h.1)) (sNew h.1 P) dNew (W.clear 4 3) := by
  have st : ∀ j c, j < 9 → (csL h.1)[j]? = some c → rOf h.1 (h.1 + 2) (h.1 + 4) (h.1 + 3) (h.1 + 5) 0 (fun _ => 0) (fun _ => 0) (h.1 + j) = 0 → still (ext h (csL h.1)) (sNew h.1 P) (h.1 + j) c := fun j c hj e hr => ⟨(ext_in h _ (by simp [csL]; omega)).trans e, hr, hP j hj⟩
  have r0 : ∀ j, (j = 1 ∨ j = 6 ∨ j = 7 ∨ j = 8) → rOf h.1 (h.1 + 2) (h.1 + 4) (h.1 + 3) (h.1 + 5) 0 (fun _ => 0) (fun _ => 0) (h.1 + j) = 0 := fun j hj => by
    unfold rOf
    rw [if_neg (by omega), if_neg (by omega), if_neg (by omega), if_neg (by omega), if_neg (by omega)]
    rfl
  refine ⟨mkS_ok (dst_new h.1) (fun i hi => absurd hi (Nat.not_lt_zero i)), ⟨?_, ?_, fun i hi => absurd hi (Nat.not_lt_zero i), ⟨0, fun _ => 0, fun _ => 0, fun _ => 0, fun _ => 0, by omega, ?_, fun r hr => absurd hr (Nat.not_lt_zero r), fun r hr => absurd hr (Nat.not_lt_zero r), fun s i _ hi => ?_, fun r r' hr => absurd hr (Nat.not_lt_zero r), fun s hs => ?_⟩, fun _ => 0, ?_, fun r hr => absurd hr (Nat.not_lt_zero r)⟩, (new_rel W).1, new_lgs W 4 3⟩
  · exact st 1 _ (by omega) rfl (r0 1 (by omega))
  · exact st 6 _ (by omega) rfl (r0 6 (by omega))
  · exact st 7 _ (by omega) rfl (r0 7 (by omega))
  · obtain rfl | rfl : s = 0 ∨ s = 1 := by omega
    · exact absurd hi (Nat.not_lt_zero i)
    · exact absurd hi (Nat.not_lt_zero i)
  · obtain rfl | rfl : s = 0 ∨ s = 1 := by omega
    · rfl
    · rfl
  · exact st 8 _ (by omega) rfl (r0 8 (by omega))
