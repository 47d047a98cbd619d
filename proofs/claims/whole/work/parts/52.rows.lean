/-! the reference's rows: a keeper, a mist, a message are written; a fresh row -/
section ROW
variable {x : gH} {p : Nat} {D : Nat → Int32}
theorem keeperAt_l {K : RKp} {a : Nat} (ha : a + 17 ≤ 928) (h : relKp K a D) (t : Int32) : ∀ (d i fuel : Nat), i + d = K.told → d < fuel → f_X8_keeperAt_b8 (rP x p D) fuel p t (nI a) (nI i) = some (oI (fnd (fun i => K.ticks i = t) d i)) := by
  obtain ⟨h1, h2, h3⟩ := h
  have e0 : nI a + 0 = nI a := by rw [show (0 : Int32) = nI 0 from nI_0.symm, nI_add]; rfl
  intro d
  induction d with
  | zero =>
    intro i fuel hi hf
    obtain ⟨fu, rfl⟩ := Nat.exists_eq_succ_of_ne_zero (Nat.ne_of_gt hf)
    simp only [f_X8_keeperAt_b8, e0, rL (show a < 928 by omega), h2, Option.bind_some, if_neg (nI_nlt (show K.told ≤ i by omega) (show i < 2 ^ 31 by omega)), fnd, oI_none]
  | succ d ih =>
    intro i fuel hi hf
    obtain ⟨fu, rfl⟩ := Nat.exists_eq_succ_of_ne_zero (Nat.ne_of_gt (Nat.zero_lt_of_lt hf))
    obtain ⟨q1, q2, q3, -, q6⟩ := h3 i (by omega)
    have e1 : nI a + 1 + 2 * nI i = nI (a + (1 + 2 * i)) := by rw [show (1 : Int32) = nI 1 by decide, show (2 : Int32) = nI 2 by decide, nI_mul, nI_add, nI_add]; congr 1; omega
    have e3 : nI i + 1 = nI (i + 1) := (nI_succ i).symm
    simp only [f_X8_keeperAt_b8, e0, rL (show a < 928 by omega), h2, Option.bind_some, if_pos (nI_lt (show i < K.told by omega) (show K.told < 2 ^ 31 by omega)), e1, rL (show a + (1 + 2 * i) < 928 by omega), q1, e3, fnd]
    by_cases c : K.ticks i = t
    · simp only [c, if_true, oI_some]
    · simp only [c, if_false]
      exact ih (i + 1) fu (by omega) (by omega)
theorem keeperAt_r {K : RKp} {s : Nat} (hs : s < 2) (h : relKp K (42 + 17 * s) D) (t : Int32) : f_X8_keeperAt (rP x p D) p (nI s) t = some (oI (K.place t)) := by
  unfold f_X8_keeperAt
  rw [stAt, show f_X8_keeperAt_b8 (rP x p D) g_N p t (nI (42 + 17 * s)) 0 = f_X8_keeperAt_b8 (rP x p D) g_N p t (nI (42 + 17 * s)) (nI 0) by rw [nI_0]]
  exact keeperAt_l (by omega) h t K.told 0 g_N (by omega) (by have := h.1; unfold g_N; omega)
theorem place_none {K : RKp} {t : Int32} (h : K.place t = none) : ∀ i, i < K.told → K.ticks i ≠ t := fun i hi => fnd_none.mp (show fnd (fun i => K.ticks i = t) K.told 0 = none from h) i (Nat.zero_le _) (by omega)
theorem addKeeper_r {K : RKp} {s : Nat} (hs : s < 2) (h : relKp K (42 + 17 * s) D) (h8 : K.told < 8) {t k : Int32} (hp : K.place t = none) (ht : ∃ n : Nat, n < 10000 ∧ t = nI n) (hk : lOf k) :
    ∃ D', f_X8_addKeeper (rP x p D) p (nI s) t k = some (rP x p D') ∧ relKp (K.come t k) (42 + 17 * s) D' ∧ ∀ j, (j < 42 + 17 * s ∨ 59 + 17 * s ≤ j) → D' j = D j := by
  obtain ⟨h1, h2, h3⟩ := h
  have e0 : nI (42 + 17 * s) + 0 = nI (42 + 17 * s) := by rw [show (0 : Int32) = nI 0 from nI_0.symm, nI_add]; rfl
  have e1 : nI (42 + 17 * s) + 1 + 2 * nI K.told = nI (42 + 17 * s + (1 + 2 * K.told)) := by rw [show (1 : Int32) = nI 1 by decide, show (2 : Int32) = nI 2 by decide, nI_mul, nI_add, nI_add]; congr 1; omega
  have e2 : nI (42 + 17 * s + (1 + 2 * K.told)) + 1 = nI (42 + 17 * s + (2 + 2 * K.told)) := by rw [show (1 : Int32) = nI 1 by decide, nI_add]; congr 1; omega
  have e3 : nI K.told + 1 = nI (K.told + 1) := (nI_succ _).symm
  have dd : ∀ v w, upd (upd D (42 + 17 * s + (1 + 2 * K.told)) v) (42 + 17 * s + (2 + 2 * K.told)) w (42 + 17 * s) = nI K.told := fun v w => by rw [upd_ne (by omega), upd_ne (by omega)]; exact h2
  refine ⟨upd (upd (upd D (42 + 17 * s + (1 + 2 * K.told)) t) (42 + 17 * s + (2 + 2 * K.told)) k) (42 + 17 * s) (nI (K.told + 1)), ?_, ?_, fun j hj => ?_⟩
  · simp only [f_X8_addKeeper, stAt, e0, rL (show 42 + 17 * s < 928 by omega), h2, Option.bind_some, e1, rS (show 42 + 17 * s + (1 + 2 * K.told) < 928 by omega), e2, rS (show 42 + 17 * s + (2 + 2 * K.told) < 928 by omega), dd, e3, rS (show 42 + 17 * s < 928 by omega)]
  · have ep : K.pl t = K.told := by unfold RKp.pl; rw [hp]; rfl
    have ec : K.come t k = RKp.mk (K.told + 1) (upd K.ticks K.told t) (upd K.keys K.told k) := by
      unfold RKp.come
      rw [ep, if_pos h8, Nat.max_eq_right (by omega)]
    rw [ec]
    refine ⟨by show K.told + 1 ≤ 8; omega, upd_at _ _ _, fun i (hi : i < K.told + 1) => ?_⟩
    show upd _ _ _ _ = upd K.ticks K.told t i ∧ upd _ _ _ _ = upd K.keys K.told k i ∧ lOf (upd K.keys K.told k i) ∧ (∃ n : Nat, n < 10000 ∧ upd K.ticks K.told t i = nI n) ∧ ∀ j, j < i → upd K.ticks K.told t j ≠ upd K.ticks K.told t i
    by_cases c : i = K.told
    · subst c
      refine ⟨?_, ?_, ?_, ?_, fun j hj => ?_⟩
      · rw [upd_ne (by omega), upd_ne (by omega), upd_at, upd_at]
      · rw [upd_ne (by omega), upd_at, upd_at]
      · rw [upd_at]; exact hk
      · rw [upd_at]; exact ht
      · rw [upd_at, upd_ne (by omega)]; exact place_none hp j hj
    · obtain ⟨q1, q2, q3, q4, q5⟩ := h3 i (by omega)
      refine ⟨?_, ?_, ?_, ?_, fun j hj => ?_⟩
      · rw [upd_ne (by omega), upd_ne (by omega), upd_ne (by omega), upd_ne c]; exact q1
      · rw [upd_ne (by omega), upd_ne (by omega), upd_ne (by omega), upd_ne c]; exact q2
      · rw [upd_ne c]; exact q3
      · rw [upd_ne c]; exact q4
      · rw [upd_ne c, upd_ne (by omega)]; exact q5 j hj
  · rw [upd_ne (by omega), upd_ne (by omega), upd_ne (by omega)]
/-- another keeper in the place of one -/
theorem relKp.over {K : RKp} {a i : Nat} (h : relKp K a D) {t k : Int32} (hp : K.place t = some i) (hk : lOf k) : relKp (K.come t k) a (upd D (a + (2 + 2 * i)) k) := by
  obtain ⟨h1, h2, h3⟩ := h
  obtain ⟨-, i2, i3, -⟩ := fnd_some (show fnd (fun i => K.ticks i = t) K.told 0 = some i from hp)
  have hi : i < K.told := by omega
  have ep : K.pl t = i := by unfold RKp.pl; rw [hp]; rfl
  have ec : K.come t k = RKp.mk K.told (upd K.ticks i t) (upd K.keys i k) := by
    unfold RKp.come
    rw [ep, if_pos (by omega), Nat.max_eq_left (by omega)]
  have et : upd K.ticks i t = K.ticks := funext fun j => by
    by_cases c : j = i
    · subst c; rw [upd_at]; exact i3.symm
    · rw [upd_ne c]
  rw [ec, et]
  refine ⟨h1, ?_, fun j (hj : j < K.told) => ?_⟩
  · rw [upd_ne (by omega)]; exact h2
  · show upd _ _ _ _ = K.ticks j ∧ upd _ _ _ _ = upd K.keys i k j ∧ lOf (upd K.keys i k j) ∧ (∃ n : Nat, n < 10000 ∧ K.ticks j = nI n) ∧ ∀ g, g < j → K.ticks g ≠ K.ticks j
    obtain ⟨q1, q2, q3, q4, q5⟩ := h3 j hj
    refine ⟨by rw [upd_ne (by omega)]; exact q1, ?_, ?_, q4, q5⟩
    · by_cases c : j = i
      · subst c; rw [upd_at, upd_at]
      · rw [upd_ne (by omega), upd_ne c]; exact q2
    · by_cases c : j = i
      · subst c; rw [upd_at]; exact hk
      · rw [upd_ne c]; exact q3
theorem addMist_r {K : RMi} (h : relMi K D) (h12 : K.told < 12) (u v w : Int32) : ∃ D', f_X8_addMist (rP x p D) p u v w = some (rP x p D') ∧ relMi (K.add u v w) D' ∧ ∀ j, j ≠ 7 → (j < 76 ∨ 112 ≤ j) → D' j = D j := by
  obtain ⟨h1, h2, h3⟩ := h
  have e7 : (7 : Int32) = nI 7 := by decide
  have e0 : (76 : Int32) + 3 * nI K.told = nI (76 + 3 * K.told) := by rw [show (76 : Int32) = nI 76 by decide, show (3 : Int32) = nI 3 by decide, nI_mul, nI_add]
  have e1 : nI (76 + 3 * K.told) + 1 = nI (77 + 3 * K.told) := by rw [show (1 : Int32) = nI 1 by decide, nI_add]; congr 1; omega
  have e2 : nI (76 + 3 * K.told) + 2 = nI (78 + 3 * K.told) := by rw [show (2 : Int32) = nI 2 by decide, nI_add]; congr 1; omega
  have e3 : nI K.told + 1 = nI (K.told + 1) := (nI_succ _).symm
  have dd : ∀ a b c, upd (upd (upd D (76 + 3 * K.told) a) (77 + 3 * K.told) b) (78 + 3 * K.told) c 7 = nI K.told := fun a b c => by rw [upd_ne (by omega), upd_ne (by omega), upd_ne (by omega)]; exact h2
  refine ⟨upd (upd (upd (upd D (76 + 3 * K.told) u) (77 + 3 * K.told) v) (78 + 3 * K.told) w) 7 (nI (K.told + 1)), ?_, ?_, fun j j1 j2 => ?_⟩
  · simp only [f_X8_addMist, rLe e7 (show 7 < 928 by decide), h2, Option.bind_some, e0, rS (show 76 + 3 * K.told < 928 by omega), e1, rS (show 77 + 3 * K.told < 928 by omega), e2, rS (show 78 + 3 * K.told < 928 by omega), dd, e3, rSe e7 (show 7 < 928 by decide)]
  · have ec : K.add u v w = RMi.mk (K.told + 1) (upd K.firsts K.told u) (upd K.lasts K.told v) (upd K.levels K.told w) := by
      unfold RMi.add
      rw [if_pos h12]
    rw [ec]
    refine ⟨by show K.told + 1 ≤ 12; omega, upd_at _ _ _, fun i (hi : i < K.told + 1) => ?_⟩
    show upd _ _ _ _ = upd K.firsts K.told u i ∧ upd _ _ _ _ = upd K.lasts K.told v i ∧ upd _ _ _ _ = upd K.levels K.told w i
    by_cases c : i = K.told
    · subst c
      refine ⟨?_, ?_, ?_⟩
      · rw [upd_ne (by omega), upd_ne (by omega), upd_ne (by omega), upd_at, upd_at]
      · rw [upd_ne (by omega), upd_ne (by omega), upd_at, upd_at]
      · rw [upd_ne (by omega), upd_at, upd_at]
    · obtain ⟨q1, q2, q3⟩ := h3 i (by omega)
      refine ⟨?_, ?_, ?_⟩
      · rw [upd_ne (by omega), upd_ne (by omega), upd_ne (by omega), upd_ne (by omega), upd_ne c]; exact q1
      · rw [upd_ne (by omega), upd_ne (by omega), upd_ne (by omega), upd_ne (by omega), upd_ne c]; exact q2
      · rw [upd_ne (by omega), upd_ne (by omega), upd_ne (by omega), upd_ne (by omega), upd_ne c]; exact q3
  · rw [upd_ne (by omega), upd_ne (by omega), upd_ne (by omega), upd_ne (by omega)]
theorem lay_l {i : Nat} (hi : i < 8) : ∀ (d k fuel : Nat) (D : Nat → Int32), k + d = 24 → d < fuel → ∃ D', f_X8_layMessage_b53 fuel (rP x p D) p (nI (112 + 102 * i)) (nI k) = some (rP x p D') ∧ D' 1 = D 1 + 1 ∧ (∀ g, k ≤ g → g < 24 → D' (112 + 102 * i + (30 + g)) = -1 ∧ D' (112 + 102 * i + (54 + g)) = 0 ∧ D' (112 + 102 * i + (78 + g)) = 0) ∧ ∀ j, j ≠ 1 → (∀ g, k ≤ g → g < 24 → j ≠ 112 + 102 * i + (30 + g) ∧ j ≠ 112 + 102 * i + (54 + g) ∧ j ≠ 112 + 102 * i + (78 + g)) → D' j = D j := by
  intro d
  induction d with
  | zero =>
    intro k fuel D hk hf
    obtain ⟨fu, rfl⟩ := Nat.exists_eq_succ_of_ne_zero (Nat.ne_of_gt hf)
    have : k = 24 := by omega
    subst this
    have c : ¬ nI 24 < 24 := by decide
    refine ⟨upd D 1 (D 1 + 1), ?_, upd_at _ _ _, fun g g1 g2 => absurd g2 (by omega), fun j j1 _ => upd_ne j1⟩
    simp only [f_X8_layMessage_b53, c, if_false, rLe (show (1 : Int32) = nI 1 by decide) (show 1 < 928 by decide), rSe (show (1 : Int32) = nI 1 by decide) (show 1 < 928 by decide), Option.bind_some]
  | succ d ih =>
    intro k fuel D hk hf
    obtain ⟨fu, rfl⟩ := Nat.exists_eq_succ_of_ne_zero (Nat.ne_of_gt (Nat.zero_lt_of_lt hf))
    have c : nI k < 24 := by rw [show (24 : Int32) = nI 24 by decide]; exact nI_lt (by omega) (by decide)
    have e : ∀ b : Nat, ∀ v : Int32, v = nI b → nI (112 + 102 * i) + v + nI k = nI (112 + 102 * i + (b + k)) := fun b v hv => by rw [hv, nI_add, nI_add]; congr 1; omega
    have e30 := e 30 30 (by decide)
    have e54 := e 54 54 (by decide)
    have e78 := e 78 78 (by decide)
    obtain ⟨D', q1, q2, q3, q4⟩ := ih (k + 1) fu (upd (upd (upd D (112 + 102 * i + (30 + k)) (-1)) (112 + 102 * i + (54 + k)) 0) (112 + 102 * i + (78 + k)) 0) (by omega) (by omega)
    refine ⟨D', ?_, ?_, fun g g1 g2 => ?_, fun j j1 j2 => ?_⟩
    · simp only [f_X8_layMessage_b53, c, if_true, e30, e54, e78, rS (show 112 + 102 * i + (30 + k) < 928 by omega), rS (show 112 + 102 * i + (54 + k) < 928 by omega), rS (show 112 + 102 * i + (78 + k) < 928 by omega), Option.bind_some, ← nI_succ]
      exact q1
    · rw [q2, upd_ne (by omega), upd_ne (by omega), upd_ne (by omega)]
    · by_cases ck : g = k
      · subst ck
        have o : ∀ j, (j = 112 + 102 * i + (30 + g) ∨ j = 112 + 102 * i + (54 + g) ∨ j = 112 + 102 * i + (78 + g)) → D' j = upd (upd (upd D (112 + 102 * i + (30 + g)) (-1)) (112 + 102 * i + (54 + g)) 0) (112 + 102 * i + (78 + g)) 0 j := fun j hj => q4 j (by omega) (fun g' g1' g2' => by omega)
        refine ⟨?_, ?_, ?_⟩
        · rw [o _ (Or.inl rfl), upd_ne (by omega), upd_ne (by omega), upd_at]
        · rw [o _ (Or.inr (Or.inl rfl)), upd_ne (by omega), upd_at]
        · rw [o _ (Or.inr (Or.inr rfl)), upd_at]
      · exact q3 g (by omega) g2
    · have := j2 k (Nat.le_refl _) (by omega)
      rw [q4 j j1 (fun g g1 g2 => j2 g (by omega) g2), upd_ne this.2.2, upd_ne this.2.1, upd_ne this.1]
theorem layHead_r {i : Nat} (hi : i < 8) (h1 : D 1 = nI i) (s u n : Int32) : f_X8_layMessage (rP x p D) p s u n = f_X8_layMessage_b53 g_N (rP x p (upd (upd (upd (upd (upd (upd D (112 + 102 * i) s) (112 + 102 * i + 1) u) (112 + 102 * i + 2) n) (112 + 102 * i + 3) 0) (112 + 102 * i + 4) (-1)) (112 + 102 * i + 5) (-1))) p (nI (112 + 102 * i)) 0 := by
  have e : ∀ b : Nat, ∀ v : Int32, v = nI b → nI (112 + 102 * i) + v = nI (112 + 102 * i + b) := fun b v hv => by rw [hv, nI_add]
  have e0 : nI (112 + 102 * i) + 0 = nI (112 + 102 * i) := by rw [e 0 0 (by decide), Nat.add_zero]
  unfold f_X8_layMessage
  rw [rLe (show (1 : Int32) = nI 1 by decide) (show 1 < 928 by decide), h1, Option.bind_some, msAt, e0, e 1 1 (by decide), e 2 2 (by decide), e 3 3 (by decide), e 4 4 (by decide), e 5 5 (by decide), rS (show 112 + 102 * i < 928 by omega), Option.bind_some, rS (show 112 + 102 * i + 1 < 928 by omega), Option.bind_some, rS (show 112 + 102 * i + 2 < 928 by omega), Option.bind_some, rS (show 112 + 102 * i + 3 < 928 by omega), Option.bind_some, rS (show 112 + 102 * i + 4 < 928 by omega), Option.bind_some, rS (show 112 + 102 * i + 5 < 928 by omega), Option.bind_some]
theorem layMessage_r {i : Nat} (hi : i < 8) (h1 : D 1 = nI i) (s u n : Int32) : ∃ D', f_X8_layMessage (rP x p D) p s u n = some (rP x p D') ∧ D' 1 = nI (i + 1) ∧ D' (112 + 102 * i) = s ∧ D' (112 + 102 * i + 1) = u ∧ D' (112 + 102 * i + 2) = n ∧ D' (112 + 102 * i + 3) = 0 ∧ D' (112 + 102 * i + 4) = -1 ∧ D' (112 + 102 * i + 5) = -1 ∧ (∀ g, g < 24 → D' (112 + 102 * i + (6 + g)) = D (112 + 102 * i + (6 + g)) ∧ D' (112 + 102 * i + (30 + g)) = -1 ∧ D' (112 + 102 * i + (54 + g)) = 0 ∧ D' (112 + 102 * i + (78 + g)) = 0) ∧ ∀ j, j ≠ 1 → (j < 112 + 102 * i ∨ 214 + 102 * i ≤ j) → D' j = D j := by
  generalize hE : upd (upd (upd (upd (upd (upd D (112 + 102 * i) s) (112 + 102 * i + 1) u) (112 + 102 * i + 2) n) (112 + 102 * i + 3) 0) (112 + 102 * i + 4) (-1)) (112 + 102 * i + 5) (-1) = E
  obtain ⟨D', q1, q2, q3, q4⟩ := lay_l (x := x) (p := p) hi 24 0 g_N E (by omega) (by unfold g_N; omega)
  have E1 : E 1 = nI i := by rw [← hE, upd_ne (by omega), upd_ne (by omega), upd_ne (by omega), upd_ne (by omega), upd_ne (by omega), upd_ne (by omega)]; exact h1
  refine ⟨D', ?_, ?_, ?_, ?_, ?_, ?_, ?_, ?_, fun g hg => ⟨?_, q3 g (by omega) hg⟩, fun j j1 j2 => ?_⟩
  · rw [layHead_r hi h1, hE, ← nI_0]
    exact q1
  · rw [q2, E1, nI_succ]
  · rw [q4 _ (by omega) (fun g g1 g2 => by omega), ← hE, upd_ne (by omega), upd_ne (by omega), upd_ne (by omega), upd_ne (by omega), upd_ne (by omega)]; exact upd_at _ _ _
  · rw [q4 _ (by omega) (fun g g1 g2 => by omega), ← hE, upd_ne (by omega), upd_ne (by omega), upd_ne (by omega), upd_ne (by omega)]; exact upd_at _ _ _
  · rw [q4 _ (by omega) (fun g g1 g2 => by omega), ← hE, upd_ne (by omega), upd_ne (by omega), upd_ne (by omega)]; exact upd_at _ _ _
  · rw [q4 _ (by omega) (fun g g1 g2 => by omega), ← hE, upd_ne (by omega), upd_ne (by omega)]; exact upd_at _ _ _
  · rw [q4 _ (by omega) (fun g g1 g2 => by omega), ← hE, upd_ne (by omega)]; exact upd_at _ _ _
  · rw [q4 _ (by omega) (fun g g1 g2 => by omega), ← hE]; exact upd_at _ _ _
  · rw [q4 _ (by omega) (fun g' g1 g2 => by omega), ← hE, upd_ne (by omega), upd_ne (by omega), upd_ne (by omega), upd_ne (by omega), upd_ne (by omega), upd_ne (by omega)]
  · rw [q4 j j1 (fun g g1 g2 => by omega), ← hE, upd_ne (by omega), upd_ne (by omega), upd_ne (by omega), upd_ne (by omega), upd_ne (by omega), upd_ne (by omega)]
theorem lay0_l (z l : Int32) : ∀ (d k fuel : Nat) (D : Nat → Int32), k + d = 928 → d < fuel → (∀ j, j < k → D j = 0) → ∃ E, f_X8_layRelay_b2 fuel (rP x p D) p z l (nI k) = f_X8_layRelay_b35 g_N (rP x p (upd (upd (upd E 2 (-1)) 8 z) 9 l)) p 0 ∧ ∀ j, j < 928 → E j = 0 := by
  intro d
  induction d with
  | zero =>
    intro k fuel D hk hf h0
    obtain ⟨fu, rfl⟩ := Nat.exists_eq_succ_of_ne_zero (Nat.ne_of_gt hf)
    have : k = 928 := by omega
    subst this
    have c : ¬ nI 928 < 928 := by decide
    refine ⟨D, ?_, h0⟩
    simp only [f_X8_layRelay_b2, c, if_false, rSe (show (2 : Int32) = nI 2 by decide) (show 2 < 928 by decide), rSe (show (8 : Int32) = nI 8 by decide) (show 8 < 928 by decide), rSe (show (9 : Int32) = nI 9 by decide) (show 9 < 928 by decide), Option.bind_some]
  | succ d ih =>
    intro k fuel D hk hf h0
    obtain ⟨fu, rfl⟩ := Nat.exists_eq_succ_of_ne_zero (Nat.ne_of_gt (Nat.zero_lt_of_lt hf))
    have c : nI k < 928 := by rw [show (928 : Int32) = nI 928 by decide]; exact nI_lt (by omega) (by decide)
    obtain ⟨E, q1, q2⟩ := ih (k + 1) fu (upd D k 0) (by omega) (by omega) (fun j hj => by
      by_cases cj : j = k
      · subst cj; exact upd_at _ _ _
      · rw [upd_ne cj]; exact h0 j (by omega))
    refine ⟨E, ?_, q2⟩
    simp only [f_X8_layRelay_b2, c, if_true, rS (show k < 928 by omega), Option.bind_some, ← nI_succ]
    exact q1
theorem layRelay_r (z l : Int32) : ∃ D', f_X8_layRelay (rP x p D) p z l = some (rP x p D') ∧ D' 2 = -1 ∧ D' 8 = z ∧ D' 9 = l ∧ (∀ c, c < 2 → D' (10 + 16 * c) = 5 ∧ D' (10 + 16 * c + 3) = -1 ∧ D' (10 + 16 * c + 4) = -1) ∧ ∀ j, j < 928 → j ≠ 2 → j ≠ 8 → j ≠ 9 → j ≠ 10 → j ≠ 13 → j ≠ 14 → j ≠ 26 → j ≠ 29 → j ≠ 30 → D' j = 0 := by
  obtain ⟨E, q1, q2⟩ := lay0_l (x := x) (p := p) z l 928 0 g_N D (by omega) (by unfold g_N; omega) (fun j hj => absurd hj (by omega))
  generalize hF : upd (upd (upd E 2 (-1)) 8 z) 9 l = F at q1
  have st : ∀ (c fu : Nat) (G : Nat → Int32), c < 2 → f_X8_layRelay_b35 (fu + 1) (rP x p G) p (nI c) = f_X8_layRelay_b35 fu (rP x p (upd (upd (upd G (10 + 16 * c + 0) 5) (10 + 16 * c + 3) (-1)) (10 + 16 * c + 4) (-1))) p (nI (c + 1)) := by
    intro c fu G hc
    have hlt : nI c < 2 := by rw [show (2 : Int32) = nI 2 by decide]; exact nI_lt hc (by decide)
    have e : ∀ b : Nat, ∀ v : Int32, v = nI b → nI (10 + 16 * c) + v = nI (10 + 16 * c + b) := fun b v hv => by rw [hv, nI_add]
    have e0 := e 0 0 (by decide)
    have e3 := e 3 3 (by decide)
    have e4 := e 4 4 (by decide)
    simp only [f_X8_layRelay_b35, hlt, if_true, chAt, e0, e3, e4, rS (show 10 + 16 * c + 0 < 928 by omega), rS (show 10 + 16 * c + 3 < 928 by omega), rS (show 10 + 16 * c + 4 < 928 by omega), Option.bind_some, ← nI_succ]
  have fin : ∀ (fu : Nat) (G : Nat → Int32), f_X8_layRelay_b35 (fu + 1) (rP x p G) p (nI 2) = some (rP x p G) := by
    intro fu G
    have hlt : ¬ nI 2 < 2 := by decide
    simp only [f_X8_layRelay_b35, hlt, if_false]
  refine ⟨upd (upd (upd (upd (upd (upd F (10 + 16 * 0 + 0) 5) (10 + 16 * 0 + 3) (-1)) (10 + 16 * 0 + 4) (-1)) (10 + 16 * 1 + 0) 5) (10 + 16 * 1 + 3) (-1)) (10 + 16 * 1 + 4) (-1), ?_, ?_, ?_, ?_, fun c hc => ?_, fun j a0 a1 a2 a3 a4 a5 a6 a7 a8 a9 => ?_⟩
  · unfold f_X8_layRelay
    rw [nI_0] at q1
    rw [q1]
    have g9 : f_X8_layRelay_b35 g_N (rP x p F) p 0 = f_X8_layRelay_b35 (8191 + 1) (rP x p F) p (nI 0) := by rw [nI_0]; rfl
    rw [g9, st 0 8191 F (by decide)]
    have g8 : ∀ G, f_X8_layRelay_b35 8191 (rP x p G) p (nI (0 + 1)) = f_X8_layRelay_b35 (8190 + 1) (rP x p G) p (nI 1) := fun G => rfl
    rw [g8, st 1 8190 _ (by decide)]
    have g7 : ∀ G, f_X8_layRelay_b35 8190 (rP x p G) p (nI (1 + 1)) = f_X8_layRelay_b35 (8189 + 1) (rP x p G) p (nI 2) := fun G => rfl
    rw [g7, fin]
  · rw [upd_ne (by decide), upd_ne (by decide), upd_ne (by decide), upd_ne (by decide), upd_ne (by decide), upd_ne (by decide), ← hF, upd_ne (by decide), upd_ne (by decide), upd_at]
  · rw [upd_ne (by decide), upd_ne (by decide), upd_ne (by decide), upd_ne (by decide), upd_ne (by decide), upd_ne (by decide), ← hF, upd_ne (by decide), upd_at]
  · rw [upd_ne (by decide), upd_ne (by decide), upd_ne (by decide), upd_ne (by decide), upd_ne (by decide), upd_ne (by decide), ← hF, upd_at]
  · have : c = 0 ∨ c = 1 := by omega
    rcases this with rfl | rfl
    · refine ⟨?_, ?_, ?_⟩
      · rw [upd_ne (by decide), upd_ne (by decide), upd_ne (by decide), upd_ne (by decide), upd_ne (by decide)]; exact upd_at _ _ _
      · rw [upd_ne (by decide), upd_ne (by decide), upd_ne (by decide), upd_ne (by decide)]; exact upd_at _ _ _
      · rw [upd_ne (by decide), upd_ne (by decide), upd_ne (by decide)]; exact upd_at _ _ _
    · refine ⟨?_, ?_, ?_⟩
      · rw [upd_ne (by decide), upd_ne (by decide)]; exact upd_at _ _ _
      · rw [upd_ne (by decide)]; exact upd_at _ _ _
      · exact upd_at _ _ _
  · rw [upd_ne (by omega), upd_ne (by omega), upd_ne (by omega), upd_ne (by omega), upd_ne (by omega), upd_ne (by omega), ← hF, upd_ne (by omega), upd_ne (by omega), upd_ne (by omega)]
    exact q2 j a0
end ROW
