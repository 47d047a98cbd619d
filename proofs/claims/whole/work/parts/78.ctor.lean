theorem dfl8 : g_dfl 8 = [.int 0, .null, .int 0, .int 0, .int 0, .int 0, .int 0, .int 0, .null, .null, .null, .null, .int 0, .int 0, .int 0] := by decide +kernel
def Rz (D : Nat → Int32) : RMo := RMo.mk 0 0 0 0 0 0 (-1) 0 0 0 zf (updR (fun _ => zf) 0 D)
def o8 (m : Nat) (v : Value) : List Value := [.int 0, .ref (m + 1), .int 0, .int 0, .int 0, .int 0, .int 0, .int (-1), .ref (m + 2), .ref (m + 3), .ref (m + 4), v, .int 0, .int 0, .int 0]
def r9 : gC := .inl (0, 928, .inl fun _ => 0)
theorem x8_pre (h : gH) (K : gH → Option gH) : ((g_mk (g_add h (.inr (8, g_dfl 8))) (.inl (0, 500, .inl fun _ => 0))).bind fun h8 =>
  (g_put h8 h.1 8 1 (.ref (g_add h (.inr (8, g_dfl 8))).1)).bind fun h10 =>
  (g_put h10 h.1 8 7 (.int (-1))).bind fun h15 =>
  (g_mk h15 (.inl (0, 928, .inl fun _ => 0))).bind fun h22 =>
  (g_put h22 h.1 8 8 (.ref h15.1)).bind fun h24 =>
  (g_mk h24 (.inl (0, 928, .inl fun _ => 0))).bind fun h31 =>
  (g_put h31 h.1 8 9 (.ref h24.1)).bind fun h33 =>
  (g_mk h33 (.inl (0, 928, .inl fun _ => 0))).bind fun h40 =>
  (g_put h40 h.1 8 10 (.ref h33.1)).bind K) = K (ext h [.inr (8, o8 h.1 .null), .inl (0, 500, .inl fun _ => 0), r9, r9, r9]) := by
  rw [dfl8, ext_one, ext_mk, Option.bind_some, List.cons_append, List.nil_append, ext_put _ _ _ _ _ _ (by simp), Option.bind_some, ext_put _ _ _ _ _ _ (by simp), Option.bind_some,
    ext_mk, Option.bind_some, List.cons_append, ext_put _ _ _ _ _ _ (by simp), Option.bind_some,
    ext_mk, Option.bind_some, List.cons_append, ext_put _ _ _ _ _ _ (by simp), Option.bind_some,
    ext_mk, Option.bind_some, List.cons_append, ext_put _ _ _ _ _ _ (by simp), Option.bind_some]
  rfl
theorem x8_c (h : gH) : ∃ X D, f_X8_init (g_add h (.inr (8, g_dfl 8))) h.1 = some X ∧ X.1 = h.1 + 14 ∧ mIs X.2 h.1 (Rz D) ∧ Rel W1 D ∧ W1.live ∧ ∀ q, q < h.1 → X.2 q = h.2 q := by
  generalize hH : ext h [.inr (8, o8 h.1 .null), .inl (0, 500, .inl fun _ => 0), r9, r9, r9] = H
  have z1 : H.1 = h.1 + 5 := by rw [← hH]; rfl
  have c0 : H.2 h.1 = some (.inr (8, o8 h.1 .null)) := by rw [← hH]; exact ext_in h _ (j := 0) (by simp)
  have c1 : H.2 (h.1 + 1) = some (.inl (0, 500, .inl fun _ => 0)) := by rw [← hH]; exact ext_in h _ (j := 1) (by simp)
  have c2 : H.2 (h.1 + 2) = some r9 := by rw [← hH]; exact ext_in h _ (j := 2) (by simp)
  have c3 : H.2 (h.1 + 3) = some r9 := by rw [← hH]; exact ext_in h _ (j := 3) (by simp)
  have c4 : H.2 (h.1 + 4) = some r9 := by rw [← hH]; exact ext_in h _ (j := 4) (by simp)
  have cq : ∀ q, q < h.1 → H.2 q = h.2 q := fun q hq => by rw [← hH]; exact ext_out h _ (Or.inl hq)
  have m1 : (g_addM H 8 928).1 = h.1 + 14 := by show H.1 + 1 + 8 = _; omega
  have mo : ∀ q, q < h.1 + 5 → (g_addM H 8 928).2 q = H.2 q := fun q hq => by
    show (if q = H.1 then _ else if H.1 < q ∧ q < H.1 + 1 + 8 then _ else H.2 q) = _
    rw [if_neg (by omega), if_neg (by omega)]
  have m5 : (g_addM H 8 928).2 (h.1 + 5) = some (mA h.1) := by
    unfold g_addM
    dsimp only
    rw [if_pos z1.symm, z1]
    rfl
  have m6 : ∀ q, h.1 + 5 < q → q < h.1 + 14 → (g_addM H 8 928).2 q = some r9 := fun q h1 h2 => by
    unfold g_addM
    dsimp only
    rw [if_neg (by omega), if_pos (by omega)]
    rfl
  have mk : g_mkM H 8 928 = some (g_addM H 8 928) := rfl
  generalize g_addM H 8 928 = M at m1 mo m5 m6 mk
  have cM : M.2 h.1 = some (.inr (8, o8 h.1 .null)) := by rw [mo _ (by omega)]; exact c0
  have p11 := put_of (j := 11) (v := .ref H.1) cM (by simp [o8])
  have eo : (o8 h.1 .null).set 11 (.ref H.1) = o8 h.1 (.ref (h.1 + 5)) := by rw [z1]; rfl
  rw [eo] at p11
  generalize hM' : g_set M h.1 (.inr (8, o8 h.1 (.ref (h.1 + 5)))) = M' at p11
  have n1 : M'.1 = h.1 + 14 := by rw [← hM']; exact m1
  have n0 : M'.2 h.1 = some (.inr (8, o8 h.1 (.ref (h.1 + 5)))) := by rw [← hM']; exact set_at
  have nq : ∀ q, q ≠ h.1 → M'.2 q = M.2 q := fun q hq => by rw [← hM']; exact set_ne hq
  have g8 : g_gA M' h.1 8 8 = some (h.1 + 2) := gA_of n0 rfl
  have self : rP M' (h.1 + 2) zf = M' := rP_self (by rw [nq _ (by omega), mo _ (by omega), c2]; rfl)
  obtain ⟨D, d0, d2, d8, d9, dc, dr⟩ := layRelay_r (x := M') (p := h.1 + 2) (D := zf) 4 3
  rw [self] at d0
  have rc := Rel_clear W0 (z := 4) (l := 3) (by decide) (by decide) (by decide) (by decide) d2 (d8.trans (by decide)) (d9.trans (by decide)) dc dr
  refine ⟨rP M' (h.1 + 2) D, D, ?_, n1, fun j hj => ?_, rc.1, rc.2, fun q hq => ?_⟩
  · unfold f_X8_init
    rw [x8_pre, hH, mk, Option.bind_some, p11, Option.bind_some, g8, Option.bind_some, d0, Option.bind_some]
  · unfold mC
    by_cases j0 : j = 0
    · subst j0
      rw [if_pos rfl, rP_ne (by omega)]
      exact n0
    · rw [if_neg j0]
      by_cases j2 : j = 2
      · subst j2
        rw [if_neg (by decide), if_neg (by decide), rP_at]
        rfl
      · rw [rP_ne (by omega), nq _ (by omega)]
        by_cases j1 : j = 1
        · rw [if_pos j1, j1, mo _ (by omega), c1]
          rfl
        · rw [if_neg j1]
          by_cases j5 : j = 5
          · rw [if_pos j5, j5, m5]
          · rw [if_neg j5]
            have er : (Rz D).rows (j - 2) = zf := by
              show updR (fun _ => zf) 0 D (j - 2) = zf
              rw [updR_ne (by omega)]
            rw [er]
            by_cases j3 : j = 3
            · rw [j3, mo _ (by omega), c3]; rfl
            · by_cases j4 : j = 4
              · rw [j4, mo _ (by omega), c4]; rfl
              · rw [m6 _ (by omega) (by omega)]; rfl
  · rw [rP_ne (by omega), nq _ (by omega), mo _ (by omega)]
    exact cq q hq
