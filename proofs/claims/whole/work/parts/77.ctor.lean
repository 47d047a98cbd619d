def Fz : RFc := RFc.mk zf 0 (-1) W1 W1 0 0 (fun _ => W1)
theorem x7_c (h : gH) : ∃ X, f_X7_init (g_add h (.inr (7, g_dfl 7))) h.1 = some X ∧ X.1 = h.1 + 614 ∧ fIs X.2 h.1 Fz := by
  generalize hX0 : ext h [.inr (7, [.ref (h.1 + 1), .int 0, .int (-1), .null, .null, .null]), .inl (1, 500, .inl fun _ => 0)] = X0
  have z1 : X0.1 = h.1 + 2 := by rw [← hX0]; rfl
  have c0 : X0.2 h.1 = some (.inr (7, [.ref (h.1 + 1), .int 0, .int (-1), .null, .null, .null])) := by rw [← hX0]; exact ext_in h _ (j := 0) (by simp)
  have c1 : X0.2 (h.1 + 1) = some (.inl (1, 500, .inl fun _ => 0)) := by rw [← hX0]; exact ext_in h _ (j := 1) (by simp)
  obtain ⟨Y0, y1, y2, y3, y4⟩ := x6_w X0
  have c2 : Y0.2 h.1 = some (.inr (7, [.ref (h.1 + 1), .int 0, .int (-1), .null, .null, .null])) := by rw [y4 _ (by omega)]; exact c0
  have p3 := put_of (j := 3) (v := .ref X0.1) c2 (by simp)
  generalize hX1 : g_set Y0 h.1 (.inr (7, List.set [.ref (h.1 + 1), .int 0, .int (-1), .null, .null, .null] 3 (.ref X0.1))) = X1 at p3
  have z2 : X1.1 = h.1 + 63 := by rw [← hX1]; show Y0.1 = _; rw [y2]; omega
  have c3 : X1.2 h.1 = some (.inr (7, [.ref (h.1 + 1), .int 0, .int (-1), .ref X0.1, .null, .null])) := by rw [← hX1]; exact set_at
  have o1 : ∀ q, q ≠ h.1 → X1.2 q = Y0.2 q := fun q hq => by rw [← hX1]; exact set_ne hq
  obtain ⟨Y1, u1, u2, u3, u4⟩ := x6_w X1
  have c4 : Y1.2 h.1 = some (.inr (7, [.ref (h.1 + 1), .int 0, .int (-1), .ref X0.1, .null, .null])) := by rw [u4 _ (by omega)]; exact c3
  have p4 := put_of (j := 4) (v := .ref X1.1) c4 (by simp)
  generalize hX2 : g_set Y1 h.1 (.inr (7, List.set [.ref (h.1 + 1), .int 0, .int (-1), .ref X0.1, .null, .null] 4 (.ref X1.1))) = X2 at p4
  have z3 : X2.1 = h.1 + 124 := by rw [← hX2]; show Y1.1 = _; rw [u2]; omega
  have c5 : X2.2 h.1 = some (.inr (7, [.ref (h.1 + 1), .int 0, .int (-1), .ref X0.1, .ref X1.1, .null])) := by rw [← hX2]; exact set_at
  have o2 : ∀ q, q ≠ h.1 → X2.2 q = Y1.2 q := fun q hq => by rw [← hX2]; exact set_ne hq
  obtain ⟨Y2, v1, w1, w2, w3, w4, w5⟩ := x1_c X2
  have c6 : Y2.2 h.1 = some (.inr (7, [.ref (h.1 + 1), .int 0, .int (-1), .ref X0.1, .ref X1.1, .null])) := by rw [w5 _ (by omega)]; exact c5
  have p5 := put_of (j := 5) (v := .ref X2.1) c6 (by simp)
  have fin : f_X7_init (g_add h (.inr (7, g_dfl 7))) h.1 = some (g_set Y2 h.1 (.inr (7, List.set [.ref (h.1 + 1), .int 0, .int (-1), .ref X0.1, .ref X1.1, .null] 5 (.ref X2.1)))) := by
    have e0 : ext h [.inr (7, [.ref (ext h [.inr (7, [.null, .int 0, .int 0, .null, .null, .null])]).1, .int 0, .int (-1), .null, .null, .null]), .inl (1, 500, .inl fun _ => 0)] = X0 := by rw [← hX0]; rfl
    rw [dfl7, ext_one]
    unfold f_X7_init
    rw [ext_mk, Option.bind_some, List.cons_append, List.nil_append, ext_put _ _ _ _ _ _ (by simp), Option.bind_some, ext_put _ _ _ _ _ _ (by simp), Option.bind_some, ext_put _ _ _ _ _ _ (by simp), Option.bind_some]
    simp only [List.set]
    rw [e0]
    unfold g_mk
    rw [Option.bind_some, y1, Option.bind_some, p3, Option.bind_some, Option.bind_some, u1, Option.bind_some, p4, Option.bind_some, Option.bind_some, v1, Option.bind_some, p5, Option.bind_some]
    rfl
  refine ⟨_, fin, ?_, fun j hj => ?_⟩
  · show Y2.1 = _
    rw [w1]; omega
  · unfold fC
    by_cases j0 : j = 0
    · subst j0
      rw [if_pos rfl]
      refine Eq.trans (b := some (.inr (7, [.ref (h.1 + 1), .int 0, .int (-1), .ref X0.1, .ref X1.1, .ref X2.1]))) ?_ ?_
      · exact set_at
      · rw [z1, z2, z3]
        rfl
    · rw [if_neg j0, set_ne (by omega)]
      by_cases j1 : j = 1
      · rw [if_pos j1, j1, w5 _ (by omega), o2 _ (by omega), u4 _ (by omega), o1 _ (by omega), y4 _ (by omega), c1]
        rfl
      · rw [if_neg j1]
        by_cases j2 : j < 63
        · rw [if_pos j2, w5 _ (by omega), o2 _ (by omega), u4 _ (by omega), o1 _ (by omega)]
          have := y3 (j - 2) (by omega)
          rw [z1, show h.1 + 2 + (j - 2) = h.1 + j by omega] at this
          exact this
        · rw [if_neg j2]
          by_cases j3 : j < 124
          · rw [if_pos j3, w5 _ (by omega), o2 _ (by omega)]
            have := u3 (j - 63) (by omega)
            rw [z2, show h.1 + 63 + (j - 63) = h.1 + j by omega] at this
            exact this
          · rw [if_neg j3]
            by_cases j4 : j = 124
            · rw [if_pos j4, j4]
              rw [z3] at w2
              exact w2
            · rw [if_neg j4]
              by_cases j5 : j = 125
              · rw [if_pos j5, j5]
                rw [z3] at w3
                have er : ringG (h.1 + 124) 8 = fun i => if i < 8 then some (h.1 + 126 + 61 * i) else none := funext fun i => by rw [ringG_at]
                rw [er] at w3
                exact w3
              · rw [if_neg j5]
                have := w4 ((j - 126) / 61) (by omega) ((j - 126) % 61) (Nat.mod_lt _ (by decide))
                rw [z3, show h.1 + 124 + 2 + 61 * ((j - 126) / 61) = h.1 + 126 + 61 * ((j - 126) / 61) by omega, show h.1 + 126 + 61 * ((j - 126) / 61) + (j - 126) % 61 = h.1 + j by omega] at this
                exact this
