/-! a word is sent; an empty text is loaded -/
theorem addMsg_ext {R : RW} {s u : Int32} {n : Nat} {T T' : Nat → Int32} (e : ∀ k, k < n → T k = T' k) : R.addMsg s u T 0 n = R.addMsg s u T' 0 n := by
  have l : ltr n 0 T = ltr n 0 T' := funext fun f => ltr_ext (fun k hk => by rw [Nat.zero_add]; exact e k hk)
  unfold RW.addMsg RMs.letters'
  rw [l]
theorem bind_id (o : Option (Int32 × gH)) : (o.bind fun y => some (y.1, y.2)) = o := by cases o <;> rfl
section SND
variable {G : gG} {a b : Nat} {h : gH} {F : RFc}
theorem load_e (hf : fIs h.2 a F) (hc : a + 614 ≤ h.1) (n5 : F.n ≤ 500) : ∃ h' e, f_L_load G h a 0 = some (-2, h') ∧ fIs h'.2 a ((F.s_n 0).s_err e) ∧ h'.1 = h.1 + 1 ∧ ∀ q, (q < a ∨ a + 614 ≤ q) → q ≠ h.1 → h'.2 q = h.2 q := by
  have ef : fP h a F = h := fP_self hf
  have e1 : (fP h a (F.s_n 0)).1 = h.1 := rfl
  have tx : (g_add (fP h a (F.s_n 0)) (.inr (5, g_dfl 5))).2 (a + 1) = some (.inl (1, 500, .inl F.B)) := by
    rw [gadd_ne (by omega), fP_in h a _ (show 1 < 614 by decide)]
    rfl
  have J : Jo (g_add (fP h a (F.s_n 0)) (.inr (5, g_dfl 5))) (fP h a (F.s_n 0)).1 (a + 63) (a + 1) F.B := ⟨tx, by omega, by omega, by omega⟩
  generalize hR : RRd.mk (a + 1) 0 0 0 0 0 (-1) = R0
  have wS : R0.w (g_add (fP h a (F.s_n 0)) (.inr (5, g_dfl 5))) (fP h a (F.s_n 0)).1 (a + 63) (a + 1) F.B := by
    rw [← hR]
    exact ⟨rfl, fun W => J.wd W rfl (Nat.zero_le _) (Nat.le_refl _) (Nat.le_refl _)⟩
  have rr := relay_rd J wS F.tr
  have t : (R0.word F.B).isTok F.B 0 = false := by rw [← hR]; rfl
  have e0 : readRelay F.B R0 F.tr = (false, (R0.word F.B).fail (-2), F.tr) := by
    unfold readRelay
    dsimp only
    rw [t]
    rfl
  rw [e0] at rr
  have rd : f_X5_readInto (ldH h a (F.s_n 0) R0 F.tr) (fP h a (F.s_n 0)).1 (a + 63) = some (bI false, ldH h a (F.s_n 0) ((R0.word F.B).fail (-2)) F.tr) := by
    unfold f_X5_readInto ldH
    rw [rdP_g, cond_true, rr, Option.bind_some]
    rfl
  rw [← hR] at rd
  have lc := ld_cls (N := 0) (b := false) ef hc (Nat.zero_le _) n5 rd
  rw [if_neg (by decide), nI_0] at lc
  refine ⟨fP (ldH h a (F.s_n 0) ((R0.word F.B).fail (-2)) F.tr) a ((F.s_n 0).s_err ((R0.word F.B).fail (-2)).err), ((R0.word F.B).fail (-2)).err, ?_, fP_is _ _ _, rfl, fun q q1 q2 => ?_⟩
  · unfold f_L_load
    rw [fIs_g hf, cond_true, lc, hR]
    rfl
  · rw [fP_out _ _ _ q1]
    show (ldH h a (F.s_n 0) ((R0.word F.B).fail (-2)) F.tr).2 q = _
    unfold ldH
    rw [rdP_ne (by omega), wd_add F.tr (by omega), wdP_out _ _ _ (by omega), fP_out _ _ _ q1]
/-- the word is in the class's buffer when it is sent -/
theorem sendText_t {x s u : Nat} {M : List Nat} (W : wf h) (hc : a + 615 ≤ h.1) (hf : fIs h.2 a F) (n0 : F.n = 0) (e : bfO a h) (w : wordAt h x M) (hx : a + 615 ≤ x) (sm : smL M) (m1 : 1 ≤ M.length) (m11 : M.length ≤ 11) : ∃ h3 B, f_L_sendText G h a (a + 614) x (nI s) (nI u) = f_L_send G h3 a (nI s) (nI u) (nI M.length) ∧ fIs h3.2 a ((F.s_B B).s_n 20) ∧ bfO a h3 ∧ (∀ i, i < M.length → B i = nI (byt M i)) ∧ eff (fun q => a ≤ q ∧ q < a + 615) h h3 ∧ h3.1 = h.1 := by
  obtain ⟨v, g, ex, ev, xv, eg⟩ := w
  have xl := W _ _ ex
  have vl := W _ _ ev
  have t0 := bfO.ts hf n0 e
  obtain ⟨h1, x1, t1, f1, g1⟩ := wrW_t (G := G) hc t0 ex ev eg (Or.inr hx) (Or.inr (by omega)) sm.as (by show 0 + M.length ≤ 460; omega)
  rw [List.nil_append] at t1
  obtain ⟨aL, B, n, hf1, q1, q2, f, e1, e2, e3⟩ := t1
  have z : M.length / 20 = 0 := Nat.div_eq_of_lt (by omega)
  have n0' : n = 0 := by
    have : ((F.s_B B).s_n n).n = 20 * (M.length / 20) := q1
    rw [z] at this
    exact this
  subst n0'
  have ex1 : h1.2 x = some (stO v) := (f1.2.1 x xl (by omega)).trans ex
  have ev1 : h1.2 v = some (.inl (1, M.length, .inl g)) := (f1.2.1 v vl (by omega)).trans ev
  have tx1 : txt G h1 x M.length g := txt_dyn ex1 ev1
  obtain ⟨h2, F', f', x2, y2, y3, y4, y5, y6, y7, y8, o⟩ := flush_c (G := G) hf1 (Or.inr (Nat.le_refl _)) (fun i => asL_b aL _) e1 e3 (show ((F.s_B B).s_n 0).n + 20 ≤ 500 by show 0 + 20 ≤ 500; omega)
  obtain ⟨B', n', eF⟩ := o.2.2
  have eF2 : F' = (F.s_B B').s_n n' := eF
  subst eF2
  have n20 : n' = 20 := y3
  subst n20
  have ef2 := eff_only o (show a + 615 ≤ h1.1 by omega)
  have st : g_ast h2 (a + 614) 0 0 = some (g_set h2 (a + 614) (.inl (0, 8, .inl (upd f' 0 0)))) := ast_of (i := 0) y6 (by decide) (by decide)
  have l2 : a + 614 < h2.1 := by rw [o.1]; omega
  have ef3 : eff (fun q => a ≤ q ∧ q < a + 615) h2 (g_set h2 (a + 614) (.inl (0, 8, .inl (upd f' 0 0)))) := eff_set l2 (by omega) _
  have ex3 : (g_set h2 (a + 614) (.inl (0, 8, .inl (upd f' 0 0)))).2 x = some (stO v) := (set_ne (by omega)).trans ((ef2.2.1 x (by omega) (by omega)).trans ex1)
  have ev3 : (g_set h2 (a + 614) (.inl (0, 8, .inl (upd f' 0 0)))).2 v = some (.inl (1, M.length, .inl g)) := (set_ne (by omega)).trans ((ef2.2.1 v (by omega) (by omega)).trans ev1)
  have tx3 : txt G (g_set h2 (a + 614) (.inl (0, 8, .inl (upd f' 0 0)))) x M.length g := txt_dyn ex3 ev3
  have r20 : g_rem (nI M.length) 20 = nI M.length := by
    rw [show (20 : Int32) = nI 20 by decide, rem_gen _ 20 (by omega) (by decide) (by decide), Nat.mod_eq_of_lt (by omega)]
  have z0 : (0 : Int32) = nI 0 := nI_0.symm
  refine ⟨g_set h2 (a + 614) (.inl (0, 8, .inl (upd f' 0 0))), B', ?_, fun j hj => by rw [set_ne (by omega)]; exact y2 j hj, ⟨upd f' 0 0, set_at, rfl, fun k hk => by rw [upd_ne (by omega)]; exact y8 k hk⟩, fun i hi => ?_, (f1.trans ef2).trans ef3, ?_⟩
  · have b21 : f_L_sendText_b21 G h2 a (a + 614) x (nI s) (nI u) = f_L_send G (g_set h2 (a + 614) (.inl (0, 8, .inl (upd f' 0 0)))) a (nI s) (nI u) (nI M.length) := by
      unfold f_L_sendText_b21
      rw [st, Option.bind_some, tx3.isS, cond_true, length_t tx3, Option.bind_some]
      exact bind_id _
    unfold f_L_sendText
    rw [x1, Option.bind_some, tx1.isS, cond_true, length_t tx1, Option.bind_some, r20, z0, if_pos (nI_lt (show 0 < M.length by omega) (by omega)), x2, Option.bind_some]
    exact b21
  · have q := y5 i (by omega)
    have e0 : ((F.s_B B).s_n 0).n + i = i := Nat.zero_add i
    rw [e0] at q
    have q' : B' i = nI (pbO M i) := q
    rw [q']
    unfold pbO
    rw [z, Nat.mul_zero, Nat.zero_add]
  · show h2.1 = h.1
    rw [o.1, g1]
end SND
