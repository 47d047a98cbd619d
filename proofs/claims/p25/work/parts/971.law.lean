/-! the law's first questions, and its loop -/
section LW1
variable {G : gG} {b : Nat} {h : gH} {xs : Nat → Int32} {N : Nat}
def Rk1 : RW := W1.setKp (nI 1) ((W1.kp (nI 1)).come (nI W1.time) (nI 7))
def Fk1 : RFc := Fz.keep.s_now (Fz.now.setKp (nI 1) ((Fz.now.kp (nI 1)).come (nI Fz.now.time) (nI 7)))
def Fk2 : RFc := Fk1.keep.s_now (Fk1.now.setKp (nI 1) ((Fk1.now.kp (nI 1)).come (nI Fk1.now.time) (nI 9)))
theorem fk_r0 : ∃ D, Rel Fz.now D := ⟨dNew, (new_rel W0).1⟩
theorem fk_r1 : ∃ D, Rel Fk1.now D := by
  obtain ⟨D, r⟩ := fk_r0
  have q := come_rel (k := nI 7) (t := nI Fz.now.time) (r.kp (s := 1) (by decide)) (fun _ => by decide +kernel) ⟨7, by decide, rfl⟩ ⟨0, by decide, rfl⟩
  exact ⟨_, r.kept (s := 1) (by decide) q (fun j hj => dKp_o (by omega))⟩
theorem fk_r2 : ∃ D, Rel Fk2.now D := by
  obtain ⟨D, r⟩ := fk_r1
  have q := come_rel (k := nI 9) (t := nI Fk1.now.time) (r.kp (s := 1) (by decide)) (fun _ => by decide +kernel) ⟨9, by decide, rfl⟩ ⟨0, by decide, rfl⟩
  exact ⟨_, r.kept (s := 1) (by decide) q (fun j hj => dKp_o (by omega))⟩
theorem fk_1 : (Fz.now.kp (nI 1)).keyAt (nI Fz.now.time) = 0 ∧ (Fz.now.kp (nI 1)).told = 0 ∧ Fk1.pl < 8 ∧ Fk1.ct ≤ 8 ∧ Fk1.n = 0 ∧ Fk1.now.time = 0 ∧ Fk1.now.told = 0 := by decide +kernel
theorem fk_2 : (Fk1.now.kp (nI 1)).keyAt (nI Fk1.now.time) = 7 ∧ (Fk1.now.kp (nI 1)).told = 1 ∧ Fk2.pl < 8 ∧ Fk2.ct = 2 ∧ Fk2.n = 0 ∧ Fk2.now.time = 0 ∧ Fk2.now.told = 0 ∧ (Fk2.now.kp (nI 1)).keyAt 0 = 9 ∧ (Fk2.K ((Fk2.pl + 7) % 8)).told = 0 := by decide +kernel
theorem fk_3 : Fk2.back.pl < 8 ∧ Fk2.back.ct = 1 ∧ Fk2.back.n = 0 ∧ (Fk2.back.K ((Fk2.back.pl + 7) % 8)).told = 0 := by decide +kernel
theorem fk_4 : Fk2.back.back.pl < 8 ∧ Fk2.back.back.ct = 0 ∧ Fk2.back.back.n = 0 ∧ Fk2.back.back.now.told = 0 := by decide +kernel
theorem iter_t (cs : csG G b) (n : Nxt b h) {i : Nat} (i2' : i < 2) (hi : i < N) (hN : N < 2 ^ 31) (fu : Nat) : ∃ h', f_L_law_b4 G xs N (fu + 1) h 1 (nI i) = f_L_law_b4 G xs N fu h' 1 (nI (i + 1)) ∧ Nxt b h' := by
  obtain ⟨n1, n2, n3⟩ := n
  obtain ⟨hA, eA, zA, fA, oA⟩ := x7_c h
  have wA : wf hA := fun q c e => by
    by_cases z : h.1 ≤ q ∧ q < h.1 + 614
    · omega
    · rw [oA q (by omega)] at e
      have := n1 q c e
      omega
  have lA : low b hA := fun q hq => (oA q (by omega)).trans (n2 q hq)
  have n8 : g_nwI hA 8 8 = some (ext hA [.inl (0, 8, .inl fun _ => 0)]) := nw_e hA (n := 8) (by decide) (by decide) (by decide)
  generalize hHB : ext hA [.inl (0, 8, .inl fun _ => 0)] = hB at n8
  have zB : hB.1 = h.1 + 615 := by rw [← hHB, ext_fst, zA]; rfl
  have x11 : ∀ v, f_X11_init G (g_add hB (.inr (11, g_dfl 11))) hB.1 v = some (ext hB [.inr (11, [.int v])]) := fun v => by
    unfold f_X11_init
    rw [dfl11, ext_one, ext_put hB [] 11 0 [.int 0] (.int v) (by decide), Option.bind_some]
    rfl
  have sl : (g_ix (nI i) N).map xs = some (xs i) := by rw [ix_of hi hN]; rfl
  generalize hHC : ext hB [.inr (11, [.int (xs i)])] = hC at x11
  have x11' := x11 (xs i)
  generalize hHC : ext hB [.inr (11, [.int (xs i)])] = hC at x11'
  have zC : hC.1 = h.1 + 616 := by rw [← hHC, ext_fst, zB]; rfl
  have x10 := x10_c G hC
  have wB : wf hB := by rw [← hHB]; exact wf_ext wA _
  have wC : wf hC := by rw [← hHC]; exact wf_ext wB _
  have wD : wf (ext hC (csL hC.1)) := wf_ext wC _
  have oB : ∀ q, q < hA.1 → hB.2 q = hA.2 q := fun q hq => by rw [← hHB]; exact ext_out hA _ (Or.inl hq)
  have oC : ∀ q, q < hB.1 → hC.2 q = hB.2 q := fun q hq => by rw [← hHC]; exact ext_out hB _ (Or.inl hq)
  have oD : ∀ q, q < hC.1 → (ext hC (csL hC.1)).2 q = hC.2 q := fun q hq => ext_out hC _ (Or.inl hq)
  have oAD : ∀ q, q < hA.1 → (ext hC (csL hC.1)).2 q = hA.2 q := fun q hq => by rw [oD q (by omega), oC q (by omega), oB q hq]
  have bfB : hB.2 (h.1 + 614) = some (.inl (0, 8, .inl fun _ => 0)) := by
    rw [← hHB, ← zA]
    exact ext_in hA _ (j := 0) (by simp)
  have rdC : hC.2 (h.1 + 615) = some (.inr (11, [.int (xs i)])) := by
    rw [← hHC, ← zB]
    exact ext_in hB _ (j := 0) (by simp)
  have B : Bas h.1 b (ext hC (csL hC.1)) := ⟨wD, fun q hq => (oAD q (by omega)).trans (lA q hq), n3, by rw [ext_fst, zC]; exact Nat.le_add_right _ _, xs i, (oD _ (by omega)).trans rdC, by rw [ext_fst, zC]; omega⟩
  have C : Cls h.1 (ext hC (csL hC.1)) Fz := ⟨fun j hj => (oAD _ (by omega)).trans (fA j hj), ⟨fun _ => 0, (oD _ (by omega)).trans ((oC _ (by omega)).trans bfB), rfl, fun k _ => rfl⟩, rfl, by decide, by decide⟩
  have l : Lin (ext hC (csL hC.1)) (Pq h.1 0) (sNew hC.1 (Pq h.1 0)) dNew Fz.now := lin_new W0 (Pq h.1 0) (fun q hq => ⟨by omega, by omega⟩)
  obtain ⟨ag, B0, C0, -, -⟩ := agree_end (G := G) B C l (by decide)
  have ag' : f_L_agrees G (ext hC (csL hC.1)) h.1 hC.1 = some (1, thr (thr (thr (thr (ext hC (csL hC.1)))))) := ag
  generalize hH0 : thr (thr (thr (thr (ext hC (csL hC.1))))) = h0 at ag' B0 C0
  have ok0 : Fz.now.ok := by obtain ⟨D, r⟩ := fk_r0; exact r.ok
  have ok1 : Fk1.now.ok := by obtain ⟨D, r⟩ := fk_r1; exact r.ok
  have ok2 : Fk2.now.ok := by obtain ⟨D, r⟩ := fk_r2; exact r.ok
  have e60 : f_X7_errorOffset h0 h.1 = some (-1) := err_c C0.1
  have e68 : f_X7_undo h0 h.1 = some (-1, h0) := undo_0 C0.1 (by decide) rfl
  have e77 : f_L_cancel G h0 h.1 0 = some (-2000000097, thr h0) := cancel_0 C0.1 (by decide +kernel)
  obtain ⟨B1, C1⟩ := bc_thr B0 C0
  have e88 : f_L_pass G (thr h0) h.1 101 = some (-2000000098, thr (thr h0)) := pass_0 C1.1 (by decide)
  obtain ⟨B2, C2⟩ := bc_thr B1 C1
  have e100 : f_L_send G (thr (thr h0)) h.1 2 0 1 = some (-2000000097, thr (thr (thr h0))) := send_0 C2.1 (by decide)
  obtain ⟨B3, C3⟩ := bc_thr B2 C2
  have e112 : f_L_send G (thr (thr (thr h0))) h.1 0 0 1 = some (-2000000098, thr (thr (thr (thr h0)))) := send_1 (n := 1) C3.1 (by decide) (by decide) (by decide) (by decide) (by decide) (by decide)
  obtain ⟨B4, C4⟩ := bc_thr B3 C3
  have e124 : f_L_fog G (thr (thr (thr (thr h0)))) h.1 5 4 0 = some (-2000000098, thr (thr (thr (thr (thr h0))))) := fog_0 C4.1 (by decide) (by decide)
  obtain ⟨B5, C5⟩ := bc_thr B4 C4
  have e136 : f_L_relieve G (thr (thr (thr (thr (thr h0))))) h.1 0 26 = some (-2000000098, thr (thr (thr (thr (thr (thr h0)))))) := relieve_0 C5.1 (by decide) (by decide)
  obtain ⟨B6, C6⟩ := bc_thr B5 C5
  generalize hH6 : thr (thr (thr (thr (thr (thr h0))))) = h6 at e136 B6 C6
  obtain ⟨f1a, f1b, f1c, f1d, f1e, f1f, f1g⟩ := fk_1
  obtain ⟨f2a, f2b, f2c, f2d, f2e, f2f, f2g, f2h, f2i⟩ := fk_2
  obtain ⟨f3a, f3b, f3c, f3d⟩ := fk_3
  obtain ⟨f4a, f4b, f4c, f4d⟩ := fk_4
  have e148 := relieve_c (G := G) (s := 1) (q := 7) C6.1 ok0 (by decide) (by decide) (by decide) (by decide) (by decide) (by decide) (by rw [f1b]; decide)
  rw [if_neg (fun z => by rw [f1b] at z; exact absurd z.1 (by decide)), f1a] at e148
  have e148' : f_L_relieve G h6 h.1 1 7 = some (0, fP h6 h.1 Fk1) := e148
  obtain ⟨B7, C7⟩ := bc_fP B6 C6 Fk1 f1e f1c f1d
  have e158 := relieve_c (G := G) (s := 1) (q := 9) C7.1 ok1 f1c f1d (by rw [f1g]; decide) (by decide) (by decide) (by rw [f1f]; decide) (by rw [f2b]; decide)
  rw [if_neg (fun z => by rw [f2b] at z; exact absurd z.1 (by decide)), f2a] at e158
  have e158' : f_L_relieve G (fP h6 h.1 Fk1) h.1 1 9 = some (7, fP (fP h6 h.1 Fk1) h.1 Fk2) := e158
  obtain ⟨B8, C8⟩ := bc_fP B7 C7 Fk2 f2e f2c (by rw [f2d]; decide)
  generalize hH8 : fP (fP h6 h.1 Fk1) h.1 Fk2 = h8 at e158' B8 C8
  have e169 : f_L_key G h8 h.1 1 0 = some (9, h8) := by
    have q := key_c (G := G) (x1 := 1) (x2 := 0) C8.1 ok2 (by decide) (by decide)
    have f2h' : (Fk2.now.kp 1).keyAt 0 = 9 := f2h
    rw [f2h'] at q
    exact q
  have e178 := undo_1 C8.1 f2c (by rw [f2d]; decide) (by rw [f2d]; decide) (by rw [f2i]; decide)
  rw [f2d] at e178
  have e178' : f_X7_undo h8 h.1 = some (1, fP h8 h.1 Fk2.back) := e178
  obtain ⟨B9, C9⟩ := bc_fP B8 C8 Fk2.back f3c f3a (by rw [f3b]; decide)
  have e186 := undo_1 C9.1 f3a (by rw [f3b]; decide) (by rw [f3b]; decide) (by rw [f3d]; decide)
  rw [f3b] at e186
  have e186' : f_X7_undo (fP h8 h.1 Fk2.back) h.1 = some (0, fP (fP h8 h.1 Fk2.back) h.1 Fk2.back.back) := e186
  obtain ⟨B10, C10⟩ := bc_fP B9 C9 Fk2.back.back f4c f4a (by rw [f4b]; decide)
  obtain ⟨h', r1, r2⟩ := b197_t (G := G) (xs := xs) (N := N) (K4 := f_L_law_b4 G xs N fu) (l2 := nI i) cs B10 C10 (by rw [f4d]; decide)
  refine ⟨h', ?_, r2⟩
  have hN' : nI i < Int32.ofNat N := nI_lt hi hN
  have il : nI i < 2 := i2 i2'
  rw [f_L_law_b4, if_pos hN', if_pos il, if_neg (by decide)]
  unfold g_mk
  rw [Option.bind_some, eA, Option.bind_some, n8, Option.bind_some, Option.bind_some, sl, Option.bind_some, x11', Option.bind_some, Option.bind_some, x10, Option.bind_some, ag', Option.bind_some]
  dsimp only
  rw [if_neg (by decide), fIs_g C0.1, cond_true, e60, Option.bind_some, if_pos rfl, e68, Option.bind_some, if_pos rfl, e77, Option.bind_some, if_pos rfl, e88, Option.bind_some, if_pos rfl, e100, Option.bind_some, if_pos rfl, e112, Option.bind_some, if_pos rfl, e124, Option.bind_some, if_pos rfl, e136, Option.bind_some, if_pos rfl, e148', Option.bind_some, if_pos rfl, e158', Option.bind_some, if_pos rfl, e169, Option.bind_some, if_pos rfl]
  dsimp only
  rw [fIs_g C8.1, cond_true, e178', Option.bind_some, if_pos rfl]
  dsimp only
  rw [fIs_g C9.1, cond_true, e186', Option.bind_some, if_pos rfl]
  dsimp only
  rw [zA, zB, r1, nI_succ]
  rfl
theorem law_t (cs : csG G b) (n : Nxt b h) (hN : N < 2 ^ 31) : ∃ h', f_L_law G xs N h = some (1, h') := by
  unfold f_L_law
  rw [← nI_0]
  have ge : ∀ i, ¬ i < N → ¬ nI i < Int32.ofNat N ∨ 2 ^ 31 ≤ i := fun i hi => by
    by_cases c : i < 2 ^ 31
    · exact Or.inl (nI_nlt (by omega) c)
    · exact Or.inr (by omega)
  by_cases c0 : 0 < N
  · obtain ⟨h1, e1, n1⟩ := iter_t (xs := xs) cs n (i := 0) (by decide) c0 hN 2
    rw [e1]
    by_cases c1 : 1 < N
    · obtain ⟨h2, e2, n2⟩ := iter_t (xs := xs) cs n1 (i := 1) (by decide) c1 hN 1
      rw [e2, f_L_law_b4]
      by_cases c2 : nI (1 + 1) < Int32.ofNat N
      · rw [if_pos c2, if_neg (by decide)]; exact ⟨h2, rfl⟩
      · rw [if_neg c2]; exact ⟨h2, rfl⟩
    · rw [f_L_law_b4, if_neg ((ge 1 c1).resolve_right (by decide))]
      exact ⟨h1, rfl⟩
  · rw [f_L_law_b4, if_neg ((ge 0 c0).resolve_right (by decide))]
    exact ⟨h, rfl⟩
end LW1
