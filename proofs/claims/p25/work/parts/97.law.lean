/-! the law: an object and a Line for each number -/
section LAW
variable {G : gG} {a b : Nat} {h h' h1 : gH} {F F' : RFc} {xs : Nat → Int32} {N : Nat} {K4 : gH → Int32 → Int32 → Option (Int32 × gH)} {l2 : Int32}
theorem bc_thr (B : Bas a b h) (C : Cls a h F) : Bas a b (thr h) ∧ Cls a (thr h) F := by
  have e := eff_thr (fun _ => False) h
  exact ⟨B.fr e (fun q hq => hq.elim), C.fr (by have := B.2.2.2.1; omega) e (fun q hq => hq.elim)⟩
theorem bc_fP (B : Bas a b h) (C : Cls a h F) (F' : RFc) (n0 : F'.n = 0) (pl : F'.pl < 8) (ct : F'.ct ≤ 8) : Bas a b (fP h a F') ∧ Cls a (fP h a F') F' := by
  have hc := B.2.2.2.1
  have hb := B.2.2.1
  have e := eff_fP (a := a) (h := h) F' (by omega)
  obtain ⟨f, c2, c3⟩ := C.2.1
  exact ⟨B.fr e (fun q hq => by omega), fP_is h a F', ⟨f, (fP_out h a F' (Or.inr (Nat.le_refl _))).trans c2, c3⟩, n0, pl, ct⟩
/-- behind the first questions: a random Line, its changes, all undone -/
theorem b197_t (cs : csG G b) (B : Bas a b h) (C : Cls a h F) (h8 : F.now.told ≤ 8) : ∃ h', f_L_law_b197 G xs N K4 h l2 a (a + 614) (a + 615) 1 = K4 h' 1 (l2 + 1) ∧ Nxt b h' := by
  obtain ⟨h1, S, D, V, BB, nn, e1, B1, hf1, bo1, lV, tV⟩ := randomLine_t (G := G) cs B C h8
  generalize hF : ((F.s_B BB).s_n nn).ldd V = F1 at hf1
  have n0 : F1.n = 0 := by rw [← hF]; rfl
  have pl : F1.pl < 8 := by rw [← hF]; exact Nat.mod_lt _ (by decide)
  have ct : F1.ct ≤ 8 := by rw [← hF]; exact Nat.min_le_right _ _
  have fn : F1.now = V.copy F.now := by rw [← hF]; rfl
  have l1 : Lin h1 (Pq a 0) S D F1.now := by rw [fn]; exact lV.cop F.now
  have t1 : F1.now.time = 0 := by rw [fn]; exact tV
  have C1 : Cls a h1 F1 := ⟨hf1, bo1, n0, pl, ct⟩
  obtain ⟨g1, B2, C2, l2', -⟩ := agree_end (G := G) B1 C1 l1 (by rw [t1]; decide)
  generalize hH : thr (thr (thr (thr h1))) = h2 at *
  have nq : g_nwQ h2 9 9 9 = some (ext h2 [bRow (fun _ => none)]) := by
    rw [← ext_one]
    exact nwQ_of h2 9 (n := 9) (by decide) (by decide)
  have ex := eff_ext (fun _ => False) h2 [bRow (fun _ => none)]
  have B3 : Bas a b (ext h2 [bRow (fun _ => none)]) := B2.fr ex (fun q hq => hq.elim)
  have C3 : Cls a (ext h2 [bRow (fun _ => none)]) F1 := C2.fr (by have := B2.2.2.2.1; omega) ex (fun q hq => hq.elim)
  have hP : ∀ q c, Pq a 0 q → h2.2 q = some c → Pq a h2.1 q := fun q c z e => ⟨z.1, by have := B2.1 q c e; omega⟩
  have l3 : Lin h2 (Pq a h2.1) (S.rp (Pq a h2.1)) D F1.now := by
    obtain ⟨I, L, m1, m2, m3, m4, m5, m6⟩ := l2'
    refine ⟨I.rp _, L.rp (fun q c z _ e => hP q c (by rw [← m6]; exact z) e), m1, m2, m3, m4, fun q hq => ?_, rfl⟩
    have ow := Lin.own ⟨I, L, m1, m2, m3, m4, m5, m6⟩ B2.1 hq
    exact ⟨(m5 q hq).1, by omega⟩
  have l4 := l3.ex B2.1 [bRow (fun _ => none)]
  have st : LSt a b h2.1 (ext h2 [bRow (fun _ => none)]) F1 (S.rp (Pq a h2.1)) D (fun _ => none) 0 0 := ⟨B3, C3, l4, B2.2.2.2.1, Nat.lt_succ_self _, ext_in h2 _ (j := 0) (by simp), by rw [t1]; exact Nat.zero_le _, Nat.le_refl _, Nat.zero_le _, fun _ _ _ => rfl, fun j _ z => absurd z (Nat.not_lt_zero j)⟩
  obtain ⟨fu, h5, F5, S5, D5, f5, dn5, y1, y2, y3⟩ := turns_l (xs := xs) (N := N) (K4 := K4) (l2 := l2) cs 24 0 26 _ _ _ _ _ _ rfl (by decide) st
  obtain ⟨h6, z1, z2⟩ := undo_t (G := G) (xs := xs) (N := N) (K4 := K4) (l2 := l2) y3 fu
  refine ⟨h6, ?_, z2⟩
  rw [y2] at z1
  rw [nI_0] at y1
  unfold f_L_law_b197
  rw [e1, Option.bind_some]
  dsimp only
  rw [Option.elim_some, if_neg (by decide), g1, Option.bind_some]
  dsimp only
  rw [if_neg (by decide)]
  unfold f_L_law_b233
  rw [nq, Option.bind_some]
  exact y1.trans z1
end LAW
