/-! all undone; the last questions -/
section UND
variable {G : gG} {a b bA : Nat} {h h' h1 h2 : gH} {F F' : RFc} {S S' : RS} {D D' : Nat → Int32} {xs : Nat → Int32} {N : Nat} {K4 : gH → Int32 → Int32 → Option (Int32 × gH)} {l2 : Int32}
/-- what the next turn of the law needs of the heap -/
def Nxt (b : Nat) (h : gH) : Prop := wf h ∧ low b h ∧ b ≤ h.1
theorem Nxt.thr (n : Nxt b h) : Nxt b (thr h) := ⟨fun q c e => Nat.lt_succ_of_lt (n.1 q c e), n.2.1, Nat.le_succ_of_le n.2.2⟩
theorem Bas.nxt (B : Bas a b h) : Nxt b h := ⟨B.1, B.2.1, by have := B.2.2.1; have := B.2.2.2.1; omega⟩
theorem last_q (B : Bas a b h) (C : Cls a h F) (ok : F.now.ok) : ∃ h', f_L_law_b1277 G xs N K4 h 1 l2 a = K4 h' 1 (l2 + 1) ∧ Nxt b h' := by
  have hf := C.1
  have n0 := C.2.2.1
  have l1 : f_L_load G h a 501 = some (-2000000098, thr h) := load_0 hf (by omega) (by decide) (by rw [n0, show (501 : Int32) = nI 501 by decide]; exact nI_lt (by decide) (by decide))
  have q1 : f_L_foretold G (thr h) a 3 = some (-2000000098, thr (thr h)) := foretold_0 (h := thr h) hf (by decide)
  have q2 : f_L_leastPower G (thr (thr h)) a 2 = some (-2000000097, thr (thr (thr h))) := least_0 (h := thr (thr h)) hf (by decide)
  have q3 : f_L_mist G (thr (thr (thr h))) a 20001 = some (-2000000098, thr (thr (thr (thr h)))) := by
    rw [mist_c (h := thr (thr (thr h))) hf ok, if_neg (by decide)]
  have q4 : f_L_key G (thr (thr (thr (thr h)))) a 2 0 = some (-2000000097, thr (thr (thr (thr (thr h))))) := key_0 (h := thr (thr (thr (thr h)))) hf (by decide)
  have q5 : f_L_channel G (thr (thr (thr (thr (thr h))))) a 0 6 = some (-2000000098, thr (thr (thr (thr (thr (thr h)))))) := channel_1 (h := thr (thr (thr (thr (thr h))))) hf (by decide) (by decide)
  have q6 : f_L_why G (thr (thr (thr (thr (thr (thr h)))))) a (-1) 0 = some (-2000000097, thr (thr (thr (thr (thr (thr (thr h))))))) := why_0 (h := thr (thr (thr (thr (thr (thr h)))))) hf (fun z => absurd z.1 (by decide))
  refine ⟨thr (thr (thr (thr (thr (thr (thr h)))))), ?_, (((((((B.nxt).thr).thr).thr).thr).thr).thr).thr⟩
  unfold f_L_law_b1277
  rw [if_neg (by decide), l1, Option.bind_some, if_pos rfl, q1, Option.bind_some, if_pos rfl, q2, Option.bind_some, if_pos rfl, q3, Option.bind_some, if_pos rfl, q4, Option.bind_some, if_pos rfl, q5, Option.bind_some, if_pos rfl, q6, Option.bind_some, if_pos rfl]
  rfl
/-- the state while changes are undone -/
def USt (a b bA : Nat) (h : gH) (F : RFc) (S : RS) (f : Nat → Option Nat) (dn j : Nat) : Prop := Bas a b h ∧ Cls a h F ∧ F.now.ok ∧ a + 616 ≤ bA ∧ bA < h.1 ∧ S.r bA = 0 ∧ h.2 bA = some (bRow f) ∧ dn ≤ 24 ∧ min dn 8 ≤ F.ct + j ∧ ∀ i, i < 8 → i < dn → j ≤ i → ∃ Si Di, f i = some Si.B ∧ Old a bA h S Si Di (F.K ((F.pl + 7 - (i - j)) % 8))
theorem undo_lp {f : Nat → Option Nat} {dn : Nat} : ∀ (d j fuel : Nat) (h : gH) (F : RFc), j + d = 8 → d < fuel → USt a b bA h F S f dn j → ∃ h', f_L_law_b1228 G xs N K4 fuel h 1 l2 a bA (nI dn) (nI j) = K4 h' 1 (l2 + 1) ∧ Nxt b h' := by
  intro d
  induction d with
  | zero =>
    intro j fuel h F hj hf u
    obtain ⟨fu, rfl⟩ := Nat.exists_eq_succ_of_ne_zero (Nat.ne_of_gt (Nat.zero_lt_of_lt hf))
    have : j = 8 := hj
    subst this
    rw [f_L_law_b1228, if_neg (by decide)]
    exact last_q u.1 u.2.1 u.2.2.1
  | succ d ih =>
    intro j fuel h F hj hf u
    obtain ⟨fu, rfl⟩ := Nat.exists_eq_succ_of_ne_zero (Nat.ne_of_gt (Nat.zero_lt_of_lt hf))
    obtain ⟨B, C, ok, hA, hAl, rA, eA, dn24, hct, hol⟩ := u
    have j8 : nI j < 8 := by rw [show (8 : Int32) = nI 8 by decide]; exact nI_lt (by omega) (by decide)
    rw [f_L_law_b1228, if_pos j8]
    by_cases c : j < dn
    · rw [if_pos (nI_lt c (by omega)), if_neg (by decide), fIs_g C.1, cond_true]
      obtain ⟨Si, Di, o1, o2⟩ := hol j (by omega) c (Nat.le_refl j)
      rw [show F.pl + 7 - (j - j) = F.pl + 7 by omega] at o2
      have k8 := o2.2.1.2.2.1.inv.1
      have un := undo_1 C.1 C.2.2.2.1 C.2.2.2.2 (show ¬ F.ct = 0 by omega) k8
      have pl8 := C.2.2.2.1
      have hc := B.2.2.2.1
      have hb := B.2.2.1
      have e := eff_fP (a := a) (h := h) F.back (by omega)
      have s1 : stp a bA S S h (fP h a F.back) := stp_eff e (fun q hq => Or.inl (by omega))
      have B1 : Bas a b (fP h a F.back) := B.fr e (fun q hq => by omega)
      obtain ⟨g, c2, c3⟩ := C.2.1
      have ct7 : F.back.ct ≤ 8 := by show F.ct - 1 ≤ 8; have := C.2.2.2.2; omega
      have C1 : Cls a (fP h a F.back) F.back := ⟨fP_is h a _, ⟨g, (fP_out h a _ (Or.inr (Nat.le_refl _))).trans c2, c3⟩, C.2.2.1, Nat.mod_lt _ (by decide), ct7⟩
      have o3 := (o2.step s1).cop F.now
      have ag : f_L_agrees G (fP h a F.back) a Si.B = some (1, thr (thr (thr (thr (fP h a F.back))))) := agrees_c (F := F.back) C1.1 o3.1 o3.2.1 o3.2.2.2.1
      have eA1 : (fP h a F.back).2 bA = some (bRow f) := (e.2.1 bA hAl (by omega)).trans eA
      have ld := brow_l eA1 (show j < 9 by omega)
      rw [o1] at ld
      -- four throws
      have et : ∀ X : gH, eff (fun _ => False) X (thr (thr (thr (thr X)))) := fun X => ((eff_thr _ X).trans (eff_thr _ (thr X))).trans ((eff_thr _ (thr (thr X))).trans (eff_thr _ (thr (thr (thr X)))))
      have e4 := et (fP h a F.back)
      have B4 := B1.fr e4 (fun q hq => hq.elim)
      have C4 := C1.fr (by have := B1.2.2.2.1; omega) e4 (fun q hq => hq.elim)
      have s4 : stp a bA S S (fP h a F.back) (thr (thr (thr (thr (fP h a F.back))))) := stp_eff e4 (fun q hq => hq.elim)
      obtain ⟨h', r1, r2⟩ := ih (j + 1) fu (thr (thr (thr (thr (fP h a F.back))))) F.back (by omega) (by omega) ⟨B4, C4, o3.2.1.2.2.1.ok, hA, Nat.lt_of_lt_of_le hAl (Nat.le_trans s1.1 s4.1), rA, eA1, dn24, by show min dn 8 ≤ F.ct - 1 + (j + 1); omega, fun i i1 i2 i3 => by
        obtain ⟨Sj, Dj, p1, p2⟩ := hol i i1 i2 (by omega)
        refine ⟨Sj, Dj, p1, ?_⟩
        have ei : (F.back.pl + 7 - (i - (j + 1))) % 8 = (F.pl + 7 - (i - j)) % 8 := by
          show ((F.pl + 7) % 8 + 7 - (i - (j + 1))) % 8 = _
          omega
        rw [ei]
        exact (p2.step s1).step s4⟩
      refine ⟨h', ?_, r2⟩
      rw [un, Option.bind_some]
      dsimp only
      rw [if_pos (nI_pos' (by have := C.2.2.2.2; omega)), ld, Option.bind_some, Option.bind_some, ag, Option.bind_some]
      dsimp only
      rw [if_neg (by decide)]
      unfold f_L_law_b1270
      rw [← nI_succ]
      exact r1
    · rw [if_neg (nI_nlt (by omega) (by omega))]
      exact last_q B C ok
theorem undo_t {f : Nat → Option Nat} {dn : Nat} (st : LSt a b bA h F S D f dn 24) (fu : Nat) : ∃ h', f_L_law_b247 G xs N K4 (fu + 1) h 1 l2 a (a + 614) (a + 615) S.B bA (nI dn) (nI 24) = K4 h' 1 (l2 + 1) ∧ Nxt b h' := by
  obtain ⟨B, C, l, hA, hAl, eA, ht, hdn, hct, hno, hol⟩ := st
  have rA : S.r bA = 0 := Decidable.byContradiction (fun z => (l.2.2.2.2.2.2.1 bA z).2 rfl)
  obtain ⟨h', r1, r2⟩ := undo_lp (G := G) (a := a) (b := b) (bA := bA) (S := S) (xs := xs) (N := N) (K4 := K4) (l2 := l2) (f := f) (dn := dn) 8 0 10 h F (by omega) (by decide) ⟨B, C, l.rel.ok, hA, hAl, rA, eA, hdn, by omega, fun i i1 i2 _ => hol i i1 i2⟩
  refine ⟨h', ?_, r2⟩
  rw [nI_0] at r1
  rw [f_L_law_b247, if_neg (by decide)]
  exact r1
end UND
