/-! a change: what each leaves -/
/-- behind a change (c: it is one), the class and the Line tell the same again -/
def Rs (a b bA : Nat) (h : gH) (F : RFc) (S : RS) (c : Bool) (h' : gH) : Prop := ∃ F' S' D', Bas a b h' ∧ Cls a h' F' ∧ Lin h' (Pq a bA) S' D' F'.now ∧ S'.B = S.B ∧ stp a a S S' h h' ∧ F'.now.time ≤ F.now.time + 12 ∧ (c = true → F'.K = F.keep.K ∧ F'.pl = F.keep.pl ∧ F'.ct = F.keep.ct) ∧ (c = false → F'.K = F.K ∧ F'.pl = F.pl ∧ F'.ct = F.ct)
section CAS
variable {G : gG} {a b bA : Nat} {h h1 h2 : gH} {F F' : RFc} {S S' S2 : RS} {D D' D2 : Nat → Int32}
theorem keep_pl (F : RFc) : F.keep.pl < 8 := Nat.mod_lt _ (by decide)
theorem keep_ct (F : RFc) : F.keep.ct ≤ 8 := Nat.min_le_right _ _
theorem fin_fP (B : Bas a b h1) (C : Cls a h1 F) (l : Lin h1 (Pq a bA) S' D' F'.now) (n0 : F'.n = 0) (pl : F'.pl < 8) (ct : F'.ct ≤ 8) : Bas a b (fP h1 a F') ∧ Cls a (fP h1 a F') F' ∧ Lin (fP h1 a F') (Pq a bA) S' D' F'.now ∧ stp a a S' S' h1 (fP h1 a F') := by
  have hc := B.2.2.2.1
  have hb := B.2.2.1
  have e := eff_fP (a := a) (h := h1) F' (by omega)
  obtain ⟨f, c2, c3⟩ := C.2.1
  exact ⟨B.fr e (fun q hq => by omega), ⟨fP_is h1 a F', ⟨f, (fP_out h1 a F' (Or.inr (Nat.le_refl _))).trans c2, c3⟩, n0, pl, ct⟩, l.fr B.1 e (fun q hq z => by have := z.1; omega), stp_eff e (fun q hq => Or.inl (by omega))⟩
theorem fin_thr (B : Bas a b h1) (C : Cls a h1 F) (l : Lin h1 (Pq a bA) S' D' F.now) : Bas a b (thr h1) ∧ Cls a (thr h1) F ∧ Lin (thr h1) (Pq a bA) S' D' F.now ∧ stp a a S' S' h1 (thr h1) := by
  have e := eff_thr (fun _ => False) h1
  exact ⟨B.fr e (fun q hq => hq.elim), C.fr (by have := B.2.2.2.1; omega) e (fun q hq => hq.elim), l.fr B.1 e (fun q hq => hq.elim), stp_eff e (fun q hq => hq.elim)⟩
theorem stp.refl (a _bA : Nat) (S : RS) (h : gH) : stp a a S S h h := ⟨Nat.le_refl _, fun _ _ _ _ hr => ⟨rfl, hr⟩, fun w => w⟩
/-- a change that was made -/
theorem Rs_ok (B : Bas a b h1) (C : Cls a h1 F) (l : Lin h1 (Pq a bA) S' D' F'.now) (eB : S'.B = S.B) (s : stp a a S S' h h1) (ht : F'.now.time ≤ F.now.time + 12) (n0 : F'.n = 0) (k : F'.K = F.keep.K ∧ F'.pl = F.keep.pl ∧ F'.ct = F.keep.ct) : Rs a b bA h F S true (fP h1 a F') := by
  obtain ⟨x1, x2, x3, x4⟩ := fin_fP B C l n0 (by rw [k.2.1]; exact keep_pl F) (by rw [k.2.2]; exact keep_ct F)
  exact ⟨F', S', D', x1, x2, x3, eB, s.trans x4, ht, fun _ => k, fun z => nomatch z⟩
/-- a change that was refused -/
theorem Rs_no (B : Bas a b h1) (C : Cls a h1 F) (l : Lin h1 (Pq a bA) S' D' F.now) (eB : S'.B = S.B) (s : stp a a S S' h h1) : Rs a b bA h F S false (thr h1) := by
  obtain ⟨x1, x2, x3, x4⟩ := fin_thr B C l
  exact ⟨F, S', D', x1, x2, x3, eB, s.trans x4, Nat.le_add_right _ _, (fun z => nomatch z), fun _ => ⟨rfl, rfl, rfl⟩⟩
variable {xs : Nat → Int32} {N : Nat} {K4 : gH → Int32 → Int32 → Option (Int32 × gH)} {K247 : gH → Int32 → Int32 → Nat → Nat → Nat → Nat → Nat → Int32 → Int32 → Option (Int32 × gH)} {l2 l8 l9 : Int32} {l4 l5 l7 l10 : Nat}
/-! ticks -/
theorem tick_sum (o : Option Nat) (c : Nat) : nI c + bI o.isSome = nI (c + (if o = none then 0 else 1)) := by
  cases o with
  | none => rw [if_pos rfl]; show nI c + 0 = nI c; rw [Int32.add_zero]
  | some i => rw [if_neg (fun z => nomatch z)]; exact nI_1 c
theorem ticks_lp {n : Nat} (hn : n < 2 ^ 31) {l11 : Int32} : ∀ (d i fuel c : Nat) (D : Nat → Int32) (R : RW), i + d = n → d < fuel → lnR h S D R → R.live → R.idl → boolD D → R.time + d < 2 ^ 31 → ∃ fu D', f_L_law_b345 G xs N K4 K247 fuel (lnP h S D) l2 a l4 l5 S.B l7 l8 l9 l10 l11 (nI n) (nI c) (nI i) = f_L_law_b345 G xs N K4 K247 (fu + 1) (lnP h S D') l2 a l4 l5 S.B l7 l8 l9 l10 l11 (nI n) (nI (c + (R.ticks d).1)) (nI n) ∧ lnR h S D' (R.ticks d).2 ∧ (R.ticks d).2.live ∧ (R.ticks d).2.idl ∧ boolD D' ∧ (R.ticks d).2.time = R.time + d ∧ ∀ j, j < d → ∃ E, Rel (R.ticks j).2 E := by
  intro d
  induction d with
  | zero =>
    intro i fuel c D R hi hf L hl q bd ht
    obtain ⟨fu, rfl⟩ := Nat.exists_eq_succ_of_ne_zero (Nat.ne_of_gt (Nat.zero_lt_of_lt hf))
    have : i = n := hi
    subst this
    exact ⟨fu, D, rfl, L, hl, q, bd, rfl, fun j hj => absurd hj (Nat.not_lt_zero j)⟩
  | succ d ih =>
    intro i fuel c D R hi hf L hl q bd ht
    obtain ⟨fu, rfl⟩ := Nat.exists_eq_succ_of_ne_zero (Nat.ne_of_gt (Nat.zero_lt_of_lt hf))
    obtain ⟨D1, t1, t2, t3, t4, t5⟩ := tick_r (G := G) L hl (by omega)
    have q1 := idl_tick G L hl (by omega) q
    obtain ⟨fu2, D2, u1, u2, u3, u4, u5, u6, u7⟩ := ih (i + 1) fu (c + (if R.tick.1 = none then 0 else 1)) D1 R.tick.2 (by omega) (by omega) t2 t3 q1 (t5 bd) (by rw [t4]; omega)
    refine ⟨fu2, D2, ?_, u2, u3, u4, u5, by show (R.tick.2.ticks d).2.time = _; rw [u6, t4]; omega, fun j hj => ?_⟩
    · rw [f_L_law_b345, if_pos (nI_lt (show i < n by omega) hn), ln_gB L.1, cond_true, t1, Option.bind_some]
      dsimp only
      rw [tick_sum, ← nI_succ, u1]
      show _ = f_L_law_b345 G xs N K4 K247 (fu2 + 1) (lnP h S D2) l2 a l4 l5 S.B l7 l8 l9 l10 l11 (nI n) (nI (c + ((if R.tick.1 = none then 0 else 1) + (R.tick.2.ticks d).1))) (nI n)
      rw [Nat.add_assoc]
    · cases j with
      | zero => exact ⟨D, L.2.2.1⟩
      | succ j => exact u7 j (by omega)
theorem case_pass (B : Bas a b h) (C : Cls a h F) (l : Lin h (Pq a bA) S D F.now) (ht : F.now.time ≤ 1000) {n : Nat} (n1 : 1 ≤ n) (n12 : n ≤ 12) : ∃ h', f_L_law_b345 G xs N K4 K247 g_N h l2 a l4 l5 S.B l7 l8 l9 l10 1 (nI n) 0 0 = f_L_law_b1159 G xs N K4 K247 h' 1 l2 a l4 l5 S.B l7 l8 l9 l10 (bI true) ∧ Rs a b bA h F S true h' := by
  obtain ⟨fu, D', e1, e2, e3, e4, e5, e6, e7⟩ := ticks_lp (G := G) (a := a) (xs := xs) (N := N) (K4 := K4) (K247 := K247) (l2 := l2) (l8 := l8) (l9 := l9) (l4 := l4) (l5 := l5) (l7 := l7) (l10 := l10) (l11 := 1) (show n < 2 ^ 31 by omega) n 0 g_N 0 D F.now (by omega) (by unfold g_N; omega) l.L l.2.2.1 l.2.2.2.2.2.1 l.2.2.2.1 (by omega)
  rw [l.self, nI_0, Nat.zero_add] at e1
  have B1 := l.ln_bas B D'
  have C1 := l.ln_cls B C D'
  have l1 := l.ln e2 e3 e5 e4
  have r := l.rel
  have ps := pass_c (G := G) C1.1 C.2.2.2.1 C.2.2.2.2 r.inv.1 n1 (show n ≤ 100 by omega) e7
  refine ⟨fP (lnP h S D') a (F.keep.s_now (F.now.ticks n).2), ?_, Rs_ok B1 C1 (F' := F.keep.s_now (F.now.ticks n).2) l1 rfl (l.ln_stp D') (by show (F.now.ticks n).2.time ≤ _; omega) C.2.2.1 ⟨rfl, rfl, rfl⟩⟩
  rw [e1, f_L_law_b345, if_neg (nI_nlt (Nat.le_refl n) (by omega)), ps, Option.bind_some, if_pos rfl]
  rfl
/-! power -/
theorem case_power (B : Bas a b h) (C : Cls a h F) (l : Lin h (Pq a bA) S D F.now) (c : Bool) {p : Nat} (p11 : p < 11) : ∃ d h', f_L_law_b907 G xs N K4 K247 h l2 a l4 l5 S.B l7 l8 l9 l10 (nI (cn c)) (nI p) (bI (decide (p < 10))) = f_L_law_b1159 G xs N K4 K247 h' 1 l2 a l4 l5 S.B l7 l8 l9 l10 (bI d) ∧ Rs a b bA h F S d h' := by
  have fl := l.fld
  have la := l.lamp c
  have r := l.rel
  unfold f_L_law_b907
  rw [fl.2.1, Option.bind_some, la.1, Option.bind_some, Option.bind_some, la.2.1, Option.bind_some]
  by_cases p10 : p < 10
  · rw [decide_eq_true p10, bI_t, if_neg (by decide), Option.bind_some, la.1, Option.bind_some, Option.bind_some]
    obtain ⟨e1, l1⟩ := l.power c (nI p)
    have B1 := l.ln_bas B (upd D (10 + 16 * cn c) (nI p))
    have C1 := l.ln_cls B C (upd D (10 + 16 * cn c) (nI p))
    have pc := power_c (G := G) C1.1 C.2.2.2.1 C.2.2.2.2 r.inv.1 c (x2 := nI p) ⟨nI_pos' (by omega), by rw [show (9 : Int32) = nI 9 by decide]; exact (nI_leI (by omega) (by decide)).mpr (by omega)⟩
    refine ⟨true, _, ?_, Rs_ok B1 C1 (F' := F.keep.s_now (F.now.setCh c ((F.now.ch c).s_power (nI p)))) l1 rfl (l.ln_stp _) (by show (F.now.setCh c _).time ≤ _; rw [setCh_time]; omega) C.2.2.1 ⟨rfl, rfl, rfl⟩⟩
    rw [e1, Option.bind_some]
    unfold f_L_law_b940
    rw [pc, Option.bind_some, if_neg (by decide)]
    unfold f_L_law_b960
    rw [if_pos rfl]
    rfl
  · rw [decide_eq_false p10, bI_f, if_pos rfl]
    have e0 := power_0 (G := G) C.1 (x1 := nI (cn c)) (x2 := nI p) (by cases c <;> decide) (fun z => by have := z.2; rw [show (9 : Int32) = nI 9 by decide] at this; have := (nI_leI (show p < 2 ^ 31 by omega) (by decide)).mp this; omega)
    refine ⟨false, thr h, ?_, Rs_no B C l rfl (stp.refl a a S h)⟩
    unfold f_L_law_b940
    rw [e0, Option.bind_some, if_pos rfl]
    unfold f_L_law_b960
    rw [if_pos rfl]
    rfl
end CAS
