/-! load of a text that was written -/
section LDT
variable {G : gG} {a b : Nat} {F F0 : RFc} {h : gH} {L : List Nat} {V : RW} {tb : Int32} {ns : Nat}
/-- the class after a load that was accepted -/
def RFc.ldd (F : RFc) (V : RW) : RFc := ((((F.s_n 0).s_tr V).s_err (-1)).keep).s_now (V.copy F.now)
theorem load_t (hf : fIs h.2 a F) (hc : a + 614 ≤ h.1) (hpl : F.pl < 8) (hct : F.ct ≤ 8) (h8 : F.now.told ≤ 8) (hn : L.length ≤ F.n) (n5 : F.n ≤ 500) (as : asL L) (hB : ∀ i, i < L.length → F.B i = nI (byt L i)) (p : PR L F.tr V tb ns) (h100 : ns < 100) (V8 : V.told ≤ 8) : ∃ h', f_L_load G h a (nI L.length) = some (nI V.told, h') ∧ fIs h'.2 a (F.ldd V) ∧ h'.1 = h.1 + 1 ∧ ∀ q, (q < a ∨ a + 614 ≤ q) → q ≠ h.1 → h'.2 q = h.2 q := by
  have ef : fP h a F = h := fP_self hf
  have e1 : (fP h a (F.s_n 0)).1 = h.1 := rfl
  have tx : (g_add (fP h a (F.s_n 0)) (.inr (5, g_dfl 5))).2 (a + 1) = some (.inl (1, 500, .inl F.B)) := by
    rw [gadd_ne (by omega), fP_in h a _ (show 1 < 614 by decide)]
    rfl
  have J : Jo (g_add (fP h a (F.s_n 0)) (.inr (5, g_dfl 5))) (fP h a (F.s_n 0)).1 (a + 63) (a + 1) F.B := ⟨tx, by omega, by omega, by omega⟩
  obtain ⟨S, rd⟩ := PR_end p h100 (R := RRd.mk (a + 1) L.length 0 0 0 0 (-1)) J rfl ⟨rfl, by omega, as, hB⟩ rfl rfl rfl
  have lc := ld_cls (N := L.length) (b := true) (S := S) (V := V) ef hc hn n5 rd
  have gd := ld_good_c (ldH h a (F.s_n 0) S V) a (F2 := (F.s_n 0).s_tr V) (V := V) (ld_fP hc S V) hpl hct h8 rfl V8
  rw [if_pos rfl] at lc
  have lc' := lc.trans gd
  refine ⟨fP (ldH h a (F.s_n 0) S V) a (F.ldd V), ?_, fP_is _ _ _, rfl, fun q q1 q2 => ?_⟩
  · unfold f_L_load
    rw [fIs_g hf, cond_true, lc']
    rfl
  · rw [fP_out _ _ _ q1]
    show (ldH h a (F.s_n 0) S V).2 q = _
    unfold ldH
    rw [rdP_ne (by omega), wd_add V (by omega), wdP_out _ _ _ (by omega), fP_out _ _ _ q1]
/-- the law's row with nothing on its way -/
def bfO (a : Nat) (h : gH) : Prop := ∃ f : Nat → Int32, h.2 (a + 614) = some (.inl (0, 8, .inl f)) ∧ f 0 = 0 ∧ ∀ k, k < 5 → f (1 + k) = 0
theorem wv_0 (L : List Nat) (hL : L.length % 20 = 0) (k : Nat) : wv (pbO L) k = 0 := by
  have z : ∀ i, pbO L i = 0 := fun i => by
    unfold pbO
    exact byt_no (by omega)
  unfold wv
  rw [z, z, z, z]
theorem bfO.ts (hf : fIs h.2 a F) (n0 : F.n = 0) (e : bfO a h) : TS a F h [] := by
  obtain ⟨f, e1, e2, e3⟩ := e
  have eF : (F.s_B F.B).s_n 0 = F := by rw [← n0]; rfl
  refine ⟨fun c hc => (nomatch hc), F.B, 0, ?_⟩
  rw [eF]
  exact ⟨hf, n0, fun i hi => absurd hi (by omega), f, e1, e2, fun k hk => by rw [e3 k hk, wv_0 [] rfl]; exact nI_0.symm⟩
theorem loadEnd_t (hc : a + 615 ≤ h.1) (hf : fIs h.2 a F) (hpl : F.pl < 8) (hct : F.ct ≤ 8) (h8 : F.now.told ≤ 8) (hn : L.length ≤ F.n) (n5 : F.n ≤ 500) (as : asL L) (hB : ∀ i, i < L.length → F.B i = nI (byt L i)) {f : Nat → Int32} (e1 : h.2 (a + 614) = some (.inl (0, 8, .inl f))) (e3 : ∀ k, k < 5 → f (1 + k) = 0) (p : PR L F.tr V tb ns) (h100 : ns < 100) (V8 : V.told ≤ 8) : ∃ h', f_L_loadText_b16 G h a (a + 614) (nI L.length) = some (nI V.told, h') ∧ fIs h'.2 a (F.ldd V) ∧ bfO a h' ∧ eff (fun q => a ≤ q ∧ q < a + 615) h h' ∧ h'.1 = h.1 + 1 := by
  have st : g_ast h (a + 614) 0 0 = some (g_set h (a + 614) (.inl (0, 8, .inl (upd f 0 0)))) := ast_of (i := 0) e1 (by decide) (by decide)
  have hf2 : fIs (g_set h (a + 614) (.inl (0, 8, .inl (upd f 0 0)))).2 a F := fun j hj => by rw [set_ne (by omega)]; exact hf j hj
  obtain ⟨h', x, y, z, w⟩ := load_t (G := G) hf2 (show a + 614 ≤ h.1 by omega) hpl hct h8 hn n5 as hB p h100 V8
  refine ⟨h', ?_, y, ⟨upd f 0 0, ?_, rfl, fun k hk => ?_⟩, ⟨by rw [z]; exact Nat.le_succ _, fun q hq hw => ?_, fun W q c e => ?_⟩, z⟩
  · unfold f_L_loadText_b16
    rw [st, Option.bind_some, x]
    rfl
  · have w1 : a + 614 ≠ h.1 := by omega
    rw [w _ (Or.inr (Nat.le_refl _)) w1, set_at]
  · rw [upd_ne (by omega)]; exact e3 k hk
  · have w1 : q ≠ h.1 := by omega
    rw [w q (by omega) w1, set_ne (by omega)]
  · rw [z]
    show q < h.1 + 1
    by_cases c1 : a ≤ q ∧ q < a + 614
    · omega
    by_cases c2 : q = h.1
    · omega
    rw [w q (by omega) c2] at e
    have := wf_set W (show a + 614 < h.1 by omega) _ q c e
    have e9 : (g_set h (a + 614) (.inl (0, 8, .inl (upd f 0 0)))).1 = h.1 := rfl
    omega
theorem loadText_t (hc : a + 615 ≤ h.1) (hpl : F0.pl < 8) (hct : F0.ct ≤ 8) (h8 : F0.now.told ≤ 8) (t : TS a F0 h L) (h5 : L.length ≤ 460) (p : PR L F0.tr V tb ns) (h100 : ns < 100) (V8 : V.told ≤ 8) : ∃ h' B n, f_L_loadText G h a (a + 614) = some (nI V.told, h') ∧ fIs h'.2 a (((F0.s_B B).s_n n).ldd V) ∧ bfO a h' ∧ eff (fun q => a ≤ q ∧ q < a + 615) h h' ∧ h'.1 = h.1 + 1 := by
  obtain ⟨aL, B, n, hf, t1, t2, f, e1, e2, e3⟩ := t
  have ld : g_ald h (a + 614) 0 = some (nI L.length) := by rw [← e2]; exact ald_of (i := 0) e1 (by decide) (by decide)
  have r20 : g_rem (nI L.length) 20 = nI (L.length % 20) := by rw [show (20 : Int32) = nI 20 by decide]; exact rem_gen _ 20 (by omega) (by decide) (by decide)
  have z0 : (0 : Int32) = nI 0 := nI_0.symm
  by_cases c : 0 < L.length % 20
  · obtain ⟨h1, F', f', x1, x2, x3, x4, x5, x6, x7, x8, o⟩ := flush_c (G := G) hf (Or.inr (Nat.le_refl _)) (fun i => asL_b aL _) e1 e3 (show ((F0.s_B B).s_n n).n + 20 ≤ 500 by omega)
    obtain ⟨B', n', eF⟩ := o.2.2
    have eF2 : F' = (F0.s_B B').s_n n' := eF
    subst eF2
    obtain ⟨h', y1, y2, y3, y4, y5⟩ := loadEnd_t (G := G) (L := L) (by rw [o.1]; exact hc) x2 hpl hct h8 (show L.length ≤ ((F0.s_B B').s_n n').n by omega) (show ((F0.s_B B').s_n n').n ≤ 500 by omega) aL (fun i hi => by
      by_cases ci : i < ((F0.s_B B).s_n n).n
      · rw [x4 i ci, t2 i ci]
      · obtain ⟨k, rfl⟩ := Nat.exists_eq_add_of_le (Nat.le_of_not_lt ci)
        rw [x5 k (by omega), t1]) x6 x8 p h100 V8
    refine ⟨h', B', n', ?_, y2, y3, (eff_only o hc).trans y4, by rw [y5, o.1]⟩
    unfold f_L_loadText
    rw [ld, Option.bind_some, r20, z0, if_pos (nI_lt c (by omega)), x1, Option.bind_some]
    exact y1
  · obtain ⟨h', y1, y2, y3, y4, y5⟩ := loadEnd_t (G := G) (L := L) hc hf hpl hct h8 (show L.length ≤ ((F0.s_B B).s_n n).n by omega) (show ((F0.s_B B).s_n n).n ≤ 500 by omega) aL (fun i hi => t2 i (by omega)) e1 (fun k hk => by rw [e3 k hk, wv_0 L (by omega)]; exact nI_0) p h100 V8
    refine ⟨h', B, n, ?_, y2, y3, y4, y5⟩
    unfold f_L_loadText
    rw [ld, Option.bind_some, r20, z0, if_neg (nI_nlt (by omega) (by omega))]
    exact y1
end LDT
