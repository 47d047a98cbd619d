/-! rows that the law makes; the Line changed, with all that holds of it -/
theorem ast_e (h : gH) {n i : Nat} {I : Int32} (eI : I = nI i) (hi : i < n) (hn : n < 2 ^ 31) (f : Nat → Int32) (v : Int32) : g_ast (ext h [.inl (0, n, .inl f)]) h.1 I v = some (ext h [.inl (0, n, .inl (upd f i v))]) := by
  have e : (ext h [.inl (0, n, .inl f)]).2 h.1 = some (.inl (0, n, .inl f)) := ext_in h _ (j := 0) (by simp)
  rw [eI, ast_of e hi hn]
  have := ext_set h [.inl (0, n, .inl f)] 0 (.inl (0, n, .inl (upd f i v))) (by simp)
  exact congrArg some this
theorem nw_e (h : gH) {n B : Nat} {I : Int32} (eI : I = nI n) (hn : n ≤ B) (hB : B < 2 ^ 31) : g_nwI h I B = some (ext h [.inl (0, n, .inl fun _ => 0)]) := by
  rw [← ext_one, eI]
  exact nwI_of h hn hB
theorem row3_u (x y z : Int32) : upd (upd (upd (fun _ => 0) 0 x) 1 y) 2 z = row3 x y z := funext fun j => by
  unfold row3
  by_cases c2 : j = 2
  · subst c2; rw [upd_at]; rfl
  · rw [upd_ne c2]
    by_cases c1 : j = 1
    · subst c1; rw [upd_at]; rfl
    · rw [upd_ne c1]
      by_cases c0 : j = 0
      · subst c0; rw [upd_at]; rfl
      · rw [upd_ne c0, if_neg c0, if_neg c1, if_neg c2]
def rw3 (h : gH) (f : Nat → Int32) : gH := ext h [.inl (0, 3, .inl f)]
/-- a row of three numbers, one number after the other -/
theorem mk3 (h : gH) (x y z : Int32) : g_nwI h 3 3 = some (rw3 h fun _ => 0) ∧ g_ast (rw3 h fun _ => 0) h.1 0 x = some (rw3 h (upd (fun _ => 0) 0 x)) ∧ g_ast (rw3 h (upd (fun _ => 0) 0 x)) h.1 1 y = some (rw3 h (upd (upd (fun _ => 0) 0 x) 1 y)) ∧ g_ast (rw3 h (upd (upd (fun _ => 0) 0 x) 1 y)) h.1 2 z = some (rw3 h (row3 x y z)) := by
  refine ⟨nw_e h (n := 3) (by decide) (by decide) (by decide), ast_e h e0n (by decide) (by decide) _ _, ast_e h e1n (by decide) (by decide) _ _, ?_⟩
  rw [← row3_u]
  exact ast_e h e2n (by decide) (by decide) _ _
section LIN
variable {G : gG} {a b bA : Nat} {h h' : gH} {F : RFc} {P : Nat → Prop} {S S' Si : RS} {D Di : Nat → Int32} {R Ri : RW}
theorem Lin.L (l : Lin h P S D R) : lnR h S D R := l.2.1
theorem Lin.ok (l : Lin h P S D R) : S.ok R.told := l.2.1.1
theorem Lin.rel (l : Lin h P S D R) : Rel R D := l.2.1.2.2.1
theorem Lin.ex (l : Lin h P S D R) (w : wf h) (cs : List gC) : Lin (ext h cs) P S D R := l.frame (fun q c _ hc => (ext_out h cs (Or.inl (w q c hc))).trans hc)
theorem Lin.r0 (l : Lin h P S D R) (w : wf h) {q : Nat} (hq : h.1 ≤ q) : S.r q = 0 := Decidable.byContradiction (fun z => by have := l.own w z; omega)
theorem Lin.rB (l : Lin h P S D R) : S.r S.B ≠ 0 := by
  have a2 := l.ok.2.1 1 (Or.inl ⟨by omega, by omega⟩)
  rw [show S.B = S.adr 1 from rfl, a2]
  decide
theorem Lin.B_lt (l : Lin h P S D R) (w : wf h) : S.B < h.1 := l.own w l.rB
theorem Lin.fld (l : Lin h P S D R) : g_is h S.B 10 = true ∧ g_gA h S.B 10 0 = some (S.B + 1) ∧ g_gA h S.B 10 1 = some S.TA ∧ g_gA h S.B 10 2 = some S.KA ∧ g_gA h S.B 10 3 = some S.MA ∧ g_gI h S.B 10 4 = some (nI R.fsize) ∧ g_gI h S.B 10 5 = some R.limit ∧ g_gI h S.B 10 6 = some (nI R.time) ∧ g_aln h S.TA = some (nI R.told) ∧ g_aln h S.MA = some (nI R.mi.told) := by
  have hs := l.self
  have ok := l.ok
  have t1 := ln_gB (h := h) (D := D) ok
  have t2 := ln_lamps (h := h) (D := D) ok
  have t3 := ln_talks (h := h) (D := D) ok
  have t4 := ln_keepers (h := h) (D := D) ok
  have t5 := ln_mists (h := h) (D := D) ok
  have t6 := lnG_size (h := h) (D := D) ok
  have t7 := lnG_limit (h := h) (D := D) ok
  have t8 := lnG_time (h := h) (D := D) ok
  have t9 := talkN_r l.L
  have t10 := mistN_r l.L
  have rn := l.rel.n
  rw [hs] at t1 t2 t3 t4 t5 t6 t7 t8 t9 t10
  rw [rn.2.2.2.2.2.2.2.1] at t6
  rw [rn.2.2.2.2.2.2.2.2] at t7
  rw [rn.1] at t8
  exact ⟨t1, t2, t3, t4, t5, t6, t7, t8, t9, t10⟩
theorem Lin.lamp (l : Lin h P S D R) (b : Bool) : g_qld h (S.B + 1) 7 (nI (cn b)) = some (some (S.p (cn b))) ∧ g_gI h (S.p (cn b)) 9 0 = some (R.ch b).power ∧ g_gI h (S.p (cn b)) 9 1 = some (R.ch b).opening ∧ g_gI h (S.p (cn b)) 9 2 = some (R.ch b).closing := by
  have hs := l.self
  have hb := cn_lt b
  have t1 := lamp_r l.L b
  have t2 := lmG_power (h := h) (D := D) l.ok hb
  have t3 := lmG_opens (h := h) (D := D) l.ok hb
  have t4 := lmG_closes (h := h) (D := D) l.ok hb
  have rc := l.rel.ch b
  rw [hs] at t1 t2 t3 t4
  rw [rc.1] at t2
  rw [rc.2.1] at t3
  rw [rc.2.2.1] at t4
  exact ⟨t1, t2, t3, t4⟩
theorem Lin.lnp (l : Lin h P S D R) {D' : Nat → Int32} {R' : RW} (L' : lnR h S D' R') (l1 : R'.live) (l2 : boolD D') (l4 : R'.idl) : Lin (lnP h S D') P S D' R' := l.ln L' l1 l2 l4
theorem cn2 (b : Bool) (k : Nat) (hk : k < 3) : 10 + 16 * cn b + k ≠ 15 ∧ 10 + 16 * cn b + k ≠ 17 ∧ 10 + 16 * cn b + k ≠ 31 ∧ 10 + 16 * cn b + k ≠ 33 := by
  have : cn b = 0 ∨ cn b = 1 := by cases b <;> simp [cn]
  omega
theorem Lin.power (l : Lin h P S D R) (b : Bool) (v : Int32) : g_put h (S.p (cn b)) 9 0 (.int v) = some (lnP h S (upd D (10 + 16 * cn b) v)) ∧ Lin (lnP h S (upd D (10 + 16 * cn b) v)) P S (upd D (10 + 16 * cn b) v) (R.setCh b ((R.ch b).s_power v)) := by
  have q := power_r l.L b v
  rw [l.self] at q
  exact ⟨q.1, l.lnp q.2 (setCh_live l.2.2.1) (l.2.2.2.1.upd (Or.inr (cn2 b 0 (by decide)))) (idl_setCh l.2.2.2.2.2.1 b rfl rfl)⟩
theorem Lin.opens (l : Lin h P S D R) (b : Bool) {o : Nat} (ho : o < 24) : g_put h (S.p (cn b)) 9 1 (.int (nI o)) = some (lnP h S (upd D (10 + 16 * cn b + 1) (nI o))) ∧ Lin (lnP h S (upd D (10 + 16 * cn b + 1) (nI o))) P S (upd D (10 + 16 * cn b + 1) (nI o)) (R.setCh b ((R.ch b).s_opening (nI o))) := by
  have hb := cn_lt b
  have rc := l.rel.ch b
  have rel := l.rel.chan b (C := (R.ch b).s_opening (nI o)) (D' := upd D (10 + 16 * cn b + 1) (nI o)) ⟨rfl, rfl, rfl, rfl, rfl, rfl, rfl⟩ (by rw [upd_ne (by omega)]; exact rc.1) (upd_at _ _ _) (by rw [upd_ne (by omega)]; exact rc.2.2.1) (fun j j1 j2 => upd_ne (by omega))
  have sm : R.same (R.setCh b ((R.ch b).s_opening (nI o))) := by cases b <;> exact ⟨rfl, rfl, rfl, rfl, fun _ => ⟨rfl, rfl⟩⟩
  have lg : (R.setCh b ((R.ch b).s_opening (nI o))).lgs := by
    have lg := l.L.2.2.2
    have cb : (R.setCh b ((R.ch b).s_opening (nI o))).ch b = (R.ch b).s_opening (nI o) := by cases b <;> rfl
    have co : (R.setCh b ((R.ch b).s_opening (nI o))).ch (!b) = R.ch (!b) := by cases b <;> rfl
    refine ⟨?_, all_b b ?_ ?_, all_b b ?_ ?_⟩
    · cases b <;> exact lg.1
    · rw [cb]; exact lg.2.1 b
    · rw [co]; exact lg.2.1 (!b)
    · rw [cb]
      obtain ⟨o', c', q1, q2, q3, q4⟩ := lg.2.2 b
      exact ⟨o, c', ho, q2, rfl, q4⟩
    · rw [co]; exact lg.2.2 (!b)
  have L' : lnR h S (upd D (10 + 16 * cn b + 1) (nI o)) (R.setCh b ((R.ch b).s_opening (nI o))) := l.L.next rel ⟨lg, sm⟩
  have pt := lmT_opens (h := h) (D := D) l.ok hb (nI o)
  rw [l.self] at pt
  exact ⟨pt, l.lnp L' (setCh_live l.2.2.1) (l.2.2.2.1.upd (Or.inr (cn2 b 1 (by decide)))) (idl_setCh l.2.2.2.2.2.1 b rfl rfl)⟩
theorem Lin.closes (l : Lin h P S D R) (b : Bool) {o : Nat} (ho : o < 24) : g_put h (S.p (cn b)) 9 2 (.int (nI o)) = some (lnP h S (upd D (10 + 16 * cn b + 2) (nI o))) ∧ Lin (lnP h S (upd D (10 + 16 * cn b + 2) (nI o))) P S (upd D (10 + 16 * cn b + 2) (nI o)) (R.setCh b ((R.ch b).s_closing (nI o))) := by
  have hb := cn_lt b
  have rc := l.rel.ch b
  have rel := l.rel.chan b (C := (R.ch b).s_closing (nI o)) (D' := upd D (10 + 16 * cn b + 2) (nI o)) ⟨rfl, rfl, rfl, rfl, rfl, rfl, rfl⟩ (by rw [upd_ne (by omega)]; exact rc.1) (by rw [upd_ne (by omega)]; exact rc.2.1) (upd_at _ _ _) (fun j j1 j2 => upd_ne (by omega))
  have sm : R.same (R.setCh b ((R.ch b).s_closing (nI o))) := by cases b <;> exact ⟨rfl, rfl, rfl, rfl, fun _ => ⟨rfl, rfl⟩⟩
  have lg : (R.setCh b ((R.ch b).s_closing (nI o))).lgs := by
    have lg := l.L.2.2.2
    have cb : (R.setCh b ((R.ch b).s_closing (nI o))).ch b = (R.ch b).s_closing (nI o) := by cases b <;> rfl
    have co : (R.setCh b ((R.ch b).s_closing (nI o))).ch (!b) = R.ch (!b) := by cases b <;> rfl
    refine ⟨?_, all_b b ?_ ?_, all_b b ?_ ?_⟩
    · cases b <;> exact lg.1
    · rw [cb]; exact lg.2.1 b
    · rw [co]; exact lg.2.1 (!b)
    · rw [cb]
      obtain ⟨o', c', q1, q2, q3, q4⟩ := lg.2.2 b
      exact ⟨o', o, q1, ho, q3, rfl⟩
    · rw [co]; exact lg.2.2 (!b)
  have L' : lnR h S (upd D (10 + 16 * cn b + 2) (nI o)) (R.setCh b ((R.ch b).s_closing (nI o))) := l.L.next rel ⟨lg, sm⟩
  have pt := lmT_closes (h := h) (D := D) l.ok hb (nI o)
  rw [l.self] at pt
  exact ⟨pt, l.lnp L' (setCh_live l.2.2.1) (l.2.2.2.1.upd (Or.inr (cn2 b 2 (by decide)))) (idl_setCh l.2.2.2.2.2.1 b rfl rfl)⟩
/-- what is so of a heap that came by new cells and a write at the Line's own object -/
theorem lin_set (l : Lin h P S D R) (w : wf h) (cs : List gC) (x : gC) (hr : S'.r = S.r) : stp a bA S S' h (g_set (ext h cs) S.B x) ∧ eff (fun q => q = S.B) h (g_set (ext h cs) S.B x) := by
  have lt := l.B_lt w
  have e := (eff_ext (fun q => q = S.B) h cs).trans (eff_set (W := fun q => q = S.B) (h := ext h cs) (c := S.B) (by rw [ext_fst]; omega) rfl x)
  refine ⟨⟨e.1, fun q hq _ _ z => ⟨e.2.1 q hq (fun y => l.rB (by rw [← y]; exact z)), by rw [hr]; exact z⟩, e.2.2⟩, e⟩
/-- a mist more -/
theorem Lin.fog (l : Lin h P S D R) (w : wf h) (hP : ∀ q, h.1 ≤ q → P q) (h12 : R.mi.told < 12) (x y z : Int32) : ∃ h2 h3 S' D', f_L_with G (rw3 h (row3 x y z)) S.MA h.1 = some (h.1 + 1, h2) ∧ g_put h2 S.B 10 3 (.ref (h.1 + 1)) = some h3 ∧ Lin h3 P S' D' (R.fogged x y z) ∧ S'.B = S.B ∧ stp a bA S S' h h3 ∧ eff (fun q => q = S.B) h h3 ∧ h3.1 = h.1 + 2 := by
  have w3 : wf (rw3 h (row3 x y z)) := wf_ext w _
  have l3 : Lin (rw3 h (row3 x y z)) P S D R := l.ex w _
  have er3 : (rw3 h (row3 x y z)).2 h.1 = some (.inl (0, 3, .inl (row3 x y z))) := ext_in h _ (j := 0) (by simp)
  have one : (rw3 h (row3 x y z)).1 = h.1 + 1 := rfl
  obtain ⟨rm, b1, b2⟩ := l3.L.2.1.2.2.2.2
  have wc := with_c (G := G) (g := fun r => row3 (R.mi.firsts r) (R.mi.lasts r) (R.mi.levels r)) b1.1 (w3 _ _ b1.1) (fun k hk => ⟨(b2 k hk).1, w3 _ _ (b2 k hk).1⟩) er3 (w3 _ _ er3) (show R.mi.told < 20 by omega)
  rw [one] at wc
  generalize hH2 : ext (rw3 h (row3 x y z)) [rfs 3 (R.mi.told + 1) (oneMore R.mi.told rm h.1)] = h2 at wc
  have l4 : Lin h2 P S D R := by rw [← hH2]; exact l3.ex w3 _
  have st : ∀ {q c}, still (rw3 h (row3 x y z)) S q c → still h2 S q c := fun {q c} k => ⟨by rw [← hH2]; exact (ext_out _ _ (Or.inl (w3 _ _ k.1))).trans k.1, k.2⟩
  have er : h2.2 h.1 = some (.inl (0, 3, .inl (row3 x y z))) := by rw [← hH2]; exact (ext_out _ _ (Or.inl (w3 _ _ er3))).trans er3
  have em : h2.2 (h.1 + 1) = some (rfs 3 (R.mi.told + 1) (oneMore R.mi.told rm h.1)) := by rw [← hH2]; exact ext_in (rw3 h (row3 x y z)) _ (j := 0) (by simp)
  obtain ⟨p1, p2, p3⟩ := fog_r (P := P) l4.1 l4.L h12 (row := x) (fun q hq _ => by rw [← l.2.2.2.2.2.2.2]; exact hq) er ⟨hP _ (Nat.le_refl _), l.r0 w (Nat.le_refl _)⟩ (st b1) (fun r hr => st (b2 r hr)) em ⟨hP _ (by omega), l.r0 w (by omega)⟩
  have e2 : h2 = ext h ([.inl (0, 3, .inl (row3 x y z))] ++ [rfs 3 (R.mi.told + 1) (oneMore R.mi.told rm h.1)]) := by rw [← hH2]; exact ext_ext h _ _
  have sp := lin_set (a := a) (bA := bA) (S' := sKM S S.KA (h.1 + 1) P) l w ([.inl (0, 3, .inl (row3 x y z))] ++ [rfs 3 (R.mi.told + 1) (oneMore R.mi.told rm h.1)]) (lnO (sKM S S.KA (h.1 + 1) P) (dMi D R.mi.told x y z)) rfl
  rw [← e2] at sp
  refine ⟨h2, _, sKM S S.KA (h.1 + 1) P, dMi D R.mi.told x y z, wc, p1, ⟨p2, p3, l.2.2.1, fun j hj => ?_, l.2.2.2.2.1, l.2.2.2.2.2.1, l.2.2.2.2.2.2.1, rfl⟩, rfl, sp.1, sp.2, ?_⟩
  · rw [dMi_o (by omega) (by omega)]; exact l.2.2.2.1 j hj
  · show h2.1 = _
    rw [← hH2]; rfl
/-- a keeper more, or one in another's place -/
theorem Lin.keep (l : Lin h P S D R) (w : wf h) (hP : ∀ q, h.1 ≤ q → P q) {n s kA : Nat} {st : Nat → Nat} {tk ky : Nat → Int32} {t k : Int32} {f : Nat → Nat} (hs : s < 2) (q : kpX R n st tk ky s t) (n8 : (R.kp (nI s)).place t = none → (R.kp (nI s)).told < 8) (hk : lOf k) (ht : ∃ m : Nat, m < 10000 ∧ t = nI m) (eA : h.2 kA = some (rfs 3 n f)) (bf : ∀ r, r < n → still h S (f r) (.inl (0, 3, .inl (row3 (nI (st r)) (tk r) (ky r))))) : ∃ h2 h3 S' D', f_L_with G (rw3 h (row3 (nI s) t k)) kA h.1 = some (h.1 + 1, h2) ∧ g_put h2 S.B 10 2 (.ref (h.1 + 1)) = some h3 ∧ Lin h3 P S' D' (R.setKp (nI s) ((R.kp (nI s)).come t k)) ∧ S'.B = S.B ∧ stp a bA S S' h h3 ∧ eff (fun q => q = S.B) h h3 ∧ h3.1 = h.1 + 2 := by
  have w3 : wf (rw3 h (row3 (nI s) t k)) := wf_ext w _
  have l3 : Lin (rw3 h (row3 (nI s) t k)) P S D R := l.ex w _
  have er3 : (rw3 h (row3 (nI s) t k)).2 h.1 = some (.inl (0, 3, .inl (row3 (nI s) t k))) := ext_in h _ (j := 0) (by simp)
  have one : (rw3 h (row3 (nI s) t k)).1 = h.1 + 1 := rfl
  have st3 : ∀ {q c}, h.2 q = some c → (rw3 h (row3 (nI s) t k)).2 q = some c := fun {q c} k => (ext_out h _ (Or.inl (w _ _ k))).trans k
  have n16 : n + 1 ≤ 16 := by
    have kc := kpX_come hs q (l.rel.kp hs).1 n8 k
    have e := kc.two
    have rl := l.rel.kept hs (come_rel (k := k) (l.rel.kp hs) n8 hk ht) (fun j hj => dKp_o (by omega))
    have k0 := (rl.kp (s := 0) (by decide)).1
    have k1 := (rl.kp (s := 1) (by decide)).1
    omega
  have wc := with_c (G := G) (g := fun r => row3 (nI (st r)) (tk r) (ky r)) (st3 eA) (w3 _ _ (st3 eA)) (fun k hk => ⟨st3 (bf k hk).1, w3 _ _ (st3 (bf k hk).1)⟩) er3 (w3 _ _ er3) (show n < 20 by omega)
  rw [one] at wc
  generalize hH2 : ext (rw3 h (row3 (nI s) t k)) [rfs 3 (n + 1) (oneMore n f h.1)] = h2 at wc
  have l4 : Lin h2 P S D R := by rw [← hH2]; exact l3.ex w3 _
  have st4 : ∀ {q c}, h.2 q = some c → h2.2 q = some c := fun {q c} k => by rw [← hH2]; exact (ext_out _ _ (Or.inl (w3 _ _ (st3 k)))).trans (st3 k)
  have er : h2.2 h.1 = some (.inl (0, 3, .inl (row3 (nI s) t k))) := by rw [← hH2]; exact (ext_out _ _ (Or.inl (w3 _ _ er3))).trans er3
  have em : h2.2 (h.1 + 1) = some (rfs 3 (n + 1) (oneMore n f h.1)) := by rw [← hH2]; exact ext_in (rw3 h (row3 (nI s) t k)) _ (j := 0) (by simp)
  obtain ⟨p1, p2, p3⟩ := keep_r (P := P) l4.1 l4.L hs q n8 hk ht (fun q hq _ => by rw [← l.2.2.2.2.2.2.2]; exact hq) er ⟨hP _ (Nat.le_refl _), l.r0 w (Nat.le_refl _)⟩ (fun r hr => ⟨st4 (bf r hr).1, (bf r hr).2⟩) em ⟨hP _ (by omega), l.r0 w (by omega)⟩
  have e2 : h2 = ext h ([.inl (0, 3, .inl (row3 (nI s) t k))] ++ [rfs 3 (n + 1) (oneMore n f h.1)]) := by rw [← hH2]; exact ext_ext h _ _
  have sp := lin_set (a := a) (bA := bA) (S' := sKM S (h.1 + 1) S.MA P) l w ([.inl (0, 3, .inl (row3 (nI s) t k))] ++ [rfs 3 (n + 1) (oneMore n f h.1)]) (lnO (sKM S (h.1 + 1) S.MA P) (dKp D (42 + 17 * s) ((R.kp (nI s)).come t k))) rfl
  rw [← e2] at sp
  obtain ⟨t1, t2, t3, t4, t5, t6, t7, t8, t9, t10, t11, t12, t13⟩ := setKp_side R (nI s) ((R.kp (nI s)).come t k)
  generalize hR : R.setKp (nI s) ((R.kp (nI s)).come t k) = R' at *
  have ec : ∀ b, R'.ch b = R.ch b := fun b => by unfold RW.ch; rw [t10, t11]
  refine ⟨h2, _, sKM S (h.1 + 1) S.MA P, dKp D (42 + 17 * s) ((R.kp (nI s)).come t k), wc, p1, ⟨by rw [t2]; exact p2, p3, fun i hi => ?_, fun j hj => ?_, fun i hi => ?_, fun b => ?_, l.2.2.2.2.2.2.1, rfl⟩, rfl, sp.1, sp.2, ?_⟩
  · rw [t2] at hi
    rw [t12]
    exact l.2.2.1 i hi
  · rw [dKp_o (by omega)]; exact l.2.2.2.1 j hj
  · rw [t2] at hi
    rw [t12]
    exact l.2.2.2.2.1 i hi
  · rw [ec]; exact l.2.2.2.2.2.1 b
  · show h2.1 = _
    rw [← hH2]; rfl
theorem addMsg_f {s u : Int32} {n p : Nat} {T : Nat → Int32} (h8 : R.told < 8) : (R.addMsg s u T p n).told = R.told + 1 ∧ (R.addMsg s u T p n).time = R.time ∧ (∀ b, (R.addMsg s u T p n).ch b = R.ch b) ∧ (∀ i, ((R.addMsg s u T p n).ms i).len = if i = R.told then n else (R.ms i).len) ∧ (R.addMsg s u T p n).mi = R.mi ∧ (∀ x, (R.addMsg s u T p n).kp x = R.kp x) ∧ (R.addMsg s u T p n).fsize = R.fsize := by
  unfold RW.addMsg
  rw [if_pos h8]
  refine ⟨rfl, rfl, fun b => by cases b <;> rfl, fun i => ?_, rfl, fun x => rfl, rfl⟩
  show (updM R.ms R.told _ i).len = _
  unfold updM
  split
  · rfl
  · rfl
/-- a talk more -/
theorem Lin.adds (l : Lin h P S D R) (w : wf h) (hP : ∀ q, h.1 ≤ q → P q) (h8 : R.told < 8) {s u x : Nat} {M : List Nat} (hs : s < 2) (hu : u < 10) (sm : smL M) (m1 : 1 ≤ M.length) (m16 : M.length ≤ 16) (wa : wordAt h x M) (px : ∀ q, x ≤ q → P q ∧ S.r q = 0) : ∃ h3 S' D', f_X10_adds G h S.B (nI s) (nI u) x = some h3 ∧ Lin h3 P S' D' (R.addMsg (nI s) (nI u) (fun i => nI (byt M i)) 0 M.length) ∧ S'.B = S.B ∧ stp a bA S S' h h3 ∧ eff (fun q => q = S.B) h h3 := by
  obtain ⟨v, g, ex, ev, xv, eg⟩ := wa
  have hT : ∀ k, k < M.length → lOf (nI (byt M (0 + k)) - 97) := fun k hk => by
    rw [Nat.zero_add]
    have c := sm _ (byt_in hk)
    refine ⟨byt M k - 97, by omega, ?_⟩
    rw [show (97 : Int32) = nI 97 by decide, nI_sub (by omega)]
  obtain ⟨p1, p2, p3, p4⟩ := adds_r (G := G) (P := P) (p := 0) (T := fun i => nI (byt M i)) l.1 l.L l.2.2.1 w h8 m1 m16 (show nI s = 0 ∨ nI s = 1 by rcases (by omega : s = 0 ∨ s = 1) with rfl | rfl; exact Or.inl nI_0; exact Or.inr (by decide)) ⟨u, hu, rfl⟩ hT (fun q hq _ _ => by rw [← l.2.2.2.2.2.2.2]; exact hq) (fun q hq _ => hP q hq) ex ev (px x (Nat.le_refl _)) (px v (by omega)) (fun k hk => by rw [Nat.zero_add]; exact eg k hk)
  obtain ⟨t1, t2, t3, t4, -⟩ := addMsg_f (s := nI s) (u := nI u) (n := M.length) (p := 0) (T := fun i => nI (byt M i)) h8
  have lt := l.B_lt w
  refine ⟨_, _, _, p1, ⟨by rw [t1]; exact p2, p3, p4, fun j hj => ?_, fun i hi => ?_, fun b => by rw [t3]; exact l.2.2.2.2.2.1 b, fun q hq => ?_, rfl⟩, rfl, ?_, ?_⟩
  · rw [dAd_o (by omega) (by omega)]; exact l.2.2.2.1 j hj
  · rw [t4]
    split
    · exact m16
    · rw [t1] at hi
      exact l.2.2.2.2.1 i (by omega)
  · have hq' : (if h.1 ≤ q ∧ q < h.1 + (5 + (M.length + R.fsize - 1) / R.fsize) ∧ (q = h.1 ∨ q = h.1 + 3 ∨ h.1 + 5 ≤ q) then 16 + 32 * R.told + (q - h.1) else S.r q) ≠ 0 := hq
    by_cases c : h.1 ≤ q
    · exact hP q c
    · rw [if_neg (fun z => c z.1)] at hq'
      exact l.2.2.2.2.2.2.1 q hq'
  · refine ⟨by rw [hAd_1]; exact Nat.le_add_right _ _, fun q hq _ _ z => ⟨hAd_lo hq (fun y => l.rB (by rw [← y]; exact z)), ?_⟩, fun w' => wf_set (wf_ext w' _) (by rw [ext_fst]; omega) _⟩
    show (if h.1 ≤ q ∧ q < h.1 + (5 + (M.length + R.fsize - 1) / R.fsize) ∧ (q = h.1 ∨ q = h.1 + 3 ∨ h.1 + 5 ≤ q) then 16 + 32 * R.told + (q - h.1) else S.r q) = 0
    rw [if_neg (by omega)]; exact z
  · exact ⟨by rw [hAd_1]; exact Nat.le_add_right _ _, fun q hq z => hAd_lo hq z, fun w' => wf_set (wf_ext w' _) (by rw [ext_fst]; omega) _⟩
/-- a copy is a line of before -/
theorem Lin.cp (l : Lin h (Pq a bA) S D R) (w : wf h) (hP : ∀ q, h.1 ≤ q → Pq a bA q) (ht : R.time < 2 ^ 31) : ∃ h2 Si, f_X10_copy G h S.B = some (h.1, h2) ∧ Lin h2 (Pq a bA) S D R ∧ Old a bA h2 S Si D R ∧ Si.B = h.1 ∧ (∃ cs, h2 = ext h cs) := by
  have src := src_of l.1 l.L l.2.2.2.2.1
  have t8 := l.rel.inv.1
  have f24 : ∀ i, i < R.told → S.fr i ≤ 24 := fun i hi => (l.ok.2.2 i hi).1
  have e := x10_copy (G := G) src w t8 l.2.2.2.1
  obtain ⟨c1, c2⟩ := copy_r (P := fun q => (S.P q ∧ S.r q = 0 ∧ q < h.1) ∨ (h.1 ≤ q ∧ q < Acp (h.1 + 16) S.fr R.told)) l.1 l.L l.2.2.2.2.1 l.2.2.2.1 (fun q h1 h2 h3 => Or.inl ⟨h1, h2, h3⟩) (fun q h1 h2 => Or.inr ⟨h1, h2⟩) w
  have top : (hCp h S D R.told).1 = Acp (h.1 + 16) S.fr R.told := hCp_1 h S D R.told
  refine ⟨hCp h S D R.told, sCp h.1 S R.told (fun q => (S.P q ∧ S.r q = 0 ∧ q < h.1) ∨ (h.1 ≤ q ∧ q < Acp (h.1 + 16) S.fr R.told)), e, l.ex w _, ⟨c1, c2, l.2.2.2.2.2.1, ht, fun q hq => ?_⟩, rfl, ⟨_, rfl⟩⟩
  have g16 := Acp_ge (h.1 + 16) S.fr R.told
  have new : h.1 ≤ q → q < Acp (h.1 + 16) S.fr R.told → a + 616 ≤ q ∧ q ≠ bA ∧ q < (hCp h S D R.told).1 ∧ S.r q = 0 := fun z1 z2 => ⟨(hP q z1).1, (hP q z1).2, by omega, l.r0 w z1⟩
  rcases hq with hq | hq | hq
  · have z := rOf_ne (show rOf h.1 (h.1 + 9) (h.1 + 12) (h.1 + 11) (h.1 + 14) R.told (Acp (h.1 + 16) S.fr) S.fr q ≠ 0 from hq)
    rcases z with z | z | z | z | z | ⟨i, i1, i2, i3, -⟩
    · exact new (by omega) (by omega)
    · exact new (by omega) (by omega)
    · exact new (by omega) (by omega)
    · exact new (by omega) (by omega)
    · exact new (by omega) (by omega)
    · have y1 := Acp_ge (h.1 + 16) S.fr i
      have y2 := Acp_mono (h.1 + 16) S.fr i1
      exact new (by omega) (by omega)
  · obtain ⟨q1, q2, q3⟩ := hq
    rw [l.2.2.2.2.2.2.2] at q1
    exact ⟨q1.1, q1.2, by omega, q2⟩
  · exact new hq.1 hq.2
end LIN
