/-! a Line in the making, and the text that tells it -/
def Tri (a b : Nat) (F0 : RFc) (h : gH) (L : List Nat) (S : RS) (D : Nat → Int32) (V : RW) : Prop := Bas a b h ∧ TS a F0 h L ∧ Lin h (Pq a 0) S D V
section TRI
variable {G : gG} {a b : Nat} {h h' : gH} {F0 : RFc} {L : List Nat} {S : RS} {D : Nat → Int32} {V : RW}
theorem hPq (B : Bas a b h) {bA : Nat} (hA : bA < h.1) : ∀ q, h.1 ≤ q → Pq a bA q := fun q hq => ⟨by have := B.2.2.2.1; omega, by omega⟩
theorem hPq0 (B : Bas a b h) : ∀ q, h.1 ≤ q → Pq a 0 q := hPq B (by have := B.2.2.2.1; omega)
theorem TS.fr {W : Nat → Prop} (t : TS a F0 h L) (B : Bas a b h) (x : eff W h h') (d : ∀ q, W q → q < a ∨ a + 615 ≤ q) : TS a F0 h' L := t.frame (fun q h1 h2 => x.2.1 q (by have := B.2.2.2.1; omega) (fun z => by have := d q z; omega))
theorem Tri.below (G : gG) (u : Tri a b F0 h L S D V) {n : Nat} (n0 : 0 < n) (hn : n < 2 ^ 31) {I : Int32} (eI : I = nI n) : ∃ k h', k < n ∧ f_X11_below G h (a + 615) I = some (nI k, h') ∧ Tri a b F0 h' L S D V ∧ h'.1 = h.1 := by
  obtain ⟨B, t, l⟩ := u
  obtain ⟨k, h', k1, k2, k3, k4, k5⟩ := below_t G B n0 hn eI
  exact ⟨k, h', k1, k2, ⟨k3, t.fr B k4 (fun q hq => by omega), l.fr B.1 k4 (fun q hq z => by have := z.1; omega)⟩, k5⟩
/-- the Line changed, or new cells -/
theorem Tri.step {W : Nat → Prop} {S' : RS} {D' : Nat → Int32} {V' : RW} (u : Tri a b F0 h L S D V) (x : eff W h h') (d : ∀ q, W q → a + 616 ≤ q) (l' : Lin h' (Pq a 0) S' D' V') : Tri a b F0 h' L S' D' V' := by
  obtain ⟨B, t, l⟩ := u
  exact ⟨B.fr x (fun q hq => by have := d q hq; have := B.2.2.1; omega), t.fr B x (fun q hq => by have := d q hq; omega), l'⟩
theorem Tri.ex (u : Tri a b F0 h L S D V) (cs : List gC) : Tri a b F0 (ext h cs) L S D V := u.step (eff_ext (fun _ => False) h cs) (fun _ z => z.elim) (u.2.2.ex u.1.1 cs)
theorem Tri.own (u : Tri a b F0 h L S D V) : ∀ q, S.r q ≠ 0 → a + 616 ≤ q := fun q hq => (u.2.2.2.2.2.2.2.2.1 q hq).1
theorem Tri.is (u : Tri a b F0 h L S D V) : g_is h (a + 615) 11 = true := u.1.is
theorem Tri.power (u : Tri a b F0 h L S D V) (c : Bool) (v : Int32) : ∃ h' D', g_put h (S.p (cn c)) 9 0 (.int v) = some h' ∧ Tri a b F0 h' L S D' (V.setCh c ((V.ch c).s_power v)) ∧ h'.1 = h.1 := by
  have q := u.2.2.power c v
  exact ⟨_, _, q.1, u.step (eff_ln u.2.2.1 u.2.2.ok _) u.own q.2, rfl⟩
theorem Tri.opens (u : Tri a b F0 h L S D V) (c : Bool) {o : Nat} (ho : o < 24) : ∃ h' D', g_put h (S.p (cn c)) 9 1 (.int (nI o)) = some h' ∧ Tri a b F0 h' L S D' (V.setCh c ((V.ch c).s_opening (nI o))) ∧ h'.1 = h.1 := by
  have q := u.2.2.opens c ho
  exact ⟨_, _, q.1, u.step (eff_ln u.2.2.1 u.2.2.ok _) u.own q.2, rfl⟩
theorem Tri.closes (u : Tri a b F0 h L S D V) (c : Bool) {o : Nat} (ho : o < 24) : ∃ h' D', g_put h (S.p (cn c)) 9 2 (.int (nI o)) = some h' ∧ Tri a b F0 h' L S D' (V.setCh c ((V.ch c).s_closing (nI o))) ∧ h'.1 = h.1 := by
  have q := u.2.2.closes c ho
  exact ⟨_, _, q.1, u.step (eff_ln u.2.2.1 u.2.2.ok _) u.own q.2, rfl⟩
theorem nms_len : ∀ ns : List Nat, (nmsL ns).length ≤ 3 * ns.length
  | [] => Nat.le_refl 0
  | n :: r => by
    have ih := nms_len r
    have lm : (nmL n).length ≤ 2 := by unfold nmL; split <;> simp
    rw [nmsL, List.length_append, List.length_append]
    show 1 + ((nmL n).length + (nmsL r).length) ≤ 3 * (r.length + 1)
    omega
theorem wK7 {i : Nat} (hi : i < 5) : (wK i).length ≤ 7 := by
  have q := (wS_tab i (by omega) (Or.inl hi)).2.1
  rwa [show wS i = wK i from if_pos hi] at q
theorem stL_len {i : Nat} (hi : i < 5) (ns : List Nat) : (stL i ns).length ≤ 8 + 3 * ns.length := by
  have w7 := wK7 hi
  have nm := nms_len ns
  unfold stL
  rw [List.length_append, List.length_append]
  show (wK i).length + ((nmsL ns).length + 1) ≤ _
  omega
/-- a statement is written -/
theorem Tri.stmt (cs : csG G b) (u : Tri a b F0 h L S D V) {i : Nat} (hi : i < 5) {p : Nat} {ms : List Nat} {f : Nat → Int32} (hp : a + 615 ≤ p) (hN : ms.length < 10) (e1 : ∀ j, j < ms.length → f j = nI (ms.getD j 0)) (e2 : ∀ m, m ∈ ms → m < 100) (e3 : h.2 p = some (.inl (0, ms.length, .inl f))) (h5 : L.length ≤ 350) : ∃ h1 h2, f_L_writeAll G h a (a + 614) (g_aK G i) p = some h1 ∧ f_L_write G h1 a (a + 614) (g_aK G 22) = some h2 ∧ Tri a b F0 h2 (L ++ stL i ms) S D V ∧ h2.1 = h.1 := by
  obtain ⟨B, t, l⟩ := u
  have hc := B.2.2.2.1
  have hb := B.2.2.1
  obtain ⟨h1, x1, t1, f1, g1⟩ := wrAll_t (G := G) cs B.2.1 hb (by omega) t hi hp hN e1 e2 e3 (B.1 _ _ e3) (by omega)
  have B1 : Bas a b h1 := B.fr f1 (fun q hq => by omega)
  have nm := nms_len ms
  have w7 := wK7 hi
  obtain ⟨h2, x2, t2, f2, g2⟩ := wrC_t (G := G) cs B1.2.1 hb (by omega) t1 (show 22 < 24 by decide) (Or.inr (by decide)) (by rw [List.length_append, List.length_append]; omega)
  have w22 : wS 22 = [59] := rfl
  rw [w22] at t2
  have et : (L ++ (wK i ++ nmsL ms)) ++ [59] = L ++ stL i ms := by unfold stL; simp only [List.append_assoc]
  rw [et] at t2
  have f12 := f1.trans f2
  exact ⟨h1, h2, x1, x2, ⟨B1.fr f2 (fun q hq => by omega), t2, l.fr B.1 f12 (fun q hq z => by have := z.1; omega)⟩, by omega⟩
end TRI
/-! a channel -/
section CHN
variable {G : gG} {a b : Nat} {F0 : RFc}
theorem chW_f (V : RW) (c : Bool) (p o u : Int32) : ((V.chW c p o u).ch c).power = p ∧ ((V.chW c p o u).ch c).opening = o ∧ ((V.chW c p o u).ch c).closing = u ∧ (V.chW c p o u).told = V.told ∧ (V.chW c p o u).mi = V.mi ∧ (∀ x, (V.chW c p o u).kp x = V.kp x) ∧ (V.chW c p o u).time = V.time := by
  cases c
  · exact ⟨rfl, rfl, rfl, rfl, rfl, fun _ => rfl, rfl⟩
  · exact ⟨rfl, rfl, rfl, rfl, rfl, fun _ => rfl, rfl⟩
theorem row4 (x0 x1 x2 x3 : Nat) : ∀ j, j < 4 → upd (upd (upd (upd (fun _ => 0) 0 (nI x0)) 1 (nI x1)) 2 (nI x2)) 3 (nI x3) j = nI ([x0, x1, x2, x3].getD j 0)
  | 0, _ => rfl
  | 1, _ => rfl
  | 2, _ => rfl
  | 3, _ => rfl
theorem row3g (x0 x1 x2 : Nat) : ∀ j, j < 3 → row3 (nI x0) (nI x1) (nI x2) j = nI ([x0, x1, x2].getD j 0)
  | 0, _ => rfl
  | 1, _ => rfl
  | 2, _ => rfl
theorem row2g (x0 x1 : Nat) : ∀ j, j < 2 → upd (upd (fun _ => 0) 0 (nI x0)) 1 (nI x1) j = nI ([x0, x1].getD j 0)
  | 0, _ => rfl
  | 1, _ => rfl
theorem e3n : (3 : Int32) = nI 3 := rfl
theorem e4n : (4 : Int32) = nI 4 := rfl
theorem in4 {m x0 x1 x2 x3 : Nat} (h : m ∈ [x0, x1, x2, x3]) : m = x0 ∨ m = x1 ∨ m = x2 ∨ m = x3 := by simpa using h
/-- the channel's row and statement -/
theorem b148_t (cs : csG G b) {h : gH} {L : List Nat} {S : RS} {D : Nat → Int32} {V : RW} {tb : Int32} {ns p o u : Nat} (c : Bool) (hp : p < 10) (ho : o < 24) (hu : u < 24) (K : gH → Nat → Nat → Nat → Nat → Int32 → Option (Option Nat × gH)) (t : Tri a b F0 h L S D ((V.setCh c ((V.ch c).s_power (nI p))).setCh c (((V.setCh c ((V.ch c).s_power (nI p))).ch c).s_opening (nI o)))) (pr : PR L F0.tr V tb ns) (ok : V.ok) (n100 : ns < 100) (hb : (tb &&& (1 <<< (nI (cn c) &&& 31))) = 0) (h5 : L.length ≤ 300) : ∃ h' D', f_L_randomLine_b148 G K h a (a + 614) (a + 615) S.B (nI (cn c)) (nI u) (S.p (cn c)) = K h' a (a + 614) (a + 615) S.B (nI (cn c + 1)) ∧ Tri a b F0 h' (L ++ stL 1 [cn c, p, o, u]) S D' (V.chW c (nI p) (nI o) (nI u)) ∧ PR (L ++ stL 1 [cn c, p, o, u]) F0.tr (V.chW c (nI p) (nI o) (nI u)) (tb ||| (1 <<< (nI (cn c) &&& 31))) (ns + 1) := by
  have hc := cn_lt c
  obtain ⟨h1, D1, e1, t1, z1⟩ := t.closes c hu
  have t1' : Tri a b F0 h1 L S D1 (V.chW c (nI p) (nI o) (nI u)) := t1
  obtain ⟨w1, w2, w3, -⟩ := chW_f V c (nI p) (nI o) (nI u)
  have n4 : g_nwI h1 4 4 = some (ext h1 [.inl (0, 4, .inl fun _ => 0)]) := nw_e h1 e4n (by decide) (by decide)
  have a0 := ast_e h1 e0n (show 0 < 4 by decide) (by decide) (fun _ => 0) (nI (cn c))
  have a1 := ast_e h1 e1n (show 1 < 4 by decide) (by decide) (upd (fun _ => 0) 0 (nI (cn c))) (nI p)
  have a2 := ast_e h1 e2n (show 2 < 4 by decide) (by decide) (upd (upd (fun _ => 0) 0 (nI (cn c))) 1 (nI p)) (nI o)
  have a3 := ast_e h1 e3n (show 3 < 4 by decide) (by decide) (upd (upd (upd (fun _ => 0) 0 (nI (cn c))) 1 (nI p)) 2 (nI o)) (nI u)
  have u0 := t1'.ex [.inl (0, 4, .inl (upd (fun _ => 0) 0 (nI (cn c))))]
  have u1 := t1'.ex [.inl (0, 4, .inl (upd (upd (fun _ => 0) 0 (nI (cn c))) 1 (nI p)))]
  have u2 := t1'.ex [.inl (0, 4, .inl (upd (upd (upd (fun _ => 0) 0 (nI (cn c))) 1 (nI p)) 2 (nI o)))]
  have u3 := t1'.ex [.inl (0, 4, .inl (upd (upd (upd (upd (fun _ => 0) 0 (nI (cn c))) 1 (nI p)) 2 (nI o)) 3 (nI u)))]
  have l0 := u0.2.2.lamp c
  have l1 := u1.2.2.lamp c
  have l2 := u2.2.2.lamp c
  rw [w1] at l0
  rw [w2] at l1
  rw [w3] at l2
  have hB := t1'.1.2.2.2.1
  obtain ⟨h2, h3, x1, x2, t3, z3⟩ := u3.stmt (G := G) cs (i := 1) (by decide) (p := h1.1) (ms := [cn c, p, o, u]) (by omega) (by show 4 < 10; decide) (row4 (cn c) p o u) (fun m hm => by rcases in4 hm with z | z | z | z <;> omega) (ext_in h1 _ (j := 0) (by simp)) (by omega)
  refine ⟨h3, D1, ?_, t3, ?_⟩
  · unfold f_L_randomLine_b148
    rw [e1, Option.bind_some, n4, Option.bind_some, a0, Option.bind_some, u0.2.2.fld.2.1, Option.bind_some, l0.1, Option.bind_some, Option.bind_some, l0.2.1, Option.bind_some, a1, Option.bind_some, u1.2.2.fld.2.1, Option.bind_some, l1.1, Option.bind_some, Option.bind_some, l1.2.2.1, Option.bind_some, a2, Option.bind_some, u2.2.2.fld.2.1, Option.bind_some, l2.1, Option.bind_some, Option.bind_some, l2.2.2.2, Option.bind_some, a3, Option.bind_some, x1, Option.bind_some, x2, Option.bind_some]
    unfold f_L_randomLine_b212
    rw [← nI_succ]
  · have dc : decide (nI (cn c) ≠ 0) = c := by cases c <;> decide
    refine PR_add pr ok n100 (c := 99) rfl (by decide) (stL_as 1 _ (fun m hm => by rcases in4 hm with z | z | z | z <;> omega)) (fun T R Q tl hp' ht => ?_)
    have q := channel_st (V := V) tl hp' hc hp ho hu (by rw [ht]; exact hb)
    rw [dc, ht] at q
    exact q
/-- one turn of the channels' loop -/
theorem chan_it (cs : csG G b) {h : gH} {L : List Nat} {S : RS} {D : Nat → Int32} {V : RW} {tb : Int32} {ns : Nat} (c : Bool) (fu : Nat) (t : Tri a b F0 h L S D V) (pr : PR L F0.tr V tb ns) (n100 : ns < 100) (hb : (tb &&& (1 <<< (nI (cn c) &&& 31))) = 0) (h5 : L.length ≤ 300) : ∃ h' L' D' V' tb' ns', f_L_randomLine_b65 G (fu + 1) h a (a + 614) (a + 615) S.B (nI (cn c)) = f_L_randomLine_b65 G fu h' a (a + 614) (a + 615) S.B (nI (cn c + 1)) ∧ Tri a b F0 h' L' S D' V' ∧ PR L' F0.tr V' tb' ns' ∧ (tb' = tb ∨ tb' = (tb ||| (1 <<< (nI (cn c) &&& 31)))) ∧ ns' ≤ ns + 1 ∧ L'.length ≤ L.length + 20 ∧ V'.told = V.told ∧ V'.mi = V.mi ∧ (∀ x, V'.kp x = V.kp x) ∧ V'.time = V.time := by
  have hc := cn_lt c
  have ok := t.2.2.rel.ok
  obtain ⟨k, h1, k1, x1, t1, -⟩ := t.below G (n := 3) (by decide) (by decide) e3n
  rw [f_L_randomLine_b65, if_pos (i2 hc), t.is, cond_true, x1, Option.bind_some]
  dsimp only
  by_cases k0 : k = 0
  · rw [if_pos ((nI_eq0 (by omega)).mpr k0)]
    unfold f_L_randomLine_b212
    rw [← nI_succ]
    exact ⟨h1, L, D, V, tb, ns, rfl, t1, pr, Or.inl rfl, by omega, by omega, rfl, rfl, fun _ => rfl, rfl⟩
  · rw [if_neg (fun z => k0 ((nI_eq0 (by omega)).mp z))]
    obtain ⟨p, h2, p1, x2, t2, -⟩ := t1.below G (n := 10) (by decide) (by decide) (show (10 : Int32) = nI 10 by decide)
    obtain ⟨h3, D3, x3, t3, -⟩ := t2.power c (nI p)
    obtain ⟨o, h4, o1, x4, t4, -⟩ := t3.below G (n := 24) (by decide) (by decide) (show (24 : Int32) = nI 24 by decide)
    obtain ⟨h5', D5, x5, t5, -⟩ := t4.opens c o1
    obtain ⟨d, h6, d1, x6, t6, -⟩ := t5.below G (n := 2) (by decide) (by decide) e2n
    rw [t1.2.2.fld.2.1, Option.bind_some, (t1.2.2.lamp c).1, Option.bind_some, Option.bind_some, t1.is, cond_true, x2, Option.bind_some]
    dsimp only
    rw [x3, Option.bind_some, t3.2.2.fld.2.1, Option.bind_some, (t3.2.2.lamp c).1, Option.bind_some, Option.bind_some, t3.is, cond_true, x4, Option.bind_some]
    dsimp only
    rw [x5, Option.bind_some, t5.2.2.fld.2.1, Option.bind_some, (t5.2.2.lamp c).1, Option.bind_some, Option.bind_some, t5.is, cond_true, x6, Option.bind_some]
    dsimp only
    have fin : ∀ u, u < 24 → ∀ h7, Tri a b F0 h7 L S D5 ((V.setCh c ((V.ch c).s_power (nI p))).setCh c (((V.setCh c ((V.ch c).s_power (nI p))).ch c).s_opening (nI o))) → ∃ h' L' D' V' tb' ns', f_L_randomLine_b148 G (f_L_randomLine_b65 G fu) h7 a (a + 614) (a + 615) S.B (nI (cn c)) (nI u) (S.p (cn c)) = f_L_randomLine_b65 G fu h' a (a + 614) (a + 615) S.B (nI (cn c + 1)) ∧ Tri a b F0 h' L' S D' V' ∧ PR L' F0.tr V' tb' ns' ∧ (tb' = tb ∨ tb' = (tb ||| (1 <<< (nI (cn c) &&& 31)))) ∧ ns' ≤ ns + 1 ∧ L'.length ≤ L.length + 20 ∧ V'.told = V.told ∧ V'.mi = V.mi ∧ (∀ x, V'.kp x = V.kp x) ∧ V'.time = V.time := by
      intro u hu h7 t7
      obtain ⟨h8, D8, e8, t8, pr8⟩ := b148_t (G := G) cs c p1 o1 hu (f_L_randomLine_b65 G fu) t7 pr ok n100 hb h5
      obtain ⟨-, -, -, y4, y5, y6, y7⟩ := chW_f V c (nI p) (nI o) (nI u)
      have sl := stL_len (i := 1) (by decide) [cn c, p, o, u]
      refine ⟨h8, _, D8, _, _, _, e8, t8, pr8, Or.inr rfl, Nat.le_refl _, ?_, y4, y5, y6, y7⟩
      rw [List.length_append]
      have : [cn c, p, o, u].length = 4 := rfl
      omega
    by_cases d0 : d = 0
    · rw [if_pos ((nI_eq0 (by omega)).mpr d0), t6.2.2.fld.2.1, Option.bind_some, (t6.2.2.lamp c).1, Option.bind_some, Option.bind_some, (t6.2.2.lamp c).2.2.1, Option.bind_some]
      have eo : (((V.setCh c ((V.ch c).s_power (nI p))).setCh c (((V.setCh c ((V.ch c).s_power (nI p))).ch c).s_opening (nI o))).ch c).opening = nI o := by cases c <;> rfl
      rw [eo]
      exact fin o o1 h6 t6
    · rw [if_neg (fun z => d0 ((nI_eq0 (by omega)).mp z))]
      obtain ⟨u, h7, u1, x7, t7, -⟩ := t6.below G (n := 24) (by decide) (by decide) (show (24 : Int32) = nI 24 by decide)
      rw [t6.is, cond_true, x7, Option.bind_some]
      exact fin u u1 h7 t7
end CHN
