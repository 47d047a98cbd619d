/-! what a step of the law leaves as it was; the texts that it writes -/
def eff (W : Nat → Prop) (h h' : gH) : Prop := h.1 ≤ h'.1 ∧ (∀ q, q < h.1 → ¬ W q → h'.2 q = h.2 q) ∧ (wf h → wf h')
theorem eff.refl (W : Nat → Prop) (h : gH) : eff W h h := ⟨Nat.le_refl _, fun _ _ _ => rfl, fun w => w⟩
theorem eff.trans {W : Nat → Prop} {h h1 h2 : gH} (x : eff W h h1) (y : eff W h1 h2) : eff W h h2 := ⟨Nat.le_trans x.1 y.1, fun q hq hw => (y.2.1 q (Nat.lt_of_lt_of_le hq x.1) hw).trans (x.2.1 q hq hw), fun w => y.2.2 (x.2.2 w)⟩
theorem eff.mono {W W' : Nat → Prop} {h h' : gH} (x : eff W h h') (e : ∀ q, q < h.1 → W q → W' q) : eff W' h h' := ⟨x.1, fun q hq hw => x.2.1 q hq (fun z => hw (e q hq z)), x.2.2⟩
theorem eff_ext (W : Nat → Prop) (h : gH) (cs : List gC) : eff W h (ext h cs) := ⟨(grew_ext 0 h cs).1, fun q hq _ => ext_out h cs (Or.inl hq), fun W => wf_ext W cs⟩
theorem eff_set {W : Nat → Prop} {h : gH} {c : Nat} (hc : c < h.1) (hw : W c) (x : gC) : eff W h (g_set h c x) := ⟨Nat.le_refl _, fun q _ hq => set_ne (fun z => hq (z ▸ hw)), fun w => wf_set w hc x⟩
theorem eff_grew {r : Nat} {h h' : gH} (g : grew r h h') : eff (fun q => q = r) h h' := g
theorem eff_only {a : Nat} {h h' : gH} {F F' : RFc} (o : onlyT a (a + 614) h h' F F') (hc : a + 615 ≤ h.1) : eff (fun q => a ≤ q ∧ q < a + 615) h h' := by
  refine ⟨Nat.le_of_eq o.1.symm, fun q _ hq => o.2.1 q (by omega) (by omega), fun w q c e => ?_⟩
  rw [o.1]
  by_cases z : a ≤ q ∧ q < a + 615
  · omega
  · rw [o.2.1 q (by omega) (by omega)] at e
    exact w q c e
/-- the String constants lie below b, and nothing else does -/
def csG (G : gG) (b : Nat) : Prop := ∀ i, i < 24 → (i < 5 ∨ 21 ≤ i) → g_fnd (g_aK G) (g_aK G i) = some i ∧ g_fnd (g_aV G) (g_aV G i) = some i ∧ g_aK G i < b ∧ g_aV G i < b
def low (b : Nat) (h : gH) : Prop := ∀ q, q < b → h.2 q = none
theorem con_t {G : gG} {b : Nat} {h : gH} (cs : csG G b) (l : low b h) {i : Nat} (hi : i < 24) (hi2 : i < 5 ∨ 21 ≤ i) : txt G h (g_aK G i) (g_len.getD i 0) (fun j => (g_byt.getD i []).getD j 0) := by
  obtain ⟨c1, c2, c3, c4⟩ := cs i hi hi2
  exact txt_con c1 c2 (l _ c3) (l _ c4)
def wS (i : Nat) : List Nat := if i < 5 then wK i else if i = 21 then [32] else if i = 22 then [59] else []
theorem wS_tab : ∀ i, i < 24 → (i < 5 ∨ 21 ≤ i) → (wS i).length = g_len.getD i 0 ∧ (wS i).length ≤ 7 ∧ (∀ k, k < (wS i).length → (g_byt.getD i []).getD k 0 = nI (byt (wS i) k)) ∧ ∀ c, c ∈ wS i → c < 128 := by decide +kernel
/-- the text is on its way, the class else as F0 -/
def TS (a : Nat) (F0 : RFc) (h : gH) (L : List Nat) : Prop := asL L ∧ ∃ B n, TX h a (a + 614) ((F0.s_B B).s_n n) L
theorem TS.frame {a : Nat} {F0 : RFc} {h h' : gH} {L : List Nat} (t : TS a F0 h L) (e : ∀ q, a ≤ q → q < a + 615 → h'.2 q = h.2 q) : TS a F0 h' L := by
  obtain ⟨t0, B, n, t1, t2, t3, f, t4, t5, t6⟩ := t
  exact ⟨t0, B, n, fun j hj => (e _ (by omega) (by omega)).trans (t1 j hj), t2, t3, f, (e _ (by omega) (by omega)).trans t4, t5, t6⟩
section TXT
variable {G : gG} {a b : Nat} {F0 : RFc} {h : gH} {L : List Nat}
theorem low.eff {W : Nat → Prop} {h h' : gH} (l : low b h) (x : eff W h h') (hb : b ≤ h.1) (e : ∀ q, W q → b ≤ q) : low b h' := fun q hq => (x.2.1 q (by omega) (fun z => by have := e q z; omega)).trans (l q hq)
/-- a constant is written -/
theorem wrC_t (cs : csG G b) (l : low b h) (hb : b ≤ a) (hc : a + 615 ≤ h.1) (t : TS a F0 h L) {i : Nat} (hi : i < 24) (hi2 : i < 5 ∨ 21 ≤ i) (h5 : L.length ≤ 460) : ∃ h', f_L_write G h a (a + 614) (g_aK G i) = some h' ∧ TS a F0 h' (L ++ wS i) ∧ eff (fun q => a ≤ q ∧ q < a + 615) h h' ∧ h'.1 = h.1 := by
  obtain ⟨w1, w2, w3, w4⟩ := wS_tab i hi hi2
  obtain ⟨aL, B, n, t1⟩ := t
  obtain ⟨h', F', e, t2, o⟩ := write_c (G := G) (M := wS i) (x := g_aK G i) (n := (wS i).length) (g := fun j => (g_byt.getD i []).getD j 0) (fun X x1 x2 => by rw [w1]; exact con_t cs (fun q hq => (x2 q (by omega) (by omega)).trans (l q hq)) hi hi2) w3 rfl w4 (Or.inr (Nat.le_refl _)) t1 aL (by omega)
  obtain ⟨B', n', eF⟩ := o.2.2
  refine ⟨h', e, ⟨fun c hc => (List.mem_append.mp hc).elim (aL c) (w4 c), B', n', ?_⟩, eff_only o hc, o.1⟩
  rw [eF] at t2
  exact t2
theorem wrN_t (hc : a + 615 ≤ h.1) (t : TS a F0 h L) {m : Nat} (hm : m < 100) (h5 : L.length ≤ 460) : ∃ h', f_L_writeNumber G h a (a + 614) (nI m) = some h' ∧ TS a F0 h' (L ++ nmL m) ∧ eff (fun q => a ≤ q ∧ q < a + 615) h h' ∧ h'.1 = h.1 := by
  obtain ⟨aL, B, n, t1⟩ := t
  obtain ⟨h', F', e, t2, o⟩ := number_c (G := G) hm (Or.inr (Nat.le_refl _)) t1 aL (by omega)
  obtain ⟨B', n', eF⟩ := o.2.2
  refine ⟨h', e, ⟨fun c hc => (List.mem_append.mp hc).elim (aL c) (nmL_as hm c), B', n', ?_⟩, eff_only o hc, o.1⟩
  rw [eF] at t2
  exact t2
/-- a word is written -/
theorem wrW_t (hc : a + 615 ≤ h.1) (t : TS a F0 h L) {x v : Nat} {M : List Nat} {g : Nat → Int32} (ex : h.2 x = some (stO v)) (ev : h.2 v = some (.inl (1, M.length, .inl g))) (eg : ∀ k, k < M.length → g k = nI (byt M k)) (ox : x < a ∨ a + 615 ≤ x) (ov : v < a ∨ a + 615 ≤ v) (aM : asL M) (h5 : L.length + M.length ≤ 460) : ∃ h', f_L_write G h a (a + 614) x = some h' ∧ TS a F0 h' (L ++ M) ∧ eff (fun q => a ≤ q ∧ q < a + 615) h h' ∧ h'.1 = h.1 := by
  obtain ⟨aL, B, n, t1⟩ := t
  obtain ⟨h', F', e, t2, o⟩ := write_c (G := G) (M := M) (x := x) (n := M.length) (g := g) (fun X x1 x2 => txt_dyn ((x2 x (by omega) (by omega)).trans ex) ((x2 v (by omega) (by omega)).trans ev)) eg rfl aM (Or.inr (Nat.le_refl _)) t1 aL (by omega)
  obtain ⟨B', n', eF⟩ := o.2.2
  refine ⟨h', e, ⟨fun c hc => (List.mem_append.mp hc).elim (aL c) (aM c), B', n', ?_⟩, eff_only o hc, o.1⟩
  rw [eF] at t2
  exact t2
theorem wrAll_l (cs : csG G b) (hb : b ≤ a) {p N : Nat} {f : Nat → Int32} (hp : a + 615 ≤ p) (hN : N < 100) : ∀ (ns : List Nat) (k fuel : Nat) (h : gH) (L : List Nat), k + ns.length = N → ns.length < fuel → (∀ j, j < ns.length → f (k + j) = nI (ns.getD j 0)) → (∀ m, m ∈ ns → m < 100) → h.2 p = some (.inl (0, N, .inl f)) → p < h.1 → low b h → a + 615 ≤ h.1 → TS a F0 h L → L.length + 3 * ns.length ≤ 460 → ∃ h', f_L_writeAll_b17 G fuel h a (a + 614) p (nI N) (nI k) = some h' ∧ TS a F0 h' (L ++ nmsL ns) ∧ eff (fun q => a ≤ q ∧ q < a + 615) h h' ∧ h'.1 = h.1
  | [], k, fuel, h, L, hk, hf, e1, e2, e3, e4, l, hc, t, h5 => by
    obtain ⟨fu, rfl⟩ := Nat.exists_eq_succ_of_ne_zero (Nat.ne_of_gt (Nat.zero_lt_of_lt hf))
    refine ⟨h, ?_, by rw [nmsL, List.append_nil]; exact t, eff.refl _ _, rfl⟩
    have hk' : k = N := hk
    rw [f_L_writeAll_b17, if_neg (nI_nlt (by omega) (by omega))]
  | m :: r, k, fuel, h, L, hk, hf, e1, e2, e3, e4, l, hc, t, h5 => by
    obtain ⟨fu, rfl⟩ := Nat.exists_eq_succ_of_ne_zero (Nat.ne_of_gt (Nat.zero_lt_of_lt hf))
    have hk' : k + (r.length + 1) = N := hk
    have h5' : L.length + 3 * (r.length + 1) ≤ 460 := h5
    have e10 : f k = nI m := e1 0 (Nat.succ_pos _)
    have ld : g_ald h p (nI k) = some (nI m) := by rw [ald_of e3 (show k < N by omega) (by omega), e10]
    obtain ⟨h1, x1, t1, f1, g1⟩ := wrC_t cs l hb hc t (show 21 < 24 by decide) (Or.inr (Nat.le_refl _)) (by omega)
    have w21 : wS 21 = [32] := rfl
    rw [w21] at t1
    obtain ⟨h2, x2, t2, f2, g2⟩ := wrN_t (G := G) (by rw [g1]; exact hc) t1 (e2 m (by simp)) (by rw [List.length_append]; show L.length + 1 ≤ 460; omega)
    have l2 : low b h2 := (l.eff f1 (by omega) (fun q hq => by omega)).eff f2 (by omega) (fun q hq => by omega)
    have lm : (nmL m).length ≤ 2 := by unfold nmL; split <;> simp
    obtain ⟨h3, x3, t3, f3, g3⟩ := wrAll_l cs hb hp hN r (k + 1) fu h2 ((L ++ [32]) ++ nmL m) (by omega) (by have : (m :: r).length = r.length + 1 := rfl; omega) (fun j hj => by rw [show k + 1 + j = k + (j + 1) by omega, e1 (j + 1) (by show j + 1 < r.length + 1; omega)]; rfl) (fun n hn => e2 n (by simp [hn])) ((f2.2.1 p (by omega) (by omega)).trans ((f1.2.1 p e4 (by omega)).trans e3)) (by omega) l2 (by omega) t2 (by rw [List.length_append, List.length_append]; show L.length + 1 + (nmL m).length + 3 * r.length ≤ 460; omega)
    refine ⟨h3, ?_, ?_, (f1.trans f2).trans f3, by omega⟩
    · rw [f_L_writeAll_b17, if_pos (nI_lt (show k < N by omega) (by omega)), ld, Option.bind_some, x1, Option.bind_some, x2, Option.bind_some, ← nI_succ]
      exact x3
    · rw [show L ++ nmsL (m :: r) = ((L ++ [32]) ++ nmL m) ++ nmsL r by simp only [nmsL, List.append_assoc]]
      exact t3
theorem wrAll_t (cs : csG G b) (l : low b h) (hb : b ≤ a) (hc : a + 615 ≤ h.1) (t : TS a F0 h L) {i : Nat} (hi : i < 5) {p : Nat} {ns : List Nat} {f : Nat → Int32} (hp : a + 615 ≤ p) (hN : ns.length < 10) (e1 : ∀ j, j < ns.length → f j = nI (ns.getD j 0)) (e2 : ∀ m, m ∈ ns → m < 100) (e3 : h.2 p = some (.inl (0, ns.length, .inl f))) (e4 : p < h.1) (h5 : L.length ≤ 400) : ∃ h', f_L_writeAll G h a (a + 614) (g_aK G i) p = some h' ∧ TS a F0 h' (L ++ (wK i ++ nmsL ns)) ∧ eff (fun q => a ≤ q ∧ q < a + 615) h h' ∧ h'.1 = h.1 := by
  obtain ⟨h1, x1, t1, f1, g1⟩ := wrC_t cs l hb hc t (show i < 24 by omega) (Or.inl hi) (by omega)
  have w : wS i = wK i := if_pos hi
  rw [w] at t1
  have e3' : h1.2 p = some (.inl (0, ns.length, .inl f)) := (f1.2.1 p e4 (by omega)).trans e3
  have w7 : (wK i).length ≤ 7 := by rw [← w]; exact (wS_tab i (by omega) (Or.inl hi)).2.1
  obtain ⟨h2, x2, t2, f2, g2⟩ := wrAll_l (G := G) (F0 := F0) cs hb hp (show ns.length < 100 by omega) ns 0 g_N h1 (L ++ wK i) (Nat.zero_add _) (by unfold g_N; omega) (fun j hj => by rw [Nat.zero_add]; exact e1 j hj) e2 e3' (by omega) (l.eff f1 (by omega) (fun q hq => by omega)) (by omega) t1 (by rw [List.length_append]; omega)
  refine ⟨h2, ?_, by rw [← List.append_assoc]; exact t2, f1.trans f2, by omega⟩
  unfold f_L_writeAll
  rw [x1, Option.bind_some, aln_of e3', Option.bind_some]
  rw [nI_0] at x2
  exact x2
end TXT
