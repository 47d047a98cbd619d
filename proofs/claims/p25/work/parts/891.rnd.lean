/-! random numbers and random words -/
theorem wf_ext {h : gH} (W : wf h) (cs : List gC) : wf (ext h cs) := fun q c e => by
  rw [ext_fst]
  by_cases z : h.1 ≤ q ∧ q < h.1 + cs.length
  · exact z.2
  · rw [ext_out h cs (by omega)] at e
    have := W q c e
    omega
theorem wf_set {h : gH} (W : wf h) {a : Nat} (ha : a < h.1) (x : gC) : wf (g_set h a x) := fun q c e => by
  by_cases z : q = a
  · rw [z]; exact ha
  · rw [set_ne z] at e; exact W q c e
/-- cells below the next free address stay, but the one at r -/
def grew (r : Nat) (h h' : gH) : Prop := h.1 ≤ h'.1 ∧ (∀ q, q < h.1 → q ≠ r → h'.2 q = h.2 q) ∧ (wf h → wf h')
theorem grew.refl (r : Nat) (h : gH) : grew r h h := ⟨Nat.le_refl _, fun _ _ _ => rfl, fun W => W⟩
theorem grew.trans {r : Nat} {h h1 h2 : gH} (a : grew r h h1) (b : grew r h1 h2) : grew r h h2 := ⟨Nat.le_trans a.1 b.1, fun q hq hr => (b.2.1 q (Nat.lt_of_lt_of_le hq a.1) hr).trans (a.2.1 q hq hr), fun W => b.2.2 (a.2.2 W)⟩
theorem grew_ext (r : Nat) (h : gH) (cs : List gC) : grew r h (ext h cs) := ⟨by rw [ext_fst]; omega, fun q hq _ => ext_out h cs (Or.inl hq), fun W => wf_ext W cs⟩
/-- the generator's cell -/
def rdIs (h : gH) (r : Nat) : Prop := ∃ sd : Int32, h.2 r = some (.inr (11, [.int sd])) ∧ r < h.1
theorem rdIs.is {h : gH} {r : Nat} (t : rdIs h r) : g_is h r 11 = true := by
  obtain ⟨sd, e, -⟩ := t
  exact is_of e
theorem below_c (G : gG) {h : gH} {r b : Nat} (t : rdIs h r) (b0 : 0 < b) (hb : b < 2 ^ 31) : ∃ k h', k < b ∧ f_X11_below G h r (nI b) = some (nI k, h') ∧ rdIs h' r ∧ grew r h h' ∧ h'.1 = h.1 := by
  obtain ⟨sd, e, hr⟩ := t
  have nb : ¬ nI b = 0 := nI_ne0 b0 hb
  have g0 : g_gI h r 11 0 = some sd := gI_of e rfl
  have pt : g_put h r 11 0 (.int (1103515245 * sd + 12345)) = some (g_set h r (.inr (11, [.int (1103515245 * sd + 12345)]))) := put_of e (Nat.le_of_ble_eq_true rfl)
  have g1 : g_gI (g_set h r (.inr (11, [.int (1103515245 * sd + 12345)]))) r 11 0 = some (1103515245 * sd + 12345) := gI_of set_at rfl
  have sh : ∀ u : UInt32, (u >>> (Int32.toUInt32 16 &&& Int32.toUInt32 31)).toInt32 = nI (u.toNat / 2 ^ 16) := fun u => by
    have e1 : (u >>> (Int32.toUInt32 16 &&& Int32.toUInt32 31)).toNat = u.toNat / 2 ^ 16 := by
      rw [UInt32.toNat_shiftRight, show (Int32.toUInt32 16 &&& Int32.toUInt32 31).toNat % 32 = 16 by decide, Nat.shiftRight_eq_div_pow]
    have lt : u.toNat / 2 ^ 16 < 2 ^ 32 := Nat.lt_of_le_of_lt (Nat.div_le_self _ _) u.toNat_lt
    have e3 : u >>> (Int32.toUInt32 16 &&& Int32.toUInt32 31) = UInt32.ofNat (u.toNat / 2 ^ 16) := by
      apply UInt32.toNat.inj
      rw [e1, UInt32.toNat_ofNat_of_lt' (by exact lt)]
    rw [e3, UInt32.toInt32_ofNat']
    rfl
  have u31 : (1103515245 * sd + 12345).toUInt32.toNat / 2 ^ 16 < 2 ^ 31 := by
    have := (1103515245 * sd + 12345).toUInt32.toNat_lt
    omega
  refine ⟨(1103515245 * sd + 12345).toUInt32.toNat / 2 ^ 16 % b, g_set h r (.inr (11, [.int (1103515245 * sd + 12345)])), Nat.mod_lt _ b0, ?_, ⟨1103515245 * sd + 12345, set_at, hr⟩, ⟨Nat.le_refl _, fun q _ hq => set_ne hq, fun W => wf_set W hr _⟩, rfl⟩
  unfold f_X11_below
  rw [g0, Option.bind_some, pt, Option.bind_some, g1, Option.bind_some, if_neg nb, sh, rem_gen _ b u31 hb b0]
/-- at x lies the word M -/
def wordAt (h : gH) (x : Nat) (M : List Nat) : Prop := ∃ (v : Nat) (g : Nat → Int32), h.2 x = some (stO v) ∧ h.2 v = some (.inl (1, M.length, .inl g)) ∧ x < v ∧ ∀ k, k < M.length → g k = nI (byt M k)
theorem wordAt.tx {G : gG} {h : gH} {x : Nat} {M : List Nat} (w : wordAt h x M) : ∃ g : Nat → Int32, txt G h x M.length g ∧ ∀ k, k < M.length → g k = nI (byt M k) := by
  obtain ⟨v, g, e1, e2, e3⟩ := w
  exact ⟨g, txt_dyn e1 e2, e3.2⟩
theorem wordAt.keep {h h' : gH} {x : Nat} {M : List Nat} (w : wordAt h x M) (e : ∀ q c, h.2 q = some c → h'.2 q = h.2 q) : wordAt h' x M := by
  obtain ⟨v, g, e1, e2, e3⟩ := w
  exact ⟨v, g, (e _ _ e1).trans e1, (e _ _ e2).trans e2, e3⟩
theorem wordAt.grew {h h' : gH} {r x : Nat} {M : List Nat} (w : wordAt h x M) (t : rdIs h r) (W : wf h) (e : ∀ q, q < h.1 → q ≠ r → h'.2 q = h.2 q) : wordAt h' x M := by
  obtain ⟨v, g, e1, e2, e3⟩ := w
  obtain ⟨sd, er, -⟩ := t
  have n1 : x ≠ r := fun z => by
    rw [z, er] at e1
    have q : (11 : Nat) = 14 := congrArg (fun o : Option gC => match o with | some (.inr (c, _)) => c | _ => 0) e1
    exact absurd q (by decide)
  have n2 : v ≠ r := fun z => by
    rw [z, er] at e2
    exact nomatch e2
  exact ⟨v, g, (e _ (W _ _ e1) n1).trans e1, (e _ (W _ _ e2) n2).trans e2, e3⟩
/-- small letters -/
def smL (M : List Nat) : Prop := ∀ c, c ∈ M → 97 ≤ c ∧ c ≤ 122
theorem smL.as {M : List Nat} (h : smL M) : asL M := fun c hc => by have := h c hc; omega
theorem smL.app {L M : List Nat} (h1 : smL L) (h2 : smL M) : smL (L ++ M) := fun c hc => by
  rcases List.mem_append.mp hc with z | z
  · exact h1 c z
  · exact h2 c z
theorem chr_c : ∀ k, k < 26 → ((Int32.toUInt32 (97 + nI k) % 65536).toInt32) = nI (97 + k) := by decide +kernel
section RW
variable {G : gG} {r : Nat}
theorem wordAt_ext {X : gH} {L : List Nat} {g : Nat → Int32} (hg : ∀ k, k < L.length → g k = nI (byt L k)) : wordAt (ext X [stO (X.1 + 1), .inl (1, L.length, .inl g)]) X.1 L := ⟨X.1 + 1, g, ext_in X _ (j := 0) (by simp), ext_in X _ (j := 1) (by simp), Nat.lt_succ_self _, hg⟩
/-- a word and a letter make a word -/
theorem grow_c {X : gH} (t : rdIs X r) (W : wf X) {x : Nat} {M : List Nat} (tx : ∀ cs, ∃ g : Nat → Int32, txt G (ext X cs) x M.length g ∧ ∀ k, k < M.length → g k = nI (byt M k)) (sm : smL M) (hM : M.length ≤ 12) : ∃ (c : Nat) (X' : gH), 97 ≤ c ∧ c ≤ 122 ∧ rdIs X' r ∧ grew r X X' ∧ wf X' ∧ wordAt X' (X.1 + 2) (M ++ [c]) ∧ X.1 + 2 < X'.1 ∧ ∃ X1 X2 X3 k, f_T4_init_da8c8 G (g_add X (.inr (13, g_dfl 13))) X.1 = some (ext X [sbO (X.1 + 1) 0, .inl (1, 16, .inl fun _ => 0)]) ∧ g_is (ext X [sbO (X.1 + 1) 0, .inl (1, 16, .inl fun _ => 0)]) X.1 13 = true ∧ f_T4_append_15ec4 G (ext X [sbO (X.1 + 1) 0, .inl (1, 16, .inl fun _ => 0)]) X.1 x = some (X.1, X1) ∧ g_is X1 r 11 = true ∧ f_X11_below G X1 r 26 = some (nI k, X2) ∧ g_is X2 X.1 13 = true ∧ f_T4_append_cf468 G X2 X.1 ((Int32.toUInt32 (97 + nI k) % 65536).toInt32) = some (X.1, X3) ∧ g_is X3 X.1 13 = true ∧ f_T4_toString_0e30d G X3 X.1 = some (X.1 + 2, X') := by
  obtain ⟨X0, i1, i2, i3⟩ := sb_new (G := G) X
  subst i2
  obtain ⟨sd, er, hr⟩ := t
  obtain ⟨g, tg, hg⟩ := tx [sbO (X.1 + 1) 0, .inl (1, 16, .inl fun _ => 0)]
  obtain ⟨X1, a1, a2, a3⟩ := sb_str i3 tg rfl hg sm.as (by rw [List.length_nil]; omega)
  rw [List.nil_append] at a2
  have x11 : X1.1 = X.1 + 2 := a3.1
  have r1 : X1.2 r = some (.inr (11, [.int sd])) := by rw [a3.2 r (by omega) (by omega), ext_out X _ (Or.inl hr)]; exact er
  have t1 : rdIs X1 r := ⟨sd, r1, by rw [x11]; omega⟩
  obtain ⟨k, X2, k26, b1, b2, b3, b4⟩ := below_c G t1 (b := 26) (by decide) (by decide)
  have sb2 : sbIs X2 X.1 (X.1 + 1) M := by
    obtain ⟨c1, c2, c3, c4, f, c5, c6⟩ := a2
    refine ⟨(b3.2.1 _ (by rw [x11]; omega) (by omega)).trans c1, c2, c3, c4, f, (b3.2.1 _ (by rw [x11]; omega) (by omega)).trans c5, c6⟩
  obtain ⟨X3, d1, d2, d3⟩ := sb_chr (G := G) sb2 (c := 97 + k) (by omega) (by omega)
  have x31 : X3.1 = X.1 + 2 := by rw [d3.1, b4, x11]
  have len : (M ++ [97 + k]).length = M.length + 1 := by rw [List.length_append]; rfl
  obtain ⟨g4, f1, f2⟩ := sb_toS (G := G) d2 (by rw [len]; omega) (by omega) (by omega)
  rw [x31] at f1
  have w3 : wf X3 := by
    have w1 : wf X1 := fun q c e => by
      by_cases z : q = X.1 ∨ q = X.1 + 1
      · rw [x11]; omega
      · rw [a3.2 q (by omega) (by omega)] at e
        have := wf_ext W _ q c e
        rw [ext_fst] at this
        rw [x11]
        exact this
    have w2 := b3.2.2 w1
    intro q c e
    by_cases z : q = X.1 ∨ q = X.1 + 1
    · rw [x31]; omega
    · rw [d3.2 q (by omega) (by omega)] at e
      have := w2 q c e
      rw [x31]
      rw [b4, x11] at this
      exact this
  have lo : ∀ q, q < X.1 → q ≠ r → (ext X3 [stO (X.1 + 2 + 1), .inl (1, (M ++ [97 + k]).length, .inl g4)]).2 q = X.2 q := fun q hq hqr => by
    rw [ext_out X3 _ (Or.inl (by rw [x31]; omega)), d3.2 q (by omega) (by omega), b3.2.1 q (by rw [x11]; omega) hqr, a3.2 q (by omega) (by omega), ext_out X _ (Or.inl hq)]
  have x41 : (ext X3 [stO (X.1 + 2 + 1), .inl (1, (M ++ [97 + k]).length, .inl g4)]).1 = X.1 + 4 := by rw [ext_fst, x31]; rfl
  have wa := wordAt_ext (X := X3) f2
  rw [x31] at wa
  obtain ⟨sd2, e2, -⟩ := b2
  have i26 : f_X11_below G X1 r 26 = some (nI k, X2) := b1
  refine ⟨97 + k, _, by omega, by omega, ⟨sd2, ?_, by rw [x41]; omega⟩, ⟨by rw [x41]; omega, lo, fun _ => wf_ext w3 _⟩, wf_ext w3 _, wa, by rw [x41]; omega, X1, X2, X3, k, i1, sb_is i3, a1, t1.is, i26, sb_is sb2, ?_, sb_is d2, f1⟩
  · rw [ext_out X3 _ (Or.inl (by rw [x31]; omega)), d3.2 r (by omega) (by omega)]; exact e2
  · rw [chr_c k k26]; exact d1
theorem rndw_l : ∀ (d fuel : Nat) (X : gH) (x : Nat) (M : List Nat), d < fuel → rdIs X r → wf X → wordAt X x M → smL M → 1 ≤ M.length → M.length + d ≤ 12 → (∀ cs, ∃ g : Nat → Int32, txt G (ext X cs) x M.length g ∧ ∀ k, k < M.length → g k = nI (byt M k)) → ∃ (M' : List Nat) (x' : Nat) (X' : gH), f_L_randomWord_b36 G fuel X r x (nI d) = some (x', X') ∧ rdIs X' r ∧ grew r X X' ∧ wf X' ∧ wordAt X' x' M' ∧ smL M' ∧ 1 ≤ M'.length ∧ M'.length = M.length + d ∧ (d = 0 → x' = x ∧ X' = X ∧ M' = M) ∧ (0 < d → X.1 ≤ x') := by
  intro d
  induction d with
  | zero =>
    intro fuel X x M hf t W w sm l1 l2 tx
    obtain ⟨fu, rfl⟩ := Nat.exists_eq_succ_of_ne_zero (Nat.ne_of_gt hf)
    refine ⟨M, x, X, ?_, t, grew.refl r X, W, w, sm, l1, rfl, fun _ => ⟨rfl, rfl, rfl⟩, fun z => absurd z (Nat.lt_irrefl 0)⟩
    rw [f_L_randomWord_b36, nI_0, if_neg (by decide)]
  | succ d ih =>
    intro fuel X x M hf t W w sm l1 l2 tx
    obtain ⟨fu, rfl⟩ := Nat.exists_eq_succ_of_ne_zero (Nat.ne_of_gt (Nat.zero_lt_of_lt hf))
    obtain ⟨c, X', c1, c2, t', gr, W', w', lt', X1, X2, X3, k, i1, i2, i3, i4, i5, i6, i7, i8, i9⟩ := grow_c (G := G) t W tx sm (by omega)
    have p : (0 : Int32) < nI (d + 1) := by rw [show (0 : Int32) = nI 0 from nI_0.symm, nI_ltI (by decide) (by omega)]; omega
    have e : nI (d + 1) + -1 = nI d := by
      rw [← Int32.sub_eq_add_neg, e1n, nI_sub (by omega)]; rfl
    have len : (M ++ [c]).length = M.length + 1 := by rw [List.length_append]; rfl
    have tx' : ∀ cs, ∃ g : Nat → Int32, txt G (ext X' cs) (X.1 + 2) (M ++ [c]).length g ∧ ∀ k, k < (M ++ [c]).length → g k = nI (byt (M ++ [c]) k) := fun cs => (w'.keep (fun q c e => ext_out X' cs (Or.inl (W' q c e)))).tx
    obtain ⟨M', x', X'', q1, q2, q3, q4, q5, q6, q7, q8, q9, q10⟩ := ih fu X' (X.1 + 2) (M ++ [c]) (by omega) t' W' w' (sm.app (fun y hy => by rw [List.mem_singleton.mp hy]; exact ⟨c1, c2⟩)) (by rw [len]; omega) (by rw [len]; omega) tx'
    refine ⟨M', x', X'', ?_, q2, gr.trans q3, q4, q5, q6, q7, by rw [q8, len]; omega, fun z => absurd z (by omega), fun _ => ?_⟩
    · rw [f_L_randomWord_b36, if_pos p]
      unfold g_mk
      rw [Option.bind_some, i1, Option.bind_some, i2, cond_true, i3, Option.bind_some, i4, cond_true, i5, Option.bind_some, i6, cond_true, i7, Option.bind_some, i8, cond_true, i9, Option.bind_some, e]
      exact q1
    · rcases Nat.eq_zero_or_pos d with z | z
      · rw [(q9 z).1]; omega
      · exact Nat.le_trans gr.1 (q10 z)
theorem word_c {h : gH} (t : rdIs h r) (W : wf h) (tx : ∀ cs, ∃ g : Nat → Int32, txt G (ext h cs) (g_aK G 23) 0 g) : ∃ (M : List Nat) (x : Nat) (h' : gH), f_L_randomWord G h r = some (x, h') ∧ rdIs h' r ∧ grew r h h' ∧ wf h' ∧ wordAt h' x M ∧ smL M ∧ 1 ≤ M.length ∧ M.length ≤ 11 ∧ h.1 ≤ x := by
  obtain ⟨c, X', c1, c2, t', gr, W', w', lt', X1, X2, X3, k, i1, i2, i3, i4, i5, i6, i7, i8, i9⟩ := grow_c (G := G) t W (M := []) (fun cs => ⟨_, (tx cs).choose_spec, fun k hk => absurd hk (Nat.not_lt_zero k)⟩) (fun y hy => absurd hy (by simp)) (by simp)
  obtain ⟨d, X'', d11, b1, b2, b3, b4⟩ := below_c G t' (b := 11) (by decide) (by decide)
  have i11 : f_X11_below G X' r 11 = some (nI d, X'') := b1
  have t2 := b2
  have W2 := b3.2.2 W'
  have w2 : wordAt X'' (h.1 + 2) ([] ++ [c]) := w'.grew t' W' b3.2.1
  have tx2 : ∀ cs, ∃ g : Nat → Int32, txt G (ext X'' cs) (h.1 + 2) ([] ++ [c]).length g ∧ ∀ k, k < ([] ++ [c]).length → g k = nI (byt ([] ++ [c]) k) := fun cs => (w2.keep (fun q c e => ext_out X'' cs (Or.inl (W2 q c e)))).tx
  obtain ⟨M', x', X3', q1, q2, q3, q4, q5, q6, q7, q8, q9, q10⟩ := rndw_l (G := G) d 12 X'' (h.1 + 2) ([] ++ [c]) (by omega) t2 W2 w2 (fun y hy => by rw [List.nil_append] at hy; rw [List.mem_singleton.mp hy]; exact ⟨c1, c2⟩) (by simp) (by simp; omega) tx2
  refine ⟨M', x', X3', ?_, q2, gr.trans (b3.trans q3), q4, q5, q6, q7, by rw [q8]; simp; omega, ?_⟩
  · unfold f_L_randomWord g_mk
    rw [Option.bind_some, i1, Option.bind_some, i2, cond_true, i3, Option.bind_some, i4, cond_true, i5, Option.bind_some, i6, cond_true, i7, Option.bind_some, i8, cond_true, i9, Option.bind_some, t'.is, cond_true, i11, Option.bind_some]
    exact q1
  · rcases Nat.eq_zero_or_pos d with z | z
    · rw [(q9 z).1]; omega
    · have := gr.1
      have := b3.1
      have := q10 z
      omega
end RW
