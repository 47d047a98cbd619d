/-! the data row is written: what holds then -/
theorem upd_if (f : Nat → Int32) (i : Nat) (v : Int32) (j : Nat) : upd f i v j = if j = i then v else f j := rfl
theorem relMs.p3 {M : RMs} {a : Nat} {D : Nat → Int32} (h : relMs M a D) (hl : M.len ≤ 24) (v : Int32) : relMs (M.s_phase v) a (upd D (a + 3) v) := by
  obtain ⟨h1, h2, h3, h4, h5, h6, h7, h8, h9, h10⟩ := h
  refine ⟨?_, ?_, ?_, upd_at _ _ _, ?_, ?_, fun k hk => ?_, fun k hk => ?_, fun k hk => ?_, fun k hk => ?_⟩
  · rw [upd_ne (by omega)]; exact h1
  · rw [upd_ne (by omega)]; exact h2
  · rw [upd_ne (by omega)]; exact h3
  · rw [upd_ne (by omega)]; exact h5
  · rw [upd_ne (by omega)]; exact h6
  · rw [upd_ne (by omega)]; exact h7 k hk
  · rw [upd_ne (by omega)]; exact h8 k hk
  · rw [upd_ne (by omega)]; exact h9 k hk
  · rw [upd_ne (by omega)]; exact h10 k hk
theorem relMs.p4 {M : RMs} {a : Nat} {D : Nat → Int32} (h : relMs M a D) (v : Int32) : relMs (M.s_began v) a (upd D (a + 4) v) := by
  obtain ⟨h1, h2, h3, h4, h5, h6, h7, h8, h9, h10⟩ := h
  refine ⟨?_, ?_, ?_, ?_, upd_at _ _ _, ?_, fun k hk => ?_, fun k hk => ?_, fun k hk => ?_, fun k hk => ?_⟩
  · rw [upd_ne (by omega)]; exact h1
  · rw [upd_ne (by omega)]; exact h2
  · rw [upd_ne (by omega)]; exact h3
  · rw [upd_ne (by omega)]; exact h4
  · rw [upd_ne (by omega)]; exact h6
  · rw [upd_ne (by omega)]; exact h7 k hk
  · rw [upd_ne (by omega)]; exact h8 k hk
  · rw [upd_ne (by omega)]; exact h9 k hk
  · rw [upd_ne (by omega)]; exact h10 k hk
theorem relMs.p5 {M : RMs} {a : Nat} {D : Nat → Int32} (h : relMs M a D) (v : Int32) : relMs (M.s_ended v) a (upd D (a + 5) v) := by
  obtain ⟨h1, h2, h3, h4, h5, h6, h7, h8, h9, h10⟩ := h
  refine ⟨?_, ?_, ?_, ?_, ?_, upd_at _ _ _, fun k hk => ?_, fun k hk => ?_, fun k hk => ?_, fun k hk => ?_⟩
  · rw [upd_ne (by omega)]; exact h1
  · rw [upd_ne (by omega)]; exact h2
  · rw [upd_ne (by omega)]; exact h3
  · rw [upd_ne (by omega)]; exact h4
  · rw [upd_ne (by omega)]; exact h5
  · rw [upd_ne (by omega)]; exact h7 k hk
  · rw [upd_ne (by omega)]; exact h8 k hk
  · rw [upd_ne (by omega)]; exact h9 k hk
  · rw [upd_ne (by omega)]; exact h10 k hk
theorem relMs.p30 {M : RMs} {a k0 : Nat} {D : Nat → Int32} (h : relMs M a D) (h24 : M.len ≤ 24) (hk0 : k0 < 24) (v : Int32) : relMs (M.s_log (upd M.log k0 v)) a (upd D (a + (30 + k0)) v) := by
  obtain ⟨h1, h2, h3, h4, h5, h6, h7, h8, h9, h10⟩ := h
  refine ⟨?_, ?_, ?_, ?_, ?_, ?_, fun k (hk : k < M.len) => ?_, fun k hk => ?_, fun k hk => ?_, fun k hk => ?_⟩
  · rw [upd_ne (by omega)]; exact h1
  · rw [upd_ne (by omega)]; exact h2
  · rw [upd_ne (by omega)]; exact h3
  · rw [upd_ne (by omega)]; exact h4
  · rw [upd_ne (by omega)]; exact h5
  · rw [upd_ne (by omega)]; exact h6
  · rw [upd_ne (by omega)]; exact h7 k hk
  · show upd D (a + (30 + k0)) v (a + (30 + k)) = upd M.log k0 v k
    by_cases c : k = k0
    · subst c; rw [upd_at, upd_at]
    · rw [upd_ne (by omega), upd_ne c]; exact h8 k hk
  · rw [upd_ne (by omega)]; exact h9 k hk
  · rw [upd_ne (by omega)]; exact h10 k hk
theorem relMs.p54 {M : RMs} {a k0 : Nat} {D : Nat → Int32} (h : relMs M a D) (h24 : M.len ≤ 24) (hk0 : k0 < 24) (v : Int32) : relMs (M.s_fst (upd M.fst k0 v)) a (upd D (a + (54 + k0)) v) := by
  obtain ⟨h1, h2, h3, h4, h5, h6, h7, h8, h9, h10⟩ := h
  refine ⟨?_, ?_, ?_, ?_, ?_, ?_, fun k (hk : k < M.len) => ?_, fun k hk => ?_, fun k hk => ?_, fun k hk => ?_⟩
  · rw [upd_ne (by omega)]; exact h1
  · rw [upd_ne (by omega)]; exact h2
  · rw [upd_ne (by omega)]; exact h3
  · rw [upd_ne (by omega)]; exact h4
  · rw [upd_ne (by omega)]; exact h5
  · rw [upd_ne (by omega)]; exact h6
  · rw [upd_ne (by omega)]; exact h7 k hk
  · rw [upd_ne (by omega)]; exact h8 k hk
  · show upd D (a + (54 + k0)) v (a + (54 + k)) = upd M.fst k0 v k
    by_cases c : k = k0
    · subst c; rw [upd_at, upd_at]
    · rw [upd_ne (by omega), upd_ne c]; exact h9 k hk
  · rw [upd_ne (by omega)]; exact h10 k hk
theorem relMs.p78 {M : RMs} {a k0 : Nat} {D : Nat → Int32} (h : relMs M a D) (h24 : M.len ≤ 24) (hk0 : k0 < 24) (v : Int32) : relMs (M.s_tries (upd M.tries k0 v)) a (upd D (a + (78 + k0)) v) := by
  obtain ⟨h1, h2, h3, h4, h5, h6, h7, h8, h9, h10⟩ := h
  refine ⟨?_, ?_, ?_, ?_, ?_, ?_, fun k (hk : k < M.len) => ?_, fun k hk => ?_, fun k hk => ?_, fun k hk => ?_⟩
  · rw [upd_ne (by omega)]; exact h1
  · rw [upd_ne (by omega)]; exact h2
  · rw [upd_ne (by omega)]; exact h3
  · rw [upd_ne (by omega)]; exact h4
  · rw [upd_ne (by omega)]; exact h5
  · rw [upd_ne (by omega)]; exact h6
  · rw [upd_ne (by omega)]; exact h7 k hk
  · rw [upd_ne (by omega)]; exact h8 k hk
  · rw [upd_ne (by omega)]; exact h9 k hk
  · show upd D (a + (78 + k0)) v (a + (78 + k)) = upd M.tries k0 v k
    by_cases c : k = k0
    · subst c; rw [upd_at, upd_at]
    · rw [upd_ne (by omega), upd_ne c]; exact h10 k hk
/-! counting the frames that aren't at their end -/
theorem cnt_less {p q : Nat → Bool} {f : Nat} : ∀ {n : Nat}, f < n → p f = true → q f = false → (∀ j, j < n → j ≠ f → q j = p j) → cnt p n = cnt q n + 1
  | 0, h, _, _, _ => absurd h (by omega)
  | n + 1, h, e1, e2, e3 => by
    rw [cnt, cnt]
    by_cases c : f = n
    · subst c
      rw [e1, e2, cnt_congr (p := q) (q := p) (n := f) (fun j hj => e3 j (by omega) (by omega))]
      simp
    · have ih := cnt_less (p := p) (q := q) (n := n) (show f < n by omega) e1 e2 (fun j hj hn => e3 j (by omega) hn)
      rw [ih, e3 n (by omega) (by omega)]
      omega
/-- a frame in work gets another state (the tries, too): the message's numbers then -/
theorem RMs.inv.keep {M : RMs} {z l f : Nat} (h : M.inv z l) (hf : f < M.frames) (hw : M.fst f < 2) {s : Nat} (hs : s < 2) : (M.s_fst (upd M.fst f (nI s))).inv z l := by
  obtain ⟨h1, h2, h3, h4, h5, h6, h7, h8, h9, h10⟩ := h
  refine ⟨h1, h2, h3, h4, h5, h6, h7, ?_, fun g hg => ?_, h10⟩
  · show M.unf = _
    rw [h8]
    congr 1
    refine cnt_congr (fun j hj => ?_)
    show decide (M.fst j < 2) = decide (upd M.fst f (nI s) j < 2)
    by_cases c : j = f
    · subst c
      rw [upd_at, decide_eq_true hw, decide_eq_true]
      rw [show (2 : Int32) = nI 2 by decide]
      exact nI_lt hs (by omega)
    · rw [upd_ne c]
  · obtain ⟨⟨s', q1, q2⟩, t, q3, q4, q5⟩ := h9 g hg
    by_cases c : g = f
    · subst c
      refine ⟨⟨s, by omega, upd_at _ _ _⟩, t, q3, q4, fun _ => q5 hw⟩
    · refine ⟨⟨s', q1, ?_⟩, t, q3, q4, fun e => q5 ?_⟩
      · show upd M.fst f (nI s) g = _
        rw [upd_ne c]; exact q2
      · have e2 : upd M.fst f (nI s) g < 2 := e
        rwa [upd_ne c] at e2
/-- a frame comes to its end -/
theorem RMs.inv.done {M : RMs} {z l f : Nat} (h : M.inv z l) (h1z : 1 ≤ z) (hf : f < M.frames) (hw : M.fst f < 2) {s : Nat} (hs : s = 2 ∨ s = 3) (T : Nat → Int32) (hT : ∀ g, g ≠ f → T g = M.tries g) (hTf : ∃ t : Nat, t ≤ l ∧ T f = nI t) : (RMs.mk M.sender M.urgency M.len M.fsize M.frames M.phase M.began M.ended (M.unf - 1) M.letters M.log (upd M.fst f (nI s)) T).inv z l := by
  have h24 := h.fr24 h1z
  obtain ⟨h1, h2, h3, h4, h5, h6, h7, h8, h9, h10⟩ := h
  have s2 : ¬ nI s < 2 := by
    rw [show (2 : Int32) = nI 2 by decide]
    exact nI_nlt (by omega) (by omega)
  refine ⟨h1, h2, h3, h4, h5, h6, h7, ?_, fun g (hg : g < M.frames) => ?_, h10⟩
  · show M.unf - 1 = nI (cnt (fun j => decide (upd M.fst f (nI s) j < 2)) M.frames)
    rw [h8, cnt_less (p := fun j => decide (M.fst j < 2)) (q := fun j => decide (upd M.fst f (nI s) j < 2)) hf (decide_eq_true hw) (by rw [upd_at]; exact decide_eq_false s2) (fun j _ hj => by show decide (upd M.fst f (nI s) j < 2) = decide (M.fst j < 2); rw [upd_ne hj]), nI_pred]
  · obtain ⟨⟨s', q1, q2⟩, t, q3, q4, q5⟩ := h9 g hg
    by_cases c : g = f
    · subst c
      obtain ⟨t', t1, t2⟩ := hTf
      refine ⟨⟨s, by omega, upd_at _ _ _⟩, t', t1, t2, fun e => ?_⟩
      have e2 : upd M.fst g (nI s) g < 2 := e
      rw [upd_at] at e2
      exact absurd e2 s2
    · refine ⟨⟨s', q1, ?_⟩, t, q3, by rw [← q4]; exact hT g c, fun e => q5 ?_⟩
      · show upd M.fst f (nI s) g = _
        rw [upd_ne c]; exact q2
      · have e2 : upd M.fst f (nI s) g < 2 := e
        rwa [upd_ne c] at e2
/-- the tries of a frame that is open again -/
theorem RMs.inv.again {M : RMs} {z l f : Nat} (h : M.inv z l) (hf : f < M.frames) (hw : M.fst f < 2) {t : Nat} (ht : t < l) : (RMs.mk M.sender M.urgency M.len M.fsize M.frames M.phase M.began M.ended M.unf M.letters M.log (upd M.fst f 0) (upd M.tries f (nI t))).inv z l := by
  obtain ⟨h1, h2, h3, h4, h5, h6, h7, h8, h9, h10⟩ := h
  refine ⟨h1, h2, h3, h4, h5, h6, h7, ?_, fun g (hg : g < M.frames) => ?_, h10⟩
  · show M.unf = nI (cnt (fun j => decide (upd M.fst f 0 j < 2)) M.frames)
    rw [h8]
    congr 1
    refine cnt_congr (fun j hj => ?_)
    show decide (M.fst j < 2) = decide (upd M.fst f 0 j < 2)
    by_cases c : j = f
    · subst c
      rw [upd_at, decide_eq_true hw]
      rfl
    · rw [upd_ne c]
  · obtain ⟨⟨s', q1, q2⟩, t', q3, q4, q5⟩ := h9 g hg
    by_cases c : g = f
    · subst c
      exact ⟨⟨0, by omega, by show upd M.fst g 0 g = nI 0; rw [upd_at, nI_0]⟩, t, by omega, upd_at _ _ _, fun _ => ht⟩
    · refine ⟨⟨s', q1, ?_⟩, t', q3, ?_, fun e => q5 ?_⟩
      · show upd M.fst f 0 g = _
        rw [upd_ne c]; exact q2
      · show upd M.tries f (nI t) g = _
        rw [upd_ne c]; exact q4
      · have e2 : upd M.fst f 0 g < 2 := e
        rwa [upd_ne c] at e2
/-! numbers modulo 26 -/
theorem rem_nI (n : Nat) (h : n < 2 ^ 31) : g_rem (nI n) 26 = nI (n % 26) := by
  unfold g_rem
  rw [show (26 : Int32) = nI 26 by decide, nI_div h (by decide) (by decide), nI_mul, nI_sub (Nat.div_mul_le_self n 26)]
  congr 1
  have := Nat.div_add_mod n 26
  omega
theorem flm_neg : ∀ n : Nat, n < 26 → flm (nI n - 26) = nI n := by decide +kernel
theorem flm_pos : ∀ n : Nat, n < 80 → flm (nI n) = nI (n % 26) := by decide +kernel
theorem flm_eq {l p q g : Nat} (hl : l < 26) (hp : p < 26) (hq : q < 26) (hg : g ≤ 1) : flm (nI l + (nI p - nI q) + nI g) = g_rem (g_rem (g_rem (nI l + nI p) 26 + nI g) 26 + 26 - nI q) 26 := by
  have e1 : g_rem (g_rem (g_rem (nI l + nI p) 26 + nI g) 26 + 26 - nI q) 26 = nI (((((l + p) % 26 + g) % 26) + 26 - q) % 26) := by
    rw [nI_add, rem_nI _ (by omega), nI_add, rem_nI _ (by omega), show (26 : Int32) = nI 26 by decide, nI_add, nI_sub (by omega), show nI 26 = (26 : Int32) by decide, rem_nI _ (by omega)]
  rw [e1]
  by_cases c : q ≤ l + p + g
  · have e : nI l + (nI p - nI q) + nI g = nI (l + p + g - q) := by
      rw [← nI_sub c, ← nI_add, ← nI_add, Int32.sub_eq_add_neg, Int32.sub_eq_add_neg]
      ac_rfl
    rw [e, flm_pos _ (by omega)]
    congr 1
    omega
  · have e : nI l + (nI p - nI q) + nI g = nI (l + p + g + 26 - q) - 26 := by
      rw [show (26 : Int32) = nI 26 by decide, ← nI_sub (show q ≤ l + p + g + 26 by omega), ← nI_add, ← nI_add, ← nI_add, Int32.sub_eq_add_neg, Int32.sub_eq_add_neg, Int32.sub_eq_add_neg]
      have : nI l + nI p + nI g + nI 26 + -nI q + -nI 26 = nI l + nI p + nI g + -nI q + (nI 26 + -nI 26) := by ac_rfl
      rw [this, Int32.add_right_neg, Int32.add_zero]
      ac_rfl
    rw [e, flm_neg _ (by omega)]
    congr 1
    omega
