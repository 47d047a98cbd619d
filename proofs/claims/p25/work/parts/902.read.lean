/-! what randomLine has written so far, as load will read it -/
/-- one statement read: the reader stands behind it -/
def stOk (T : Nat → Int32) (R : RRd) (V : RW) (e : Nat) (b : Int32) (V' : RW) : Prop := ∃ S, readStatement T R V = (true, S, V') ∧ S.pos = e ∧ S.told = b ∧ S.text = R.text ∧ S.len = R.len ∧ S.tok ≤ S.len
def stL (i : Nat) (ns : List Nat) : List Nat := wK i ++ (nmsL ns ++ [59])
def msL (s u : Nat) (M : List Nat) : List Nat := wK 4 ++ (nmsL [s, u] ++ ([32] ++ (M ++ [59])))
section RDP
variable {T : Nat → Int32} {R : RRd} {L Q : List Nat} {V : RW}
theorem st_of {A : List Nat} {i d : Nat} {Q' : List Nat} {V' : RW} {b : Int32} {f : RRd → Bool × RRd × RW} (t : tL T R (L ++ (A ++ Q))) (hp : R.pos = L.length) (eA : A ++ Q = wK i ++ ([d] ++ Q')) (hd : d < 97 ∨ 122 < d) (hf : ∀ R1 : RRd, (∀ j, R1.isTok T j = tokB (wK i) j) → R1 = R.word T → readStatement T R V = thenSemi T (f R1)) (hg : ∀ R1 : RRd, R1.pos = (L ++ wK i).length → R1.told = R.told → R1.len = R.len → R1.text = R.text → ∃ S P', f R1 = (true, S, V') ∧ L ++ (A ++ Q) = P' ++ ([59] ++ Q) ∧ S.pos = P'.length ∧ S.told = b ∧ S.text = R1.text ∧ S.len = R1.len) : stOk T R V (L ++ A).length b V' := by
  obtain ⟨t0, w, wt⟩ := word_2 (P := L) (i := i) (d := d) (Q := Q') t (by rw [eA]) hp hd
  obtain ⟨S, P', q1, q2, q3, q4, q5, q6⟩ := hg (R.go (L ++ wK i).length t0) rfl rfl rfl rfl
  obtain ⟨S', x1, x2, x3, x4, x5, x6⟩ := st_end (R := R) (S := S) (P := P') (Q := Q) t q2 q1 q3 q6 q5
  refine ⟨S', ?_, ?_, x3.trans q4, x4, x5, x6⟩
  · rw [hf _ wt w.symm]
    exact x1
  · have a := congrArg List.length q2
    rw [x2]
    simp only [List.length_append] at a ⊢
    omega
theorem channel_st {c p o u : Nat} (t : tL T R (L ++ (stL 1 [c, p, o, u] ++ Q))) (hp : R.pos = L.length) (hc : c < 2) (hp9 : p < 10) (ho : o < 24) (hu : u < 24) (hb : (R.told &&& (1 <<< (nI c &&& 31))) = 0) : stOk T R V (L ++ stL 1 [c, p, o, u]).length (R.told ||| (1 <<< (nI c &&& 31))) (V.chW (decide (nI c ≠ 0)) (nI p) (nI o) (nI u)) := by
  refine st_of (i := 1) (d := 32) (f := fun R1 => readChannel T R1 V) t hp (by simp only [stL, nmsL, List.append_assoc]; rfl) (by decide) (fun R1 h1 c1 => ?_) (fun R1 h1 h2 h3 h4 => ?_)
  · subst c1
    unfold readStatement
    simp only [h1, tok_tab.2.1, if_true]
  · obtain ⟨S, P', q1, q2, q3, q4, q5, q6⟩ := channel_t (R := R1) (Q := Q) (P := L ++ wK 1) (L := L ++ (stL 1 [c, p, o, u] ++ Q)) ⟨h3.trans t.1, t.2⟩ hc hp9 ho hu (by simp only [stL, List.append_assoc]) h1 (by rw [h2]; exact hb) V
    exact ⟨S, P', q1, q2, q3, by rw [q4, h2], q5, q6⟩
theorem keeper_st {s k y : Nat} (t : tL T R (L ++ (stL 2 [s, k, y] ++ Q))) (hp : R.pos = L.length) (hs : s < 2) (hk : k < 100) (hy : y < 26) (h8 : (V.kp (nI s)).told < 8) (hn : (V.kp (nI s)).place (nI k) = none) : stOk T R V (L ++ stL 2 [s, k, y]).length R.told (V.setKp (nI s) ((V.kp (nI s)).come (nI k) (nI y))) := by
  refine st_of (i := 2) (d := 32) (f := fun R1 => readKeeper T R1 V) t hp (by simp only [stL, nmsL, List.append_assoc]; rfl) (by decide) (fun R1 h1 c1 => ?_) (fun R1 h1 h2 h3 h4 => ?_)
  · subst c1
    unfold readStatement
    simp only [h1, tok_tab, if_true, Bool.false_eq_true, if_false]
  · obtain ⟨S, P', q1, q2, q3, q4, q5, q6⟩ := keeper_t (R := R1) (Q := Q) (P := L ++ wK 2) (L := L ++ (stL 2 [s, k, y] ++ Q)) ⟨h3.trans t.1, t.2⟩ hs hk hy (by simp only [stL, List.append_assoc]) h1 h8 hn
    exact ⟨S, P', q1, q2, q3, by rw [q4, h2], q5, q6⟩
theorem mist_st {x y z : Nat} (t : tL T R (L ++ (stL 3 [x, y, z] ++ Q))) (hp : R.pos = L.length) (hxy : x ≤ y) (hy : y < 100) (hz : z < 10) (h12 : V.mi.told < 12) : stOk T R V (L ++ stL 3 [x, y, z]).length R.told (V.fogged (nI x) (nI y) (nI z)) := by
  refine st_of (i := 3) (d := 32) (f := fun R1 => readMist T R1 V) t hp (by simp only [stL, nmsL, List.append_assoc]; rfl) (by decide) (fun R1 h1 c1 => ?_) (fun R1 h1 h2 h3 h4 => ?_)
  · subst c1
    unfold readStatement
    simp only [h1, tok_tab, if_true, Bool.false_eq_true, if_false]
  · obtain ⟨S, P', q1, q2, q3, q4, q5, q6⟩ := mist_t (R := R1) (Q := Q) (P := L ++ wK 3) (L := L ++ (stL 3 [x, y, z] ++ Q)) ⟨h3.trans t.1, t.2⟩ hxy hy hz (by simp only [stL, List.append_assoc]) h1 h12
    exact ⟨S, P', q1, q2, q3, by rw [q4, h2], q5, q6⟩
theorem message_st {s u : Nat} {M : List Nat} (t : tL T R (L ++ (msL s u M ++ Q))) (hp : R.pos = L.length) (hs : s < 2) (hu : u < 10) (sm : smL M) (m1 : 1 ≤ M.length) (m2 : M.length ≤ 24) (h8 : V.told < 8) : stOk T R V (L ++ msL s u M).length R.told (V.addMsg (nI s) (nI u) (fun i => nI (byt M i)) 0 M.length) := by
  refine st_of (i := 4) (d := 32) (f := fun R1 => readMessage T R1 V) t hp (by simp only [msL, nmsL, List.append_assoc]; rfl) (by decide) (fun R1 h1 c1 => ?_) (fun R1 h1 h2 h3 h4 => ?_)
  · subst c1
    unfold readStatement
    simp only [h1, tok_tab, if_true, Bool.false_eq_true, if_false]
  · obtain ⟨S, P', q1, q2, q3, q4, q5, q6⟩ := message_t (R := R1) (Q := Q) (P := L ++ wK 4) (L := L ++ (msL s u M ++ Q)) ⟨h3.trans t.1, t.2⟩ hs hu sm m1 m2 (by simp only [msL, List.append_assoc]) h1 h8
    exact ⟨S, P', q1, q2, q3, by rw [q4, h2], q5, q6⟩
end RDP
/-- the text L, read over the world V0, gives V and goes on behind L -/
def PR (L : List Nat) (V0 V : RW) (tb : Int32) (ns : Nat) : Prop := ns ≤ L.length ∧ asL L ∧ ∀ (h : gH) (a w t : Nat) (T : Nat → Int32) (R : RRd) (Q : List Nat), Jo h a w t T → R.text = t → tL T R (L ++ Q) → R.pos = 0 → R.told = 0 → R.tok = 0 → ∃ S : RRd, (S.pos = L.length ∧ S.told = tb ∧ S.text = t ∧ S.len = R.len ∧ S.tok ≤ S.len) ∧ f_X5_readInto (rdP (wdP h w V0) a R) a w = f_X5_readInto_b12 (g_N - ns) (rdP (wdP h w V) a S) a w (nI ns)
theorem stL_as (i : Nat) : ∀ ns : List Nat, (∀ n, n ∈ ns → n < 100) → asL (stL i ns) := fun ns hn => by
  have a1 : ∀ ns : List Nat, (∀ n, n ∈ ns → n < 100) → asL (nmsL ns) := fun ns => by
    induction ns with
    | nil => exact fun _ c hc => nomatch hc
    | cons n r ih =>
      intro hn c hc
      rcases List.mem_append.mp hc with hc | hc
      · have : c = 32 := by simpa using hc
        omega
      · rcases List.mem_append.mp hc with hc | hc
        · have hn1 := hn n (by simp)
          unfold nmL at hc
          by_cases c9 : n < 10
          · rw [if_pos c9] at hc
            have : c = 48 + n := by simpa using hc
            omega
          · rw [if_neg c9] at hc
            have : c = 48 + n / 10 ∨ c = 48 + n % 10 := by simpa using hc
            omega
        · exact ih (fun m hm => hn m (by simp [hm])) c hc
  intro c hc
  rcases List.mem_append.mp hc with hc | hc
  · have := wK_sm i c hc
    omega
  · rcases List.mem_append.mp hc with hc | hc
    · exact a1 ns hn c hc
    · have : c = 59 := by simpa using hc
      omega
theorem PR_0 {z l : Nat} (z1 : 1 ≤ z) (z8 : z ≤ 8) (l1 : 1 ≤ l) (l9 : l ≤ 9) (V0 : RW) : PR (stL 0 [z, l]) V0 (V0.clear z (nI l)) 0 0 := by
  refine ⟨Nat.zero_le _, stL_as 0 _ (fun n hn => by have : n = z ∨ n = l := by simpa using hn
                                                    omega), fun h a w t T R Q J et tl hp h0 hk => ?_⟩
  obtain ⟨S, q1, q2, q3, q4, q5, q6⟩ := relay_t (R := R) (Q := Q) tl hp z1 z8 l1 l9 rfl V0
  refine ⟨S, ⟨q2, q3.trans h0, q4.trans et, q5, q6⟩, ?_⟩
  have hl : R.len ≤ 500 := by rw [tl.1]; exact tl.2.1
  have rr := relay_rd J (R := R) ⟨et, fun W => J.wd W et hl (by omega) (by omega)⟩ V0
  rw [q1] at rr
  unfold f_X5_readInto
  rw [rdP_g, cond_true, rr, Option.bind_some]
  rw [nI_0]
  rfl
theorem PR_add {L M : List Nat} {V0 V V' : RW} {tb tb' : Int32} {ns : Nat} (p : PR L V0 V tb ns) (ok : V.ok) (h100 : ns < 100) {c : Nat} {M' : List Nat} (eM : M = c :: M') (hc : c ≠ 32) (as : asL M) (hs : ∀ (T : Nat → Int32) (R : RRd) (Q : List Nat), tL T R (L ++ (M ++ Q)) → R.pos = L.length → R.told = tb → stOk T R V (L ++ M).length tb' V') : PR (L ++ M) V0 V' tb' (ns + 1) := by
  obtain ⟨p1, p2, p3⟩ := p
  have lM : 1 ≤ M.length := by rw [eM]; simp
  refine ⟨by rw [List.length_append]; omega, fun x hx => (List.mem_append.mp hx).elim (p2 x) (as x), fun h a w t T R Q J et tl hp h0 hk => ?_⟩
  rw [List.append_assoc] at tl
  obtain ⟨S, ⟨s1, s2, s3, s4, s5⟩, e⟩ := p3 h a w t T R (M ++ Q) J et tl hp h0 hk
  have hl : R.len ≤ 500 := by rw [tl.1]; exact tl.2.1
  have ll : R.len = L.length + (M.length + Q.length) := by rw [tl.1]; simp only [List.length_append]
  have tS : tL T S (L ++ (M ++ Q)) := ⟨s4.trans tl.1, tl.2⟩
  have f0 := found_0 (R := S) (P := L) (c := c) (Q := M' ++ Q) tS (by rw [eM]; rfl) s1 hc
  have wS : S.w h a w t T := ⟨s3, fun W => J.wd W s3 (by omega) (by omega) s5⟩
  have fr := found_rd (wS.2 V)
  rw [f0] at fr
  obtain ⟨S', x1, x2, x3, x4, x5, x6⟩ := hs T (S.go L.length L.length) Q tS rfl s2
  have wG : (S.go L.length L.length).w h a w t T := ⟨s3, fun W => J.wd W s3 (by show S.len ≤ 500; omega) (by show L.length ≤ S.len; omega) (by show L.length ≤ S.len; omega)⟩
  have sr := statement_rd J wG ok
  rw [x1] at sr
  refine ⟨S', ⟨x2, x3, x4.trans s3, x5.trans s4, x6⟩, e.trans ?_⟩
  obtain ⟨fu, hfu⟩ : ∃ fu, g_N - ns = fu + 1 := ⟨g_N - ns - 1, by unfold g_N; omega⟩
  have hfu2 : g_N - (ns + 1) = fu := by omega
  have b1 : bI (decide ((S.go L.length L.length).pos < S.len)) = 1 := by
    rw [decide_eq_true (show (S.go L.length L.length).pos < S.len from by show L.length < S.len; omega)]
    rfl
  have g1 : g_gI (rdP (wdP h w V) a S) a 5 1 = some (nI S.len) := rdG_len _ _ _
  rw [hfu, hfu2, f_X5_readInto_b12, g1, Option.bind_some, if_pos (nI_lt (show ns < S.len by omega) (show S.len < 2 ^ 31 by omega)), rdP_g, cond_true, fr, Option.bind_some, b1, if_neg (show ¬ (1 : Int32) = 0 by decide), rdP_g, cond_true, sr, Option.bind_some, nI_succ]
  rfl
/-- the whole text read -/
theorem PR_end {L : List Nat} {V0 V : RW} {tb : Int32} {ns : Nat} (p : PR L V0 V tb ns) (h100 : ns < 100) {h : gH} {a w t : Nat} {T : Nat → Int32} {R : RRd} (J : Jo h a w t T) (et : R.text = t) (tl : tL T R L) (hp : R.pos = 0) (h0 : R.told = 0) (hk : R.tok = 0) : ∃ S, f_X5_readInto (rdP (wdP h w V0) a R) a w = some (bI true, rdP (wdP h w V) a S) := by
  obtain ⟨S, ⟨s1, s2, s3, s4, s5⟩, e⟩ := p.2.2 h a w t T R [] J et (by rw [List.append_nil]; exact tl) hp h0 hk
  have hl : R.len ≤ 500 := by rw [tl.1]; exact tl.2.1
  have wS : S.w h a w t T := ⟨s3, fun W => J.wd W s3 (by omega) (by rw [s1, s4, tl.1]; exact Nat.le_refl _) s5⟩
  obtain ⟨fu, hfu⟩ : ∃ fu, g_N - ns = fu + 1 := ⟨g_N - ns - 1, by unfold g_N; omega⟩
  have g1 : g_gI (rdP (wdP h w V) a S) a 5 1 = some (nI S.len) := rdG_len _ _ _
  have fr := found_rd (wS.2 V)
  have fp := (found_ok (wS.2 V)).2.2
  have b1 : bI (decide ((S.found T).pos < S.len)) = 0 := by
    rw [decide_eq_false (show ¬ (S.found T).pos < S.len from by have := tl.1; omega)]
    rfl
  rw [e, hfu, f_X5_readInto_b12, g1, Option.bind_some]
  by_cases c : nI ns < nI S.len
  · rw [if_pos c, rdP_g, cond_true, fr, Option.bind_some, b1, if_pos rfl]
    exact ⟨_, rfl⟩
  · rw [if_neg c]
    exact ⟨_, rfl⟩
