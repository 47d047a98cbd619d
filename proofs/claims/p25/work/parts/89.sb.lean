/-! a StringBuilder, and the string that it makes -/
theorem dfl13 : g_dfl 13 = [.null, .int 0, .int 0, .int 0] := by decide +kernel
theorem dfl14 : g_dfl 14 = [.null, .int 0, .int 0, .int 0] := by decide +kernel
def sbO (v : Nat) (c : Nat) : gC := .inr (13, [.ref v, .int 0, .int 0, .int (nI c)])
def stO (v : Nat) : gC := .inr (14, [.ref v, .int 0, .int 0, .int 0])
/-- at s lies a builder with the letters L -/
def sbIs (X : gH) (s v : Nat) (L : List Nat) : Prop := X.2 s = some (sbO v L.length) ∧ s ≠ v ∧ L.length ≤ 16 ∧ asL L ∧ ∃ f : Nat → Int32, X.2 v = some (.inl (1, 16, .inl f)) ∧ ∀ k, k < L.length → f k = nI (byt L k)
/-- nothing but the builder's two cells changed -/
def only2 (s v : Nat) (X X' : gH) : Prop := X'.1 = X.1 ∧ ∀ q, q ≠ s → q ≠ v → X'.2 q = X.2 q
theorem fits_b : ∀ c, c < 128 → fits .byte (.int (nI c)) = true := by decide +kernel
theorem i8_c : ∀ c, c < 128 → ((Int32.toInt8 (nI c)).toInt32).toInt8.toInt32 = nI c := by decide +kernel
theorem cpyS_of {G : gG} {h : gH} {a0 a n m sp dp N : Nat} {f g : Nat → Int32} (e1 : g_srow G h a0 = some (n, f)) (e2 : h.2 a = some (.inl (1, N, .inl g))) (h1 : sp + m ≤ n) (h2 : dp + m ≤ N) (hn : n < 2 ^ 31) (hN : N < 2 ^ 31) (hf : ∀ k, k < m → ∃ c, c < 128 ∧ f (sp + k) = nI c) : g_cpyS G h a0 (nI sp) a (nI dp) (nI m) = some (g_set h a (.inl (1, N, .inl (va_cpy f g sp dp m)))) := by
  unfold g_cpyS
  rw [e1, Option.bind_some, aI_of e2, Option.bind_some, nI_clamp (show sp < 2 ^ 31 by omega), nI_clamp (show dp < 2 ^ 31 by omega), nI_clamp (show m < 2 ^ 31 by omega)]
  have al : ((List.range m).all fun i => fits .byte (.int (f (sp + i)))) = true := by
    rw [List.all_eq_true]
    intro i hi
    obtain ⟨c, c1, c2⟩ := hf i (List.mem_range.mp hi)
    rw [c2]
    exact fits_b c c1
  rw [if_neg]
  rintro (z | z | z | z | z | z)
  · exact nI_pos (by omega) z
  · exact nI_pos (by omega) z
  · exact nI_pos (by omega) z
  · dsimp only at z; omega
  · dsimp only at z; omega
  · dsimp only at z
    rw [al] at z
    exact nomatch z
theorem shl0 : ∀ n, n < 32 → nI n <<< (0 &&& 31) = nI n := by decide +kernel
theorem shr0 : ∀ n, n < 32 → nI n >>> (0 &&& 31) = nI n := by decide +kernel
section SB
variable {G : gG} {X : gH} {s v : Nat} {L : List Nat}
theorem sb_new (h : gH) : ∃ X', f_T4_init_da8c8 G (g_add h (.inr (13, g_dfl 13))) h.1 = some X' ∧ X' = ext h [sbO (h.1 + 1) 0, .inl (1, 16, .inl fun _ => 0)] ∧ sbIs X' h.1 (h.1 + 1) [] := by
  refine ⟨_, ?_, rfl, ext_in h _ (j := 0) (by simp), by omega, by simp, fun c hc => absurd hc (by simp), fun _ => 0, ext_in h _ (j := 1) (by simp), fun k hk => absurd hk (Nat.not_lt_zero k)⟩
  unfold f_T4_init_da8c8 f_T5_init_d00df
  rw [ext_one, dfl13, if_neg (show ¬ (1 : Int32) = 0 by decide), show (16 : Int32) = nI 16 by decide, nwB_of _ (Nat.le_refl 16) (by decide), Option.bind_some, ext_add, List.cons_append, List.nil_append, ext_put _ _ _ _ _ _ (by simp), Option.bind_some, ext_put _ _ _ _ _ _ (by simp), Option.bind_some, Option.bind_some]
  rfl
theorem sb_is (t : sbIs X s v L) : g_is X s 13 = true := is_of t.1
theorem sb_G (t : sbIs X s v L) : g_gA X s 13 0 = some v ∧ g_gI X s 13 1 = some 0 ∧ g_gI X s 13 3 = some (nI L.length) := ⟨gA_of t.1 rfl, gI_of t.1 rfl, gI_of t.1 rfl⟩
theorem srow_of {h : gH} {v n : Nat} {f : Nat → Int32} (e : h.2 v = some (.inl (1, n, .inl f))) : g_srow G h v = some (n, f) := by
  unfold g_srow
  rw [e]; rfl
theorem sb_room (t : sbIs X s v L) {m : Nat} (hm : m ≤ 16) : f_T5_ensureCapacityInternal_d00df G X s (nI m) = some X := by
  obtain ⟨g0, g1, g3⟩ := sb_G t
  obtain ⟨e, ne, l16, aL, f, e2, hf⟩ := t
  have sl : g_slnA G X v = some (nI 16) := by unfold g_slnA; rw [srow_of e2]; rfl
  have lt : ¬ (0 : Int32) < nI m - nI 16 := by
    intro z
    have e16 : nI m - nI 16 ≤ 0 := by
      rw [Int32.le_iff_toInt_le, Int32.toInt_sub, nI_toInt (by omega), nI_toInt (by decide), show (0 : Int32).toInt = 0 by decide, Int.bmod_eq_of_le (by omega) (by omega)]
      omega
    exact absurd z (Int32.not_lt.mpr e16)
  unfold f_T5_ensureCapacityInternal_d00df
  rw [g0, Option.bind_some, sl, Option.bind_some, g1, Option.bind_some, shr0 16 (by decide), if_neg lt]
/-- a string's letters behind those that are there -/
theorem sb_str {x n : Nat} {g : Nat → Int32} {M : List Nat} (t : sbIs X s v L) (tx : txt G X x n g) (hM : M.length = n) (hg : ∀ k, k < n → g k = nI (byt M k)) (aM : asL M) (h16 : L.length + n ≤ 16) : ∃ X', f_T4_append_15ec4 G X s x = some (s, X') ∧ sbIs X' s v (L ++ M) ∧ only2 s v X X' := by
  obtain ⟨g0, g1, g3⟩ := sb_G t
  have gi := sb_is t
  have rm := sb_room (G := G) t (m := L.length + n) h16
  obtain ⟨e, ne, l16, aL, f, e2, hf⟩ := t
  have ln := length_t tx
  have cd := coder_t tx
  have iS := tx.isS
  obtain ⟨vx, h1, h2, h3, h4⟩ := tx
  have sl : g_slnA G X vx = some (nI n) := by unfold g_slnA; rw [h3]; rfl
  have cp := cpyS_of (G := G) (sp := 0) (dp := L.length) (m := n) h3 e2 (by omega) h16 (by omega) (by decide) (fun k hk => ⟨byt M k, asL_b aM k, by rw [Nat.zero_add]; exact hg k hk⟩)
  rw [nI_0] at cp
  generalize hX1 : g_set X v (.inl (1, 16, .inl (va_cpy g f 0 L.length n))) = X1 at cp
  have es : X1.2 s = some (sbO v L.length) := by rw [← hX1, set_ne ne]; exact e
  have ev : X1.2 v = some (.inl (1, 16, .inl (va_cpy g f 0 L.length n))) := by rw [← hX1, set_at]
  have g3' : g_gI X1 s 13 3 = some (nI L.length) := gI_of es rfl
  have pt : g_put X1 s 13 3 (.int (nI L.length + nI n)) = some (g_set X1 s (sbO v (L.length + n))) := by
    rw [nI_add]
    exact put_of es (Nat.le_of_ble_eq_true rfl)
  have ib : f_T0_getBytes_840e7 G X x v (nI L.length) 0 = some X1 := by
    unfold f_T0_getBytes_840e7
    rw [iS, cond_true, cd, Option.bind_some, if_pos rfl, h1, Option.bind_some, Option.bind_some, sl, Option.bind_some, shl0 L.length (by omega), cp, Option.bind_some]
  have inf : f_T5_inflateIfNeededFor_a7421 G X s x = some X := by
    unfold f_T5_inflateIfNeededFor_a7421
    rw [if_neg (show ¬ (1 : Int32) = 0 by decide), g1, Option.bind_some, iS, cond_true, cd, Option.bind_some, if_pos rfl]
  have ps : f_T5_putStringAt_47b60 G X s (nI L.length) x = some X1 := by
    unfold f_T5_putStringAt_47b60
    rw [gi, cond_true, inf, Option.bind_some, g0, Option.bind_some, g1, Option.bind_some, iS, cond_true, ib, Option.bind_some]
  have len : (L ++ M).length = L.length + n := by rw [List.length_append, hM]
  refine ⟨g_set X1 s (sbO v (L.length + n)), ?_, ⟨by rw [set_at, len], ne, by rw [len]; exact h16, fun c hc => ?_, va_cpy g f 0 L.length n, by rw [set_ne (Ne.symm ne)]; exact ev, fun k hk => ?_⟩, by rw [← hX1]; rfl, fun q a b => by rw [set_ne a, ← hX1, set_ne b]⟩
  · unfold f_T4_append_15ec4 f_T5_append_cf1ce
    rw [gi, cond_true, iS, cond_true, ln, Option.bind_some, g3, Option.bind_some, cond_true, nI_add, rm, Option.bind_some, g3, Option.bind_some, gi, cond_true, ps, Option.bind_some, g3', Option.bind_some, pt, Option.bind_some, Option.bind_some]
  · rcases List.mem_append.mp hc with z | z
    · exact aL c z
    · exact aM c z
  · rw [len] at hk
    unfold va_cpy
    by_cases c : k < L.length
    · rw [if_neg (by omega), hf k c, byt_lt c]
    · rw [if_pos (by omega), Nat.zero_add, hg _ (by omega), byt_ge (by omega)]
/-- a letter more -/
theorem sb_chr (t : sbIs X s v L) {c : Nat} (hc : c < 128) (h16 : L.length + 1 ≤ 16) : ∃ X', f_T4_append_cf468 G X s (nI c) = some (s, X') ∧ sbIs X' s v (L ++ [c]) ∧ only2 s v X X' := by
  obtain ⟨g0, g1, g3⟩ := sb_G t
  have gi := sb_is t
  have rm := sb_room (G := G) t (m := L.length + 1) h16
  obtain ⟨e, ne, l16, aL, f, e2, hf⟩ := t
  have c255 : nI c ≤ 255 := by rw [show (255 : Int32) = nI 255 by decide, nI_leI (by omega) (by decide)]; omega
  have pt : g_put X s 13 3 (.int (nI L.length + 1)) = some (g_set X s (sbO v (L.length + 1))) := by
    rw [← nI_succ]
    exact put_of e (Nat.le_of_ble_eq_true rfl)
  have ev : (g_set X s (sbO v (L.length + 1))).2 v = some (.inl (1, 16, .inl f)) := by rw [set_ne (Ne.symm ne)]; exact e2
  have st := bst_of (x := (Int32.toInt8 (nI c)).toInt32) ev (show L.length < 16 by omega) (by decide)
  rw [i8_c c hc] at st
  have len : (L ++ [c]).length = L.length + 1 := by rw [List.length_append]; rfl
  have n1 : nI L.length + 1 = nI (L.length + 1) := (nI_succ _).symm
  refine ⟨g_set (g_set X s (sbO v (L.length + 1))) v (.inl (1, 16, .inl (upd f L.length (nI c)))), ?_, ⟨by rw [set_ne ne, set_at, len], ne, by rw [len]; exact h16, fun y hy => ?_, upd f L.length (nI c), set_at, fun k hk => ?_⟩, rfl, fun q a b => by rw [set_ne b, set_ne a]⟩
  · unfold f_T4_append_cf468 f_T5_append_3fe6f f_T5_isLatin1_aae02 f_T1_canEncode_fc78d
    have z01 : ¬ (1 : Int32) = 0 := by decide
    rw [gi, cond_true, g3, Option.bind_some, cond_true, n1, rm, Option.bind_some, gi, cond_true, if_neg z01, g1, Option.bind_some, if_pos rfl, Option.bind_some, if_neg z01, if_pos c255, Option.bind_some, if_neg z01, g0, Option.bind_some, g3, Option.bind_some, pt, Option.bind_some, st, Option.bind_some, Option.bind_some]
  · rcases List.mem_append.mp hy with z | z
    · exact aL y z
    · rw [List.mem_singleton.mp z]; exact hc
  · rw [len] at hk
    by_cases ck : k = L.length
    · subst ck
      rw [upd_at, byt_ge (Nat.le_refl _), Nat.sub_self]; rfl
    · rw [upd_ne ck, hf k (by omega), byt_lt (by omega)]
/-- the string -/
theorem sb_toS (t : sbIs X s v L) (h15 : L.length < 16) (hs : s < X.1) (hv : v < X.1) : ∃ g : Nat → Int32, f_T4_toString_0e30d G X s = some (X.1, ext X [stO (X.1 + 1), .inl (1, L.length, .inl g)]) ∧ ∀ k, k < L.length → g k = nI (byt L k) := by
  obtain ⟨e, ne, l16, aL, f, e2, hf⟩ := t
  have es : ∀ cs, (ext X cs).2 s = some (sbO v L.length) := fun cs => (ext_out X cs (Or.inl hs)).trans e
  have ev : ∀ cs, (ext X cs).2 v = some (.inl (1, 16, .inl f)) := fun cs => (ext_out X cs (Or.inl hv)).trans e2
  have gi : ∀ cs, g_is (ext X cs) s 13 = true := fun cs => is_of (es cs)
  have g0 : ∀ cs, g_gA (ext X cs) s 13 0 = some v := fun cs => gA_of (es cs) rfl
  have g1 : ∀ cs, g_gI (ext X cs) s 13 1 = some 0 := fun cs => gI_of (es cs) rfl
  have g3 : ∀ cs, g_gI (ext X cs) s 13 3 = some (nI L.length) := fun cs => gI_of (es cs) rfl
  have sl : ∀ cs, g_slnA G (ext X cs) v = some (nI 16) := fun cs => by unfold g_slnA; rw [srow_of (ev cs)]; rfl
  have ne16 : ¬ nI L.length = nI 16 := fun z => by have := (nI_eq (by omega) (by decide)).mp z; omega
  have gv : ∀ cs, f_T5_getValue_6d5f1 G (ext X cs) s = some v := fun cs => by unfold f_T5_getValue_6d5f1; rw [g0, Option.bind_some]
  have gl : ∀ cs, f_T4_length_8abf5 G (ext X cs) s = some (nI L.length) := fun cs => by
    unfold f_T4_length_8abf5 f_T5_length_8abf5
    rw [gi, cond_true, g3, Option.bind_some, Option.bind_some]
  have il : ∀ cs, f_T5_isLatin1_aae02 G (ext X cs) s = some 1 := fun cs => by
    unfold f_T5_isLatin1_aae02
    rw [if_neg (show ¬ (1 : Int32) = 0 by decide), g1, Option.bind_some, if_pos rfl]
  have ck : ∀ Y : gH, f_T7_checkLength_df160 G Y 0 (nI L.length) = some () := fun Y => by
    unfold f_T7_checkLength_df160
    rw [if_neg (nI_pos (by omega))]
  have mn : g_min (nI 16 - 0) (nI L.length - 0) = nI L.length := by
    rw [Int32.sub_zero, Int32.sub_zero, g_min_nI (by decide) (by omega)]
    congr 1
    omega
  have cp : f_T7_copyOfRange_39247 G (ext X [.inr (14, [.null, .int 0, .int 0, .int 0])]) v 0 (nI L.length) = some (X.1 + 1, ext X [.inr (14, [.null, .int 0, .int 0, .int 0]), .inl (1, L.length, .inl (va_cpy f (fun _ => 0) 0 0 L.length))]) := by
    have c0 := cpyS_of (G := G) (h := ext X [.inr (14, [.null, .int 0, .int 0, .int 0]), .inl (1, L.length, .inl fun _ => 0)]) (a0 := v) (a := X.1 + 1) (sp := 0) (dp := 0) (m := L.length) (srow_of (ev _)) (ext_in X _ (j := 1) (by simp)) (by omega) (by omega) (by decide) (by omega) (fun k hk => ⟨byt L k, asL_b aL k, by rw [Nat.zero_add]; exact hf k hk⟩)
    rw [nI_0, ext_set X _ 1 _ (by simp)] at c0
    unfold f_T7_copyOfRange_39247 f_T7_copyOfRange_39247_b10 f_T7_copyOfRangeByte_39247
    rw [if_pos rfl, sl, Option.bind_some, if_neg ne16, ck, Option.bind_some, Int32.sub_zero, nwB_of _ (show L.length ≤ 16 by omega) (by decide), Option.bind_some, ext_add, List.cons_append, List.nil_append, sl, Option.bind_some]
    rw [Int32.sub_zero, g_min_nI (by decide) (by omega), show min 16 L.length = L.length by omega]
    show ((g_cpyS G _ v 0 (X.1 + 1) 0 (nI L.length)).bind _).bind _ = _
    rw [c0, Option.bind_some, Option.bind_some]
    rfl
  refine ⟨va_cpy f (fun _ => 0) 0 0 L.length, ?_, fun k hk => ?_⟩
  · unfold f_T4_toString_0e30d f_T0_init_81219 f_T0_init_db425 g_mk
    rw [Option.bind_some, ext_one, dfl14, gi, cond_true, gv, Option.bind_some, cond_true, gl, Option.bind_some, cond_true, il, Option.bind_some, if_neg (show ¬ (1 : Int32) = 0 by decide), ext_put _ _ _ _ _ _ (by simp), Option.bind_some]
    show ((((f_T7_copyOfRange_39247 G (ext X [.inr (14, [.null, .int 0, .int 0, .int 0])]) v 0 (nI L.length)).bind _).bind _).bind _) = _
    rw [cp, Option.bind_some, ext_put _ _ _ _ _ _ (by simp), Option.bind_some, Option.bind_some, Option.bind_some]
    rfl
  · unfold va_cpy
    rw [if_pos (by omega), Nat.sub_zero, Nat.zero_add]
    exact hf k hk
end SB
