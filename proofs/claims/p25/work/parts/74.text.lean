/-! texts and what String's members answer of them -/
/-- at x lies a text of n letters g -/
def txt (G : gG) (h : gH) (x n : Nat) (g : Nat → Int32) : Prop := ∃ v, g_sval G h x = some v ∧ g_scod G h x = some 0 ∧ g_srow G h v = some (n, g) ∧ g_isS G h x = true
/-- .. of letters that are bytes below 128 -/
def asc (n : Nat) (g : Nat → Int32) : Prop := ∀ k, k < n → ∃ c : Nat, c < 128 ∧ g k = nI c
theorem txt_dyn {G : gG} {h : gH} {x v n : Nat} {a b : Int32} {g : Nat → Int32} (e1 : h.2 x = some (.inr (14, [.ref v, .int 0, .int a, .int b]))) (e2 : h.2 v = some (.inl (1, n, .inl g))) : txt G h x n g := by
  refine ⟨v, ?_, ?_, ?_, ?_⟩
  · unfold g_sval; rw [e1]; rfl
  · unfold g_scod; rw [e1]; rfl
  · unfold g_srow; rw [e2]; rfl
  · unfold g_isS; rw [e1]; rfl
theorem txt_con {G : gG} {h : gH} {i : Nat} (f1 : g_fnd (g_aK G) (g_aK G i) = some i) (f2 : g_fnd (g_aV G) (g_aV G i) = some i) (e1 : h.2 (g_aK G i) = none) (e2 : h.2 (g_aV G i) = none) : txt G h (g_aK G i) (g_len.getD i 0) (fun j => (g_byt.getD i []).getD j 0) := by
  refine ⟨g_aV G i, ?_, ?_, ?_, ?_⟩
  · unfold g_sval; rw [e1]; simp only [f1, Option.map_some]
  · unfold g_scod; rw [e1]; simp only [f1, Option.map_some]
  · unfold g_srow; rw [e2]; simp only [f2, Option.map_some]
  · unfold g_isS; rw [e1]; simp only [f1, Option.isSome_some]
section TX
variable {G : gG} {h : gH} {x n : Nat} {g : Nat → Int32}
theorem txt.isS (t : txt G h x n g) : g_isS G h x = true := t.choose_spec.2.2.2
theorem z10 : ((1 : Int32) = 0) = False := eq_false (by decide)
theorem coder_t (t : txt G h x n g) : f_T0_coder_7d493 G h x = some 0 := by
  obtain ⟨v, h1, h2, h3, h4⟩ := t
  simp only [f_T0_coder_7d493, z10, if_false, h2, Option.bind_some, show narrow .byte (.int 0) = .int 0 from rfl, if_true]
theorem isLatin1_t (t : txt G h x n g) : f_T0_isLatin1_aae02 G h x = some 1 := by
  obtain ⟨v, h1, h2, h3, h4⟩ := t
  simp only [f_T0_isLatin1_aae02, z10, if_false, h2, Option.bind_some, if_true]
theorem length_t (t : txt G h x n g) : f_T0_length_8abf5 G h x = some (nI n) := by
  have hc := coder_t t
  obtain ⟨v, h1, h2, h3, h4⟩ := t
  simp only [f_T0_length_8abf5, h1, Option.bind_some, g_slnA, h3, Option.map_some, h4, cond_true, hc]
  exact congrArg some (sb_shr0 _)
theorem asc_c : ∀ c : Nat, c < 128 → narrow .char (.int ((Int32.toUInt32 (nI c &&& 255) % 65536).toInt32)) = .int ((Int32.toUInt32 (nI c &&& 255) % 65536).toInt32) ∧ (Int32.toUInt32 (nI c &&& 255) % 65536).toInt32 = nI c := by decide +kernel
theorem charAt_t (t : txt G h x n g) (ha : asc n g) (hn : n < 2 ^ 31) {k : Nat} (hk : k < n) : f_T0_charAt_5068e G h x (nI k) = some (g k) := by
  have hl := isLatin1_t t
  obtain ⟨v, h1, h2, h3, h4⟩ := t
  obtain ⟨c, c1, c2⟩ := ha k hk
  obtain ⟨a1, a2⟩ := asc_c c c1
  have hs : g_slnA G h v = some (nI n) := by unfold g_slnA; rw [h3]; rfl
  have hd : g_sldA G h v (nI k) = some (nI c) := by
    unfold g_sldA
    rw [h3, Option.bind_some, ix_of hk hn, Option.map_some]
    exact congrArg some c2
  have ht : f_T0_checkIndex_df160 G h (nI k) (nI n) = some () := by
    simp only [f_T0_checkIndex_df160, f_T3_checkIndex_8e157]
    rw [if_pos (nI_pos' (by omega)), if_neg (fun z => by have := (nI_leI (show n < 2 ^ 31 by omega) (show k < 2 ^ 31 by omega)).mp z; omega)]
    rfl
  have h1c : f_T1_charAt_3b067 G h v (nI k) = some (nI c) := by
    simp only [f_T1_charAt_3b067, hs, Option.bind_some, ht, hd]
    rw [if_pos a1, a2]
  rw [a2] at a1
  simp only [f_T0_charAt_5068e, h4, cond_true, hl, Option.bind_some, z10, if_false, h1, h1c, a1, if_true]
  rw [c2]
end TX
