/-! THE REFERENCE: its object's data row (928 ints at the second cell behind it) -/
def isM (x : gH) (m : Nat) : Prop := ∃ fs, x.2 m = some (.inr (8, fs)) ∧ fs[8]? = some (.ref (m + 2))
def dP (x : gH) (m : Nat) (D : Nat → Int32) : gH := g_set x (m + 2) (.inl (0, 928, .inl D))
theorem dP_P (x : gH) (m : Nat) (D D' : Nat → Int32) : dP (dP x m D) m D' = dP x m D' := by
  refine Prod.ext rfl (funext fun q => ?_)
  simp only [dP, g_set]
  split <;> rfl
theorem dP_ne {x : gH} {m q : Nat} {D : Nat → Int32} (n : q ≠ m + 2) : (dP x m D).2 q = x.2 q := set_ne n
theorem dA (x : gH) (m : Nat) (D : Nat → Int32) : (dP x m D).2 (m + 2) = some (.inl (0, 928, .inl D)) := set_at
theorem isM_P {x : gH} {m : Nat} (hx : isM x m) (D : Nat → Int32) : isM (dP x m D) m := by
  obtain ⟨fs, e, e2⟩ := hx
  exact ⟨fs, by rw [dP_ne (by omega)]; exact e, e2⟩
theorem isM_g {x : gH} {m : Nat} (hx : isM x m) : g_is x m 8 = true := by
  obtain ⟨fs, e, e2⟩ := hx
  exact is_of e
theorem isM_a {x : gH} {m : Nat} (hx : isM x m) : g_gA x m 8 8 = some (m + 2) := by
  obtain ⟨fs, e, e2⟩ := hx
  exact gA_of e e2
theorem upd_at (f : Nat → Int32) (i : Nat) (v : Int32) : upd f i v i = v := by simp [upd]
theorem upd_ne {f : Nat → Int32} {i j : Nat} {v : Int32} (h : j ≠ i) : upd f i v j = f j := by simp [upd, h]
section REF1
variable {x : gH} {m : Nat} {D : Nat → Int32}
theorem dL {i : Nat} (hi : i < 928) : g_ald (dP x m D) (m + 2) (nI i) = some (D i) := ald_of (dA x m D) hi (by decide)
theorem dS {i : Nat} (hi : i < 928) (v : Int32) : g_ast (dP x m D) (m + 2) (nI i) v = some (dP x m (upd D i v)) := by
  rw [ast_of (dA x m D) hi (by decide)]
  exact congrArg some (dP_P x m D (upd D i v))
theorem dLe {i : Nat} {j : Int32} (e : j = nI i) (hi : i < 928) : g_ald (dP x m D) (m + 2) j = some (D i) := e ▸ dL hi
theorem dSe {i : Nat} {j : Int32} (e : j = nI i) (hi : i < 928) (v : Int32) : g_ast (dP x m D) (m + 2) j v = some (dP x m (upd D i v)) := e ▸ dS hi v
theorem dL0 : g_ald (dP x m D) (m + 2) 0 = some (D 0) := dLe (i := 0) (by decide) (by decide)
theorem dS0 (v : Int32) : g_ast (dP x m D) (m + 2) 0 v = some (dP x m (upd D 0 v)) := dSe (i := 0) (by decide) (by decide) v
theorem dL1 : g_ald (dP x m D) (m + 2) 1 = some (D 1) := dLe (i := 1) (by decide) (by decide)
theorem dS1 (v : Int32) : g_ast (dP x m D) (m + 2) 1 v = some (dP x m (upd D 1 v)) := dSe (i := 1) (by decide) (by decide) v
theorem dL2 : g_ald (dP x m D) (m + 2) 2 = some (D 2) := dLe (i := 2) (by decide) (by decide)
theorem dS2 (v : Int32) : g_ast (dP x m D) (m + 2) 2 v = some (dP x m (upd D 2 v)) := dSe (i := 2) (by decide) (by decide) v
theorem dL3 : g_ald (dP x m D) (m + 2) 3 = some (D 3) := dLe (i := 3) (by decide) (by decide)
theorem dS3 (v : Int32) : g_ast (dP x m D) (m + 2) 3 v = some (dP x m (upd D 3 v)) := dSe (i := 3) (by decide) (by decide) v
theorem dL4 : g_ald (dP x m D) (m + 2) 4 = some (D 4) := dLe (i := 4) (by decide) (by decide)
theorem dS4 (v : Int32) : g_ast (dP x m D) (m + 2) 4 v = some (dP x m (upd D 4 v)) := dSe (i := 4) (by decide) (by decide) v
theorem dL5 : g_ald (dP x m D) (m + 2) 5 = some (D 5) := dLe (i := 5) (by decide) (by decide)
theorem dS5 (v : Int32) : g_ast (dP x m D) (m + 2) 5 v = some (dP x m (upd D 5 v)) := dSe (i := 5) (by decide) (by decide) v
theorem dL6 : g_ald (dP x m D) (m + 2) 6 = some (D 6) := dLe (i := 6) (by decide) (by decide)
theorem dS6 (v : Int32) : g_ast (dP x m D) (m + 2) 6 v = some (dP x m (upd D 6 v)) := dSe (i := 6) (by decide) (by decide) v
theorem dL7 : g_ald (dP x m D) (m + 2) 7 = some (D 7) := dLe (i := 7) (by decide) (by decide)
theorem dS7 (v : Int32) : g_ast (dP x m D) (m + 2) 7 v = some (dP x m (upd D 7 v)) := dSe (i := 7) (by decide) (by decide) v
theorem dL8 : g_ald (dP x m D) (m + 2) 8 = some (D 8) := dLe (i := 8) (by decide) (by decide)
theorem dS8 (v : Int32) : g_ast (dP x m D) (m + 2) 8 v = some (dP x m (upd D 8 v)) := dSe (i := 8) (by decide) (by decide) v
theorem dL9 : g_ald (dP x m D) (m + 2) 9 = some (D 9) := dLe (i := 9) (by decide) (by decide)
theorem dS9 (v : Int32) : g_ast (dP x m D) (m + 2) 9 v = some (dP x m (upd D 9 v)) := dSe (i := 9) (by decide) (by decide) v
theorem dI (hx : isM x m) : g_is (dP x m D) m 8 = true := isM_g (isM_P hx D)
theorem dG (hx : isM x m) : g_gA (dP x m D) m 8 8 = some (m + 2) := isM_a (isM_P hx D)
theorem chAt (c : Nat) : f_X8_channelAt (nI c) = nI (10 + 16 * c) := by
  unfold f_X8_channelAt
  rw [show (10 : Int32) = nI 10 by decide, show (16 : Int32) = nI 16 by decide, nI_mul, nI_add]
theorem stAt (c : Nat) : f_X8_stationAt (nI c) = nI (42 + 17 * c) := by
  unfold f_X8_stationAt
  rw [show (42 : Int32) = nI 42 by decide, show (17 : Int32) = nI 17 by decide, nI_mul, nI_add]
theorem msAt (c : Nat) : f_X8_messageAt (nI c) = nI (112 + 102 * c) := by
  unfold f_X8_messageAt
  rw [show (112 : Int32) = nI 112 by decide, show (102 : Int32) = nI 102 by decide, nI_mul, nI_add]
theorem chLn (hx : isM x m) {c k : Nat} (hc : c < 2) (hk : k < 16) : f_X8_ofChannel (dP x m D) m (nI c) (nI k) = some (D (10 + 16 * c + k)) := by
  simp only [f_X8_ofChannel, dG hx, Option.bind_some, chAt, nI_add, dL (show 10 + 16 * c + k < 928 by omega)]
theorem chSn (hx : isM x m) {c k : Nat} (hc : c < 2) (hk : k < 16) (v : Int32) : f_X8_setChannel (dP x m D) m (nI c) (nI k) v = some (dP x m (upd D (10 + 16 * c + k) v)) := by
  simp only [f_X8_setChannel, dG hx, Option.bind_some, chAt, nI_add, dS (show 10 + 16 * c + k < 928 by omega)]
theorem msLn (hx : isM x m) {c k : Nat} (hc : c < 8) (hk : k < 102) : f_X8_of (dP x m D) m (nI c) (nI k) = some (D (112 + 102 * c + k)) := by
  simp only [f_X8_of, dG hx, Option.bind_some, msAt, nI_add, dL (show 112 + 102 * c + k < 928 by omega)]
theorem msSn (hx : isM x m) {c k : Nat} (hc : c < 8) (hk : k < 102) (v : Int32) : f_X8_set (dP x m D) m (nI c) (nI k) v = some (dP x m (upd D (112 + 102 * c + k) v)) := by
  simp only [f_X8_set, dG hx, Option.bind_some, msAt, nI_add, dS (show 112 + 102 * c + k < 928 by omega)]
theorem chLe (hx : isM x m) {c k : Nat} {j : Int32} (e : j = nI k) (hc : c < 2) (hk : k < 16) : f_X8_ofChannel (dP x m D) m (nI c) j = some (D (10 + 16 * c + k)) := e ▸ chLn hx hc hk
theorem chSe (hx : isM x m) {c k : Nat} {j : Int32} (e : j = nI k) (hc : c < 2) (hk : k < 16) (v : Int32) : f_X8_setChannel (dP x m D) m (nI c) j v = some (dP x m (upd D (10 + 16 * c + k) v)) := e ▸ chSn hx hc hk v
theorem msLe (hx : isM x m) {c k : Nat} {j : Int32} (e : j = nI k) (hc : c < 8) (hk : k < 102) : f_X8_of (dP x m D) m (nI c) j = some (D (112 + 102 * c + k)) := e ▸ msLn hx hc hk
theorem msSe (hx : isM x m) {c k : Nat} {j : Int32} (e : j = nI k) (hc : c < 8) (hk : k < 102) (v : Int32) : f_X8_set (dP x m D) m (nI c) j v = some (dP x m (upd D (112 + 102 * c + k) v)) := e ▸ msSn hx hc hk v
theorem chL0 (hx : isM x m) {c : Nat} (hc : c < 2) : f_X8_ofChannel (dP x m D) m (nI c) 0 = some (D (10 + 16 * c + 0)) := chLe hx (k := 0) (by decide) hc (by decide)
theorem chS0 (hx : isM x m) {c : Nat} (hc : c < 2) (v : Int32) : f_X8_setChannel (dP x m D) m (nI c) 0 v = some (dP x m (upd D (10 + 16 * c + 0) v)) := chSe hx (k := 0) (by decide) hc (by decide) v
theorem chL1 (hx : isM x m) {c : Nat} (hc : c < 2) : f_X8_ofChannel (dP x m D) m (nI c) 1 = some (D (10 + 16 * c + 1)) := chLe hx (k := 1) (by decide) hc (by decide)
theorem chS1 (hx : isM x m) {c : Nat} (hc : c < 2) (v : Int32) : f_X8_setChannel (dP x m D) m (nI c) 1 v = some (dP x m (upd D (10 + 16 * c + 1) v)) := chSe hx (k := 1) (by decide) hc (by decide) v
theorem chL2 (hx : isM x m) {c : Nat} (hc : c < 2) : f_X8_ofChannel (dP x m D) m (nI c) 2 = some (D (10 + 16 * c + 2)) := chLe hx (k := 2) (by decide) hc (by decide)
theorem chS2 (hx : isM x m) {c : Nat} (hc : c < 2) (v : Int32) : f_X8_setChannel (dP x m D) m (nI c) 2 v = some (dP x m (upd D (10 + 16 * c + 2) v)) := chSe hx (k := 2) (by decide) hc (by decide) v
theorem chL3 (hx : isM x m) {c : Nat} (hc : c < 2) : f_X8_ofChannel (dP x m D) m (nI c) 3 = some (D (10 + 16 * c + 3)) := chLe hx (k := 3) (by decide) hc (by decide)
theorem chS3 (hx : isM x m) {c : Nat} (hc : c < 2) (v : Int32) : f_X8_setChannel (dP x m D) m (nI c) 3 v = some (dP x m (upd D (10 + 16 * c + 3) v)) := chSe hx (k := 3) (by decide) hc (by decide) v
theorem chL4 (hx : isM x m) {c : Nat} (hc : c < 2) : f_X8_ofChannel (dP x m D) m (nI c) 4 = some (D (10 + 16 * c + 4)) := chLe hx (k := 4) (by decide) hc (by decide)
theorem chS4 (hx : isM x m) {c : Nat} (hc : c < 2) (v : Int32) : f_X8_setChannel (dP x m D) m (nI c) 4 v = some (dP x m (upd D (10 + 16 * c + 4) v)) := chSe hx (k := 4) (by decide) hc (by decide) v
theorem chL5 (hx : isM x m) {c : Nat} (hc : c < 2) : f_X8_ofChannel (dP x m D) m (nI c) 5 = some (D (10 + 16 * c + 5)) := chLe hx (k := 5) (by decide) hc (by decide)
theorem chS5 (hx : isM x m) {c : Nat} (hc : c < 2) (v : Int32) : f_X8_setChannel (dP x m D) m (nI c) 5 v = some (dP x m (upd D (10 + 16 * c + 5) v)) := chSe hx (k := 5) (by decide) hc (by decide) v
theorem chL6 (hx : isM x m) {c : Nat} (hc : c < 2) : f_X8_ofChannel (dP x m D) m (nI c) 6 = some (D (10 + 16 * c + 6)) := chLe hx (k := 6) (by decide) hc (by decide)
theorem chS6 (hx : isM x m) {c : Nat} (hc : c < 2) (v : Int32) : f_X8_setChannel (dP x m D) m (nI c) 6 v = some (dP x m (upd D (10 + 16 * c + 6) v)) := chSe hx (k := 6) (by decide) hc (by decide) v
theorem chL7 (hx : isM x m) {c : Nat} (hc : c < 2) : f_X8_ofChannel (dP x m D) m (nI c) 7 = some (D (10 + 16 * c + 7)) := chLe hx (k := 7) (by decide) hc (by decide)
theorem chS7 (hx : isM x m) {c : Nat} (hc : c < 2) (v : Int32) : f_X8_setChannel (dP x m D) m (nI c) 7 v = some (dP x m (upd D (10 + 16 * c + 7) v)) := chSe hx (k := 7) (by decide) hc (by decide) v
theorem chL8 (hx : isM x m) {c k : Nat} (hc : c < 2) (hk : k < 8) : f_X8_ofChannel (dP x m D) m (nI c) (8 + nI k) = some (D (10 + 16 * c + (8 + k))) := chLe hx (by rw [show (8 : Int32) = nI 8 by decide, nI_add]) hc (by omega)
theorem msL0 (hx : isM x m) {c : Nat} (hc : c < 8) : f_X8_of (dP x m D) m (nI c) 0 = some (D (112 + 102 * c + 0)) := msLe hx (k := 0) (by decide) hc (by decide)
theorem msS0 (hx : isM x m) {c : Nat} (hc : c < 8) (v : Int32) : f_X8_set (dP x m D) m (nI c) 0 v = some (dP x m (upd D (112 + 102 * c + 0) v)) := msSe hx (k := 0) (by decide) hc (by decide) v
theorem msL1 (hx : isM x m) {c : Nat} (hc : c < 8) : f_X8_of (dP x m D) m (nI c) 1 = some (D (112 + 102 * c + 1)) := msLe hx (k := 1) (by decide) hc (by decide)
theorem msS1 (hx : isM x m) {c : Nat} (hc : c < 8) (v : Int32) : f_X8_set (dP x m D) m (nI c) 1 v = some (dP x m (upd D (112 + 102 * c + 1) v)) := msSe hx (k := 1) (by decide) hc (by decide) v
theorem msL2 (hx : isM x m) {c : Nat} (hc : c < 8) : f_X8_of (dP x m D) m (nI c) 2 = some (D (112 + 102 * c + 2)) := msLe hx (k := 2) (by decide) hc (by decide)
theorem msS2 (hx : isM x m) {c : Nat} (hc : c < 8) (v : Int32) : f_X8_set (dP x m D) m (nI c) 2 v = some (dP x m (upd D (112 + 102 * c + 2) v)) := msSe hx (k := 2) (by decide) hc (by decide) v
theorem msL3 (hx : isM x m) {c : Nat} (hc : c < 8) : f_X8_of (dP x m D) m (nI c) 3 = some (D (112 + 102 * c + 3)) := msLe hx (k := 3) (by decide) hc (by decide)
theorem msS3 (hx : isM x m) {c : Nat} (hc : c < 8) (v : Int32) : f_X8_set (dP x m D) m (nI c) 3 v = some (dP x m (upd D (112 + 102 * c + 3) v)) := msSe hx (k := 3) (by decide) hc (by decide) v
theorem msL4 (hx : isM x m) {c : Nat} (hc : c < 8) : f_X8_of (dP x m D) m (nI c) 4 = some (D (112 + 102 * c + 4)) := msLe hx (k := 4) (by decide) hc (by decide)
theorem msS4 (hx : isM x m) {c : Nat} (hc : c < 8) (v : Int32) : f_X8_set (dP x m D) m (nI c) 4 v = some (dP x m (upd D (112 + 102 * c + 4) v)) := msSe hx (k := 4) (by decide) hc (by decide) v
theorem msL5 (hx : isM x m) {c : Nat} (hc : c < 8) : f_X8_of (dP x m D) m (nI c) 5 = some (D (112 + 102 * c + 5)) := msLe hx (k := 5) (by decide) hc (by decide)
theorem msS5 (hx : isM x m) {c : Nat} (hc : c < 8) (v : Int32) : f_X8_set (dP x m D) m (nI c) 5 v = some (dP x m (upd D (112 + 102 * c + 5) v)) := msSe hx (k := 5) (by decide) hc (by decide) v
theorem msL6 (hx : isM x m) {c k : Nat} (hc : c < 8) (hk : k < 24) : f_X8_of (dP x m D) m (nI c) (6 + nI k) = some (D (112 + 102 * c + (6 + k))) := msLe hx (by rw [show (6 : Int32) = nI 6 by decide, nI_add]) hc (by omega)
theorem msS6 (hx : isM x m) {c k : Nat} (hc : c < 8) (hk : k < 24) (v : Int32) : f_X8_set (dP x m D) m (nI c) (6 + nI k) v = some (dP x m (upd D (112 + 102 * c + (6 + k)) v)) := msSe hx (by rw [show (6 : Int32) = nI 6 by decide, nI_add]) hc (by omega) v
theorem msL30 (hx : isM x m) {c k : Nat} (hc : c < 8) (hk : k < 24) : f_X8_of (dP x m D) m (nI c) (30 + nI k) = some (D (112 + 102 * c + (30 + k))) := msLe hx (by rw [show (30 : Int32) = nI 30 by decide, nI_add]) hc (by omega)
theorem msS30 (hx : isM x m) {c k : Nat} (hc : c < 8) (hk : k < 24) (v : Int32) : f_X8_set (dP x m D) m (nI c) (30 + nI k) v = some (dP x m (upd D (112 + 102 * c + (30 + k)) v)) := msSe hx (by rw [show (30 : Int32) = nI 30 by decide, nI_add]) hc (by omega) v
theorem msL54 (hx : isM x m) {c k : Nat} (hc : c < 8) (hk : k < 24) : f_X8_of (dP x m D) m (nI c) (54 + nI k) = some (D (112 + 102 * c + (54 + k))) := msLe hx (by rw [show (54 : Int32) = nI 54 by decide, nI_add]) hc (by omega)
theorem msS54 (hx : isM x m) {c k : Nat} (hc : c < 8) (hk : k < 24) (v : Int32) : f_X8_set (dP x m D) m (nI c) (54 + nI k) v = some (dP x m (upd D (112 + 102 * c + (54 + k)) v)) := msSe hx (by rw [show (54 : Int32) = nI 54 by decide, nI_add]) hc (by omega) v
theorem msL78 (hx : isM x m) {c k : Nat} (hc : c < 8) (hk : k < 24) : f_X8_of (dP x m D) m (nI c) (78 + nI k) = some (D (112 + 102 * c + (78 + k))) := msLe hx (by rw [show (78 : Int32) = nI 78 by decide, nI_add]) hc (by omega)
theorem msS78 (hx : isM x m) {c k : Nat} (hc : c < 8) (hk : k < 24) (v : Int32) : f_X8_set (dP x m D) m (nI c) (78 + nI k) v = some (dP x m (upd D (112 + 102 * c + (78 + k)) v)) := msSe hx (by rw [show (78 : Int32) = nI 78 by decide, nI_add]) hc (by omega) v
end REF1
