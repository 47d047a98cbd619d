/-! loops -/
def up {β : Type} (g : Nat → β → β) : Nat → Nat → β → β
  | 0, _, x => x
  | d + 1, i, x => up g d (i + 1) (g i x)
def fnd (p : Nat → Prop) [DecidablePred p] : Nat → Nat → Option Nat
  | 0, _ => none
  | d + 1, i => if p i then some i else fnd p d (i + 1)
theorem up_last {β : Type} (g : Nat → β → β) : ∀ (d i : Nat) (x : β), up g (d + 1) i x = g (i + d) (up g d i x)
  | 0, _, _ => rfl
  | d + 1, i, x => by
    rw [up, up_last g d, up]
    congr 1
    omega
theorem up_congr {β : Type} {g g' : Nat → β → β} : ∀ (d i : Nat) (x : β), (∀ j, i ≤ j → j < i + d → ∀ y, g j y = g' j y) → up g d i x = up g' d i x
  | 0, _, _, _ => rfl
  | d + 1, i, x, h => by
    rw [up, up, h i (Nat.le_refl _) (by omega)]
    exact up_congr d _ _ (fun j h1 h2 => h j (by omega) (by omega))
theorem fnd_some {p : Nat → Prop} [DecidablePred p] : ∀ {d i j : Nat}, fnd p d i = some j → i ≤ j ∧ j < i + d ∧ p j ∧ ∀ k, i ≤ k → k < j → ¬ p k
  | 0, _, _, h => by cases h
  | d + 1, i, j, h => by
    rw [fnd] at h
    split at h
    · cases h
      exact ⟨Nat.le_refl _, by omega, by assumption, fun k h1 h2 => by omega⟩
    · rename_i c
      obtain ⟨h1, h2, h3, h4⟩ := fnd_some h
      exact ⟨by omega, by omega, h3, fun k k1 k2 => if e : k = i then e ▸ c else h4 k (by omega) k2⟩
theorem fnd_none {p : Nat → Prop} [DecidablePred p] : ∀ {d i : Nat}, fnd p d i = none ↔ ∀ k, i ≤ k → k < i + d → ¬ p k
  | 0, i => ⟨fun _ k h1 h2 => by omega, fun _ => rfl⟩
  | d + 1, i => by
    rw [fnd]
    split
    · rename_i c
      exact ⟨fun h => (by cases h), fun h => absurd c (h i (Nat.le_refl _) (by omega))⟩
    · rename_i c
      rw [fnd_none]
      exact ⟨fun h k k1 k2 => if e : k = i then e ▸ c else h k (by omega) (by omega), fun h k k1 k2 => h k (by omega) (by omega)⟩
/-- an index as the class gives it: -1 for none -/
def oI : Option Nat → Int32
  | none => -1
  | some i => nI i
theorem oI_none : oI none = -1 := rfl
theorem oI_some (i : Nat) : oI (some i) = nI i := rfl
theorem nI_neN {i : Nat} (h : i < 2 ^ 31) : nI i ≠ -1 := fun e => nI_pos h (by rw [e]; decide)
theorem oI_eqN {o : Option Nat} (h : ∀ i, o = some i → i < 2 ^ 31) : oI o = -1 ↔ o = none := by
  cases o with
  | none => simp [RCh_s, RKp_s, RMs_s, RMi_s, bI_t, bI_f, oI_none, oI_some, SIM_m40]
  | some i => simp [RCh_s, RKp_s, RMs_s, RMi_s, bI_t, bI_f, oI_none, oI_some, SIM_m40, nI_neN (h i rfl)]
/-! Keepers -/
def RKp.place (K : RKp) (tick : Int32) : Option Nat := fnd (fun i => K.ticks i = tick) K.told 0
def RKp.pl (K : RKp) (tick : Int32) : Nat := (K.place tick).getD K.told
def RKp.keyAt (K : RKp) (tick : Int32) : Int32 := (up (fun i (x : Int32 × Int32) => if K.ticks i ≤ tick ∧ x.1 < K.ticks i then (K.ticks i, K.keys i) else x) K.told 0 (-1, 0)).2
def RKp.come (K : RKp) (tick key : Int32) : RKp := if K.pl tick < 8 then (RKp.mk (max K.told (K.pl tick + 1)) (upd K.ticks (K.pl tick) tick) (upd K.keys (K.pl tick) key)) else K
theorem placeOf_loop {h : gH} {a : Nat} {K : RKp} {tick : Int32} (hn : K.told ≤ 8) : ∀ (d i fuel : Nat), i + d = K.told → d < fuel → f_X2_placeOf_b2 (kpP h a K) fuel a tick (nI i) = some (nI ((fnd (fun i => K.ticks i = tick) d i).getD K.told)) := by
  intro d
  induction d with
  | zero =>
    intro i fuel hi hf
    obtain ⟨fu, rfl⟩ := Nat.exists_eq_succ_of_ne_zero (Nat.ne_of_gt hf)
    simp [RCh_s, RKp_s, RMs_s, RMi_s, bI_t, bI_f, oI_none, oI_some, SIM_m40, f_X2_placeOf_b2, fnd, nI_nlt (show K.told ≤ i by omega) (by omega)]
  | succ d ih =>
    intro i fuel hi hf
    obtain ⟨fu, rfl⟩ := Nat.exists_eq_succ_of_ne_zero (Nat.ne_of_gt (Nat.zero_lt_of_lt hf))
    have q := ih (i + 1) fu (by omega) (by omega)
    simp only [RCh_s, RKp_s, RMs_s, RMi_s, f_X2_placeOf_b2, kpG_told, kpG_ticks, Option.bind_some, kpV_ticks, rowAt_in (show i < 8 by omega) (by decide), if_pos (nI_lt (show i < K.told by omega) (by omega)), ← nI_succ, fnd]
    split
    · simp [RCh_s, RKp_s, RMs_s, RMi_s, bI_t, bI_f, oI_none, oI_some, SIM_m40]
    · exact q
theorem placeOf_kp {h : gH} {a : Nat} {K : RKp} (hn : K.told ≤ 8) (tick : Int32) : f_X2_placeOf (kpP h a K) a tick = some (nI (K.pl tick)) := placeOf_loop hn K.told 0 g_N (by omega) (by unfold g_N; omega)
theorem pl_le (K : RKp) (tick : Int32) : K.pl tick ≤ K.told := by
  unfold RKp.pl RKp.place
  cases e : fnd (fun i => K.ticks i = tick) K.told 0 with
  | none => simp [RCh_s, RKp_s, RMs_s, RMi_s, bI_t, bI_f, oI_none, oI_some, SIM_m40]
  | some j => have := fnd_some e; simp [RCh_s, RKp_s, RMs_s, RMi_s, bI_t, bI_f, oI_none, oI_some, SIM_m40]; omega
theorem isFull_kp {h : gH} {a : Nat} {K : RKp} (hn : K.told ≤ 8) : f_X2_isFull (kpP h a K) a = some (bI (decide (8 ≤ K.told))) := by
  simp only [RCh_s, RKp_s, RMs_s, RMi_s, f_X2_isFull, kpG_told, Option.bind_some, show (8 : Int32) = nI 8 by decide, nI_leI (show 8 < 2 ^ 31 by decide) (show K.told < 2 ^ 31 by omega)]
  by_cases c : 8 ≤ K.told <;> simp [RCh_s, RKp_s, RMs_s, RMi_s, bI_t, bI_f, oI_none, oI_some, SIM_m40, c]
theorem hasOneAt_kp {h : gH} {a : Nat} {K : RKp} (hn : K.told ≤ 8) (tick : Int32) : f_X2_hasOneAt (kpP h a K) a tick = some (bI (K.place tick).isSome) := by
  simp only [RCh_s, RKp_s, RMs_s, RMi_s, f_X2_hasOneAt, kpP_g, cond_true, placeOf_kp hn, kpG_told, Option.bind_some]
  have := pl_le K tick
  simp only [RCh_s, RKp_s, RMs_s, RMi_s, nI_ltI (show K.pl tick < 2 ^ 31 by omega) (show K.told < 2 ^ 31 by omega)]
  unfold RKp.pl
  cases e : K.place tick with
  | none => simp [RCh_s, RKp_s, RMs_s, RMi_s, bI_t, bI_f, oI_none, oI_some, SIM_m40]
  | some j => have := fnd_some (show fnd (fun i => K.ticks i = tick) K.told 0 = some j from e); simp [RCh_s, RKp_s, RMs_s, RMi_s, bI_t, bI_f, oI_none, oI_some, SIM_m40]; omega
theorem g_max_nI {a b : Nat} (ha : a < 2 ^ 31) (hb : b < 2 ^ 31) : g_max (nI a) (nI b) = nI (max a b) := by
  unfold g_max
  simp only [RCh_s, RKp_s, RMs_s, RMi_s, nI_ltI ha hb]
  by_cases c : a < b
  · simp [RCh_s, RKp_s, RMs_s, RMi_s, bI_t, bI_f, oI_none, oI_some, SIM_m40, c, Nat.max_eq_right (Nat.le_of_lt c)]
  · simp [RCh_s, RKp_s, RMs_s, RMi_s, bI_t, bI_f, oI_none, oI_some, SIM_m40, c, Nat.max_eq_left (Nat.not_lt.mp c)]
theorem g_min_nI {a b : Nat} (ha : a < 2 ^ 31) (hb : b < 2 ^ 31) : g_min (nI a) (nI b) = nI (min a b) := by
  unfold g_min
  simp only [RCh_s, RKp_s, RMs_s, RMi_s, nI_ltI hb ha]
  by_cases c : b < a
  · simp [RCh_s, RKp_s, RMs_s, RMi_s, bI_t, bI_f, oI_none, oI_some, SIM_m40, c, Nat.min_eq_right (Nat.le_of_lt c)]
  · simp [RCh_s, RKp_s, RMs_s, RMi_s, bI_t, bI_f, oI_none, oI_some, SIM_m40, c, Nat.min_eq_left (Nat.not_lt.mp c)]
theorem come_kp {h : gH} {a : Nat} {K : RKp} (hn : K.told ≤ 8) (tick key : Int32) : f_X2_come (kpP h a K) a tick key = some (kpP h a (K.come tick key)) := by
  have := pl_le K tick
  simp only [RCh_s, RKp_s, RMs_s, RMi_s, f_X2_come, kpP_g, cond_true, placeOf_kp hn, Option.bind_some, show (8 : Int32) = nI 8 by decide, nI_leI (show 8 < 2 ^ 31 by decide) (show K.pl tick < 2 ^ 31 by omega)]
  unfold RKp.come
  by_cases c : 8 ≤ K.pl tick
  · rw [if_pos c, if_neg (by omega)]
  · rw [if_neg c, if_pos (by omega)]
    simp only [RCh_s, RKp_s, RMs_s, RMi_s, kpG_ticks, Option.bind_some, kpW_ticks, kpG_keys, kpW_keys, kpG_told, ← nI_succ]
    rw [g_max_nI (by omega) (by omega)]
    simp only [RCh_s, RKp_s, RMs_s, RMi_s, kpT_told, Option.bind_some]
    rw [rowSet_in (by omega) (by decide), rowSet_in (by omega) (by decide)]
theorem keyAt_kl {h : gH} {a : Nat} {K : RKp} {tick : Int32} (hn : K.told ≤ 8) : ∀ (d i fuel : Nat) (x : Int32 × Int32), i + d = K.told → d < fuel → f_X2_keyAt_b7 (kpP h a K) fuel a tick x.1 x.2 (nI i) = some (up (fun i (x : Int32 × Int32) => if K.ticks i ≤ tick ∧ x.1 < K.ticks i then (K.ticks i, K.keys i) else x) d i x).2 := by
  intro d
  induction d with
  | zero =>
    intro i fuel x hi hf
    obtain ⟨fu, rfl⟩ := Nat.exists_eq_succ_of_ne_zero (Nat.ne_of_gt hf)
    simp [RCh_s, RKp_s, RMs_s, RMi_s, bI_t, bI_f, oI_none, oI_some, SIM_m40, f_X2_keyAt_b7, up, nI_nlt (show K.told ≤ i by omega) (by omega)]
  | succ d ih =>
    intro i fuel x hi hf
    obtain ⟨fu, rfl⟩ := Nat.exists_eq_succ_of_ne_zero (Nat.ne_of_gt (Nat.zero_lt_of_lt hf))
    simp only [RCh_s, RKp_s, RMs_s, RMi_s, f_X2_keyAt_b7, kpG_told, kpG_ticks, kpG_keys, Option.bind_some, kpV_ticks, kpV_keys, rowAt_in (show i < 8 by omega) (by decide), if_pos (nI_lt (show i < K.told by omega) (by omega)), ← nI_succ, up, f_X2_keyAt_b52]
    by_cases c1 : K.ticks i ≤ tick
    · by_cases c2 : x.1 < K.ticks i
      · simp only [RCh_s, RKp_s, RMs_s, RMi_s, c1, c2, if_true, and_self]; exact ih (i + 1) fu (K.ticks i, K.keys i) (by omega) (by omega)
      · simp only [RCh_s, RKp_s, RMs_s, RMi_s, c1, c2, if_true, if_false, and_false]; exact ih (i + 1) fu x (by omega) (by omega)
    · simp only [RCh_s, RKp_s, RMs_s, RMi_s, c1, if_false, false_and]; exact ih (i + 1) fu x (by omega) (by omega)
theorem keyAt_kp {h : gH} {a : Nat} {K : RKp} (hn : K.told ≤ 8) (tick : Int32) : f_X2_keyAt (kpP h a K) a tick = some (K.keyAt tick) := keyAt_kl hn K.told 0 g_N (-1, 0) (by omega) (by unfold g_N; omega)
/-! Mists -/
def RMi.levelAt (K : RMi) (tick : Int32) : Int32 := up (fun i (x : Int32) => if K.firsts i ≤ tick ∧ tick ≤ K.lasts i then K.levels i else x) K.told 0 0
def RMi.add (K : RMi) (x y z : Int32) : RMi := if K.told < 12 then (RMi.mk (K.told + 1) (upd K.firsts K.told x) (upd K.lasts K.told y) (upd K.levels K.told z)) else K
theorem isFull_mi {h : gH} {a : Nat} {K : RMi} (hn : K.told ≤ 12) : f_X4_isFull (miP h a K) a = some (bI (decide (12 ≤ K.told))) := by
  simp only [RCh_s, RKp_s, RMs_s, RMi_s, f_X4_isFull, miG_told, Option.bind_some, show (12 : Int32) = nI 12 by decide, nI_leI (show 12 < 2 ^ 31 by decide) (show K.told < 2 ^ 31 by omega)]
  by_cases c : 12 ≤ K.told <;> simp [RCh_s, RKp_s, RMs_s, RMi_s, bI_t, bI_f, oI_none, oI_some, SIM_m40, c]
theorem add_mi {h : gH} {a : Nat} {K : RMi} (hn : K.told ≤ 12) (x y z : Int32) : f_X4_add (miP h a K) a x y z = some (miP h a (K.add x y z)) := by
  unfold RMi.add
  by_cases c : 12 ≤ K.told
  · simp only [RCh_s, RKp_s, RMs_s, RMi_s, f_X4_add, miP_g, cond_true, isFull_mi hn, Option.bind_some]
    simp [RCh_s, RKp_s, RMs_s, RMi_s, bI_t, bI_f, oI_none, oI_some, SIM_m40, c, Nat.not_lt.mpr c]
  · simp only [RCh_s, RKp_s, RMs_s, RMi_s, f_X4_add, miP_g, cond_true, isFull_mi hn, Option.bind_some]
    simp only [RCh_s, RKp_s, RMs_s, RMi_s, c, decide_false, bI_f, if_true, miG_firsts, miG_lasts, miG_levels, miG_told, Option.bind_some, miW_firsts, miW_lasts, miW_levels, ← nI_succ, miT_told]
    rw [if_pos (by omega), rowSet_in (by omega) (by decide), rowSet_in (by omega) (by decide), rowSet_in (by omega) (by decide)]
theorem levelAt_ml {h : gH} {a : Nat} {K : RMi} {tick : Int32} (hn : K.told ≤ 12) : ∀ (d fuel : Nat), d ≤ K.told → d < fuel → f_X4_levelAt_b7 (miP h a K) fuel a tick (nI d - 1) = some (up (fun i (x : Int32) => if K.firsts i ≤ tick ∧ tick ≤ K.lasts i then K.levels i else x) d 0 0) := by
  intro d
  induction d with
  | zero =>
    intro fuel hi hf
    obtain ⟨fu, rfl⟩ := Nat.exists_eq_succ_of_ne_zero (Nat.ne_of_gt hf)
    simp only [RCh_s, RKp_s, RMs_s, RMi_s, f_X4_levelAt_b7, up]
    rw [if_neg (by decide)]
  | succ d ih =>
    intro fuel hi hf
    obtain ⟨fu, rfl⟩ := Nat.exists_eq_succ_of_ne_zero (Nat.ne_of_gt (Nat.zero_lt_of_lt hf))
    have q := ih fu (by omega) (by omega)
    rw [up_last, nI_pred]
    have e9 : nI d + (-1) = nI d - 1 := (Int32.sub_eq_add_neg _ _).symm
    simp only [RCh_s, RKp_s, RMs_s, RMi_s, f_X4_levelAt_b7, miG_firsts, miG_lasts, miG_levels, Option.bind_some, miV_firsts, miV_lasts, miV_levels, rowAt_in (show d < 12 by omega) (by decide), if_pos (nI_pos' (show d < 2 ^ 31 by omega)), f_X4_levelAt_b44, Nat.zero_add, e9]
    by_cases c1 : K.firsts d ≤ tick
    · by_cases c2 : tick ≤ K.lasts d
      · simp [RCh_s, RKp_s, RMs_s, RMi_s, bI_t, bI_f, oI_none, oI_some, SIM_m40, c1, c2]
      · simp only [RCh_s, RKp_s, RMs_s, RMi_s, c1, c2, if_true, if_false, and_false]; exact q
    · simp only [RCh_s, RKp_s, RMs_s, RMi_s, c1, if_false, false_and]; exact q
theorem levelAt_mi {h : gH} {a : Nat} {K : RMi} (hn : K.told ≤ 12) (tick : Int32) : f_X4_levelAt (miP h a K) a tick = some (K.levelAt tick) := by
  simp only [RCh_s, RKp_s, RMs_s, RMi_s, f_X4_levelAt, miG_told, Option.bind_some]
  exact levelAt_ml hn K.told g_N (Nat.le_refl _) (by unfold g_N; omega)
