theorem ringF_at (w : Nat) : ∀ n i, ringF w n i = if i < n then some (w + 21 + 5 * i) else none
  | 0, i => rfl
  | n + 1, i => by
    have q := ringF_at w n i
    show va_up (ringF w n) n (some (w + 21 + 5 * n)) i = _
    by_cases e : i = n
    · subst e
      rw [if_pos (Nat.lt_succ_self i)]
      simp [va_up]
    · have : va_up (ringF w n) n (some (w + 21 + 5 * n)) i = ringF w n i := by simp [va_up, e]
      rw [this, q]
      by_cases c : i < n
      · rw [if_pos c, if_pos (by omega)]
      · rw [if_neg c, if_neg (by omega)]
def zf : Nat → Int32 := fun _ => 0
def M0 : RMs := RMs.mk 0 0 0 0 0 0 0 0 0 zf zf zf zf
def C0 : RCh := RCh.mk 0 0 0 0 0 0 0 zf false false
def W0 : RW := RW.mk 0 0 (some 0) 0 0 0 0 0 0 M0 C0 C0 (RKp.mk 0 zf zf) (RKp.mk 0 zf zf) (RMi.mk 0 zf zf zf) (fun _ => M0)
theorem ring1 (w : Nat) : some (aQ (ringF w 8)) = wdC w W0 1 := by
  have : ringF w 8 = fun i => if i < 8 then some (w + 21 + 5 * i) else none := funext fun i => ringF_at w 8 i
  rw [this]
  rfl
def flat (w : Nat) : List gC := [.inr (3, [.int 0, .int 0, .int 0, .int 0, .int 0, .int 0, .int 0, .int 0, .int 0, .ref (w + 2 + 1), .ref (w + 2 + 2), .ref (w + 2 + 3), .ref (w + 2 + 4)]), z0 24, z0 24, z0 24, z0 24, .inr (0, [.int 0, .int 0, .int 0, .int 0, .int 0, .int 0, .int 0, .ref (w + 7 + 1), .int 0, .int 0]), z0 8, .inr (0, [.int 0, .int 0, .int 0, .int 0, .int 0, .int 0, .int 0, .ref (w + 9 + 1), .int 0, .int 0]), z0 8, .inr (2, [.int 0, .ref (w + 11 + 1), .ref (w + 11 + 2)]), z0 8, z0 8, .inr (2, [.int 0, .ref (w + 14 + 1), .ref (w + 14 + 2)]), z0 8, z0 8, .inr (4, [.int 0, .ref (w + 17 + 1), .ref (w + 17 + 2), .ref (w + 17 + 3)]), z0 12, z0 12, z0 12, .inr (3, [.int 0, .int 0, .int 0, .int 0, .int 0, .int 0, .int 0, .int 0, .int 0, .ref (w + 21 + 5 * 0 + 1), .ref (w + 21 + 5 * 0 + 2), .ref (w + 21 + 5 * 0 + 3), .ref (w + 21 + 5 * 0 + 4)]), z0 24, z0 24, z0 24, z0 24, .inr (3, [.int 0, .int 0, .int 0, .int 0, .int 0, .int 0, .int 0, .int 0, .int 0, .ref (w + 21 + 5 * 1 + 1), .ref (w + 21 + 5 * 1 + 2), .ref (w + 21 + 5 * 1 + 3), .ref (w + 21 + 5 * 1 + 4)]), z0 24, z0 24, z0 24, z0 24, .inr (3, [.int 0, .int 0, .int 0, .int 0, .int 0, .int 0, .int 0, .int 0, .int 0, .ref (w + 21 + 5 * 2 + 1), .ref (w + 21 + 5 * 2 + 2), .ref (w + 21 + 5 * 2 + 3), .ref (w + 21 + 5 * 2 + 4)]), z0 24, z0 24, z0 24, z0 24, .inr (3, [.int 0, .int 0, .int 0, .int 0, .int 0, .int 0, .int 0, .int 0, .int 0, .ref (w + 21 + 5 * 3 + 1), .ref (w + 21 + 5 * 3 + 2), .ref (w + 21 + 5 * 3 + 3), .ref (w + 21 + 5 * 3 + 4)]), z0 24, z0 24, z0 24, z0 24, .inr (3, [.int 0, .int 0, .int 0, .int 0, .int 0, .int 0, .int 0, .int 0, .int 0, .ref (w + 21 + 5 * 4 + 1), .ref (w + 21 + 5 * 4 + 2), .ref (w + 21 + 5 * 4 + 3), .ref (w + 21 + 5 * 4 + 4)]), z0 24, z0 24, z0 24, z0 24, .inr (3, [.int 0, .int 0, .int 0, .int 0, .int 0, .int 0, .int 0, .int 0, .int 0, .ref (w + 21 + 5 * 5 + 1), .ref (w + 21 + 5 * 5 + 2), .ref (w + 21 + 5 * 5 + 3), .ref (w + 21 + 5 * 5 + 4)]), z0 24, z0 24, z0 24, z0 24, .inr (3, [.int 0, .int 0, .int 0, .int 0, .int 0, .int 0, .int 0, .int 0, .int 0, .ref (w + 21 + 5 * 6 + 1), .ref (w + 21 + 5 * 6 + 2), .ref (w + 21 + 5 * 6 + 3), .ref (w + 21 + 5 * 6 + 4)]), z0 24, z0 24, z0 24, z0 24, .inr (3, [.int 0, .int 0, .int 0, .int 0, .int 0, .int 0, .int 0, .int 0, .int 0, .ref (w + 21 + 5 * 7 + 1), .ref (w + 21 + 5 * 7 + 2), .ref (w + 21 + 5 * 7 + 3), .ref (w + 21 + 5 * 7 + 4)]), z0 24, z0 24, z0 24, z0 24]
theorem rst8 (w : Nat) : rst w 8 = flat w := rfl
def lst6 (w : Nat) : List gC := .inr (6, fs6 w) :: aQ (ringF w 8) :: flat w
theorem b6_0 (w : Nat) : (lst6 w)[0]? = wdC w W0 0 := rfl
theorem b6_1 (w : Nat) : (lst6 w)[1]? = wdC w W0 1 := ring1 w
theorem b6_2 (w : Nat) : (lst6 w)[2]? = wdC w W0 2 := rfl
theorem b6_3 (w : Nat) : (lst6 w)[3]? = wdC w W0 3 := rfl
theorem b6_4 (w : Nat) : (lst6 w)[4]? = wdC w W0 4 := rfl
theorem b6_5 (w : Nat) : (lst6 w)[5]? = wdC w W0 5 := rfl
theorem b6_6 (w : Nat) : (lst6 w)[6]? = wdC w W0 6 := rfl
theorem b6_7 (w : Nat) : (lst6 w)[7]? = wdC w W0 7 := rfl
theorem b6_8 (w : Nat) : (lst6 w)[8]? = wdC w W0 8 := rfl
theorem b6_9 (w : Nat) : (lst6 w)[9]? = wdC w W0 9 := rfl
theorem b6_10 (w : Nat) : (lst6 w)[10]? = wdC w W0 10 := rfl
theorem b6_11 (w : Nat) : (lst6 w)[11]? = wdC w W0 11 := rfl
theorem b6_12 (w : Nat) : (lst6 w)[12]? = wdC w W0 12 := rfl
theorem b6_13 (w : Nat) : (lst6 w)[13]? = wdC w W0 13 := rfl
theorem b6_14 (w : Nat) : (lst6 w)[14]? = wdC w W0 14 := rfl
theorem b6_15 (w : Nat) : (lst6 w)[15]? = wdC w W0 15 := rfl
theorem b6_16 (w : Nat) : (lst6 w)[16]? = wdC w W0 16 := rfl
theorem b6_17 (w : Nat) : (lst6 w)[17]? = wdC w W0 17 := rfl
theorem b6_18 (w : Nat) : (lst6 w)[18]? = wdC w W0 18 := rfl
theorem b6_19 (w : Nat) : (lst6 w)[19]? = wdC w W0 19 := rfl
theorem b6_20 (w : Nat) : (lst6 w)[20]? = wdC w W0 20 := rfl
theorem b6_21 (w : Nat) : (lst6 w)[21]? = wdC w W0 21 := rfl
theorem b6_22 (w : Nat) : (lst6 w)[22]? = wdC w W0 22 := rfl
theorem b6_23 (w : Nat) : (lst6 w)[23]? = wdC w W0 23 := rfl
theorem b6_24 (w : Nat) : (lst6 w)[24]? = wdC w W0 24 := rfl
theorem b6_25 (w : Nat) : (lst6 w)[25]? = wdC w W0 25 := rfl
theorem b6_26 (w : Nat) : (lst6 w)[26]? = wdC w W0 26 := rfl
theorem b6_27 (w : Nat) : (lst6 w)[27]? = wdC w W0 27 := rfl
theorem b6_28 (w : Nat) : (lst6 w)[28]? = wdC w W0 28 := rfl
theorem b6_29 (w : Nat) : (lst6 w)[29]? = wdC w W0 29 := rfl
theorem b6_30 (w : Nat) : (lst6 w)[30]? = wdC w W0 30 := rfl
theorem b6_31 (w : Nat) : (lst6 w)[31]? = wdC w W0 31 := rfl
theorem b6_32 (w : Nat) : (lst6 w)[32]? = wdC w W0 32 := rfl
theorem b6_33 (w : Nat) : (lst6 w)[33]? = wdC w W0 33 := rfl
theorem b6_34 (w : Nat) : (lst6 w)[34]? = wdC w W0 34 := rfl
theorem b6_35 (w : Nat) : (lst6 w)[35]? = wdC w W0 35 := rfl
theorem b6_36 (w : Nat) : (lst6 w)[36]? = wdC w W0 36 := rfl
theorem b6_37 (w : Nat) : (lst6 w)[37]? = wdC w W0 37 := rfl
theorem b6_38 (w : Nat) : (lst6 w)[38]? = wdC w W0 38 := rfl
theorem b6_39 (w : Nat) : (lst6 w)[39]? = wdC w W0 39 := rfl
theorem b6_40 (w : Nat) : (lst6 w)[40]? = wdC w W0 40 := rfl
theorem b6_41 (w : Nat) : (lst6 w)[41]? = wdC w W0 41 := rfl
theorem b6_42 (w : Nat) : (lst6 w)[42]? = wdC w W0 42 := rfl
theorem b6_43 (w : Nat) : (lst6 w)[43]? = wdC w W0 43 := rfl
theorem b6_44 (w : Nat) : (lst6 w)[44]? = wdC w W0 44 := rfl
theorem b6_45 (w : Nat) : (lst6 w)[45]? = wdC w W0 45 := rfl
theorem b6_46 (w : Nat) : (lst6 w)[46]? = wdC w W0 46 := rfl
theorem b6_47 (w : Nat) : (lst6 w)[47]? = wdC w W0 47 := rfl
theorem b6_48 (w : Nat) : (lst6 w)[48]? = wdC w W0 48 := rfl
theorem b6_49 (w : Nat) : (lst6 w)[49]? = wdC w W0 49 := rfl
theorem b6_50 (w : Nat) : (lst6 w)[50]? = wdC w W0 50 := rfl
theorem b6_51 (w : Nat) : (lst6 w)[51]? = wdC w W0 51 := rfl
theorem b6_52 (w : Nat) : (lst6 w)[52]? = wdC w W0 52 := rfl
theorem b6_53 (w : Nat) : (lst6 w)[53]? = wdC w W0 53 := rfl
theorem b6_54 (w : Nat) : (lst6 w)[54]? = wdC w W0 54 := rfl
theorem b6_55 (w : Nat) : (lst6 w)[55]? = wdC w W0 55 := rfl
theorem b6_56 (w : Nat) : (lst6 w)[56]? = wdC w W0 56 := rfl
theorem b6_57 (w : Nat) : (lst6 w)[57]? = wdC w W0 57 := rfl
theorem b6_58 (w : Nat) : (lst6 w)[58]? = wdC w W0 58 := rfl
theorem b6_59 (w : Nat) : (lst6 w)[59]? = wdC w W0 59 := rfl
theorem b6_60 (w : Nat) : (lst6 w)[60]? = wdC w W0 60 := rfl
theorem b6_at (w : Nat) : ∀ j, j < 61 → (.inr (6, fs6 w) :: aQ (ringF w 8) :: rst w 8 : List gC)[j]? = wdC w W0 j := by
  rw [rst8]
  exact fun j hj => match j, hj with
    | 0, _ => b6_0 w
    | 1, _ => b6_1 w
    | 2, _ => b6_2 w
    | 3, _ => b6_3 w
    | 4, _ => b6_4 w
    | 5, _ => b6_5 w
    | 6, _ => b6_6 w
    | 7, _ => b6_7 w
    | 8, _ => b6_8 w
    | 9, _ => b6_9 w
    | 10, _ => b6_10 w
    | 11, _ => b6_11 w
    | 12, _ => b6_12 w
    | 13, _ => b6_13 w
    | 14, _ => b6_14 w
    | 15, _ => b6_15 w
    | 16, _ => b6_16 w
    | 17, _ => b6_17 w
    | 18, _ => b6_18 w
    | 19, _ => b6_19 w
    | 20, _ => b6_20 w
    | 21, _ => b6_21 w
    | 22, _ => b6_22 w
    | 23, _ => b6_23 w
    | 24, _ => b6_24 w
    | 25, _ => b6_25 w
    | 26, _ => b6_26 w
    | 27, _ => b6_27 w
    | 28, _ => b6_28 w
    | 29, _ => b6_29 w
    | 30, _ => b6_30 w
    | 31, _ => b6_31 w
    | 32, _ => b6_32 w
    | 33, _ => b6_33 w
    | 34, _ => b6_34 w
    | 35, _ => b6_35 w
    | 36, _ => b6_36 w
    | 37, _ => b6_37 w
    | 38, _ => b6_38 w
    | 39, _ => b6_39 w
    | 40, _ => b6_40 w
    | 41, _ => b6_41 w
    | 42, _ => b6_42 w
    | 43, _ => b6_43 w
    | 44, _ => b6_44 w
    | 45, _ => b6_45 w
    | 46, _ => b6_46 w
    | 47, _ => b6_47 w
    | 48, _ => b6_48 w
    | 49, _ => b6_49 w
    | 50, _ => b6_50 w
    | 51, _ => b6_51 w
    | 52, _ => b6_52 w
    | 53, _ => b6_53 w
    | 54, _ => b6_54 w
    | 55, _ => b6_55 w
    | 56, _ => b6_56 w
    | 57, _ => b6_57 w
    | 58, _ => b6_58 w
    | 59, _ => b6_59 w
    | 60, _ => b6_60 w
    | n + 61, h => absurd h (by omega)
theorem b6_wd (h : gH) : wdIs (b6 h 8) h.1 W0 := fun j hj => by
  have hl : (.inr (6, fs6 h.1) :: aQ (ringF h.1 8) :: rst h.1 8 : List gC).length = 61 := by
    simp [rst_len]
  unfold b6
  rw [ext_in h _ (by rw [hl]; exact hj)]
  exact b6_at h.1 j hj
/-- the World that a constructor makes -/
def W1 : RW := W0.clear 4 3
theorem x6_w (h : gH) : ∃ X, f_X6_init (g_add h (.inr (6, g_dfl 6))) h.1 = some X ∧ X.1 = h.1 + 61 ∧ wdIs X h.1 W1 ∧ ∀ q, (q < h.1 ∨ h.1 + 61 ≤ q) → X.2 q = h.2 q := by
  have hl : (.inr (6, fs6 h.1) :: aQ (ringF h.1 8) :: rst h.1 8 : List gC).length = 61 := by
    simp [rst_len]
  have cw := clear_wd (h := b6 h 8) (w := h.1) (R := W0) 4 3
  rw [wdP_self (b6_wd h), show nI 4 = (4 : Int32) by decide] at cw
  refine ⟨wdP (b6 h 8) h.1 W1, ?_, ?_, wdP_is _ _ _, fun q hq => ?_⟩
  · rw [x6_c, cw, Option.bind_some]
    rfl
  · show h.1 + (.inr (6, fs6 h.1) :: aQ (ringF h.1 8) :: rst h.1 8 : List gC).length = _
    rw [hl]
  · rw [wdP_out _ _ _ hq]
    unfold b6
    exact ext_out h _ (by rw [hl]; exact hq)
