/-! letters on their way into the class's buffer -/
theorem or_nI (a b : Nat) : nI a ||| nI b = nI (a ||| b) := by
  apply Int32.toBitVec_inj.mp
  rw [Int32.toBitVec_or]
  unfold nI
  rw [Int32.toBitVec_ofNat', Int32.toBitVec_ofNat', Int32.toBitVec_ofNat']
  apply BitVec.eq_of_toNat_eq
  rw [BitVec.toNat_or, BitVec.toNat_ofNat, BitVec.toNat_ofNat, BitVec.toNat_ofNat, Nat.or_mod_two_pow]
theorem or_add {a c s : Nat} (hc : c < 256) (ha : 2 ^ (s + 8) ∣ a) : a ||| c * 2 ^ s = a + c * 2 ^ s := by
  obtain ⟨q, rfl⟩ := ha
  have h : c * 2 ^ s < 2 ^ (s + 8) := by
    rw [Nat.pow_add, Nat.mul_comm]
    exact Nat.mul_lt_mul_of_pos_left (by omega) (Nat.pow_pos (by decide))
  exact (Nat.two_pow_add_eq_or_of_lt h q).symm
theorem sh_c : ∀ j, j < 4 → ∀ c, c < 128 → nI c <<< ((24 - 8 * nI j) &&& 31) = nI (c * 2 ^ (24 - 8 * j)) := by decide +kernel
theorem byte_nI {m : Nat} (h : m < 2 ^ 31) (h2 : m % 256 < 128) : (nI m).toInt8.toInt32 = nI (m % 256) := by
  apply Int32.toInt.inj
  rw [Int8.toInt_toInt32, Int32.toInt_toInt8, nI_toInt h, nI_toInt (by omega)]
  rw [Int.bmod_def]
  have e : ((m : Int) % ((2 ^ 8 : Nat) : Int)) = ((m % 256 : Nat) : Int) := by
    rw [show (2 ^ 8 : Nat) = 256 by decide]; omega
  rw [e, if_pos (by rw [show (2 ^ 8 : Nat) = 256 by decide]; omega)]
theorem byC_nI {N s : Nat} (h : N < 2 ^ 31) (hs : s = 24 ∨ s = 16 ∨ s = 8 ∨ s = 0) (h2 : N / 2 ^ s % 256 < 128) : byC (nI N) s = nI (N / 2 ^ s % 256) := by
  have sh : ∀ t : UInt32, t.toNat = s → ((nI N).toUInt32 >>> t).toInt32 = nI (N / 2 ^ s) := fun t ht => by
    have s32 : s < 32 := by omega
    have e1 : ((nI N).toUInt32 >>> t).toNat = N / 2 ^ s := by
      rw [UInt32.toNat_shiftRight, ht, Nat.mod_eq_of_lt s32, Nat.shiftRight_eq_div_pow]
      congr 1
      show (nI N).toUInt32.toNat = N
      have : (nI N).toUInt32 = UInt32.ofNat N := by
        unfold nI
        rw [Int32.toUInt32_ofNat']
      rw [this, UInt32.toNat_ofNat_of_lt' (by show N < 2 ^ 32; omega)]
    have e2 : N / 2 ^ s < 2 ^ 31 := Nat.lt_of_le_of_lt (Nat.div_le_self _ _) h
    have e3 : (nI N).toUInt32 >>> t = UInt32.ofNat (N / 2 ^ s) := by
      apply UInt32.toNat.inj
      rw [e1, UInt32.toNat_ofNat_of_lt' (by show _ < 2 ^ 32; omega)]
    rw [e3, UInt32.toInt32_ofNat']
    rfl
  have hN : N / 2 ^ s < 2 ^ 31 := Nat.lt_of_le_of_lt (Nat.div_le_self _ _) h
  have lt : N / 2 ^ s % 256 < 2 ^ 31 := by omega
  unfold byC
  have st : ((nI s).toUInt32 &&& Int32.toUInt32 31).toNat = s := by
    obtain rfl | rfl | rfl | rfl := hs
    all_goals decide
  rw [sh _ st, byte_nI hN h2, byte_nI lt (by omega), Nat.mod_mod]
/-- twenty bytes as five words -/
def wv (pb : Nat → Nat) (k : Nat) : Nat := pb (4 * k) * 2 ^ 24 + pb (4 * k + 1) * 2 ^ 16 + pb (4 * k + 2) * 2 ^ 8 + pb (4 * k + 3)
theorem wv_lt {pb : Nat → Nat} (h : ∀ i, pb i < 128) (k : Nat) : wv pb k < 2 ^ 31 := by
  have a := h (4 * k)
  have b := h (4 * k + 1)
  have c := h (4 * k + 2)
  have d := h (4 * k + 3)
  unfold wv
  omega
theorem wv_by {pb : Nat → Nat} (h : ∀ i, pb i < 128) {i : Nat} : byC (nI (wv pb (i / 4))) (24 - 8 * (i % 4)) = nI (pb i) := by
  have a := h (4 * (i / 4))
  have b := h (4 * (i / 4) + 1)
  have c := h (4 * (i / 4) + 2)
  have d := h (4 * (i / 4) + 3)
  have l := wv_lt h (i / 4)
  have e : wv pb (i / 4) / 2 ^ (24 - 8 * (i % 4)) % 256 = pb i := by
    unfold wv
    obtain e | e | e | e : i % 4 = 0 ∨ i % 4 = 1 ∨ i % 4 = 2 ∨ i % 4 = 3 := by omega
    · rw [e, show pb i = pb (4 * (i / 4)) by congr 1; omega]
      simp only [Nat.mul_zero, Nat.sub_zero]
      omega
    · rw [e, show pb i = pb (4 * (i / 4) + 1) by congr 1; omega]
      simp only [Nat.mul_one, Nat.reduceSub]
      omega
    · rw [e, show pb i = pb (4 * (i / 4) + 2) by congr 1; omega]
      simp only [Nat.reduceMul, Nat.reduceSub]
      omega
    · rw [e, show pb i = pb (4 * (i / 4) + 3) by congr 1; omega]
      simp only [Nat.reduceMul, Nat.reduceSub, Nat.pow_zero, Nat.div_one]
      omega
  rw [byC_nI l (by omega) (by rw [e]; exact h i), e]
def updB (pb : Nat → Nat) (r c : Nat) : Nat → Nat := fun i => if i = r then c else pb i
theorem wv_or {pb : Nat → Nat} {r c : Nat} (hc : c < 128) (h0 : ∀ i, r ≤ i → pb i = 0) : nI (wv pb (r / 4)) ||| nI (c * 2 ^ (24 - 8 * (r % 4))) = nI (wv (updB pb r c) (r / 4)) := by
  rw [or_nI]
  congr 1
  have z := fun i (hi : r ≤ i) => h0 i hi
  unfold wv updB
  obtain e | e | e | e : r % 4 = 0 ∨ r % 4 = 1 ∨ r % 4 = 2 ∨ r % 4 = 3 := by omega
  · rw [z (4 * (r / 4)) (by omega), z (4 * (r / 4) + 1) (by omega), z (4 * (r / 4) + 2) (by omega), z (4 * (r / 4) + 3) (by omega), if_pos (by omega), if_neg (by omega), if_neg (by omega), if_neg (by omega), e]
    simp
  · rw [z (4 * (r / 4) + 1) (by omega), z (4 * (r / 4) + 2) (by omega), z (4 * (r / 4) + 3) (by omega), if_neg (by omega), if_pos (by omega), if_neg (by omega), if_neg (by omega), e]
    simp only [Nat.zero_mul, Nat.add_zero, Nat.mul_one, Nat.reduceSub]
    exact or_add (s := 16) (by omega) ⟨pb (4 * (r / 4)), Nat.mul_comm _ _⟩
  · rw [z (4 * (r / 4) + 2) (by omega), z (4 * (r / 4) + 3) (by omega), if_neg (by omega), if_neg (by omega), if_pos (by omega), if_neg (by omega), e]
    simp only [Nat.zero_mul, Nat.add_zero, Nat.reduceMul, Nat.reduceSub]
    exact or_add (s := 8) (by omega) ⟨pb (4 * (r / 4)) * 2 ^ 8 + pb (4 * (r / 4) + 1), by omega⟩
  · rw [z (4 * (r / 4) + 3) (by omega), if_neg (by omega), if_neg (by omega), if_neg (by omega), if_pos (by omega), e]
    simp only [Nat.add_zero, Nat.reduceMul, Nat.reduceSub, Nat.pow_zero, Nat.mul_one]
    have := or_add (a := pb (4 * (r / 4)) * 2 ^ 24 + pb (4 * (r / 4) + 1) * 2 ^ 16 + pb (4 * (r / 4) + 2) * 2 ^ 8) (c := c) (s := 0) (by omega) ⟨pb (4 * (r / 4)) * 2 ^ 16 + pb (4 * (r / 4) + 1) * 2 ^ 8 + pb (4 * (r / 4) + 2), by omega⟩
    rw [Nat.pow_zero, Nat.mul_one] at this
    exact this
theorem wv_ne {pb : Nat → Nat} {r c k : Nat} (h : k ≠ r / 4) : wv (updB pb r c) k = wv pb k := by
  unfold wv updB
  rw [if_neg (by omega), if_neg (by omega), if_neg (by omega), if_neg (by omega)]
/-- what append lays behind the buffer's letters -/
theorem up_gC7 (W : Nat → Int32) : ∀ (d k : Nat) (F : RFc) (q : Nat), (up (gC7 W) d k F).B q = if F.n ≤ q ∧ q < F.n + d then byC (W ((k + (q - F.n)) / 4)) (24 - 8 * ((k + (q - F.n)) % 4)) else F.B q
  | 0, k, F, q => by rw [up, if_neg (by omega)]
  | d + 1, k, F, q => by
    rw [up, up_gC7 W d (k + 1) (gC7 W k F) q]
    have en : (gC7 W k F).n = F.n + 1 := rfl
    have eb : (gC7 W k F).B q = upd F.B F.n (byC (W (k / 4)) (24 - 8 * (k % 4))) q := rfl
    rw [en, eb]
    by_cases c : q = F.n
    · subst c
      rw [if_neg (by omega), if_pos (by omega), upd_at, Nat.sub_self, Nat.add_zero]
    · rw [upd_ne c]
      by_cases c2 : F.n + 1 ≤ q ∧ q < F.n + 1 + d
      · rw [if_pos c2, if_pos (by omega), show k + 1 + (q - (F.n + 1)) = k + (q - F.n) by omega]
      · rw [if_neg c2, if_neg (by omega)]
