/-! what the generated functions answer, and a few rows more -/
def g_rI (h : gH) : Int32 → Option Value × gH := fun x => (some (.int x), h)
def g_rL (h : gH) : Int64 → Option Value × gH := fun x => (some (.long x), h)
def g_rD (h : gH) : UInt64 → Option Value × gH := fun x => (some (.double x), h)
def g_rA (h : gH) : Nat → Option Value × gH := fun x => (some (.ref x), h)
def g_rQ (h : gH) : Option Nat → Option Value × gH := fun x => (some (va_rf x), h)
def g_wI : Int32 × gH → Option Value × gH := fun x => (some (.int x.1), x.2)
def g_wL : Int64 × gH → Option Value × gH := fun x => (some (.long x.1), x.2)
def g_wA : Nat × gH → Option Value × gH := fun x => (some (.ref x.1), x.2)
def g_wU : gH → Option Value × gH := fun x => (none, x)
section GXE
variable {α : Type} {l : Launch} {G : gG} {M : gMt} {Φ : α → Method → Code → State → Array Value → List Frame → State → Prop} {k n pc nx x1 x2 : Nat} {L : List (Option Value)} {st stk : List Value} {h : gH} {F : Option α}
theorem X_dif {c : Prop} [Decidable c] {F1 : c → Option α} {F2 : Option α} (k1 : ∀ hc : c, GX l G M Φ k n pc L st h (F1 hc)) (k2 : ¬ c → GX l G M Φ k n pc L st h F2) : GX l G M Φ k n pc L st h (if hc : c then F1 hc else F2) := by
  by_cases hc : c
  · rw [dif_pos hc]; exact k1 hc
  · rw [dif_neg hc]; exact k2 hc
theorem X_ifP {c : Prop} [Decidable c] {a1 a2 : α} (k1 : c → GX l G M Φ k n pc L st h (some a1)) (k2 : ¬ c → GX l G M Φ k n pc L st h (some a2)) : GX l G M Φ k n pc L st h (some (if c then a1 else a2)) := by
  by_cases hc : c
  · rw [if_pos hc]; exact k1 hc
  · rw [if_neg hc]; exact k2 hc
theorem X_zb {v : Int32} {K : Int32 → Option α} (kk : ∀ z, v = 0 ∨ v = 1 → GX l G M Φ k n pc L st h (K z)) : GX l G M Φ k n pc L st h ((g_z v).bind K) := by
  unfold g_z
  by_cases hc : v = 0 ∨ v = 1
  · rw [if_pos hc]; exact kk v hc
  · rw [if_neg hc]; exact X_none
theorem g_znar {v : Int32} (h : v = 0 ∨ v = 1) : narrow .boolean (.int v) = .int v := by rcases h with rfl | rfl <;> rfl
theorem g_zfit {v : Int32} (h : v = 0 ∨ v = 1) : fits .boolean (.int v) = true := by rcases h with rfl | rfl <;> rfl
def g_min (x y : Int32) : Int32 := if y < x then y else x
theorem X_mmin {x y : Int32} {idx : Nat} (hd : g_lk (m_code M) pc = some (.invokestatic idx, nx, x1, x2)) (hn : nx = pc + 3) (hlk : Cond.methodLink (m_y M).cls idx Lib.Math.min.name ∈ lw_tbl) (hst : Cond.static Lib.Math.min.name ∈ lw_tbl) (hini : Cond.initialized "java/lang/Math" ∈ lw_tbl) (hco : Cond.code Lib.Math.min.name Lib.Math.min.code 2 (some .int) ∈ lw_tbl) (hf : Nat.ble 1 (m_R M).frames = true) (hlo : Nat.ble ((st.map fun v => v.category).sum + 13) (m_R M).locals = true) (hk : Nat.ble k (m_R M).cells = true) (hs : Nat.ble n (m_R M).slots = true) (kk : GX l G M Φ k n nx L (.int (g_min x y) :: st) h F) : GX l G M Φ k n pc L (.int y :: .int x :: st) h F := by
  intro r hr p e s m args below meth c H locs A B hl hM hS
  have hg := g_dec B.2.2.2.2.2.2.2.2.2 hd hn
  have ok : ∀ w ∈ lw_tbl, goodWord w = true → w.before args s = true := B.2.2.2.2.2.2.1
  have q := kk r hr p e s m args below meth c H locs A B hl hM hS
  rw [hn] at q
  exact va_mmin B.1 B.2.1 (by rw [B.2.2.1]; exact hl.1.symm) B.2.2.2.2.2.1 (ok _ hlk rfl) (ok _ hst rfl) (ok _ hini rfl) (ok _ hco rfl) (Nat.le_of_ble_eq_true hf) (Nat.le_of_ble_eq_true hlo) (Nat.le_of_ble_eq_true hk) (Nat.le_of_ble_eq_true hs) hg q
def g_max (x y : Int32) : Int32 := if x < y then y else x
theorem X_mmax {x y : Int32} {idx : Nat} (hd : g_lk (m_code M) pc = some (.invokestatic idx, nx, x1, x2)) (hn : nx = pc + 3) (hlk : Cond.methodLink (m_y M).cls idx Lib.Math.max.name ∈ lw_tbl) (hst : Cond.static Lib.Math.max.name ∈ lw_tbl) (hini : Cond.initialized "java/lang/Math" ∈ lw_tbl) (hco : Cond.code Lib.Math.max.name Lib.Math.max.code 2 (some .int) ∈ lw_tbl) (hf : Nat.ble 1 (m_R M).frames = true) (hlo : Nat.ble ((st.map fun v => v.category).sum + 13) (m_R M).locals = true) (hk : Nat.ble k (m_R M).cells = true) (hs : Nat.ble n (m_R M).slots = true) (kk : GX l G M Φ k n nx L (.int (g_max x y) :: st) h F) : GX l G M Φ k n pc L (.int y :: .int x :: st) h F := by
  intro r hr p e s m args below meth c H locs A B hl hM hS
  have hg := g_dec B.2.2.2.2.2.2.2.2.2 hd hn
  have ok : ∀ w ∈ lw_tbl, goodWord w = true → w.before args s = true := B.2.2.2.2.2.2.1
  have q := kk r hr p e s m args below meth c H locs A B hl hM hS
  rw [hn] at q
  exact va_mmax B.1 B.2.1 (by rw [B.2.2.1]; exact hl.1.symm) B.2.2.2.2.2.1 (ok _ hlk rfl) (ok _ hst rfl) (ok _ hini rfl) (ok _ hco rfl) (Nat.le_of_ble_eq_true hf) (Nat.le_of_ble_eq_true hlo) (Nat.le_of_ble_eq_true hk) (Nat.le_of_ble_eq_true hs) hg q
theorem X_aretA {ρ : α → Option Value × gH} {mc ms : Nat} {r0 : α} {v : Nat} {nm : String} (hd : g_lk (m_code M) pc = some (.areturn, nx, x1, x2)) (hn : nx = pc + 1) (hty : m_ret M = some (.object nm)) (hρ : ρ r0 = (some (.ref v), h)) (hk : Nat.ble k mc = true) (hs : Nat.ble n ms = true) : GX l G M (g_phi G ρ mc ms) k n pc L [.ref v] h (some r0) :=
  X_aret (v := some v) hd hn hty hρ hk hs
end GXE
