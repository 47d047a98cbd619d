/-! the reference's object as one record: its numbers, its buffer, its rows (0 data, 1 draft, 2 aside, 4 .. 11 the history) -/
def RMo : Type := Int32 × Int32 × Int32 × Int32 × Int32 × Int32 × Int32 × Int32 × Int32 × Int32 × (Nat → Int32) × (Nat → Nat → Int32)
def RMo.mk (th : Int32) (bl : Int32) (tl : Int32) (pos : Int32) (err : Int32) (ea : Int32) (eo : Int32) (ud : Int32) (ns : Int32) (tc : Int32) (buf : Nat → Int32) (rows : Nat → Nat → Int32) : RMo := (th, bl, tl, pos, err, ea, eo, ud, ns, tc, buf, rows)
def RMo.th (R : RMo) : Int32 := R.1
def RMo.bl (R : RMo) : Int32 := R.2.1
def RMo.tl (R : RMo) : Int32 := R.2.2.1
def RMo.pos (R : RMo) : Int32 := R.2.2.2.1
def RMo.err (R : RMo) : Int32 := R.2.2.2.2.1
def RMo.ea (R : RMo) : Int32 := R.2.2.2.2.2.1
def RMo.eo (R : RMo) : Int32 := R.2.2.2.2.2.2.1
def RMo.ud (R : RMo) : Int32 := R.2.2.2.2.2.2.2.1
def RMo.ns (R : RMo) : Int32 := R.2.2.2.2.2.2.2.2.1
def RMo.tc (R : RMo) : Int32 := R.2.2.2.2.2.2.2.2.2.1
def RMo.buf (R : RMo) : Nat → Int32 := R.2.2.2.2.2.2.2.2.2.2.1
def RMo.rows (R : RMo) : Nat → Nat → Int32 := R.2.2.2.2.2.2.2.2.2.2.2
def RMo.s_th (R : RMo) (v : Int32) : RMo := RMo.mk v R.bl R.tl R.pos R.err R.ea R.eo R.ud R.ns R.tc R.buf R.rows
theorem RMo_u_th (R : RMo) (v : Int32) : R.s_th v = RMo.mk v R.bl R.tl R.pos R.err R.ea R.eo R.ud R.ns R.tc R.buf R.rows := rfl
def RMo.s_bl (R : RMo) (v : Int32) : RMo := RMo.mk R.th v R.tl R.pos R.err R.ea R.eo R.ud R.ns R.tc R.buf R.rows
theorem RMo_u_bl (R : RMo) (v : Int32) : R.s_bl v = RMo.mk R.th v R.tl R.pos R.err R.ea R.eo R.ud R.ns R.tc R.buf R.rows := rfl
def RMo.s_tl (R : RMo) (v : Int32) : RMo := RMo.mk R.th R.bl v R.pos R.err R.ea R.eo R.ud R.ns R.tc R.buf R.rows
theorem RMo_u_tl (R : RMo) (v : Int32) : R.s_tl v = RMo.mk R.th R.bl v R.pos R.err R.ea R.eo R.ud R.ns R.tc R.buf R.rows := rfl
def RMo.s_pos (R : RMo) (v : Int32) : RMo := RMo.mk R.th R.bl R.tl v R.err R.ea R.eo R.ud R.ns R.tc R.buf R.rows
theorem RMo_u_pos (R : RMo) (v : Int32) : R.s_pos v = RMo.mk R.th R.bl R.tl v R.err R.ea R.eo R.ud R.ns R.tc R.buf R.rows := rfl
def RMo.s_err (R : RMo) (v : Int32) : RMo := RMo.mk R.th R.bl R.tl R.pos v R.ea R.eo R.ud R.ns R.tc R.buf R.rows
theorem RMo_u_err (R : RMo) (v : Int32) : R.s_err v = RMo.mk R.th R.bl R.tl R.pos v R.ea R.eo R.ud R.ns R.tc R.buf R.rows := rfl
def RMo.s_ea (R : RMo) (v : Int32) : RMo := RMo.mk R.th R.bl R.tl R.pos R.err v R.eo R.ud R.ns R.tc R.buf R.rows
theorem RMo_u_ea (R : RMo) (v : Int32) : R.s_ea v = RMo.mk R.th R.bl R.tl R.pos R.err v R.eo R.ud R.ns R.tc R.buf R.rows := rfl
def RMo.s_eo (R : RMo) (v : Int32) : RMo := RMo.mk R.th R.bl R.tl R.pos R.err R.ea v R.ud R.ns R.tc R.buf R.rows
theorem RMo_u_eo (R : RMo) (v : Int32) : R.s_eo v = RMo.mk R.th R.bl R.tl R.pos R.err R.ea v R.ud R.ns R.tc R.buf R.rows := rfl
def RMo.s_ud (R : RMo) (v : Int32) : RMo := RMo.mk R.th R.bl R.tl R.pos R.err R.ea R.eo v R.ns R.tc R.buf R.rows
theorem RMo_u_ud (R : RMo) (v : Int32) : R.s_ud v = RMo.mk R.th R.bl R.tl R.pos R.err R.ea R.eo v R.ns R.tc R.buf R.rows := rfl
def RMo.s_ns (R : RMo) (v : Int32) : RMo := RMo.mk R.th R.bl R.tl R.pos R.err R.ea R.eo R.ud v R.tc R.buf R.rows
theorem RMo_u_ns (R : RMo) (v : Int32) : R.s_ns v = RMo.mk R.th R.bl R.tl R.pos R.err R.ea R.eo R.ud v R.tc R.buf R.rows := rfl
def RMo.s_tc (R : RMo) (v : Int32) : RMo := RMo.mk R.th R.bl R.tl R.pos R.err R.ea R.eo R.ud R.ns v R.buf R.rows
theorem RMo_u_tc (R : RMo) (v : Int32) : R.s_tc v = RMo.mk R.th R.bl R.tl R.pos R.err R.ea R.eo R.ud R.ns v R.buf R.rows := rfl
def RMo.s_buf (R : RMo) (v : Nat → Int32) : RMo := RMo.mk R.th R.bl R.tl R.pos R.err R.ea R.eo R.ud R.ns R.tc v R.rows
theorem RMo_u_buf (R : RMo) (v : Nat → Int32) : R.s_buf v = RMo.mk R.th R.bl R.tl R.pos R.err R.ea R.eo R.ud R.ns R.tc v R.rows := rfl
def RMo.s_rows (R : RMo) (v : Nat → Nat → Int32) : RMo := RMo.mk R.th R.bl R.tl R.pos R.err R.ea R.eo R.ud R.ns R.tc R.buf v
theorem RMo_u_rows (R : RMo) (v : Nat → Nat → Int32) : R.s_rows v = RMo.mk R.th R.bl R.tl R.pos R.err R.ea R.eo R.ud R.ns R.tc R.buf v := rfl
theorem RMo_th (th : Int32) (bl : Int32) (tl : Int32) (pos : Int32) (err : Int32) (ea : Int32) (eo : Int32) (ud : Int32) (ns : Int32) (tc : Int32) (buf : Nat → Int32) (rows : Nat → Nat → Int32) : (RMo.mk th bl tl pos err ea eo ud ns tc buf rows).th = th := rfl
theorem RMo_bl (th : Int32) (bl : Int32) (tl : Int32) (pos : Int32) (err : Int32) (ea : Int32) (eo : Int32) (ud : Int32) (ns : Int32) (tc : Int32) (buf : Nat → Int32) (rows : Nat → Nat → Int32) : (RMo.mk th bl tl pos err ea eo ud ns tc buf rows).bl = bl := rfl
theorem RMo_tl (th : Int32) (bl : Int32) (tl : Int32) (pos : Int32) (err : Int32) (ea : Int32) (eo : Int32) (ud : Int32) (ns : Int32) (tc : Int32) (buf : Nat → Int32) (rows : Nat → Nat → Int32) : (RMo.mk th bl tl pos err ea eo ud ns tc buf rows).tl = tl := rfl
theorem RMo_pos (th : Int32) (bl : Int32) (tl : Int32) (pos : Int32) (err : Int32) (ea : Int32) (eo : Int32) (ud : Int32) (ns : Int32) (tc : Int32) (buf : Nat → Int32) (rows : Nat → Nat → Int32) : (RMo.mk th bl tl pos err ea eo ud ns tc buf rows).pos = pos := rfl
theorem RMo_err (th : Int32) (bl : Int32) (tl : Int32) (pos : Int32) (err : Int32) (ea : Int32) (eo : Int32) (ud : Int32) (ns : Int32) (tc : Int32) (buf : Nat → Int32) (rows : Nat → Nat → Int32) : (RMo.mk th bl tl pos err ea eo ud ns tc buf rows).err = err := rfl
theorem RMo_ea (th : Int32) (bl : Int32) (tl : Int32) (pos : Int32) (err : Int32) (ea : Int32) (eo : Int32) (ud : Int32) (ns : Int32) (tc : Int32) (buf : Nat → Int32) (rows : Nat → Nat → Int32) : (RMo.mk th bl tl pos err ea eo ud ns tc buf rows).ea = ea := rfl
theorem RMo_eo (th : Int32) (bl : Int32) (tl : Int32) (pos : Int32) (err : Int32) (ea : Int32) (eo : Int32) (ud : Int32) (ns : Int32) (tc : Int32) (buf : Nat → Int32) (rows : Nat → Nat → Int32) : (RMo.mk th bl tl pos err ea eo ud ns tc buf rows).eo = eo := rfl
theorem RMo_ud (th : Int32) (bl : Int32) (tl : Int32) (pos : Int32) (err : Int32) (ea : Int32) (eo : Int32) (ud : Int32) (ns : Int32) (tc : Int32) (buf : Nat → Int32) (rows : Nat → Nat → Int32) : (RMo.mk th bl tl pos err ea eo ud ns tc buf rows).ud = ud := rfl
theorem RMo_ns (th : Int32) (bl : Int32) (tl : Int32) (pos : Int32) (err : Int32) (ea : Int32) (eo : Int32) (ud : Int32) (ns : Int32) (tc : Int32) (buf : Nat → Int32) (rows : Nat → Nat → Int32) : (RMo.mk th bl tl pos err ea eo ud ns tc buf rows).ns = ns := rfl
theorem RMo_tc (th : Int32) (bl : Int32) (tl : Int32) (pos : Int32) (err : Int32) (ea : Int32) (eo : Int32) (ud : Int32) (ns : Int32) (tc : Int32) (buf : Nat → Int32) (rows : Nat → Nat → Int32) : (RMo.mk th bl tl pos err ea eo ud ns tc buf rows).tc = tc := rfl
theorem RMo_buf (th : Int32) (bl : Int32) (tl : Int32) (pos : Int32) (err : Int32) (ea : Int32) (eo : Int32) (ud : Int32) (ns : Int32) (tc : Int32) (buf : Nat → Int32) (rows : Nat → Nat → Int32) : (RMo.mk th bl tl pos err ea eo ud ns tc buf rows).buf = buf := rfl
theorem RMo_rows (th : Int32) (bl : Int32) (tl : Int32) (pos : Int32) (err : Int32) (ea : Int32) (eo : Int32) (ud : Int32) (ns : Int32) (tc : Int32) (buf : Nat → Int32) (rows : Nat → Nat → Int32) : (RMo.mk th bl tl pos err ea eo ud ns tc buf rows).rows = rows := rfl
theorem RMo_eta (R : RMo) : RMo.mk R.th R.bl R.tl R.pos R.err R.ea R.eo R.ud R.ns R.tc R.buf R.rows = R := rfl
theorem RMo_s : (∀ (th : Int32) (bl : Int32) (tl : Int32) (pos : Int32) (err : Int32) (ea : Int32) (eo : Int32) (ud : Int32) (ns : Int32) (tc : Int32) (buf : Nat → Int32) (rows : Nat → Nat → Int32), (RMo.mk th bl tl pos err ea eo ud ns tc buf rows).th = th) ∧ (∀ (th : Int32) (bl : Int32) (tl : Int32) (pos : Int32) (err : Int32) (ea : Int32) (eo : Int32) (ud : Int32) (ns : Int32) (tc : Int32) (buf : Nat → Int32) (rows : Nat → Nat → Int32), (RMo.mk th bl tl pos err ea eo ud ns tc buf rows).bl = bl) ∧ (∀ (th : Int32) (bl : Int32) (tl : Int32) (pos : Int32) (err : Int32) (ea : Int32) (eo : Int32) (ud : Int32) (ns : Int32) (tc : Int32) (buf : Nat → Int32) (rows : Nat → Nat → Int32), (RMo.mk th bl tl pos err ea eo ud ns tc buf rows).tl = tl) ∧ (∀ (th : Int32) (bl : Int32) (tl : Int32) (pos : Int32) (err : Int32) (ea : Int32) (eo : Int32) (ud : Int32) (ns : Int32) (tc : Int32) (buf : Nat → Int32) (rows : Nat → Nat → Int32), (RMo.mk th bl tl pos err ea eo ud ns tc buf rows).pos = pos) ∧ (∀ (th : Int32) (bl : Int32) (tl : Int32) (pos : Int32) (err : Int32) (ea : Int32) (eo : Int32) (ud : Int32) (ns : Int32) (tc : Int32) (buf : Nat → Int32) (rows : Nat → Nat → Int32), (RMo.mk th bl tl pos err ea eo ud ns tc buf rows).err = err) ∧ (∀ (th : Int32) (bl : Int32) (tl : Int32) (pos : Int32) (err : Int32) (ea : Int32) (eo : Int32) (ud : Int32) (ns : Int32) (tc : Int32) (buf : Nat → Int32) (rows : Nat → Nat → Int32), (RMo.mk th bl tl pos err ea eo ud ns tc buf rows).ea = ea) ∧ (∀ (th : Int32) (bl : Int32) (tl : Int32) (pos : Int32) (err : Int32) (ea : Int32) (eo : Int32) (ud : Int32) (ns : Int32) (tc : Int32) (buf : Nat → Int32) (rows : Nat → Nat → Int32), (RMo.mk th bl tl pos err ea eo ud ns tc buf rows).eo = eo) ∧ (∀ (th : Int32) (bl : Int32) (tl : Int32) (pos : Int32) (err : Int32) (ea : Int32) (eo : Int32) (ud : Int32) (ns : Int32) (tc : Int32) (buf : Nat → Int32) (rows : Nat → Nat → Int32), (RMo.mk th bl tl pos err ea eo ud ns tc buf rows).ud = ud) ∧ (∀ (th : Int32) (bl : Int32) (tl : Int32) (pos : Int32) (err : Int32) (ea : Int32) (eo : Int32) (ud : Int32) (ns : Int32) (tc : Int32) (buf : Nat → Int32) (rows : Nat → Nat → Int32), (RMo.mk th bl tl pos err ea eo ud ns tc buf rows).ns = ns) ∧ (∀ (th : Int32) (bl : Int32) (tl : Int32) (pos : Int32) (err : Int32) (ea : Int32) (eo : Int32) (ud : Int32) (ns : Int32) (tc : Int32) (buf : Nat → Int32) (rows : Nat → Nat → Int32), (RMo.mk th bl tl pos err ea eo ud ns tc buf rows).tc = tc) ∧ (∀ (th : Int32) (bl : Int32) (tl : Int32) (pos : Int32) (err : Int32) (ea : Int32) (eo : Int32) (ud : Int32) (ns : Int32) (tc : Int32) (buf : Nat → Int32) (rows : Nat → Nat → Int32), (RMo.mk th bl tl pos err ea eo ud ns tc buf rows).buf = buf) ∧ (∀ (th : Int32) (bl : Int32) (tl : Int32) (pos : Int32) (err : Int32) (ea : Int32) (eo : Int32) (ud : Int32) (ns : Int32) (tc : Int32) (buf : Nat → Int32) (rows : Nat → Nat → Int32), (RMo.mk th bl tl pos err ea eo ud ns tc buf rows).rows = rows) ∧ (∀ (R : RMo) (v : Int32), R.s_th v = RMo.mk v R.bl R.tl R.pos R.err R.ea R.eo R.ud R.ns R.tc R.buf R.rows) ∧ (∀ (R : RMo) (v : Int32), R.s_bl v = RMo.mk R.th v R.tl R.pos R.err R.ea R.eo R.ud R.ns R.tc R.buf R.rows) ∧ (∀ (R : RMo) (v : Int32), R.s_tl v = RMo.mk R.th R.bl v R.pos R.err R.ea R.eo R.ud R.ns R.tc R.buf R.rows) ∧ (∀ (R : RMo) (v : Int32), R.s_pos v = RMo.mk R.th R.bl R.tl v R.err R.ea R.eo R.ud R.ns R.tc R.buf R.rows) ∧ (∀ (R : RMo) (v : Int32), R.s_err v = RMo.mk R.th R.bl R.tl R.pos v R.ea R.eo R.ud R.ns R.tc R.buf R.rows) ∧ (∀ (R : RMo) (v : Int32), R.s_ea v = RMo.mk R.th R.bl R.tl R.pos R.err v R.eo R.ud R.ns R.tc R.buf R.rows) ∧ (∀ (R : RMo) (v : Int32), R.s_eo v = RMo.mk R.th R.bl R.tl R.pos R.err R.ea v R.ud R.ns R.tc R.buf R.rows) ∧ (∀ (R : RMo) (v : Int32), R.s_ud v = RMo.mk R.th R.bl R.tl R.pos R.err R.ea R.eo v R.ns R.tc R.buf R.rows) ∧ (∀ (R : RMo) (v : Int32), R.s_ns v = RMo.mk R.th R.bl R.tl R.pos R.err R.ea R.eo R.ud v R.tc R.buf R.rows) ∧ (∀ (R : RMo) (v : Int32), R.s_tc v = RMo.mk R.th R.bl R.tl R.pos R.err R.ea R.eo R.ud R.ns v R.buf R.rows) ∧ (∀ (R : RMo) (v : Nat → Int32), R.s_buf v = RMo.mk R.th R.bl R.tl R.pos R.err R.ea R.eo R.ud R.ns R.tc v R.rows) ∧ (∀ (R : RMo) (v : Nat → Nat → Int32), R.s_rows v = RMo.mk R.th R.bl R.tl R.pos R.err R.ea R.eo R.ud R.ns R.tc R.buf v) ∧ (∀ R : RMo, RMo.mk R.th R.bl R.tl R.pos R.err R.ea R.eo R.ud R.ns R.tc R.buf R.rows = R) := ⟨RMo_th, RMo_bl, RMo_tl, RMo_pos, RMo_err, RMo_ea, RMo_eo, RMo_ud, RMo_ns, RMo_tc, RMo_buf, RMo_rows, RMo_u_th, RMo_u_bl, RMo_u_tl, RMo_u_pos, RMo_u_err, RMo_u_ea, RMo_u_eo, RMo_u_ud, RMo_u_ns, RMo_u_tc, RMo_u_buf, RMo_u_rows, RMo_eta⟩
def mO (m : Nat) (R : RMo) : gC := .inr (8, [.int R.th, .ref (m + 1), .int R.bl, .int R.tl, .int R.pos, .int R.err, .int R.ea, .int R.eo, .ref (m + 2), .ref (m + 3), .ref (m + 4), .ref (m + 5), .int R.ud, .int R.ns, .int R.tc])
def mA (m : Nat) : gC := .inl (3, 8, .inr (.inr (.inr (.inr fun i => if i < 8 then some (m + 6 + i) else none))))
def mC (m : Nat) (R : RMo) (j : Nat) : Option gC :=
  if j = 0 then some (mO m R) else if j = 1 then some (.inl (0, 500, .inl R.buf)) else if j = 5 then some (mA m) else some (.inl (0, 928, .inl (R.rows (j - 2))))
def mP (h : gH) (m : Nat) (R : RMo) : gH := (h.1, fun q => if m ≤ q ∧ q < m + 14 then mC m R (q - m) else h.2 q)
def mIs (f : Nat → Option gC) (m : Nat) (R : RMo) : Prop := ∀ j, j < 14 → f (m + j) = mC m R j
theorem mP_in (h : gH) (m : Nat) (R : RMo) {j : Nat} (hj : j < 14) : (mP h m R).2 (m + j) = mC m R j := by
  show (if m ≤ m + j ∧ m + j < m + 14 then mC m R (m + j - m) else h.2 (m + j)) = _
  rw [if_pos ⟨by omega, by omega⟩, Nat.add_sub_cancel_left]
theorem mP_out (h : gH) (m : Nat) (R : RMo) {q : Nat} (hq : q < m ∨ m + 14 ≤ q) : (mP h m R).2 q = h.2 q := by
  show (if m ≤ q ∧ q < m + 14 then mC m R (q - m) else h.2 q) = _
  rw [if_neg (by omega)]
theorem mP_is (h : gH) (m : Nat) (R : RMo) : mIs (mP h m R).2 m R := fun _ hj => mP_in h m R hj
theorem mP_self {h : gH} {m : Nat} {R : RMo} (H : mIs h.2 m R) : mP h m R = h := by
  refine Prod.ext rfl (funext fun q => ?_)
  show (if m ≤ q ∧ q < m + 14 then mC m R (q - m) else h.2 q) = _
  split
  · rename_i c
    rw [← H (q - m) (by omega), show m + (q - m) = q by omega]
  · rfl
theorem mP_P (h : gH) (m : Nat) (R R' : RMo) : mP (mP h m R) m R' = mP h m R' := by
  refine Prod.ext rfl (funext fun q => ?_)
  show (if m ≤ q ∧ q < m + 14 then mC m R' (q - m) else if m ≤ q ∧ q < m + 14 then mC m R (q - m) else h.2 q) = (if m ≤ q ∧ q < m + 14 then mC m R' (q - m) else h.2 q)
  split <;> rfl
theorem mP_eq {h x : gH} {m : Nat} {R : RMo} (h1 : x.1 = h.1) (h2 : ∀ j, j < 14 → x.2 (m + j) = mC m R j) (h3 : ∀ q, q < m ∨ m + 14 ≤ q → x.2 q = h.2 q) : x = mP h m R := by
  refine Prod.ext h1 (funext fun q => ?_)
  by_cases c : m ≤ q ∧ q < m + 14
  · obtain ⟨j, rfl⟩ := Nat.exists_eq_add_of_le c.1
    rw [mP_in h m R (by omega), h2 j (by omega)]
  · rw [mP_out h m R (by omega), h3 q (by omega)]
section MO
variable (h : gH) (m : Nat) (R : RMo)
theorem m0 : (mP h m R).2 m = some (mO m R) := mP_in h m R (j := 0) (by decide)
theorem m1 : (mP h m R).2 (m + 1) = some (.inl (0, 500, .inl R.buf)) := mP_in h m R (j := 1) (by decide)
theorem m5 : (mP h m R).2 (m + 5) = some (mA m) := mP_in h m R (j := 5) (by decide)
theorem mR {j : Nat} (hj : j < 12) (h3 : j ≠ 3) : (mP h m R).2 (m + 2 + j) = some (.inl (0, 928, .inl (R.rows j))) := by
  rw [Nat.add_assoc, mP_in h m R (by omega)]
  unfold mC
  rw [if_neg (by omega), if_neg (by omega), if_neg (by omega), Nat.add_sub_cancel_left]
theorem mI : g_is (mP h m R) m 8 = true := by simp [g_is, m0, mO]
theorem mG_buf : g_gA (mP h m R) m 8 1 = some (m + 1) := gA_of (m0 h m R) rfl
theorem mG_data : g_gA (mP h m R) m 8 8 = some (m + 2) := gA_of (m0 h m R) rfl
theorem mG_draft : g_gA (mP h m R) m 8 9 = some (m + 3) := gA_of (m0 h m R) rfl
theorem mG_aside : g_gA (mP h m R) m 8 10 = some (m + 4) := gA_of (m0 h m R) rfl
theorem mG_hist : g_gA (mP h m R) m 8 11 = some (m + 5) := gA_of (m0 h m R) rfl
theorem mQ {i : Nat} (hi : i < 8) : g_qld (mP h m R) (m + 5) 3 (nI i) = some (some (m + 6 + i)) := by
  rw [qld_of (m5 h m R) hi (by decide), if_pos hi]
theorem mB_ld {i : Nat} (hi : i < 500) : g_ald (mP h m R) (m + 1) (nI i) = some (R.buf i) := ald_of (m1 h m R) hi (by decide)
theorem isM_m : isM (mP h m R) m := ⟨_, m0 h m R, rfl⟩
theorem mG_th : g_gI (mP h m R) m 8 0 = some R.th := gI_of (m0 h m R) rfl
theorem mT_th (v : Int32) : g_put (mP h m R) m 8 0 (.int v) = some (mP h m (R.s_th v)) := by
  rw [put_of (m0 h m R) (by simp)]
  refine congrArg some (mP_eq rfl (fun j hj => ?_) (fun q hq => ?_))
  · by_cases c : j = 0
    · subst c; exact set_at
    · rw [set_ne (by omega), mP_in h m R hj]
      simp only [mC, c, if_false]
      rfl
  · rw [set_ne (by omega), mP_out h m R hq]
theorem mG_bl : g_gI (mP h m R) m 8 2 = some R.bl := gI_of (m0 h m R) rfl
theorem mT_bl (v : Int32) : g_put (mP h m R) m 8 2 (.int v) = some (mP h m (R.s_bl v)) := by
  rw [put_of (m0 h m R) (by simp)]
  refine congrArg some (mP_eq rfl (fun j hj => ?_) (fun q hq => ?_))
  · by_cases c : j = 0
    · subst c; exact set_at
    · rw [set_ne (by omega), mP_in h m R hj]
      simp only [mC, c, if_false]
      rfl
  · rw [set_ne (by omega), mP_out h m R hq]
theorem mG_tl : g_gI (mP h m R) m 8 3 = some R.tl := gI_of (m0 h m R) rfl
theorem mT_tl (v : Int32) : g_put (mP h m R) m 8 3 (.int v) = some (mP h m (R.s_tl v)) := by
  rw [put_of (m0 h m R) (by simp)]
  refine congrArg some (mP_eq rfl (fun j hj => ?_) (fun q hq => ?_))
  · by_cases c : j = 0
    · subst c; exact set_at
    · rw [set_ne (by omega), mP_in h m R hj]
      simp only [mC, c, if_false]
      rfl
  · rw [set_ne (by omega), mP_out h m R hq]
theorem mG_pos : g_gI (mP h m R) m 8 4 = some R.pos := gI_of (m0 h m R) rfl
theorem mT_pos (v : Int32) : g_put (mP h m R) m 8 4 (.int v) = some (mP h m (R.s_pos v)) := by
  rw [put_of (m0 h m R) (by simp)]
  refine congrArg some (mP_eq rfl (fun j hj => ?_) (fun q hq => ?_))
  · by_cases c : j = 0
    · subst c; exact set_at
    · rw [set_ne (by omega), mP_in h m R hj]
      simp only [mC, c, if_false]
      rfl
  · rw [set_ne (by omega), mP_out h m R hq]
theorem mG_err : g_gI (mP h m R) m 8 5 = some R.err := gI_of (m0 h m R) rfl
theorem mT_err (v : Int32) : g_put (mP h m R) m 8 5 (.int v) = some (mP h m (R.s_err v)) := by
  rw [put_of (m0 h m R) (by simp)]
  refine congrArg some (mP_eq rfl (fun j hj => ?_) (fun q hq => ?_))
  · by_cases c : j = 0
    · subst c; exact set_at
    · rw [set_ne (by omega), mP_in h m R hj]
      simp only [mC, c, if_false]
      rfl
  · rw [set_ne (by omega), mP_out h m R hq]
theorem mG_ea : g_gI (mP h m R) m 8 6 = some R.ea := gI_of (m0 h m R) rfl
theorem mT_ea (v : Int32) : g_put (mP h m R) m 8 6 (.int v) = some (mP h m (R.s_ea v)) := by
  rw [put_of (m0 h m R) (by simp)]
  refine congrArg some (mP_eq rfl (fun j hj => ?_) (fun q hq => ?_))
  · by_cases c : j = 0
    · subst c; exact set_at
    · rw [set_ne (by omega), mP_in h m R hj]
      simp only [mC, c, if_false]
      rfl
  · rw [set_ne (by omega), mP_out h m R hq]
theorem mG_eo : g_gI (mP h m R) m 8 7 = some R.eo := gI_of (m0 h m R) rfl
theorem mT_eo (v : Int32) : g_put (mP h m R) m 8 7 (.int v) = some (mP h m (R.s_eo v)) := by
  rw [put_of (m0 h m R) (by simp)]
  refine congrArg some (mP_eq rfl (fun j hj => ?_) (fun q hq => ?_))
  · by_cases c : j = 0
    · subst c; exact set_at
    · rw [set_ne (by omega), mP_in h m R hj]
      simp only [mC, c, if_false]
      rfl
  · rw [set_ne (by omega), mP_out h m R hq]
theorem mG_ud : g_gI (mP h m R) m 8 12 = some R.ud := gI_of (m0 h m R) rfl
theorem mT_ud (v : Int32) : g_put (mP h m R) m 8 12 (.int v) = some (mP h m (R.s_ud v)) := by
  rw [put_of (m0 h m R) (by simp)]
  refine congrArg some (mP_eq rfl (fun j hj => ?_) (fun q hq => ?_))
  · by_cases c : j = 0
    · subst c; exact set_at
    · rw [set_ne (by omega), mP_in h m R hj]
      simp only [mC, c, if_false]
      rfl
  · rw [set_ne (by omega), mP_out h m R hq]
theorem mG_ns : g_gI (mP h m R) m 8 13 = some R.ns := gI_of (m0 h m R) rfl
theorem mT_ns (v : Int32) : g_put (mP h m R) m 8 13 (.int v) = some (mP h m (R.s_ns v)) := by
  rw [put_of (m0 h m R) (by simp)]
  refine congrArg some (mP_eq rfl (fun j hj => ?_) (fun q hq => ?_))
  · by_cases c : j = 0
    · subst c; exact set_at
    · rw [set_ne (by omega), mP_in h m R hj]
      simp only [mC, c, if_false]
      rfl
  · rw [set_ne (by omega), mP_out h m R hq]
theorem mG_tc : g_gI (mP h m R) m 8 14 = some R.tc := gI_of (m0 h m R) rfl
theorem mT_tc (v : Int32) : g_put (mP h m R) m 8 14 (.int v) = some (mP h m (R.s_tc v)) := by
  rw [put_of (m0 h m R) (by simp)]
  refine congrArg some (mP_eq rfl (fun j hj => ?_) (fun q hq => ?_))
  · by_cases c : j = 0
    · subst c; exact set_at
    · rw [set_ne (by omega), mP_in h m R hj]
      simp only [mC, c, if_false]
      rfl
  · rw [set_ne (by omega), mP_out h m R hq]
end MO
def updR (f : Nat → Nat → Int32) (j : Nat) (D : Nat → Int32) : Nat → Nat → Int32 := fun k => if k = j then D else f k
theorem updR_at (f : Nat → Nat → Int32) (j : Nat) (D : Nat → Int32) : updR f j D j = D := by simp [updR]
theorem updR_ne {f : Nat → Nat → Int32} {j k : Nat} {D : Nat → Int32} (h : k ≠ j) : updR f j D k = f k := by simp [updR, h]
theorem mS_buf (h : gH) (m : Nat) (R : RMo) (g : Nat → Int32) : g_set (mP h m R) (m + 1) (.inl (0, 500, .inl g)) = mP h m (R.s_buf g) := by
  refine mP_eq rfl (fun j hj => ?_) (fun q hq => ?_)
  · by_cases c : j = 1
    · subst c; exact set_at
    · rw [set_ne (by omega), mP_in h m R hj]
      simp only [mC, c, if_false]
      rfl
  · rw [set_ne (by omega), mP_out h m R hq]
theorem mB_st (h : gH) (m : Nat) (R : RMo) {i : Nat} (hi : i < 500) (v : Int32) : g_ast (mP h m R) (m + 1) (nI i) v = some (mP h m (R.s_buf (upd R.buf i v))) := by
  rw [ast_of (m1 h m R) hi (by decide), mS_buf]
/-- a row of 928 ints at the cell p -/
def rP (x : gH) (p : Nat) (D : Nat → Int32) : gH := g_set x p (.inl (0, 928, .inl D))
theorem rP_P (x : gH) (p : Nat) (D D' : Nat → Int32) : rP (rP x p D) p D' = rP x p D' := by
  refine Prod.ext rfl (funext fun q => ?_)
  simp only [rP, g_set]
  split <;> rfl
theorem rP_at (x : gH) (p : Nat) (D : Nat → Int32) : (rP x p D).2 p = some (.inl (0, 928, .inl D)) := set_at
theorem rP_ne {x : gH} {p q : Nat} {D : Nat → Int32} (h : q ≠ p) : (rP x p D).2 q = x.2 q := set_ne h
theorem rP_self {x : gH} {p : Nat} {D : Nat → Int32} (h : x.2 p = some (.inl (0, 928, .inl D))) : rP x p D = x := by
  refine Prod.ext rfl (funext fun q => ?_)
  simp only [rP, g_set]
  split
  · rename_i c; rw [c, h]
  · rfl
theorem rL {x : gH} {p i : Nat} {D : Nat → Int32} (hi : i < 928) : g_ald (rP x p D) p (nI i) = some (D i) := ald_of (rP_at x p D) hi (by decide)
theorem rS {x : gH} {p i : Nat} {D : Nat → Int32} (hi : i < 928) (v : Int32) : g_ast (rP x p D) p (nI i) v = some (rP x p (upd D i v)) := by
  rw [ast_of (rP_at x p D) hi (by decide)]
  exact congrArg some (rP_P x p D (upd D i v))
theorem rLe {x : gH} {p i : Nat} {D : Nat → Int32} {j : Int32} (e : j = nI i) (hi : i < 928) : g_ald (rP x p D) p j = some (D i) := e ▸ rL hi
theorem rSe {x : gH} {p i : Nat} {D : Nat → Int32} {j : Int32} (e : j = nI i) (hi : i < 928) (v : Int32) : g_ast (rP x p D) p j v = some (rP x p (upd D i v)) := e ▸ rS hi v
theorem mU_row (h : gH) (m : Nat) (R : RMo) {j : Nat} (hj : j < 12) (h3 : j ≠ 3) (D : Nat → Int32) : rP (mP h m R) (m + 2 + j) D = mP h m (R.s_rows (updR R.rows j D)) := by
  refine mP_eq rfl (fun k hk => ?_) (fun q hq => ?_)
  · by_cases c : k = 2 + j
    · subst c
      rw [← Nat.add_assoc, rP_at]
      unfold mC
      rw [if_neg (by omega), if_neg (by omega), if_neg (by omega), Nat.add_sub_cancel_left]
      show _ = some (Sum.inl (0, 928, Sum.inl (updR R.rows j D j)))
      rw [updR_at]
    · rw [rP_ne (by omega), mP_in h m R hk]
      unfold mC
      by_cases c0 : k = 0
      · rw [if_pos c0, if_pos c0]; rfl
      · rw [if_neg c0, if_neg c0]
        by_cases c1 : k = 1
        · rw [if_pos c1, if_pos c1]; rfl
        · rw [if_neg c1, if_neg c1]
          by_cases c5 : k = 5
          · rw [if_pos c5, if_pos c5]
          · rw [if_neg c5, if_neg c5]
            show _ = some (Sum.inl (0, 928, Sum.inl (updR R.rows j D (k - 2))))
            rw [updR_ne (by omega)]
  · rw [rP_ne (by omega), mP_out h m R hq]
theorem mE_row (h : gH) (m : Nat) (R : RMo) {j : Nat} (hj : j < 12) (h3 : j ≠ 3) : rP (mP h m R) (m + 2 + j) (R.rows j) = mP h m R := rP_self (mR h m R hj h3)
theorem mU_d (h : gH) (m : Nat) (R : RMo) (D : Nat → Int32) : dP (mP h m R) m D = mP h m (R.s_rows (updR R.rows 0 D)) := mU_row h m R (j := 0) (by decide) (by decide) D
theorem mE_d (h : gH) (m : Nat) (R : RMo) : dP (mP h m R) m (R.rows 0) = mP h m R := mE_row h m R (j := 0) (by decide) (by decide)
/-! copies of rows -/
def cpyr (n : Nat) (D E : Nat → Int32) : Nat → Int32 := fun k => if k < n then D k else E k
theorem cpyr_0 (D E : Nat → Int32) : cpyr 0 D E = E := funext fun k => by simp [cpyr]
theorem cpyr_s (n : Nat) (D E : Nat → Int32) : upd (cpyr n D E) n (D n) = cpyr (n + 1) D E := funext fun k => by
  unfold upd cpyr
  by_cases c : k = n
  · simp [c]
  · by_cases c2 : k < n
    · simp [c, c2, show k < n + 1 by omega]
    · simp [c, c2, show ¬ k < n + 1 by omega]
theorem cpyr_in {n k : Nat} {D E : Nat → Int32} (h : k < n) : cpyr n D E k = D k := by simp [cpyr, h]
theorem copy_r {x : gH} {p p' : Nat} {D E : Nat → Int32} (hp : x.2 p = some (.inl (0, 928, .inl D))) (hn : p ≠ p') : ∀ (d i fuel : Nat), i + d = 928 → d < fuel → f_X8_copy_b2 fuel (rP x p' (cpyr i D E)) p p' (nI i) = some (rP x p' (cpyr 928 D E)) := by
  intro d
  induction d with
  | zero =>
    intro i fuel hi hf
    obtain ⟨fu, rfl⟩ := Nat.exists_eq_succ_of_ne_zero (Nat.ne_of_gt hf)
    have : i = 928 := by omega
    subst this
    have c : ¬ nI 928 < 928 := by decide
    simp only [f_X8_copy_b2, c, if_false]
  | succ d ih =>
    intro i fuel hi hf
    obtain ⟨fu, rfl⟩ := Nat.exists_eq_succ_of_ne_zero (Nat.ne_of_gt (Nat.zero_lt_of_lt hf))
    have c : nI i < 928 := by rw [show (928 : Int32) = nI 928 by decide]; exact nI_lt (by omega) (by decide)
    have e : (rP x p' (cpyr i D E)).2 p = some (.inl (0, 928, .inl D)) := by rw [rP_ne hn]; exact hp
    simp only [f_X8_copy_b2, c, if_true, ald_of e (show i < 928 by omega) (by decide), Option.bind_some, rS (show i < 928 by omega), cpyr_s, ← nI_succ]
    exact ih (i + 1) fu (by omega) (by omega)
theorem mcopy (h : gH) (m : Nat) (R : RMo) {i j : Nat} (hi : i < 12) (hi3 : i ≠ 3) (hj : j < 12) (hj3 : j ≠ 3) (hij : i ≠ j) : f_X8_copy (mP h m R) (m + 2 + i) (m + 2 + j) = some (mP h m (R.s_rows (updR R.rows j (cpyr 928 (R.rows i) (R.rows j))))) := by
  have q := copy_r (x := mP h m R) (p := m + 2 + i) (p' := m + 2 + j) (D := R.rows i) (E := R.rows j) (mR h m R hi hi3) (by omega) 928 0 g_N (by omega) (by unfold g_N; omega)
  rw [cpyr_0, mE_row h m R hj hj3, mU_row h m R hj hj3, nI_0] at q
  exact q
/-! the history -/
def hist (u : Nat) (rows rows' : Nat → Nat → Int32) : Prop := (∀ j, j < 4 → rows' j = rows j) ∧ (u < 8 → (∀ k, k < 928 → rows' (4 + u) k = rows 0 k) ∧ ∀ i, i < u → rows' (4 + i) = rows (4 + i)) ∧ (u = 8 → (∀ k, k < 928 → rows' 11 k = rows 0 k) ∧ ∀ i, i < 7 → ∀ k, k < 928 → rows' (4 + i) k = rows (4 + i + 1) k)
theorem rem_b50 (h : gH) (m : Nat) (R : RMo) {u : Nat} (hu : u < 8) (e : R.ud = nI u) : f_X8_remember_b50 (mP h m R) m = some (mP h m ((R.s_rows (updR R.rows (4 + u) (cpyr 928 (R.rows 0) (R.rows (4 + u))))).s_ud (nI (u + 1)))) := by
  have e1 : nI u + 1 = nI (u + 1) := (nI_succ u).symm
  have cp := mcopy h m R (i := 0) (j := 4 + u) (by decide) (by decide) (by omega) (by omega) (by omega)
  rw [show m + 2 + (4 + u) = m + 6 + u by omega, Nat.add_zero] at cp
  simp only [f_X8_remember_b50, mG_data, mG_hist, mG_ud, Option.bind_some, e, mQ h m R hu, cp, RMo_s, e1, mT_ud]
theorem rem_b11 (h : gH) (m : Nat) : ∀ (d i fuel : Nat) (R : RMo), i + d = 8 → 1 ≤ i → d < fuel → R.ud = nI 8 → ∃ rows', f_X8_remember_b11 fuel (mP h m R) m (nI i) = f_X8_remember_b50 (mP h m ((R.s_rows rows').s_ud (nI 7))) m ∧ (∀ j, j < 4 + (i - 1) → rows' j = R.rows j) ∧ ∀ k, i ≤ k → k < 8 → ∀ c, c < 928 → rows' (4 + k - 1) c = R.rows (4 + k) c := by
  intro d
  induction d with
  | zero =>
    intro i fuel R hi h1 hf hud
    obtain ⟨fu, rfl⟩ := Nat.exists_eq_succ_of_ne_zero (Nat.ne_of_gt hf)
    have : i = 8 := by omega
    subst this
    refine ⟨R.rows, ?_, fun _ _ => rfl, fun k k1 k2 => absurd k2 (by omega)⟩
    have c : ¬ nI 8 < 8 := by decide
    have e1 : nI 8 - 1 = nI 7 := by decide
    simp only [f_X8_remember_b11, c, if_false, mG_ud, Option.bind_some, hud, e1, mT_ud]
    rfl
  | succ d ih =>
    intro i fuel R hi h1 hf hud
    obtain ⟨fu, rfl⟩ := Nat.exists_eq_succ_of_ne_zero (Nat.ne_of_gt (Nat.zero_lt_of_lt hf))
    have c8 : nI i < 8 := by rw [show (8 : Int32) = nI 8 by decide]; exact nI_lt (by omega) (by decide)
    have e1 : nI i - 1 = nI (i - 1) := by rw [show (1 : Int32) = nI 1 by decide, nI_sub (by omega)]
    have cp := mcopy h m R (i := 4 + i) (j := 4 + (i - 1)) (by omega) (by omega) (by omega) (by omega) (by omega)
    rw [show m + 2 + (4 + i) = m + 6 + i by omega, show m + 2 + (4 + (i - 1)) = m + 6 + (i - 1) by omega] at cp
    obtain ⟨rows', q1, q2, q3⟩ := ih (i + 1) fu (R.s_rows (updR R.rows (4 + (i - 1)) (cpyr 928 (R.rows (4 + i)) (R.rows (4 + (i - 1)))))) (by omega) (by omega) (by omega) hud
    refine ⟨rows', ?_, fun j hj => ?_, fun k k1 k2 c hc => ?_⟩
    · simp only [f_X8_remember_b11, c8, if_true, mG_hist, Option.bind_some, mQ h m R (show i < 8 by omega), e1, mQ h m R (show i - 1 < 8 by omega), cp, ← nI_succ]
      exact q1
    · rw [q2 j (by omega)]
      exact updR_ne (by omega)
    · by_cases ck : k = i
      · subst ck
        rw [q2 _ (by omega)]
        show updR R.rows (4 + (k - 1)) _ (4 + k - 1) c = _
        rw [show 4 + k - 1 = 4 + (k - 1) by omega, updR_at, cpyr_in hc]
      · rw [q3 k (by omega) k2 c hc]
        show updR R.rows (4 + (i - 1)) _ (4 + k) c = _
        rw [updR_ne (by omega)]
theorem remember_m (h : gH) (m : Nat) (R : RMo) {u : Nat} (hu : u ≤ 8) (e : R.ud = nI u) : ∃ rows', f_X8_remember (mP h m R) m = some (mP h m ((R.s_rows rows').s_ud (nI (min (u + 1) 8)))) ∧ hist u R.rows rows' := by
  by_cases c : u = 8
  · subst c
    obtain ⟨rows', q1, q2, q3⟩ := rem_b11 h m 7 1 g_N R (by omega) (by omega) (by unfold g_N; omega) e
    have q := rem_b50 h m ((R.s_rows rows').s_ud (nI 7)) (u := 7) (by omega) rfl
    refine ⟨updR rows' 11 (cpyr 928 (rows' 0) (rows' 11)), ?_, fun j hj => ?_, fun z => absurd z (by omega), fun _ => ⟨fun k hk => ?_, fun i hi k hk => ?_⟩⟩
    · simp only [f_X8_remember, mG_ud, Option.bind_some, e, show (nI 8 = 8) = True from eq_true (by decide), if_true]
      rw [show (1 : Int32) = nI 1 by decide, q1, q]
      rfl
    · rw [updR_ne (by omega)]; exact q2 j (by omega)
    · rw [updR_at, cpyr_in hk, q2 0 (by omega)]
    · rw [updR_ne (by omega), show 4 + i = 4 + (i + 1) - 1 by omega, q3 (i + 1) (by omega) (by omega) k hk]
      rfl
  · have q := rem_b50 h m R (u := u) (by omega) e
    refine ⟨updR R.rows (4 + u) (cpyr 928 (R.rows 0) (R.rows (4 + u))), ?_, fun j hj => updR_ne (by omega), fun _ => ⟨fun k hk => by rw [updR_at, cpyr_in hk], fun i hi => updR_ne (by omega)⟩, fun z => absurd z c⟩
    have n8 : ¬ nI u = 8 := by rw [show (8 : Int32) = nI 8 by decide]; exact fun z => c ((nI_eq (by omega) (by decide)).mp z)
    simp only [f_X8_remember, mG_ud, Option.bind_some, e, n8, if_false, q]
    rw [Nat.min_eq_left (by omega)]
