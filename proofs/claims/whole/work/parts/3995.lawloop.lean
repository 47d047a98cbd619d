/-- no cell is known beyond the number of cells -/
def lw_fr (h : gH) : Prop := ∀ (q : Nat) (x : gC), h.2 q = some x → q < h.1
theorem X_size {α : Type} {l : Launch} {G : gG} {M : gMt} {Φ : α → Method → Code → State → Array Value → List Frame → State → Prop} {k n pc : Nat} {L : List (Option Value)} {st : List Value} {h : gH} {F : Option α} (kk : lw_fr h → GX l G M Φ k n pc L st h F) : GX l G M Φ k n pc L st h F := by
  intro r hr p e s m args below meth c H locs A B hl hM hS
  exact kk (fun q x hx => by have z := (hM.2.2 q x hx).2.lt; rw [hM.1] at z; exact z) r hr p e s m args below meth c H locs A B hl hM hS
def lw_Ops (Inv : Nat → gH → Prop) (a m q : Nat) : Prop :=
  (∀ (t : Nat) (h : gH), t < 512 → Inv t h → lw_fr h → ∀ x1 x2 x3 x4 x5 : Int32, lw_S0 (Inv (t + 1)) a m h (f_X7_append h a x1 x2 x3 x4 x5) (fun h9 => f_X8_append h9 m x1 x2 x3 x4 x5)) ∧
  (∀ (t : Nat) (h : gH), t < 512 → Inv t h → lw_fr h → ∀ x1 : Int32, lw_S (Inv (t + 1)) m q (fun r => r.toInt64) (f_L_load h a x1 q) (fun h9 => f_X8_load h9 m x1)) ∧
  (∀ (t : Nat) (h : gH), t < 512 → Inv t h → lw_fr h → lw_S0 (Inv (t + 1)) a m h ((f_X7_errorOffset h a ).map (fun r => (r, h))) (fun h9 => f_X8_errorOffset h9 m )) ∧
  (∀ (t : Nat) (h : gH), t < 512 → Inv t h → lw_fr h → ∀ x1 : Int32, lw_S (Inv (t + 1)) m q (fun r => r.toInt64) (f_L_state h a x1 q) (fun h9 => f_X8_state h9 m x1)) ∧
  (∀ (t : Nat) (h : gH), t < 512 → Inv t h → lw_fr h → ∀ x1 x2 : Int32, lw_S (Inv (t + 1)) m q (fun r => r.toInt64) (f_L_channel h a x1 x2 q) (fun h9 => f_X8_channel h9 m x1 x2)) ∧
  (∀ (t : Nat) (h : gH), t < 512 → Inv t h → lw_fr h → ∀ x1 x2 : Int32, lw_S (Inv (t + 1)) m q (fun r => r.toInt64) (f_L_message h a x1 x2 q) (fun h9 => f_X8_message h9 m x1 x2)) ∧
  (∀ (t : Nat) (h : gH), t < 512 → Inv t h → lw_fr h → ∀ x1 x2 x3 : Int32, lw_S (Inv (t + 1)) m q (fun r => r.toInt64) (f_L_letter h a x1 x2 0 q) (fun h9 => f_X8_letter h9 m x1 x2 0)) ∧
  (∀ (t : Nat) (h : gH), t < 512 → Inv t h → lw_fr h → ∀ x1 x2 x3 : Int32, lw_S (Inv (t + 1)) m q (fun r => r.toInt64) (f_L_letter h a x1 x2 1 q) (fun h9 => f_X8_letter h9 m x1 x2 1)) ∧
  (∀ (t : Nat) (h : gH), t < 512 → Inv t h → lw_fr h → ∀ x1 x2 : Int32, lw_S (Inv (t + 1)) m q (fun r => r.toInt64) (f_L_why h a x1 x2 q) (fun h9 => f_X8_why h9 m x1 x2)) ∧
  (∀ (t : Nat) (h : gH), t < 512 → Inv t h → lw_fr h → ∀ x1 : Int32, lw_S (Inv (t + 1)) m q (fun r => r.toInt64) (f_L_mist h a x1 q) (fun h9 => f_X8_mist h9 m x1)) ∧
  (∀ (t : Nat) (h : gH), t < 512 → Inv t h → lw_fr h → ∀ x1 x2 : Int32, lw_S (Inv (t + 1)) m q (fun r => r.toInt64) (f_L_key h a x1 x2 q) (fun h9 => f_X8_key h9 m x1 x2)) ∧
  (∀ (t : Nat) (h : gH), t < 512 → Inv t h → lw_fr h → ∀ x1 : Int32, lw_S (Inv (t + 1)) m q (fun r => r.toInt64) (f_L_next h a x1 q) (fun h9 => f_X8_next h9 m x1)) ∧
  (∀ (t : Nat) (h : gH), t < 512 → Inv t h → lw_fr h → ∀ x1 : Int32, lw_S (Inv (t + 1)) m q (fun r => r.toInt64) (f_L_foretold h a x1 q) (fun h9 => f_X8_foretold h9 m x1)) ∧
  (∀ (t : Nat) (h : gH), t < 512 → Inv t h → lw_fr h → ∀ x1 : Int32, lw_S (Inv (t + 1)) m q (fun r => r.toInt64) (f_L_leastPower h a x1 q) (fun h9 => f_X8_leastPower h9 m x1)) ∧
  (∀ (t : Nat) (h : gH), t < 512 → Inv t h → lw_fr h → g_is h a 7 = true ∧ g_is h m 8 = true ∧ ∃ (r : UInt64) (h2 : gH), f_X7_quality h a = some r ∧ f_X8_quality h m = some (r, h2) ∧ (Inv (t + 1)) h2 ∧ Op.cmpValue (FP.dcmp r r) .l = 0) ∧
  (∀ (t : Nat) (h : gH), t < 512 → Inv t h → lw_fr h → ∀ x1 : Int32, lw_S (Inv (t + 1)) m q (fun r => r.toInt64) (f_L_pass h a x1 q) (fun h9 => f_X8_pass h9 m x1)) ∧
  (∀ (t : Nat) (h : gH), t < 512 → Inv t h → lw_fr h → ∀ x1 x2 x3 : Int32, lw_S (Inv (t + 1)) m q (fun r => r.toInt64) (f_L_send h a x1 x2 x3 q) (fun h9 => f_X8_send h9 m x1 x2 x3)) ∧
  (∀ (t : Nat) (h : gH), t < 512 → Inv t h → lw_fr h → ∀ x1 x2 x3 : Int32, lw_S (Inv (t + 1)) m q (fun r => r.toInt64) (f_L_fog h a x1 x2 x3 q) (fun h9 => f_X8_fog h9 m x1 x2 x3)) ∧
  (∀ (t : Nat) (h : gH), t < 512 → Inv t h → lw_fr h → ∀ x1 x2 : Int32, lw_S (Inv (t + 1)) m q (fun r => r.toInt64) (f_L_relieve h a x1 x2 q) (fun h9 => f_X8_relieve h9 m x1 x2)) ∧
  (∀ (t : Nat) (h : gH), t < 512 → Inv t h → lw_fr h → ∀ x1 x2 : Int32, lw_S (Inv (t + 1)) m q (fun r => r.toInt64) (f_L_power h a x1 x2 q) (fun h9 => f_X8_power h9 m x1 x2)) ∧
  (∀ (t : Nat) (h : gH), t < 512 → Inv t h → lw_fr h → ∀ x1 : Int32, lw_S (Inv (t + 1)) m q (fun r => if r = 0 then 0 else 1) (f_L_cancel h a x1 q) (fun h9 => f_X8_cancel h9 m x1)) ∧
  (∀ (t : Nat) (h : gH), t < 512 → Inv t h → lw_fr h → lw_S0 (Inv (t + 1)) a m h (f_X7_undo h a ) (fun h9 => f_X8_undo h9 m )) ∧
  (∀ (t : Nat) (h : gH), t < 512 → Inv t h → lw_fr h → g_is h a 7 = true ∧ g_is h m 8 = true ∧ ∃ (r : Int64) (h2 : gH), f_X7_checksum h a = some r ∧ f_X8_checksum h m = some (r, h2) ∧ (Inv (t + 1)) h2) ∧
  (∀ (t : Nat) (h : gH), Inv t h → Inv (t + 1) h)
theorem lw_Ops.o_law_append {Inv : Nat → gH → Prop} {a m q : Nat} (h9 : lw_Ops Inv a m q) : ∀ (t : Nat) (h : gH), t < 512 → Inv t h → lw_fr h → ∀ x1 x2 x3 x4 x5 : Int32, lw_S0 (Inv (t + 1)) a m h (f_X7_append h a x1 x2 x3 x4 x5) (fun h9 => f_X8_append h9 m x1 x2 x3 x4 x5) := h9.1
theorem lw_Ops.o_law_load {Inv : Nat → gH → Prop} {a m q : Nat} (h9 : lw_Ops Inv a m q) : ∀ (t : Nat) (h : gH), t < 512 → Inv t h → lw_fr h → ∀ x1 : Int32, lw_S (Inv (t + 1)) m q (fun r => r.toInt64) (f_L_load h a x1 q) (fun h9 => f_X8_load h9 m x1) := h9.2.1
theorem lw_Ops.o_law_errorOffset {Inv : Nat → gH → Prop} {a m q : Nat} (h9 : lw_Ops Inv a m q) : ∀ (t : Nat) (h : gH), t < 512 → Inv t h → lw_fr h → lw_S0 (Inv (t + 1)) a m h ((f_X7_errorOffset h a ).map (fun r => (r, h))) (fun h9 => f_X8_errorOffset h9 m ) := h9.2.2.1
theorem lw_Ops.o_law_state {Inv : Nat → gH → Prop} {a m q : Nat} (h9 : lw_Ops Inv a m q) : ∀ (t : Nat) (h : gH), t < 512 → Inv t h → lw_fr h → ∀ x1 : Int32, lw_S (Inv (t + 1)) m q (fun r => r.toInt64) (f_L_state h a x1 q) (fun h9 => f_X8_state h9 m x1) := h9.2.2.2.1
theorem lw_Ops.o_law_channel {Inv : Nat → gH → Prop} {a m q : Nat} (h9 : lw_Ops Inv a m q) : ∀ (t : Nat) (h : gH), t < 512 → Inv t h → lw_fr h → ∀ x1 x2 : Int32, lw_S (Inv (t + 1)) m q (fun r => r.toInt64) (f_L_channel h a x1 x2 q) (fun h9 => f_X8_channel h9 m x1 x2) := h9.2.2.2.2.1
theorem lw_Ops.o_law_message {Inv : Nat → gH → Prop} {a m q : Nat} (h9 : lw_Ops Inv a m q) : ∀ (t : Nat) (h : gH), t < 512 → Inv t h → lw_fr h → ∀ x1 x2 : Int32, lw_S (Inv (t + 1)) m q (fun r => r.toInt64) (f_L_message h a x1 x2 q) (fun h9 => f_X8_message h9 m x1 x2) := h9.2.2.2.2.2.1
theorem lw_Ops.o_law_letter0 {Inv : Nat → gH → Prop} {a m q : Nat} (h9 : lw_Ops Inv a m q) : ∀ (t : Nat) (h : gH), t < 512 → Inv t h → lw_fr h → ∀ x1 x2 x3 : Int32, lw_S (Inv (t + 1)) m q (fun r => r.toInt64) (f_L_letter h a x1 x2 0 q) (fun h9 => f_X8_letter h9 m x1 x2 0) := h9.2.2.2.2.2.2.1
theorem lw_Ops.o_law_letter1 {Inv : Nat → gH → Prop} {a m q : Nat} (h9 : lw_Ops Inv a m q) : ∀ (t : Nat) (h : gH), t < 512 → Inv t h → lw_fr h → ∀ x1 x2 x3 : Int32, lw_S (Inv (t + 1)) m q (fun r => r.toInt64) (f_L_letter h a x1 x2 1 q) (fun h9 => f_X8_letter h9 m x1 x2 1) := h9.2.2.2.2.2.2.2.1
theorem lw_Ops.o_law_why {Inv : Nat → gH → Prop} {a m q : Nat} (h9 : lw_Ops Inv a m q) : ∀ (t : Nat) (h : gH), t < 512 → Inv t h → lw_fr h → ∀ x1 x2 : Int32, lw_S (Inv (t + 1)) m q (fun r => r.toInt64) (f_L_why h a x1 x2 q) (fun h9 => f_X8_why h9 m x1 x2) := h9.2.2.2.2.2.2.2.2.1
theorem lw_Ops.o_law_mist {Inv : Nat → gH → Prop} {a m q : Nat} (h9 : lw_Ops Inv a m q) : ∀ (t : Nat) (h : gH), t < 512 → Inv t h → lw_fr h → ∀ x1 : Int32, lw_S (Inv (t + 1)) m q (fun r => r.toInt64) (f_L_mist h a x1 q) (fun h9 => f_X8_mist h9 m x1) := h9.2.2.2.2.2.2.2.2.2.1
theorem lw_Ops.o_law_key {Inv : Nat → gH → Prop} {a m q : Nat} (h9 : lw_Ops Inv a m q) : ∀ (t : Nat) (h : gH), t < 512 → Inv t h → lw_fr h → ∀ x1 x2 : Int32, lw_S (Inv (t + 1)) m q (fun r => r.toInt64) (f_L_key h a x1 x2 q) (fun h9 => f_X8_key h9 m x1 x2) := h9.2.2.2.2.2.2.2.2.2.2.1
theorem lw_Ops.o_law_next {Inv : Nat → gH → Prop} {a m q : Nat} (h9 : lw_Ops Inv a m q) : ∀ (t : Nat) (h : gH), t < 512 → Inv t h → lw_fr h → ∀ x1 : Int32, lw_S (Inv (t + 1)) m q (fun r => r.toInt64) (f_L_next h a x1 q) (fun h9 => f_X8_next h9 m x1) := h9.2.2.2.2.2.2.2.2.2.2.2.1
theorem lw_Ops.o_law_foretold {Inv : Nat → gH → Prop} {a m q : Nat} (h9 : lw_Ops Inv a m q) : ∀ (t : Nat) (h : gH), t < 512 → Inv t h → lw_fr h → ∀ x1 : Int32, lw_S (Inv (t + 1)) m q (fun r => r.toInt64) (f_L_foretold h a x1 q) (fun h9 => f_X8_foretold h9 m x1) := h9.2.2.2.2.2.2.2.2.2.2.2.2.1
theorem lw_Ops.o_law_leastPower {Inv : Nat → gH → Prop} {a m q : Nat} (h9 : lw_Ops Inv a m q) : ∀ (t : Nat) (h : gH), t < 512 → Inv t h → lw_fr h → ∀ x1 : Int32, lw_S (Inv (t + 1)) m q (fun r => r.toInt64) (f_L_leastPower h a x1 q) (fun h9 => f_X8_leastPower h9 m x1) := h9.2.2.2.2.2.2.2.2.2.2.2.2.2.1
theorem lw_Ops.o_law_quality {Inv : Nat → gH → Prop} {a m q : Nat} (h9 : lw_Ops Inv a m q) : ∀ (t : Nat) (h : gH), t < 512 → Inv t h → lw_fr h → g_is h a 7 = true ∧ g_is h m 8 = true ∧ ∃ (r : UInt64) (h2 : gH), f_X7_quality h a = some r ∧ f_X8_quality h m = some (r, h2) ∧ (Inv (t + 1)) h2 ∧ Op.cmpValue (FP.dcmp r r) .l = 0 := h9.2.2.2.2.2.2.2.2.2.2.2.2.2.2.1
theorem lw_Ops.o_law_pass {Inv : Nat → gH → Prop} {a m q : Nat} (h9 : lw_Ops Inv a m q) : ∀ (t : Nat) (h : gH), t < 512 → Inv t h → lw_fr h → ∀ x1 : Int32, lw_S (Inv (t + 1)) m q (fun r => r.toInt64) (f_L_pass h a x1 q) (fun h9 => f_X8_pass h9 m x1) := h9.2.2.2.2.2.2.2.2.2.2.2.2.2.2.2.1
theorem lw_Ops.o_law_send {Inv : Nat → gH → Prop} {a m q : Nat} (h9 : lw_Ops Inv a m q) : ∀ (t : Nat) (h : gH), t < 512 → Inv t h → lw_fr h → ∀ x1 x2 x3 : Int32, lw_S (Inv (t + 1)) m q (fun r => r.toInt64) (f_L_send h a x1 x2 x3 q) (fun h9 => f_X8_send h9 m x1 x2 x3) := h9.2.2.2.2.2.2.2.2.2.2.2.2.2.2.2.2.1
theorem lw_Ops.o_law_fog {Inv : Nat → gH → Prop} {a m q : Nat} (h9 : lw_Ops Inv a m q) : ∀ (t : Nat) (h : gH), t < 512 → Inv t h → lw_fr h → ∀ x1 x2 x3 : Int32, lw_S (Inv (t + 1)) m q (fun r => r.toInt64) (f_L_fog h a x1 x2 x3 q) (fun h9 => f_X8_fog h9 m x1 x2 x3) := h9.2.2.2.2.2.2.2.2.2.2.2.2.2.2.2.2.2.1
theorem lw_Ops.o_law_relieve {Inv : Nat → gH → Prop} {a m q : Nat} (h9 : lw_Ops Inv a m q) : ∀ (t : Nat) (h : gH), t < 512 → Inv t h → lw_fr h → ∀ x1 x2 : Int32, lw_S (Inv (t + 1)) m q (fun r => r.toInt64) (f_L_relieve h a x1 x2 q) (fun h9 => f_X8_relieve h9 m x1 x2) := h9.2.2.2.2.2.2.2.2.2.2.2.2.2.2.2.2.2.2.1
theorem lw_Ops.o_law_power {Inv : Nat → gH → Prop} {a m q : Nat} (h9 : lw_Ops Inv a m q) : ∀ (t : Nat) (h : gH), t < 512 → Inv t h → lw_fr h → ∀ x1 x2 : Int32, lw_S (Inv (t + 1)) m q (fun r => r.toInt64) (f_L_power h a x1 x2 q) (fun h9 => f_X8_power h9 m x1 x2) := h9.2.2.2.2.2.2.2.2.2.2.2.2.2.2.2.2.2.2.2.1
theorem lw_Ops.o_law_cancel {Inv : Nat → gH → Prop} {a m q : Nat} (h9 : lw_Ops Inv a m q) : ∀ (t : Nat) (h : gH), t < 512 → Inv t h → lw_fr h → ∀ x1 : Int32, lw_S (Inv (t + 1)) m q (fun r => if r = 0 then 0 else 1) (f_L_cancel h a x1 q) (fun h9 => f_X8_cancel h9 m x1) := h9.2.2.2.2.2.2.2.2.2.2.2.2.2.2.2.2.2.2.2.2.1
theorem lw_Ops.o_law_undo {Inv : Nat → gH → Prop} {a m q : Nat} (h9 : lw_Ops Inv a m q) : ∀ (t : Nat) (h : gH), t < 512 → Inv t h → lw_fr h → lw_S0 (Inv (t + 1)) a m h (f_X7_undo h a ) (fun h9 => f_X8_undo h9 m ) := h9.2.2.2.2.2.2.2.2.2.2.2.2.2.2.2.2.2.2.2.2.2.1
theorem lw_Ops.o_law_checksum {Inv : Nat → gH → Prop} {a m q : Nat} (h9 : lw_Ops Inv a m q) : ∀ (t : Nat) (h : gH), t < 512 → Inv t h → lw_fr h → g_is h a 7 = true ∧ g_is h m 8 = true ∧ ∃ (r : Int64) (h2 : gH), f_X7_checksum h a = some r ∧ f_X8_checksum h m = some (r, h2) ∧ (Inv (t + 1)) h2 := h9.2.2.2.2.2.2.2.2.2.2.2.2.2.2.2.2.2.2.2.2.2.2.1
theorem lw_Ops.o_more {Inv : Nat → gH → Prop} {a m q : Nat} (h9 : lw_Ops Inv a m q) : ∀ (t : Nat) (h : gH), Inv t h → Inv (t + 1) h := h9.2.2.2.2.2.2.2.2.2.2.2.2.2.2.2.2.2.2.2.2.2.2.2
theorem lw_gt {N t : Nat} (hN : N ≤ 3072) (ht : t ≤ 512) : (nI N - 6 < nI (6 * t)) ↔ N < 6 * t + 6 := by
  rw [Int32.lt_iff_toInt_lt, Int32.toInt_sub, nI_toInt (by omega), nI_toInt (by omega), show (6 : Int32).toInt = 6 by decide]
  rw [Int.bmod_eq_of_le (by omega) (by omega)]
  omega
theorem lw_at {N t d : Nat} (hN : N ≤ 3072) (h : 6 * t + 6 ≤ N) (hd : d < 6) {x : Int32} (hx : x = nI d) : vp_in (nI (6 * t) + x) N ∧ (nI (6 * t) + x).toNatClampNeg = 6 * t + d := by
  subst hx
  rw [nI_add]
  exact ⟨nI_in (by omega) (by omega), nI_clamp (by omega)⟩
section LAWL
variable {l : Launch} {G : gG} {Q : State → Array Value → List Frame → Prop} {Z : State → Prop} {b N a m q : Nat} {xs : Nat → Int32} {Inv : Nat → gH → Prop}
set_option maxRecDepth 100000 in
theorem law_loop (hl : l.stackTraces = false) (hX : g_scr G Q b N xs) (hN : N ≤ 3072) (ops : lw_Ops Inv a m q) (hret : ∀ (L : List (Option Value)) (h : gH) (k n : Nat), k ≤ 601024 → n ≤ 7293034 → GX l G M_L_law (g_phL Q Z) k n 1424 L [.int 1] h (some ())) : ∀ (d t k n : Nat) (h : gH), N < 6 * (t + d) + 6 → t ≤ 512 → k ≤ 700 + t → n ≤ 30000 + 7 * t → Inv t h → GX l G M_L_law (g_phL Q Z) k n 23 [some (.ref b), some (.ref a), some (.ref m), some (.ref q), some (.int (nI (6 * t))), none, none, none, none] [] h (some ()) := by
  intro d
  induction d with
  | zero =>
    intro t k n h hd ht hk hn hI
    refine X_iload rfl rfl rfl ?_
    refine X_aload_n rfl rfl rfl ?_
    refine X_sln hX rfl rfl ?_
    refine X_bipush (v := 6) rfl rfl (by decide) ?_
    refine X_isub rfl rfl ?_
    refine X_icmp_gt rfl rfl (fun _ => ?_) (fun cc => absurd ((lw_gt hN ht).mpr (by omega)) cc)
    refine X_iconst (v := 1) rfl rfl (by decide) ?_
    exact hret _ _ _ _ (by omega) (by omega)
  | succ d ih =>
    intro t k n h hd ht hk hn hI
    refine X_size (fun hfr => ?_)
    refine X_iload rfl rfl rfl ?_
    refine X_aload_n rfl rfl rfl ?_
    refine X_sln hX rfl rfl ?_
    refine X_bipush (v := 6) rfl rfl (by decide) ?_
    refine X_isub rfl rfl ?_
    refine X_icmp_gt rfl rfl (fun _ => ?_) (fun cc => ?_)
    · refine X_iconst (v := 1) rfl rfl (by decide) ?_
      exact hret _ _ _ _ (by omega) (by omega)
    have h6 : 6 * t + 6 ≤ N := Nat.not_lt.mp fun z => cc ((lw_gt hN ht).mpr z)
    have hi : ∀ d, d < 6 → ∀ x : Int32, x = nI d → vp_in (nI (6 * t) + x) N ∧ xs (nI (6 * t) + x).toNatClampNeg = xs (6 * t + d) := fun d hd x hx => ⟨(lw_at hN h6 hd hx).1, by rw [(lw_at hN h6 hd hx).2]⟩
    have next : ∀ (k' n' : Nat) (h' : gH), k' ≤ k + 1 → n' ≤ n + 7 → Inv (t + 1) h' → GX l G M_L_law (g_phL Q Z) k' n' 1417 [some (.ref b), some (.ref a), some (.ref m), some (.ref q), some (.int (nI (6 * t))), none, none, none, none] [] h' (some ()) := by
      intro k' n' h' hk' hn' hI'
      refine X_iinc (v := nI (6 * (t + 1))) rfl rfl rfl (by rw [show Int32.ofInt 6 = nI 6 by decide, nI_add]; rfl) rfl ?_
      refine X_goto rfl rfl ?_
      exact ih (t + 1) k' n' h' (by omega) (by omega) (by omega) (by omega) hI'
    have h0 := lw_at (t := t) (d := 0) hN h6 (by omega) (x := 0) rfl
    rw [show nI (6 * t) + 0 = nI (6 * t) by rw [show (0 : Int32) = nI 0 by decide, nI_add]; rfl] at h0
    refine X_aload_n rfl rfl rfl ?_
    refine X_iload rfl rfl rfl ?_
    refine X_sld hX rfl rfl h0.1 rfl ?_
    refine X_bipush (v := 31) rfl rfl (by decide) ?_
    refine X_iand rfl rfl ?_
    generalize (xs (nI (6 * t)).toNatClampNeg &&& 31) = w
    by_cases c0 : w = 0
    · refine X_tswIn (v := 0) (len := 104) (tgt := 144) (off := 104) rfl rfl c0 (by decide) (by decide) rfl rfl ?_
      exact law_append hl hX (hi 1 (by omega) _ (by decide)).1 (hi 1 (by omega) _ (by decide)).2 (hi 2 (by omega) _ (by decide)).1 (hi 2 (by omega) _ (by decide)).2 (hi 3 (by omega) _ (by decide)).1 (hi 3 (by omega) _ (by decide)).2 (hi 4 (by omega) _ (by decide)).1 (hi 4 (by omega) _ (by decide)).2 (hi 5 (by omega) _ (by decide)).1 (hi 5 (by omega) _ (by decide)).2 (ops.o_law_append t h (by omega) hI hfr _ _ _ _ _) (by omega) (by omega) (fun h2 hI2 => next _ _ h2 (by omega) (by omega) hI2)
    by_cases c1 : w = 1
    · refine X_tswIn (v := 1) (len := 104) (tgt := 217) (off := 177) rfl rfl c1 (by decide) (by decide) rfl rfl ?_
      exact law_load hl hX (hi 1 (by omega) _ (by decide)).1 (hi 1 (by omega) _ (by decide)).2 (ops.o_law_load t h (by omega) hI hfr _) (by omega) (by omega) (fun h2 hI2 => next _ _ h2 (by omega) (by omega) hI2)
    by_cases c2 : w = 2
    · refine X_tswIn (v := 2) (len := 104) (tgt := 273) (off := 233) rfl rfl c2 (by decide) (by decide) rfl rfl ?_
      exact law_errorOffset hl hX (ops.o_law_errorOffset t h (by omega) hI hfr) (by omega) (by omega) (fun h2 hI2 => next _ _ h2 (by omega) (by omega) hI2)
    by_cases c3 : w = 3
    · refine X_tswIn (v := 3) (len := 104) (tgt := 286) (off := 246) rfl rfl c3 (by decide) (by decide) rfl rfl ?_
      exact law_state hl hX (hi 1 (by omega) _ (by decide)).1 (hi 1 (by omega) _ (by decide)).2 (ops.o_law_state t h (by omega) hI hfr _) (by omega) (by omega) (fun h2 hI2 => next _ _ h2 (by omega) (by omega) hI2)
    by_cases c4 : w = 4
    · refine X_tswIn (v := 4) (len := 104) (tgt := 342) (off := 302) rfl rfl c4 (by decide) (by decide) rfl rfl ?_
      exact law_channel hl hX (hi 1 (by omega) _ (by decide)).1 (hi 1 (by omega) _ (by decide)).2 (hi 2 (by omega) _ (by decide)).1 (hi 2 (by omega) _ (by decide)).2 (ops.o_law_channel t h (by omega) hI hfr _ _) (by omega) (by omega) (fun h2 hI2 => next _ _ h2 (by omega) (by omega) hI2)
    by_cases c5 : w = 5
    · refine X_tswIn (v := 5) (len := 104) (tgt := 410) (off := 370) rfl rfl c5 (by decide) (by decide) rfl rfl ?_
      exact law_message hl hX (hi 1 (by omega) _ (by decide)).1 (hi 1 (by omega) _ (by decide)).2 (hi 2 (by omega) _ (by decide)).1 (hi 2 (by omega) _ (by decide)).2 (ops.o_law_message t h (by omega) hI hfr _ _) (by omega) (by omega) (fun h2 hI2 => next _ _ h2 (by omega) (by omega) hI2)
    by_cases c6 : w = 6
    · refine X_tswIn (v := 6) (len := 104) (tgt := 478) (off := 438) rfl rfl c6 (by decide) (by decide) rfl rfl ?_
      by_cases hz : xs (6 * t + 3) = 0
      · exact law_letter0 hl hX (hi 1 (by omega) _ (by decide)).1 (hi 1 (by omega) _ (by decide)).2 (hi 2 (by omega) _ (by decide)).1 (hi 2 (by omega) _ (by decide)).2 (hi 3 (by omega) _ (by decide)).1 (hi 3 (by omega) _ (by decide)).2 hz (ops.o_law_letter0 t h (by omega) hI hfr _ _ 0) (by omega) (by omega) (fun h2 hI2 => next _ _ h2 (by omega) (by omega) hI2)
      · exact law_letter1 hl hX (hi 1 (by omega) _ (by decide)).1 (hi 1 (by omega) _ (by decide)).2 (hi 2 (by omega) _ (by decide)).1 (hi 2 (by omega) _ (by decide)).2 (hi 3 (by omega) _ (by decide)).1 (hi 3 (by omega) _ (by decide)).2 hz (ops.o_law_letter1 t h (by omega) hI hfr _ _ 0) (by omega) (by omega) (fun h2 hI2 => next _ _ h2 (by omega) (by omega) hI2)
    by_cases c7 : w = 7
    · refine X_tswIn (v := 7) (len := 104) (tgt := 574) (off := 534) rfl rfl c7 (by decide) (by decide) rfl rfl ?_
      exact law_why hl hX (hi 1 (by omega) _ (by decide)).1 (hi 1 (by omega) _ (by decide)).2 (hi 2 (by omega) _ (by decide)).1 (hi 2 (by omega) _ (by decide)).2 (ops.o_law_why t h (by omega) hI hfr _ _) (by omega) (by omega) (fun h2 hI2 => next _ _ h2 (by omega) (by omega) hI2)
    by_cases c8 : w = 8
    · refine X_tswIn (v := 8) (len := 104) (tgt := 642) (off := 602) rfl rfl c8 (by decide) (by decide) rfl rfl ?_
      exact law_mist hl hX (hi 1 (by omega) _ (by decide)).1 (hi 1 (by omega) _ (by decide)).2 (ops.o_law_mist t h (by omega) hI hfr _) (by omega) (by omega) (fun h2 hI2 => next _ _ h2 (by omega) (by omega) hI2)
    by_cases c9 : w = 9
    · refine X_tswIn (v := 9) (len := 104) (tgt := 698) (off := 658) rfl rfl c9 (by decide) (by decide) rfl rfl ?_
      exact law_key hl hX (hi 1 (by omega) _ (by decide)).1 (hi 1 (by omega) _ (by decide)).2 (hi 2 (by omega) _ (by decide)).1 (hi 2 (by omega) _ (by decide)).2 (ops.o_law_key t h (by omega) hI hfr _ _) (by omega) (by omega) (fun h2 hI2 => next _ _ h2 (by omega) (by omega) hI2)
    by_cases c10 : w = 10
    · refine X_tswIn (v := 10) (len := 104) (tgt := 766) (off := 726) rfl rfl c10 (by decide) (by decide) rfl rfl ?_
      exact law_next hl hX (hi 1 (by omega) _ (by decide)).1 (hi 1 (by omega) _ (by decide)).2 (ops.o_law_next t h (by omega) hI hfr _) (by omega) (by omega) (fun h2 hI2 => next _ _ h2 (by omega) (by omega) hI2)
    by_cases c11 : w = 11
    · refine X_tswIn (v := 11) (len := 104) (tgt := 822) (off := 782) rfl rfl c11 (by decide) (by decide) rfl rfl ?_
      exact law_foretold hl hX (hi 1 (by omega) _ (by decide)).1 (hi 1 (by omega) _ (by decide)).2 (ops.o_law_foretold t h (by omega) hI hfr _) (by omega) (by omega) (fun h2 hI2 => next _ _ h2 (by omega) (by omega) hI2)
    by_cases c12 : w = 12
    · refine X_tswIn (v := 12) (len := 104) (tgt := 878) (off := 838) rfl rfl c12 (by decide) (by decide) rfl rfl ?_
      exact law_leastPower hl hX (hi 1 (by omega) _ (by decide)).1 (hi 1 (by omega) _ (by decide)).2 (ops.o_law_leastPower t h (by omega) hI hfr _) (by omega) (by omega) (fun h2 hI2 => next _ _ h2 (by omega) (by omega) hI2)
    by_cases c13 : w = 13
    · refine X_tswIn (v := 13) (len := 104) (tgt := 934) (off := 894) rfl rfl c13 (by decide) (by decide) rfl rfl ?_
      exact law_quality hl hX (ops.o_law_quality t h (by omega) hI hfr) (by omega) (by omega) (fun h2 hI2 => next _ _ h2 (by omega) (by omega) hI2)
    by_cases c14 : w = 14
    · refine X_tswIn (v := 14) (len := 104) (tgt := 975) (off := 935) rfl rfl c14 (by decide) (by decide) rfl rfl ?_
      exact law_pass hl hX (hi 1 (by omega) _ (by decide)).1 (hi 1 (by omega) _ (by decide)).2 (ops.o_law_pass t h (by omega) hI hfr _) (by omega) (by omega) (fun h2 hI2 => next _ _ h2 (by omega) (by omega) hI2)
    by_cases c15 : w = 15
    · refine X_tswIn (v := 15) (len := 104) (tgt := 1031) (off := 991) rfl rfl c15 (by decide) (by decide) rfl rfl ?_
      exact law_send hl hX (hi 1 (by omega) _ (by decide)).1 (hi 1 (by omega) _ (by decide)).2 (hi 2 (by omega) _ (by decide)).1 (hi 2 (by omega) _ (by decide)).2 (hi 3 (by omega) _ (by decide)).1 (hi 3 (by omega) _ (by decide)).2 (ops.o_law_send t h (by omega) hI hfr _ _ _) (by omega) (by omega) (fun h2 hI2 => next _ _ h2 (by omega) (by omega) hI2)
    by_cases c16 : w = 16
    · refine X_tswIn (v := 16) (len := 104) (tgt := 1111) (off := 1071) rfl rfl c16 (by decide) (by decide) rfl rfl ?_
      exact law_fog hl hX (hi 1 (by omega) _ (by decide)).1 (hi 1 (by omega) _ (by decide)).2 (hi 2 (by omega) _ (by decide)).1 (hi 2 (by omega) _ (by decide)).2 (hi 3 (by omega) _ (by decide)).1 (hi 3 (by omega) _ (by decide)).2 (ops.o_law_fog t h (by omega) hI hfr _ _ _) (by omega) (by omega) (fun h2 hI2 => next _ _ h2 (by omega) (by omega) hI2)
    by_cases c17 : w = 17
    · refine X_tswIn (v := 17) (len := 104) (tgt := 1191) (off := 1151) rfl rfl c17 (by decide) (by decide) rfl rfl ?_
      exact law_relieve hl hX (hi 1 (by omega) _ (by decide)).1 (hi 1 (by omega) _ (by decide)).2 (hi 2 (by omega) _ (by decide)).1 (hi 2 (by omega) _ (by decide)).2 (ops.o_law_relieve t h (by omega) hI hfr _ _) (by omega) (by omega) (fun h2 hI2 => next _ _ h2 (by omega) (by omega) hI2)
    by_cases c18 : w = 18
    · refine X_tswIn (v := 18) (len := 104) (tgt := 1259) (off := 1219) rfl rfl c18 (by decide) (by decide) rfl rfl ?_
      exact law_power hl hX (hi 1 (by omega) _ (by decide)).1 (hi 1 (by omega) _ (by decide)).2 (hi 2 (by omega) _ (by decide)).1 (hi 2 (by omega) _ (by decide)).2 (ops.o_law_power t h (by omega) hI hfr _ _) (by omega) (by omega) (fun h2 hI2 => next _ _ h2 (by omega) (by omega) hI2)
    by_cases c19 : w = 19
    · refine X_tswIn (v := 19) (len := 104) (tgt := 1327) (off := 1287) rfl rfl c19 (by decide) (by decide) rfl rfl ?_
      exact law_cancel hl hX (hi 1 (by omega) _ (by decide)).1 (hi 1 (by omega) _ (by decide)).2 (ops.o_law_cancel t h (by omega) hI hfr _) (by omega) (by omega) (fun h2 hI2 => next _ _ h2 (by omega) (by omega) hI2)
    by_cases c20 : w = 20
    · refine X_tswIn (v := 20) (len := 104) (tgt := 1390) (off := 1350) rfl rfl c20 (by decide) (by decide) rfl rfl ?_
      exact law_undo hl hX (ops.o_law_undo t h (by omega) hI hfr) (by omega) (by omega) (fun h2 hI2 => next _ _ h2 (by omega) (by omega) hI2)
    by_cases c21 : w = 21
    · refine X_tswIn (v := 21) (len := 104) (tgt := 1403) (off := 1363) rfl rfl c21 (by decide) (by decide) rfl rfl ?_
      exact law_checksum hl hX (ops.o_law_checksum t h (by omega) hI hfr) (by omega) (by omega) (fun h2 hI2 => next _ _ h2 (by omega) (by omega) hI2)
    have hout : w.toInt < 0 ∨ 21 < w.toInt := by
      have z0 := g_neI c0 (show Int32.toInt (0) = 0 by decide)
      have z1 := g_neI c1 (show Int32.toInt (1) = 1 by decide)
      have z2 := g_neI c2 (show Int32.toInt (2) = 2 by decide)
      have z3 := g_neI c3 (show Int32.toInt (3) = 3 by decide)
      have z4 := g_neI c4 (show Int32.toInt (4) = 4 by decide)
      have z5 := g_neI c5 (show Int32.toInt (5) = 5 by decide)
      have z6 := g_neI c6 (show Int32.toInt (6) = 6 by decide)
      have z7 := g_neI c7 (show Int32.toInt (7) = 7 by decide)
      have z8 := g_neI c8 (show Int32.toInt (8) = 8 by decide)
      have z9 := g_neI c9 (show Int32.toInt (9) = 9 by decide)
      have z10 := g_neI c10 (show Int32.toInt (10) = 10 by decide)
      have z11 := g_neI c11 (show Int32.toInt (11) = 11 by decide)
      have z12 := g_neI c12 (show Int32.toInt (12) = 12 by decide)
      have z13 := g_neI c13 (show Int32.toInt (13) = 13 by decide)
      have z14 := g_neI c14 (show Int32.toInt (14) = 14 by decide)
      have z15 := g_neI c15 (show Int32.toInt (15) = 15 by decide)
      have z16 := g_neI c16 (show Int32.toInt (16) = 16 by decide)
      have z17 := g_neI c17 (show Int32.toInt (17) = 17 by decide)
      have z18 := g_neI c18 (show Int32.toInt (18) = 18 by decide)
      have z19 := g_neI c19 (show Int32.toInt (19) = 19 by decide)
      have z20 := g_neI c20 (show Int32.toInt (20) = 20 by decide)
      have z21 := g_neI c21 (show Int32.toInt (21) = 21 by decide)
      omega
    refine X_tswOut (len := 104) (tgt := 1417) rfl rfl hout rfl ?_
    exact next _ _ h (by omega) (by omega) (ops.o_more t h hI)
set_option maxRecDepth 100000 in
theorem law_start (hl : l.stackTraces = false) (hX : g_scr G Q b N xs) (hN : N ≤ 3072) (hret : ∀ (L : List (Option Value)) (h : gH) (k n : Nat), k ≤ 601024 → n ≤ 7293034 → GX l G M_L_law (g_phL Q Z) k n 1424 L [.int 1] h (some ())) {h0 hA hB : gH} (eA : f_X7_init (g_add h0 (.inr (7, g_dfl 7))) h0.1 = some hA) (eB : f_X8_init (g_add hA (.inr (8, g_dfl 8))) hA.1 = some hB) (hI : Inv 0 (g_add hB (.inl (2, 1, .inr (.inl fun _ => 0))))) (ops : lw_Ops Inv h0.1 hA.1 hB.1) : GX l G M_L_law (g_phL Q Z) 0 0 0 [some (.ref b), none, none, none, none, none, none, none, none] [] h0 (some ()) := by
  refine X_new rfl rfl rfl rfl ?_
  refine X_dup rfl rfl rfl ?_
  refine X_callI (M' := M_X7_init) (nA := 0) (b := h0.1) (As := []) (st := [.ref h0.1]) rfl rfl (by decide +kernel) rfl rfl rfl (ct_X7_init eA) rfl rfl ?_
  refine X_rfl (st' := [.ref h0.1]) rfl ?_
  refine X_astore_n rfl rfl rfl rfl ?_
  refine X_new rfl rfl rfl rfl ?_
  refine X_dup rfl rfl rfl ?_
  refine X_callI (M' := M_X8_init) (nA := 0) (b := hA.1) (As := []) (st := [.ref hA.1]) rfl rfl (by decide +kernel) rfl rfl rfl (ct_X8_init eB) rfl rfl ?_
  refine X_rfl (st' := [.ref hA.1]) rfl ?_
  refine X_astore_n rfl rfl rfl rfl ?_
  refine X_iconst (v := 1) rfl rfl (by decide) ?_
  refine X_newarr (t := 2) (N := 1) (y := (1, .inr (.inl fun _ => 0))) rfl rfl (by decide +kernel) rfl (by decide) (by decide) rfl rfl rfl (fun _ => rfl) ?_
  refine X_astore_n rfl rfl rfl rfl ?_
  refine X_iconst (v := 0) rfl rfl (by decide) ?_
  refine X_istore rfl rfl rfl rfl ?_
  exact law_loop hl hX hN ops hret (N / 6 + 1) 0 _ _ _ (by omega) (by omega) (by decide) (by decide) hI
end LAWL
