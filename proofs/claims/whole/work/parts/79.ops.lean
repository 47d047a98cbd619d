theorem inv_0 {hA hB : gH} {a : Nat} {D : Nat → Int32} (e1 : hA.1 = a + 614) (fa : fIs hA.2 a Fz) (e2 : hB.1 = hA.1 + 14) (mb : mIs hB.2 hA.1 (Rz D)) (rd : Rel W1 D) (lv : W1.live) (hq : ∀ q, q < hA.1 → hB.2 q = hA.2 q) : cInv a 0 (g_add hB (.inl (2, 1, .inr (.inl fun _ => 0)))) := by
  rw [e1] at e2 mb hq
  refine ⟨Fz, Rz D, fun j hj => ?_, fun j hj => ?_, ⟨fun _ => 0, ?_⟩, Nat.zero_le _, nI_0.symm, fun i (hi : i < 0) => absurd hi (Nat.not_lt_zero i), rfl, ?_, lv, Nat.le_refl _, by decide, by decide, nI_0.symm, fun i (hi : i < 0) => absurd hi (Nat.not_lt_zero i)⟩
  · rw [gadd_ne (by omega), hq _ (by omega)]
    exact fa j hj
  · rw [gadd_ne (by omega)]
    exact mb j hj
  · rw [show a + 628 = hB.1 by omega]
    exact add_at
  · show Rel W1 (updR (fun _ => zf) 0 D 0)
    rw [updR_at]
    exact rd
theorem cOps (a : Nat) : lw_Ops (cInv a) a (a + 614) (a + 628) :=
  ⟨fun t h ht hI hfr x1 x2 x3 x4 x5 => op_append hI x1 x2 x3 x4 x5,
   fun t h ht hI hfr x1 => op_load hI hfr x1,
   fun t h ht hI hfr => op_errorOffset hI,
   fun t h ht hI hfr x1 => op_state hI x1,
   fun t h ht hI hfr x1 x2 => op_channel hI x1 x2,
   fun t h ht hI hfr x1 x2 => op_message hI x1 x2,
   fun t h ht hI hfr x1 x2 x3 => op_letter hI x1 x2 false,
   fun t h ht hI hfr x1 x2 x3 => op_letter hI x1 x2 true,
   fun t h ht hI hfr x1 x2 => op_why hI x1 x2,
   fun t h ht hI hfr x1 => op_mist hI x1,
   fun t h ht hI hfr x1 x2 => op_key hI x1 x2,
   fun t h ht hI hfr x1 => op_next hI x1,
   fun t h ht hI hfr x1 => op_foretold hI x1,
   fun t h ht hI hfr x1 => op_leastPower hI x1,
   fun t h ht hI hfr => op_quality hI,
   fun t h ht hI hfr x1 => op_pass hI x1,
   fun t h ht hI hfr x1 x2 x3 => op_send hI x1 x2 x3,
   fun t h ht hI hfr x1 x2 x3 => op_fog hI x1 x2 x3,
   fun t h ht hI hfr x1 x2 => op_relieve ht hI x1 x2,
   fun t h ht hI hfr x1 x2 => op_power hI x1 x2,
   fun t h ht hI hfr x1 => op_cancel hI x1,
   fun t h ht hI hfr => op_undo hI,
   fun t h ht hI hfr => op_checksum hI,
   fun t h hI => by
     obtain ⟨F, R, h1, h2, h3, h4⟩ := hI
     exact ⟨F, R, h1, h2, h3, h4.later (by omega)⟩⟩
