/-! load -/
theorem dfl5 : g_dfl 5 = [.null, .int 0, .int 0, .int 0, .int 0, .int 0, .int 0] := by decide +kernel
theorem g_set_set (H : gH) (c : Nat) (x y : gC) : g_set (g_set H c x) c y = g_set H c y := by
  refine Prod.ext rfl (funext fun q => ?_)
  by_cases e : q = c
  · subst e; rw [set_at, set_at]
  · rw [set_ne e, set_ne e, set_ne e]
theorem put_on {H : gH} {c j : Nat} {fs : List Value} (v : Value) (hj : j < fs.length) : g_put (g_set H c (.inr (5, fs))) c 5 j v = some (g_set H c (.inr (5, fs.set j v))) := by
  rw [put_of set_at hj, g_set_set]
theorem init_rd (H : gH) (c tx N : Nat) : f_X5_init (g_set H c (.inr (5, g_dfl 5))) c tx (nI N) = some (rdP H c (RRd.mk tx N 0 0 0 0 (-1))) := by
  rw [dfl5]
  unfold f_X5_init
  rw [put_on _ (by simp), Option.bind_some, put_on _ (by simp), Option.bind_some, put_on _ (by simp), Option.bind_some, put_on _ (by simp), Option.bind_some, put_on _ (by simp), Option.bind_some, put_on _ (by simp), Option.bind_some, put_on _ (by simp), Option.bind_some]
  rfl
theorem set_self {H : gH} {c : Nat} {x : gC} (e : H.2 c = some x) : g_set H c x = H := by
  refine Prod.ext rfl (funext fun q => ?_)
  by_cases ec : q = c
  · subst ec; rw [set_at, e]
  · rw [set_ne ec]
theorem gadd_ne {H : gH} {x : gC} {q : Nat} (n : q ≠ H.1) : (g_add H x).2 q = H.2 q := by
  show (if q = H.1 then some x else H.2 q) = _
  rw [if_neg n]
theorem wd_add {H : gH} {x : gC} {w q : Nat} (V : RW) (n : q ≠ H.1) : (wdP (g_add H x) w V).2 q = (wdP H w V).2 q := by
  show (if w ≤ q ∧ q < w + 61 then wdC w V (q - w) else (if q = H.1 then some x else H.2 q)) = (if w ≤ q ∧ q < w + 61 then wdC w V (q - w) else H.2 q)
  rw [if_neg n]
theorem updR_self (f : Nat → Nat → Int32) (j : Nat) : updR f j (f j) = f := funext fun k => by
  unfold updR
  by_cases c : k = j
  · subst c; simp
  · simp [c]
section LOAD
variable {a t : Nat} {h : gH}
/-- the class's heap while its text is read: the reader in a new cell, the trial World at a + 63 -/
def ldH (h : gH) (a : Nat) (F : RFc) (S : RRd) (V : RW) : gH := rdP (wdP (g_add (fP h a F) (.inr (5, g_dfl 5))) (a + 63) V) (fP h a F).1 S
theorem ld_in {F : RFc} (hc : a + 629 ≤ h.1) (S : RRd) (V : RW) : fIs (ldH h a F S V).2 a (F.s_tr V) := fun j hj => by
  have e1 : (fP h a F).1 = h.1 := rfl
  unfold ldH
  rw [rdP_ne (by omega), wd_add V (by omega), fU_tr, fP_in h a _ hj]
theorem ld_out {F : RFc} (hc : a + 629 ≤ h.1) (S : RRd) (V : RW) {q : Nat} (hq : q < a ∨ (a + 614 ≤ q ∧ q < a + 629)) : (ldH h a F S V).2 q = h.2 q := by
  have e1 : (fP h a F).1 = h.1 := rfl
  unfold ldH
  rw [rdP_ne (by omega), wd_add V (by omega), wdP_out _ _ _ (by omega), fP_out _ _ _ (by omega)]
theorem ld_rd (F : RFc) (S : RRd) (V : RW) : (ldH h a F S V).2 (fP h a F).1 = some (rdO S) := rd0 _ _ _
theorem ld_fP {F : RFc} (hc : a + 629 ≤ h.1) (S : RRd) (V : RW) : fP (ldH h a F S V) a (F.s_tr V) = ldH h a F S V := fP_self (ld_in hc S V)
theorem ld_start {F : RFc} (hc : a + 629 ≤ h.1) (N : Nat) : f_X5_init (g_add (fP h a F) (.inr (5, g_dfl 5))) (fP h a F).1 (a + 1) (nI N) = some (ldH h a F (RRd.mk (a + 1) N 0 0 0 0 (-1)) F.tr) := by
  have e1 : (fP h a F).1 = h.1 := rfl
  have q := init_rd (g_add (fP h a F) (.inr (5, g_dfl 5))) (fP h a F).1 (a + 1) N
  rw [set_self add_at] at q
  rw [q]
  unfold ldH
  rw [wdP_self (show wdIs (g_add (fP h a F) (.inr (5, g_dfl 5))) (a + 63) F.tr from fun j hj => by rw [gadd_ne (by omega)]; exact fW_tr h a F j hj)]
theorem ld_into {F : RFc} {R0 : RMo} {N : Nat} (hc : a + 629 ≤ h.1) (hN : N ≤ 500) (hB : ∀ i, i < N → relB (R0.buf i) (F.B i)) :
    ∃ (b : Bool) (S : RRd) (V : RW), f_X5_readInto (ldH h a F (RRd.mk (a + 1) N 0 0 0 0 (-1)) F.tr) (fP h a F).1 (a + 63) = some (bI b, ldH h a F S V) ∧ ∀ (x : gH) (m : Nat) (ns : Int32) (D : Nat → Int32), ∃ X, rf8 (mP x m (sS R0 N 0 0 (-1) ns 0 D)) m = f_X8_load_b134 (mP x m X) m ∧ oc R0 N 0 (b, S, V) X := by
  have e1 : (fP h a F).1 = h.1 := rfl
  have J : Jo (g_add (fP h a F) (.inr (5, g_dfl 5))) (fP h a F).1 (a + 63) (a + 1) F.B := ⟨by rw [gadd_ne (by omega)]; exact f1 h a F, by omega, Or.inl (by omega), Or.inr (by omega)⟩
  have hR : (RRd.mk (a + 1) N 0 0 0 0 (-1)).w (g_add (fP h a F) (.inr (5, g_dfl 5))) (fP h a F).1 (a + 63) (a + 1) F.B := ⟨rfl, fun W => J.wd W rfl hN (Nat.zero_le _) (Nat.zero_le _)⟩
  obtain ⟨b, S, V, q1, q2⟩ := into_0 (R0 := R0) (R := RRd.mk (a + 1) N 0 0 0 0 (-1)) J hN hB rfl (Nat.zero_le _) rfl hR F.tr
  refine ⟨b, S, V, q1, fun x m ns D => ?_⟩
  obtain ⟨X, s1, s2⟩ := q2 x m ns D
  have ep : nI (RRd.mk (a + 1) N 0 0 0 0 (-1)).pos = 0 := nI_0
  rw [ep] at s1
  exact ⟨X, s1, s2⟩
/-- the class's call, up to the end of the reading -/
theorem ld_cls {F : RFc} {N : Nat} (ef : fP h a F = h) (hc : a + 629 ≤ h.1) (hn : N ≤ F.n) (h5 : F.n ≤ 500) {b : Bool} {S : RRd} {V : RW} (e : f_X5_readInto (ldH h a (F.s_n 0) (RRd.mk (a + 1) N 0 0 0 0 (-1)) F.tr) (fP h a (F.s_n 0)).1 (a + 63) = some (bI b, ldH h a (F.s_n 0) S V)) : f_X7_load h a (nI N) = if b = true then (g_put (ldH h a (F.s_n 0) S V) a 7 2 (.int (-1))).bind fun h66 =>
        (g_gA h66 a 7 5).bind fun v70 =>
        (g_gA h66 a 7 3).bind fun v74 =>
        bif g_is h66 v70 1 then
        (f_X1_keep h66 v70 v74).bind fun h77 =>
        (g_gA h77 a 7 3).bind fun v81 =>
        (g_gA h77 a 7 4).bind fun v85 =>
        bif g_is h77 v81 6 then
        (f_X6_copyFrom h77 v81 v85).bind fun h88 =>
        (g_gA h88 a 7 3).bind fun v92 =>
        (g_gI h88 v92 6 1).bind fun v95 =>
        some (.inr v95, h88)
        else none
        else none else some (.inr S.code, fP (ldH h a (F.s_n 0) S V) a (((F.s_n 0).s_tr V).s_err S.err)) := by
  have c0 : (0 : Int32) ≤ nI N := by rw [show (0 : Int32) = nI 0 by decide]; exact (nI_leI (by decide) (by omega)).mpr (Nat.zero_le _)
  have lt : ¬ nI F.n < nI N := nI_nlt hn (by omega)
  have g1 := fG_n h a F
  rw [ef] at g1
  have p0 := fT_n h a F 0
  rw [ef, nI_0] at p0
  have e1 : (fP h a (F.s_n 0)).1 = h.1 := rfl
  have gB : g_gA (g_add (fP h a (F.s_n 0)) (.inr (5, g_dfl 5))) a 7 0 = some (a + 1) := gA_of (fs := [.ref (a + 1), .int (nI (F.s_n 0).n), .int (F.s_n 0).err, .ref (a + 2), .ref (a + 63), .ref (a + 124)]) (by rw [gadd_ne (by omega)]; exact f0 h a (F.s_n 0)) rfl
  have st := ld_start (h := h) (a := a) (F := F.s_n 0) hc N
  have st' : f_X5_init (g_add (fP h a (F.s_n 0)) (.inr (5, g_dfl 5))) (fP h a (F.s_n 0)).1 (a + 1) (nI N) = some (ldH h a (F.s_n 0) (RRd.mk (a + 1) N 0 0 0 0 (-1)) F.tr) := st
  have gT : g_gA (ldH h a (F.s_n 0) (RRd.mk (a + 1) N 0 0 0 0 (-1)) F.tr) a 7 4 = some (a + 63) := by
    have q := fG_tr (ldH h a (F.s_n 0) (RRd.mk (a + 1) N 0 0 0 0 (-1)) F.tr) a ((F.s_n 0).s_tr F.tr)
    rwa [ld_fP hc] at q
  have i5 : g_is (ldH h a (F.s_n 0) (RRd.mk (a + 1) N 0 0 0 0 (-1)) F.tr) (fP h a (F.s_n 0)).1 5 = true := rdP_g _ _ _
  unfold f_X7_load
  rw [if_pos c0, g1, Option.bind_some, if_neg lt, p0, Option.bind_some]
  unfold g_mk
  rw [Option.bind_some, gB, Option.bind_some, st', Option.bind_some, gT, Option.bind_some, i5, cond_true, e, Option.bind_some]
  cases b with
  | true => rw [if_neg (by show ¬ (1 : Int32) = 0; decide), if_pos rfl]
  | false =>
    have ge : g_gI (ldH h a (F.s_n 0) S V) (fP h a (F.s_n 0)).1 5 6 = some S.err := rdG_err _ _ _
    have pe := fT_err (ldH h a (F.s_n 0) S V) a ((F.s_n 0).s_tr V) S.err
    rw [ld_fP hc] at pe
    have gc : g_gI (fP (ldH h a (F.s_n 0) S V) a (((F.s_n 0).s_tr V).s_err S.err)) (fP h a (F.s_n 0)).1 5 5 = some S.code := gI_of (fs := [.ref S.text, .int (nI S.len), .int (nI S.pos), .int (nI S.tok), .int S.told, .int S.code, .int S.err]) (by rw [fP_out _ _ _ (by omega)]; exact ld_rd _ _ _) rfl
    rw [if_pos (show bI false = 0 from rfl), if_neg (fun z => nomatch z)]
    show ((g_gI (ldH h a (F.s_n 0) S V) (fP h a (F.s_n 0)).1 5 6).bind fun v53 => (g_put (ldH h a (F.s_n 0) S V) a 7 2 (.int v53)).bind fun h56 => (g_gI h56 (fP h a (F.s_n 0)).1 5 5).bind fun v60 => some (Sum.inr v60, h56)) = _
    rw [ge, Option.bind_some, pe, Option.bind_some, gc, Option.bind_some]
end LOAD
