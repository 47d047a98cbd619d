/-! a Line's changes: mists, power, a message taken back -/
def sKM (S : RS) (KA MA : Nat) (P : Nat → Prop) : RS := RS.mk S.B S.p S.q S.TA KA MA S.t S.w S.len S.fr S.r P
section KM
variable {G : gG} {h : gH} {S : RS} {D D' : Nat → Int32} {R : RW} {n KA MA : Nat} {P : Nat → Prop}
theorem km_adr (S : RS) (KA MA : Nat) (P : Nat → Prop) (r : Nat) : (sKM S KA MA P).adr r = S.adr r := rfl
theorem km_has (S : RS) (KA MA : Nat) (P : Nat → Prop) (n r : Nat) : (sKM S KA MA P).has n r = S.has n r := rfl
theorem km_ok (ok : S.ok n) : (sKM S KA MA P).ok n := ok
theorem km_lnC {r : Nat} (h1 : r ≠ 1) : lnC (sKM S KA MA P) D r = lnC S D r := by
  unfold lnC
  rw [if_neg h1, if_neg h1]
  rfl
theorem inR_1 {r j : Nat} (h1 : r ≠ 1) (h : inR r j) : (10 ≤ j ∧ j < 42) ∨ 112 ≤ j := by
  unfold inR at h
  omega
theorem km_is (I : lnIs h S D n) (ok : S.ok n) (e : ∀ j, (10 ≤ j ∧ j < 42) ∨ 112 ≤ j → D' j = D j) : lnIs (g_set h S.B (lnO (sKM S KA MA P) D')) (sKM S KA MA P) D' n := fun r hr => by
  rw [km_adr]
  by_cases h1 : r = 1
  · subst h1
    show (g_set h S.B _).2 S.B = _
    rw [set_at]; rfl
  · have ne : S.adr r ≠ S.B := fun z => by
      have a1 := ok.2.1 r hr
      have a2 := ok.2.1 1 (Or.inl ⟨by omega, by omega⟩)
      rw [z, show S.B = S.adr 1 from rfl, a2] at a1
      exact h1 a1.symm
    rw [set_ne ne, I r hr, km_lnC h1]
    exact (lnC_congr ok hr (fun j hj => e j (inR_1 h1 hj))).symm
theorem km_st (ok : S.ok n) (hP : ∀ q, S.P q → S.r q = 0 → P q) {q : Nat} {c x : gC} (k : still h S q c) : still (g_set h S.B x) (sKM S KA MA P) q c := by
  have a2 := ok.2.1 1 (Or.inl ⟨by omega, by omega⟩)
  have nB : q ≠ S.B := fun z => by
    have := k.2.1
    rw [z, show S.B = S.adr 1 from rfl, a2] at this
    exact nomatch this
  exact ⟨(set_ne nB).trans k.1, k.2.1, hP q k.2.2 k.2.1⟩
/-- a row in the object's place for keepers or mists -/
theorem km_put (I : lnIs h S D n) (ok : S.ok n) : g_put h S.B 10 3 (.ref MA) = some (g_set h S.B (lnO (sKM S S.KA MA P) D)) ∧ g_put h S.B 10 2 (.ref KA) = some (g_set h S.B (lnO (sKM S KA S.MA P) D)) := by
  have eB := ln_B (h := h) (D := D) ok
  rw [lnP_self ok I] at eB
  exact ⟨put_of eB (Nat.le_of_ble_eq_true rfl), put_of eB (Nat.le_of_ble_eq_true rfl)⟩
end KM
section MI
variable {G : gG} {h : gH} {S : RS} {D : Nat → Int32} {R : RW} {P : Nat → Prop}
def dMi (D : Nat → Int32) (k : Nat) (x y z : Int32) : Nat → Int32 := upd (upd (upd (upd D 7 (nI (k + 1))) (76 + 3 * k) x) (77 + 3 * k) y) (78 + 3 * k) z
theorem dMi_o {D : Nat → Int32} {k j : Nat} {x y z : Int32} (h7 : j ≠ 7) (h1 : j < 76 + 3 * k ∨ 79 + 3 * k ≤ j) : dMi D k x y z j = D j := by
  unfold dMi
  rw [upd_ne (by omega), upd_ne (by omega), upd_ne (by omega), upd_ne h7]
theorem fog_rel (r : Rel R D) (h12 : R.mi.told < 12) (x y z : Int32) : Rel (R.fogged x y z) (dMi D R.mi.told x y z) := by
  have em : R.mi.add x y z = RMi.mk (R.mi.told + 1) (upd R.mi.firsts R.mi.told x) (upd R.mi.lasts R.mi.told y) (upd R.mi.levels R.mi.told z) := if_pos h12
  refine r.side (fun j j1 j7 j2 => dMi_o j7 (by omega)) ⟨rfl, rfl, rfl, rfl, rfl, rfl, rfl, rfl, rfl, rfl, rfl, rfl⟩ (r.k0.congr (fun j a b => dMi_o (by omega) (by omega))) (r.k1.congr (fun j a b => dMi_o (by omega) (by omega))) ?_
  show relMi (R.mi.add x y z) _
  rw [em]
  obtain ⟨m1, m2, m3⟩ := r.mi
  refine ⟨by show R.mi.told + 1 ≤ 12; omega, ?_, fun i hi => ?_⟩
  · unfold dMi
    rw [upd_ne (by omega), upd_ne (by omega), upd_ne (by omega), upd_at]; rfl
  · have hi2 : i < R.mi.told + 1 := hi
    show dMi D R.mi.told x y z (76 + 3 * i) = upd R.mi.firsts R.mi.told x i ∧ dMi D R.mi.told x y z (77 + 3 * i) = upd R.mi.lasts R.mi.told y i ∧ dMi D R.mi.told x y z (78 + 3 * i) = upd R.mi.levels R.mi.told z i
    by_cases c : i = R.mi.told
    · subst c
      unfold dMi
      refine ⟨?_, ?_, ?_⟩
      · rw [upd_ne (by omega), upd_ne (by omega), upd_at, upd_at]
      · rw [upd_ne (by omega), upd_at, upd_at]
      · rw [upd_at, upd_at]
    · obtain ⟨q1, q2, q3⟩ := m3 i (by omega)
      rw [dMi_o (by omega) (by omega), dMi_o (by omega) (by omega), dMi_o (by omega) (by omega), upd_ne c, upd_ne c, upd_ne c]
      exact ⟨q1, q2, q3⟩
/-- the Line with a mist more -/
theorem fog_r (I : lnIs h S D R.told) (L : lnR h S D R) (h12 : R.mi.told < 12) {row x y z : Int32} {ra mo : Nat} (hP : ∀ q, S.P q → S.r q = 0 → P q) (er : h.2 ra = some (.inl (0, 3, .inl (row3 x y z)))) (pr : P ra ∧ S.r ra = 0) {rm : Nat → Nat} (b1 : still h S S.MA (rfs 3 R.mi.told rm)) (b2 : ∀ r, r < R.mi.told → still h S (rm r) (.inl (0, 3, .inl (row3 (R.mi.firsts r) (R.mi.lasts r) (R.mi.levels r))))) (em : h.2 mo = some (rfs 3 (R.mi.told + 1) (oneMore R.mi.told rm ra))) (pm : P mo ∧ S.r mo = 0) : g_put h S.B 10 3 (.ref mo) = some (g_set h S.B (lnO (sKM S S.KA mo P) (dMi D R.mi.told x y z))) ∧ lnIs (g_set h S.B (lnO (sKM S S.KA mo P) (dMi D R.mi.told x y z))) (sKM S S.KA mo P) (dMi D R.mi.told x y z) R.told ∧ lnR (g_set h S.B (lnO (sKM S S.KA mo P) (dMi D R.mi.told x y z))) (sKM S S.KA mo P) (dMi D R.mi.told x y z) (R.fogged x y z) := by
  have ok := L.1
  have a2 := ok.2.1 1 (Or.inl ⟨by omega, by omega⟩)
  have nB : ∀ q, S.r q = 0 → q ≠ S.B := fun q hq z => by
    rw [z, show S.B = S.adr 1 from rfl, a2] at hq
    exact nomatch hq
  have eO : lnO (sKM S S.KA mo P) (dMi D R.mi.told x y z) = lnO (sKM S S.KA mo P) D := by
    unfold lnO
    rw [dMi_o (by omega) (by omega), dMi_o (by omega) (by omega), dMi_o (by omega) (by omega), dMi_o (by omega) (by omega), dMi_o (by omega) (by omega), dMi_o (by omega) (by omega), dMi_o (by omega) (by omega), dMi_o (by omega) (by omega)]
  have em2 : R.mi.add x y z = RMi.mk (R.mi.told + 1) (upd R.mi.firsts R.mi.told x) (upd R.mi.lasts R.mi.told y) (upd R.mi.levels R.mi.told z) := if_pos h12
  refine ⟨by rw [eO]; exact (km_put (KA := 0) I ok).1, km_is I ok (fun j hj => dMi_o (by omega) (by omega)), ok, ⟨km_st ok hP L.2.1.1, km_st ok hP L.2.1.2.1, fun i hi => ?_, ?_, oneMore R.mi.told rm ra, ?_, ?_⟩, fog_rel L.2.2.1 h12 x y z, L.2.2.2.1, L.2.2.2.2.1, L.2.2.2.2.2⟩
  · obtain ⟨k1, k2, k3, v, a, b, g, w1, w2, w3⟩ := L.2.1.2.2.1 i hi
    exact ⟨k1, k2, km_st ok hP k3, v, a, b, g, km_st ok hP w1, km_st ok hP w2, w3⟩
  · obtain ⟨nk, rw', st, tk, ky, a1, a2, a3, a4⟩ := L.2.1.2.2.2.1
    exact ⟨nk, rw', st, tk, ky, a1, km_st ok hP a2, fun r hr => km_st ok hP (a3 r hr), a4⟩
  · show still _ _ mo (rfs 3 (R.mi.add x y z).told _)
    rw [em2]
    exact ⟨(set_ne (nB _ pm.2)).trans em, pm.2, pm.1⟩
  · show ∀ r, r < (R.mi.add x y z).told → still _ _ _ (.inl (0, 3, .inl (row3 ((R.mi.add x y z).firsts r) ((R.mi.add x y z).lasts r) ((R.mi.add x y z).levels r))))
    rw [em2]
    intro r hr
    have hr2 : r < R.mi.told + 1 := hr
    show still _ _ _ (.inl (0, 3, .inl (row3 (upd R.mi.firsts R.mi.told x r) (upd R.mi.lasts R.mi.told y r) (upd R.mi.levels R.mi.told z r))))
    unfold oneMore
    by_cases c : r = R.mi.told
    · subst c
      rw [upd_at, upd_at, upd_at, if_neg (Nat.lt_irrefl _)]
      exact ⟨(set_ne (nB _ pr.2)).trans er, pr.2, pr.1⟩
    · rw [upd_ne c, upd_ne c, upd_ne c, if_pos (by omega)]
      exact km_st ok hP (b2 r (by omega))
end MI
section PW
variable {G : gG} {h : gH} {S : RS} {D : Nat → Int32} {R : RW}
theorem setCh_lgs (lg : R.lgs) (b : Bool) {C : RCh} (h1 : C.n = (R.ch b).n) (h2 : C.heard = (R.ch b).heard) (h3 : C.opening = (R.ch b).opening) (h4 : C.closing = (R.ch b).closing) : (R.setCh b C).lgs := by
  have cb : (R.setCh b C).ch b = C := by cases b <;> rfl
  have co : (R.setCh b C).ch (!b) = R.ch (!b) := by cases b <;> rfl
  refine ⟨?_, all_b b ?_ ?_, all_b b ?_ ?_⟩
  · cases b <;> exact lg.1
  · rw [cb, h1, h2]; exact lg.2.1 b
  · rw [co]; exact lg.2.1 (!b)
  · rw [cb, h3, h4]; exact lg.2.2 b
  · rw [co]; exact lg.2.2 (!b)
theorem power_r (L : lnR h S D R) (b : Bool) (v : Int32) : g_put (lnP h S D) (S.p (cn b)) 9 0 (.int v) = some (lnP h S (upd D (10 + 16 * cn b) v)) ∧ lnR h S (upd D (10 + 16 * cn b) v) (R.setCh b ((R.ch b).s_power v)) := by
  have hb := cn_lt b
  have rc := L.2.2.1.ch b
  have rel := L.2.2.1.chan b (C := (R.ch b).s_power v) (D' := upd D (10 + 16 * cn b) v) ⟨rfl, rfl, rfl, rfl, rfl, rfl, rfl⟩ (upd_at _ _ _) (by rw [upd_ne (by omega)]; exact rc.2.1) (by rw [upd_ne (by omega)]; exact rc.2.2.1) (fun j j1 j2 => upd_ne (by omega))
  have sm : R.same (R.setCh b ((R.ch b).s_power v)) := by cases b <;> exact ⟨rfl, rfl, rfl, rfl, fun _ => ⟨rfl, rfl⟩⟩
  exact ⟨lmT_power L.1 hb v, L.next rel ⟨setCh_lgs L.2.2.2 b rfl rfl rfl rfl, sm⟩⟩
theorem back_keep (lg : R.lgs) (i : Nat) : (R.takeBack i).2.lgs ∧ R.same (R.takeBack i).2 := by
  have e0 : ∀ (w : Option Nat) (C0 C1 : RCh), (∀ k, k < C0.n → lOf (C0.heard k)) → (∀ k, k < C1.n → lOf (C1.heard k)) → C0.opening = R.c0.opening → C0.closing = R.c0.closing → C1.opening = R.c1.opening → C1.closing = R.c1.closing → (RW.mk R.time R.told w R.fsize R.limit R.sent R.lost R.garbled R.given R.no C0 C1 R.k0 R.k1 R.mi (updM R.ms i (((R.ms i).s_phase 3).s_ended (nI R.time)))).lgs ∧ R.same (RW.mk R.time R.told w R.fsize R.limit R.sent R.lost R.garbled R.given R.no C0 C1 R.k0 R.k1 R.mi (updM R.ms i (((R.ms i).s_phase 3).s_ended (nI R.time)))) := fun w C0 C1 a0 a1 b0 b1 b2 b3 => by
    refine ⟨⟨fun j hj k hk => ?_, fun b k hk => ?_, fun b => ?_⟩, rfl, rfl, rfl, rfl, fun j => ?_⟩
    · by_cases c : j = i
      · subst c
        have e : (RW.mk R.time R.told w R.fsize R.limit R.sent R.lost R.garbled R.given R.no C0 C1 R.k0 R.k1 R.mi (updM R.ms j (((R.ms j).s_phase 3).s_ended (nI R.time)))).ms j = ((R.ms j).s_phase 3).s_ended (nI R.time) := updM_at _ _ _
        rw [e] at hk ⊢
        exact lg.1 j hj k hk
      · have e : (RW.mk R.time R.told w R.fsize R.limit R.sent R.lost R.garbled R.given R.no C0 C1 R.k0 R.k1 R.mi (updM R.ms i (((R.ms i).s_phase 3).s_ended (nI R.time)))).ms j = R.ms j := updM_ne c
        rw [e] at hk ⊢
        exact lg.1 j hj k hk
    · cases b
      · exact a0 k hk
      · exact a1 k hk
    · cases b
      · show ∃ o c : Nat, o < 24 ∧ c < 24 ∧ C0.opening = nI o ∧ C0.closing = nI c
        rw [b0, b1]; exact lg.2.2 false
      · show ∃ o c : Nat, o < 24 ∧ c < 24 ∧ C1.opening = nI o ∧ C1.closing = nI c
        rw [b2, b3]; exact lg.2.2 true
    · by_cases c : j = i
      · subst c
        have e : (RW.mk R.time R.told w R.fsize R.limit R.sent R.lost R.garbled R.given R.no C0 C1 R.k0 R.k1 R.mi (updM R.ms j (((R.ms j).s_phase 3).s_ended (nI R.time)))).ms j = ((R.ms j).s_phase 3).s_ended (nI R.time) := updM_at _ _ _
        rw [e]; exact ⟨rfl, rfl⟩
      · have e : (RW.mk R.time R.told w R.fsize R.limit R.sent R.lost R.garbled R.given R.no C0 C1 R.k0 R.k1 R.mi (updM R.ms i (((R.ms i).s_phase 3).s_ended (nI R.time)))).ms j = R.ms j := updM_ne c
        rw [e]; exact ⟨rfl, rfl⟩
  unfold RW.takeBack
  dsimp only
  split
  · exact e0 none (R.c0.take (-1)) (R.c1.take (-1)) (fun k hk => absurd hk (Nat.not_lt_zero k)) (fun k hk => absurd hk (Nat.not_lt_zero k)) rfl rfl rfl rfl
  · exact e0 R.way R.c0 R.c1 (lg.2.1 false) (lg.2.1 true) rfl rfl rfl rfl
theorem cancels_l3 (L : lnR h S D R) (E : Nat → Int32) (fu : Nat) : f_X10_cancels_b60 G (fu + 1 + 1 + 1) (lnP h S E) (S.B + 1) 2 0 = some (1, lnP h S (upd (upd (upd (upd E 13 (-1)) 14 (-1)) 29 (-1)) 30 (-1))) := by
  have ok := L.1
  have h0 : (0 : Int32) < 2 := by decide
  have h1 : ((0 : Int32) + 1) < 2 := by decide
  have h2 : ¬ ((0 : Int32) + 1 + 1) < 2 := by decide
  have q0 : ∀ F, g_qld (lnP h S F) (S.B + 1) 7 0 = some (some (S.p 0)) := fun F => by rw [e0n]; exact lamp_p L (by omega)
  have q1 : ∀ F, g_qld (lnP h S F) (S.B + 1) 7 (0 + 1) = some (some (S.p 1)) := fun F => by rw [show (0 : Int32) + 1 = nI 1 by decide]; exact lamp_p L (by omega)
  have w0 : ∀ F, g_put (lnP h S F) (S.p 0) 9 3 (.int (-1)) = some (lnP h S (upd F 13 (-1))) := fun F => lmT_work ok (c := 0) (by omega) (-1)
  have s0 : ∀ F, g_put (lnP h S F) (S.p 0) 9 4 (.int (-1)) = some (lnP h S (upd F 14 (-1))) := fun F => lmT_step ok (c := 0) (by omega) (-1)
  have w1 : ∀ F, g_put (lnP h S F) (S.p 1) 9 3 (.int (-1)) = some (lnP h S (upd F 29 (-1))) := fun F => lmT_work ok (c := 1) (by omega) (-1)
  have s1 : ∀ F, g_put (lnP h S F) (S.p 1) 9 4 (.int (-1)) = some (lnP h S (upd F 30 (-1))) := fun F => lmT_step ok (c := 1) (by omega) (-1)
  simp only [f_X10_cancels_b60, h0, h1, h2, if_true, if_false, q0, q1, w0, s0, w1, s1, Option.bind_some]
theorem cancels_l (L : lnR h S D R) (E : Nat → Int32) : f_X10_cancels_b60 G g_N (lnP h S E) (S.B + 1) 2 0 = some (1, lnP h S (upd (upd (upd (upd E 13 (-1)) 14 (-1)) 29 (-1)) 30 (-1))) := cancels_l3 L E 8189
theorem cancels_r (L : lnR h S D R) (hl : R.live) {i : Nat} (hi : i < R.told) (hp : (R.ms i).phase = 0 ∨ (R.ms i).phase = 1) : ∃ D', f_X10_cancels G (lnP h S D) S.B (nI i) = some (bI (R.takeBack i).1, lnP h S D') ∧ lnR h S D' (R.takeBack i).2 ∧ (R.takeBack i).2.live ∧ (boolD D → boolD D') := by
  have ok := L.1
  have r := L.2.2.1
  have n2 : D 2 = oI R.way := r.n.2.2.1
  have hi8 : i < 8 := by have := r.inv.1; omega
  obtain ⟨b1, b2, b3⟩ := r.back hl hi hp
  have d0 : upd D (112 + 102 * i + 3) 3 0 = D 0 := upd_ne (by omega)
  have z10 : ((1 : Int32) = 0) = False := eq_false (by decide)
  by_cases cw : R.way = some i
  · rw [if_pos cw] at b1
    rw [cw, oI_some] at n2
    rw [decide_eq_true cw] at b3
    have e : ∀ E : Nat → Int32, upd (upd (upd (upd (upd E 2 (-1)) 13 (-1)) 14 (-1)) 29 (-1)) 30 (-1) = upd (upd (upd (upd (upd E 13 (-1)) 14 (-1)) 29 (-1)) 30 (-1)) 2 (-1) := fun E => by
      rw [upd_comm (f := E) (show 2 ≠ 13 by omega), upd_comm (show 2 ≠ 14 by omega), upd_comm (show 2 ≠ 29 by omega), upd_comm (show 2 ≠ 30 by omega)]
    refine ⟨_, ?_, L.next b1 (back_keep L.2.2.2 i), b2, fun bd => (((((((bd.upd (Or.inr (by omega))).upd (Or.inr (by omega))).upd (Or.inr (by omega))).upd (Or.inr (by omega))).upd (Or.inr (by omega))).upd (Or.inr (by omega))).upd (Or.inr (by omega)))⟩
    rw [b3]
    have cl := cancels_l (G := G) L (upd (upd (upd D (112 + 102 * i + 3) 3) (112 + 102 * i + 5) (D 0)) 2 (-1))
    rw [e] at cl
    simp only [f_X10_cancels, f_X10_cancels_b13, lnG_way ok, n2, Option.bind_some, if_true, ln_talks ok, talk_p L hi, tkT_state ok hi, lnG_time ok, d0, tkT_ended ok hi, z10, if_false, lnT_way ok, ln_lamps ok, lampN_p L, cl, bI_t]
  · rw [if_neg cw] at b1
    rw [decide_eq_false cw] at b3
    have nw : ¬ D 2 = nI i := by
      rw [n2]
      cases e : R.way with
      | none => exact fun z => nI_neN (i := i) (by omega) z.symm
      | some k =>
        intro z
        have hk := r.inv.2.2.2.2.1 k e
        have h8 := r.inv.1
        have : k = i := (nI_eq (by omega) (by omega)).mp z
        subst this
        exact cw e
    refine ⟨_, ?_, L.next b1 (back_keep L.2.2.2 i), b2, fun bd => (bd.upd (Or.inr (by omega))).upd (Or.inr (by omega))⟩
    rw [b3]
    simp only [f_X10_cancels, f_X10_cancels_b13, lnG_way ok, nw, Option.bind_some, if_false, if_true, ln_talks ok, talk_p L hi, tkT_state ok hi, lnG_time ok, d0, tkT_ended ok hi, bI_f]
end PW
