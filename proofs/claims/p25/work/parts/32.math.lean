theorem start_good {R : RW} (h : R.good) (hi : R.way = none) (idle : R.c0.frame = -1 ∧ R.c1.frame = -1) : R.start.good ∧ R.start.time = R.time := by
  unfold RW.start
  cases e : R.servedAs 0 with
  | none =>
    refine ⟨⟨⟨h.ok.told, (fun _ e => nomatch e), h.ok.fs1, h.ok.fs8, h.ok.k0, h.ok.k1, h.ok.mi, h.ok.ms⟩, h.fr, (fun _ e => nomatch e)⟩, rfl⟩
  | some m =>
    have hm := servedAs_lt e
    have s : ∀ i, (updM R.ms m (((R.ms m).s_phase 1).s_began (nI R.time)) i).sh = (R.ms i).sh := fun i => sh_upd (f := R.ms) (by rfl) i
    have w9 : ∀ m', some m = some m' → m' < R.told := fun m' e => by cases e; exact hm
    refine ⟨⟨⟨h.ok.told, w9, h.ok.fs1, h.ok.fs8, h.ok.k0, h.ok.k1, h.ok.mi, fun i hi => (sh_ok (s i)).mpr (h.ok.ms i hi)⟩, fun i hi => (sh_fr (s i)).mpr (h.fr i hi), fun m' _ => ⟨Or.inl idle.1, Or.inl idle.2⟩⟩, rfl⟩
/-- the message that became over (if one did), and the World then -/
def RW.tick (R : RW) : Option Nat × RW :=
  let R1 := if R.way = none then R.start else R
  match R1.way with
  | none => (none, (RW.mk (R1.time + 1) R1.told R1.way R1.fsize R1.limit R1.sent R1.lost R1.garbled R1.given R1.no R1.c0 R1.c1 R1.k0 R1.k1 R1.mi R1.ms))
  | some m =>
    let R3 := (R1.serve false (R1.mi.levelAt (nI R1.time))).serve true (R1.mi.levelAt (nI R1.time))
    (if R3.way = none then some m else none, (RW.mk (R3.time + 1) R3.told R3.way R3.fsize R3.limit R3.sent R3.lost R3.garbled R3.given R3.no R3.c0 R3.c1 R3.k0 R3.k1 R3.mi R3.ms))
theorem b52_wd {h : gH} {w : Nat} {R : RW} (hR : R.ok) (x : Int32) : f_X6_letTickPass_b52 (wdP h w R) w x = some (if R.way = none then x else -1, wdP h w (RW.mk (R.time + 1) R.told R.way R.fsize R.limit R.sent R.lost R.garbled R.given R.no R.c0 R.c1 R.k0 R.k1 R.mi R.ms)) := by
  have q := way_eq hR
  simp only [RCh_s, RKp_s, RMs_s, RMi_s, RW_s, f_X6_letTickPass_b52, wdG_time, ← nI_succ, wdT_time, wdG_way, Option.bind_some, q]
  split <;> rfl
theorem serve_way {R : RW} {b : Bool} {level : Int32} (e : R.way = none) : R.serve b level = R := by
  unfold RW.serve
  rw [e]
theorem b12_wd {h : gH} {w : Nat} {R : RW} (g : R.good) : f_X6_letTickPass_b12 (wdP h w R) w = some (match R.way with
    | none => (-1, wdP h w (RW.mk (R.time + 1) R.told R.way R.fsize R.limit R.sent R.lost R.garbled R.given R.no R.c0 R.c1 R.k0 R.k1 R.mi R.ms))
    | some m => let R3 := (R.serve false (R.mi.levelAt (nI R.time))).serve true (R.mi.levelAt (nI R.time)); (oI (if R3.way = none then some m else none), wdP h w (RW.mk (R3.time + 1) R3.told R3.way R3.fsize R3.limit R3.sent R3.lost R3.garbled R3.given R3.no R3.c0 R3.c1 R3.k0 R3.k1 R3.mi R3.ms))) := by
  simp only [RCh_s, RKp_s, RMs_s, RMi_s, RW_s, f_X6_letTickPass_b12, wdG_way, Option.bind_some]
  cases e : R.way with
  | none =>
    simp only [RCh_s, RKp_s, RMs_s, RMi_s, RW_s, oI_none, if_true, b52_wd g.ok, e]
  | some m =>
    have hm := g.ok.way m e
    have h8 := g.ok.told
    have hne : nI m ≠ -1 := nI_neN (by omega)
    obtain ⟨g1, t1⟩ := serve_good false g (R.mi.levelAt (nI R.time))
    obtain ⟨g2, t2⟩ := serve_good true g1 (R.mi.levelAt (nI R.time))
    simp only [RCh_s, RKp_s, RMs_s, RMi_s, RW_s, oI_some, hne, if_false, wdG_mi, wdG_time, Option.bind_some, w_mi_g, cond_true, w_mi_levelAt h w R g.ok.mi, wdG_c0, wdP_g, serve_c0 g.ok g.fr (fun m e => (g.ch m e).1), wdG_c1, serve_c1 g1.ok g1.fr (fun m e => (g1.ch m e).2), b52_wd g2.ok]
    split <;> simp [RCh_s, RKp_s, RMs_s, RMi_s, RW_s, bI_t, bI_f, oI_none, oI_some, SIM_m40, SIM_m45, SIM_m46]
theorem tick_wd {h : gH} {w : Nat} {R : RW} (g : R.good) (idle : R.way = none → R.c0.frame = -1 ∧ R.c1.frame = -1) : f_X6_letTickPass (wdP h w R) w = some (oI R.tick.1, wdP h w R.tick.2) := by
  unfold RW.tick
  simp only [RCh_s, RKp_s, RMs_s, RMi_s, RW_s, f_X6_letTickPass, wdG_way, Option.bind_some, way_eq g.ok]
  by_cases c : R.way = none
  · obtain ⟨g1, t1⟩ := start_good g c (idle c)
    simp only [RCh_s, RKp_s, RMs_s, RMi_s, RW_s, c, if_true, wdP_g, cond_true, start_wd g.ok.told, Option.bind_some, b12_wd g1]
    cases R.start.way <;> simp [RCh_s, RKp_s, RMs_s, RMi_s, RW_s, bI_t, bI_f, oI_none, oI_some, SIM_m40, SIM_m45, SIM_m46]
  · simp only [RCh_s, RKp_s, RMs_s, RMi_s, RW_s, c, if_false, b12_wd g]
    cases e : R.way with
    | none => exact absurd e c
    | some m => simp [RCh_s, RKp_s, RMs_s, RMi_s, RW_s, bI_t, bI_f, oI_none, oI_some, SIM_m40, SIM_m45, SIM_m46]
