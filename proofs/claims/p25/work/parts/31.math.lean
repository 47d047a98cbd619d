/-! what a tick keeps -/
def RMs.sh (M : RMs) : Nat × Nat × Nat := (M.frames, M.fsize, M.len)
theorem sh_ok {M M' : RMs} (e : M'.sh = M.sh) : M'.ok = M.ok := by
  simp only [RCh_s, RKp_s, RMs_s, RMi_s, RW_s, RMs.sh, Prod.mk.injEq] at e
  unfold RMs.ok
  rw [e.1, e.2.1, e.2.2]
theorem sh_fr {M M' : RMs} (e : M'.sh = M.sh) : M'.fr = M.fr := by
  simp only [RCh_s, RKp_s, RMs_s, RMi_s, RW_s, RMs.sh, Prod.mk.injEq] at e
  unfold RMs.fr
  rw [e.1, e.2.1, e.2.2]
theorem sh_many {M M' : RMs} (e : M'.sh = M.sh) (f : Nat) : M'.many f = M.many f := by
  simp only [RCh_s, RKp_s, RMs_s, RMi_s, RW_s, RMs.sh, Prod.mk.injEq] at e
  unfold RMs.many
  rw [e.2.1, e.2.2]
theorem sh_ch {M M' : RMs} (e : M'.sh = M.sh) (C : RCh) : C.ok M' = C.ok M := by
  have e2 := e
  simp only [RCh_s, RKp_s, RMs_s, RMi_s, RW_s, RMs.sh, Prod.mk.injEq] at e2
  unfold RCh.ok
  simp only [RCh_s, RKp_s, RMs_s, RMi_s, RW_s, sh_many e, e2.1, e2.2.1, e2.2.2]
/-- the World's invariant -/
def RW.good (R : RW) : Prop := (R.ok) ∧ (∀ i, i < R.told → (R.ms i).fr) ∧ (∀ m, R.way = some m → R.c0.ok (R.ms m) ∧ R.c1.ok (R.ms m))
theorem RW.good.ok {R : RW} (H : RW.good R) : R.ok := H.1
theorem RW.good.fr {R : RW} (H : RW.good R) : ∀ i, i < R.told → (R.ms i).fr := H.2.1
theorem RW.good.ch {R : RW} (H : RW.good R) : ∀ m, R.way = some m → R.c0.ok (R.ms m) ∧ R.c1.ok (R.ms m) := H.2.2
/-- R' is R but for the channel b, the messages (whose shapes are the same), the counts and the way -/
def RW.near (R R' : RW) (b : Bool) : Prop := (R'.time = R.time) ∧ (R'.told = R.told) ∧ (R'.fsize = R.fsize) ∧ (R'.k0 = R.k0) ∧ (R'.k1 = R.k1) ∧ (R'.mi = R.mi) ∧ (∀ i, (R'.ms i).sh = (R.ms i).sh) ∧ (R'.ch (!b) = R.ch (!b))
theorem RW.near.time {R R' : RW} {b : Bool} (H : RW.near R R' b) : R'.time = R.time := H.1
theorem RW.near.told {R R' : RW} {b : Bool} (H : RW.near R R' b) : R'.told = R.told := H.2.1
theorem RW.near.fsize {R R' : RW} {b : Bool} (H : RW.near R R' b) : R'.fsize = R.fsize := H.2.2.1
theorem RW.near.k0 {R R' : RW} {b : Bool} (H : RW.near R R' b) : R'.k0 = R.k0 := H.2.2.2.1
theorem RW.near.k1 {R R' : RW} {b : Bool} (H : RW.near R R' b) : R'.k1 = R.k1 := H.2.2.2.2.1
theorem RW.near.mi {R R' : RW} {b : Bool} (H : RW.near R R' b) : R'.mi = R.mi := H.2.2.2.2.2.1
theorem RW.near.sh {R R' : RW} {b : Bool} (H : RW.near R R' b) : ∀ i, (R'.ms i).sh = (R.ms i).sh := H.2.2.2.2.2.2.1
theorem RW.near.other {R R' : RW} {b : Bool} (H : RW.near R R' b) : R'.ch (!b) = R.ch (!b) := H.2.2.2.2.2.2.2
theorem RW.near.trans {R R1 R2 : RW} {b : Bool} (h1 : RW.near R R1 b) (h2 : RW.near R1 R2 b) : RW.near R R2 b :=
  ⟨h2.time.trans h1.time, h2.told.trans h1.told, h2.fsize.trans h1.fsize, h2.k0.trans h1.k0, h2.k1.trans h1.k1, h2.mi.trans h1.mi, fun i => (h2.sh i).trans (h1.sh i), h2.other.trans h1.other⟩
theorem RW.near.rfl' (R : RW) (b : Bool) : RW.near R R b := ⟨rfl, rfl, rfl, rfl, rfl, rfl, fun _ => rfl, rfl⟩
theorem sh_upd {f : Nat → RMs} {m : Nat} {M : RMs} (e : M.sh = (f m).sh) (i : Nat) : (updM f m M i).sh = (f i).sh := by
  unfold updM
  split
  · rename_i c; rw [c]; exact e
  · rfl
theorem endTry_sh (M : RMs) (f : Nat) (yes : Bool) (limit : Int32) : (M.endTry f yes limit).2.sh = M.sh := by
  unfold RMs.endTry
  split
  · rfl
  · split <;> rfl
theorem written_sh (M : RMs) (b : Nat) (g : Nat → Int32) (k : Nat) : (M.written b g k).sh = M.sh := by
  unfold RMs.written
  split <;> rfl
theorem iteSh {c : Prop} [Decidable c] {A M : RMs} (h : A.sh = M.sh) : (if c then A else M).sh = M.sh := by
  split
  · exact h
  · rfl
theorem takeOpen_sh (M : RMs) : M.takeOpen.2.sh = M.sh := by
  unfold RMs.takeOpen
  cases M.openFrame <;> rfl
theorem rem26 : ∀ n, n < 30 → ∃ b, b < 26 ∧ g_rem (nI n) 26 = nI b := by decide +kernel
theorem bI_nI (b : Bool) : ∃ s, s ≤ 1 ∧ bI b = nI s := by
  cases b
  · exact ⟨0, by omega, nI_0.symm⟩
  · exact ⟨1, by omega, rfl⟩
theorem madeStep_near (R : RW) (b : Bool) (m : Nat) (lost garbled : Bool) : RW.near R (R.madeStep b m lost garbled) b ∧ (R.madeStep b m lost garbled).way = R.way := by
  cases b
  all_goals
    simp only [RCh_s, RKp_s, RMs_s, RMi_s, RW_s, RW.madeStep, RW.ch, RW.setCh, RW.setMs, if_true, Bool.false_eq_true, if_false]
    split
    · split
      · exact ⟨⟨rfl, rfl, rfl, rfl, rfl, rfl, sh_upd (endTry_sh _ _ _ _), rfl⟩, rfl⟩
      · exact ⟨⟨rfl, rfl, rfl, rfl, rfl, rfl, sh_upd (endTry_sh _ _ _ _), rfl⟩, rfl⟩
    · split
      · exact ⟨⟨rfl, rfl, rfl, rfl, rfl, rfl, fun _ => rfl, rfl⟩, rfl⟩
      · split
        · exact ⟨⟨rfl, rfl, rfl, rfl, rfl, rfl, fun _ => rfl, rfl⟩, rfl⟩
        · exact ⟨⟨rfl, rfl, rfl, rfl, rfl, rfl, sh_upd (iteSh (written_sh _ _ _ _)), rfl⟩, rfl⟩
theorem setCh_ch (R : RW) (b : Bool) (C : RCh) : (R.setCh b C).ch b = C := by cases b <;> rfl
theorem madeStep_ch {R : RW} {b : Bool} {m : Nat} (hM : (R.ms m).ok) (hC : (R.ch b).ok (R.ms m)) (hi : (R.ch b).frame ≠ -1) (lost garbled : Bool) : ((R.madeStep b m lost garbled).ch b).ok (R.ms m) := by
  obtain ⟨f, s, n, e1, e2, e3, f1, f2, f3, f4⟩ := hC.resolve_left hi
  have k8 := many_le hM f
  have f24 : f < 24 := by have := hM.2.1; omega
  have ef : (R.ch b).frame.toNatClampNeg = f := by rw [e1]; exact nI_clamp (by omega)
  obtain ⟨g, g1, g2⟩ := bI_nI garbled
  unfold RW.madeStep
  simp only [RCh_s, RKp_s, RMs_s, RMi_s, RW_s, ef]
  split
  · left
    split <;> cases b <;> rfl
  · rename_i c
    have hs1 : s ≤ (R.ms m).many f + 1 := by
      rw [e2, show (1 : Int32) = nI 1 by decide, nI_add, nI_ltI (by omega) (by omega)] at c
      omega
    right
    refine ⟨f, s + 1, ?_⟩
    split
    · obtain ⟨n9, n8, n7⟩ := rem26 (f + g) (by omega)
      refine ⟨n9, ?_⟩
      rw [setCh_ch]
      refine ⟨?_, ?_, ?_, f1, f2, by omega, n8⟩
      · cases lost <;> exact e1
      · cases lost <;> (show (R.ch b).step + 1 = _; rw [e2, nI_succ])
      · show g_rem (nI f + bI garbled) 26 = nI n9
        rw [g2, nI_add, n7]
    · split
      · refine ⟨n, ?_⟩
        rw [setCh_ch]
        refine ⟨?_, ?_, ?_, f1, f2, by omega, f4⟩
        · cases lost <;> exact e1
        · cases lost <;> (show (R.ch b).step + 1 = _; rw [e2, nI_succ])
        · cases lost <;> exact e3
      · refine ⟨n, ?_⟩
        rw [setCh_ch]
        refine ⟨?_, ?_, ?_, f1, f2, by omega, f4⟩
        · cases lost <;> exact e1
        · cases lost <;> (show (R.ch b).step + 1 = _; rw [e2, nI_succ])
        · cases lost <;> exact e3
theorem counted_near (R : RW) (b c d : Bool) : RW.near R (R.counted c d) b := ⟨rfl, rfl, rfl, rfl, rfl, rfl, fun _ => rfl, rfl⟩
theorem served2_near (R : RW) (b : Bool) (m : Nat) (lost garbled : Bool) : RW.near R (R.served2 b m lost garbled) b ∧ ((R.served2 b m lost garbled).way = R.way ∨ (R.served2 b m lost garbled).way = none) := by
  have q := madeStep_near (R.counted lost garbled) b m lost garbled
  have q1 := (counted_near R b lost garbled).trans q.1
  unfold RW.served2
  dsimp only [RCh_power, RCh_u_power, RCh_opening, RCh_u_opening, RCh_closing, RCh_u_closing, RCh_frame, RCh_u_frame, RCh_step, RCh_u_step, RCh_number, RCh_u_number, RCh_n, RCh_u_n, RCh_heard, RCh_u_heard, RCh_lost, RCh_u_lost, RCh_good, RCh_u_good, RKp_told, RKp_u_told, RKp_ticks, RKp_u_ticks, RKp_keys, RKp_u_keys, RMs_sender, RMs_u_sender, RMs_urgency, RMs_u_urgency, RMs_len, RMs_u_len, RMs_fsize, RMs_u_fsize, RMs_frames, RMs_u_frames, RMs_phase, RMs_u_phase, RMs_began, RMs_u_began, RMs_ended, RMs_u_ended, RMs_unf, RMs_u_unf, RMs_letters, RMs_u_letters, RMs_log, RMs_u_log, RMs_fst, RMs_u_fst, RMs_tries, RMs_u_tries, RMi_told, RMi_u_told, RMi_firsts, RMi_u_firsts, RMi_lasts, RMi_u_lasts, RMi_levels, RMi_u_levels, RW_time, RW_u_time, RW_told, RW_u_told, RW_way, RW_u_way, RW_fsize, RW_u_fsize, RW_limit, RW_u_limit, RW_sent, RW_u_sent, RW_lost, RW_u_lost, RW_garbled, RW_u_garbled, RW_given, RW_u_given, RW_no, RW_u_no, RW_c0, RW_u_c0, RW_c1, RW_u_c1, RW_k0, RW_u_k0, RW_k1, RW_u_k1, RW_mi, RW_u_mi, RW_ms, RW_u_ms, RCh_eta, RKp_eta, RMs_eta, RMi_eta, RW_eta]
  split
  · exact ⟨⟨q1.time, q1.told, q1.fsize, q1.k0, q1.k1, q1.mi, fun i => (sh_upd (f := ((R.counted lost garbled).madeStep b m lost garbled).ms) (by rfl) i).trans (q1.sh i), by cases b <;> exact q1.other⟩, Or.inr rfl⟩
  · exact ⟨q1, Or.inl q.2⟩
theorem served2_ch {R : RW} {b : Bool} {m : Nat} (hM : (R.ms m).ok) (hC : (R.ch b).ok (R.ms m)) (hi : (R.ch b).frame ≠ -1) (lost garbled : Bool) : ((R.served2 b m lost garbled).ch b).ok (R.ms m) := by
  have q := madeStep_ch (R := R.counted lost garbled) (b := b) (m := m) hM (by cases b <;> exact hC) (by cases b <;> exact hi) lost garbled
  unfold RW.served2
  dsimp only [RCh_power, RCh_u_power, RCh_opening, RCh_u_opening, RCh_closing, RCh_u_closing, RCh_frame, RCh_u_frame, RCh_step, RCh_u_step, RCh_number, RCh_u_number, RCh_n, RCh_u_n, RCh_heard, RCh_u_heard, RCh_lost, RCh_u_lost, RCh_good, RCh_u_good, RKp_told, RKp_u_told, RKp_ticks, RKp_u_ticks, RKp_keys, RKp_u_keys, RMs_sender, RMs_u_sender, RMs_urgency, RMs_u_urgency, RMs_len, RMs_u_len, RMs_fsize, RMs_u_fsize, RMs_frames, RMs_u_frames, RMs_phase, RMs_u_phase, RMs_began, RMs_u_began, RMs_ended, RMs_u_ended, RMs_unf, RMs_u_unf, RMs_letters, RMs_u_letters, RMs_log, RMs_u_log, RMs_fst, RMs_u_fst, RMs_tries, RMs_u_tries, RMi_told, RMi_u_told, RMi_firsts, RMi_u_firsts, RMi_lasts, RMi_u_lasts, RMi_levels, RMi_u_levels, RW_time, RW_u_time, RW_told, RW_u_told, RW_way, RW_u_way, RW_fsize, RW_u_fsize, RW_limit, RW_u_limit, RW_sent, RW_u_sent, RW_lost, RW_u_lost, RW_garbled, RW_u_garbled, RW_given, RW_u_given, RW_no, RW_u_no, RW_c0, RW_u_c0, RW_c1, RW_u_c1, RW_k0, RW_u_k0, RW_k1, RW_u_k1, RW_mi, RW_u_mi, RW_ms, RW_u_ms, RCh_eta, RKp_eta, RMs_eta, RMi_eta, RW_eta]
  split
  · cases b <;> exact q
  · exact q
theorem near_ok {R R' : RW} {b : Bool} (h : R.ok) (n : RW.near R R' b) (hw : R'.way = R.way ∨ R'.way = none) : R'.ok := by
  have w9 : ∀ m, R'.way = some m → m < R'.told := by
    intro m e
    rw [n.told]
    rcases hw with w | w
    · exact h.way m (w ▸ e)
    · rw [w] at e; cases e
  exact ⟨by rw [n.told]; exact h.told, w9, by rw [n.fsize]; exact h.fs1, by rw [n.fsize]; exact h.fs8, by rw [n.k0]; exact h.k0, by rw [n.k1]; exact h.k1, by rw [n.mi]; exact h.mi, fun i hi => by rw [sh_ok (n.sh i)]; exact h.ms i (by rw [← n.told]; exact hi)⟩
theorem near_good {R R' : RW} {b : Bool} (h : R.good) (n : RW.near R R' b) (hw : R'.way = R.way ∨ R'.way = none) (hc : ∀ m, R.way = some m → (R'.ch b).ok (R.ms m)) : R'.good := by
  refine ⟨near_ok h.ok n hw, fun i hi => by rw [sh_fr (n.sh i)]; exact h.fr i (by rw [← n.told]; exact hi), fun m e => ?_⟩
  have e0 : R.way = some m := by
    rcases hw with w | w
    · rw [← w]; exact e
    · rw [w] at e; cases e
  have c1 := h.ch m e0
  have c2 := hc m e0
  rw [sh_ch (n.sh m), sh_ch (n.sh m)]
  have o := n.other
  cases b
  · exact ⟨c2, by have : R'.c1 = R.c1 := o; rw [this]; exact c1.2⟩
  · exact ⟨by have : R'.c0 = R.c0 := o; rw [this]; exact c1.1, c2⟩
theorem ch_of {R : RW} (h : R.good) {m : Nat} (e : R.way = some m) (b : Bool) : (R.ch b).ok (R.ms m) := by
  cases b
  · exact (h.ch m e).1
  · exact (h.ch m e).2
theorem served_good {R : RW} {b : Bool} {m : Nat} (h : R.good) (e : R.way = some m) (level : Int32) : (R.served b m level).good ∧ (R.served b m level).time = R.time := by
  unfold RW.served
  split
  · exact ⟨h, rfl⟩
  · rename_i hi
    obtain ⟨n, hw⟩ := served2_near R b m (decide ((R.ch b).power < level)) (decide (level = (R.ch b).power))
    refine ⟨near_good h n hw (fun m' e' => ?_), n.time⟩
    have : m' = m := by rw [e] at e'; cases e'; rfl
    subst this
    exact served2_ch (h.ok.ms _ (h.ok.way _ e)) (ch_of h e b) hi _ _
theorem serve_good {R : RW} (b : Bool) (h : R.good) (level : Int32) : (R.serve b level).good ∧ (R.serve b level).time = R.time := by
  unfold RW.serve
  cases e : R.way with
  | none => exact ⟨h, rfl⟩
  | some m =>
    dsimp only [RCh_power, RCh_u_power, RCh_opening, RCh_u_opening, RCh_closing, RCh_u_closing, RCh_frame, RCh_u_frame, RCh_step, RCh_u_step, RCh_number, RCh_u_number, RCh_n, RCh_u_n, RCh_heard, RCh_u_heard, RCh_lost, RCh_u_lost, RCh_good, RCh_u_good, RKp_told, RKp_u_told, RKp_ticks, RKp_u_ticks, RKp_keys, RKp_u_keys, RMs_sender, RMs_u_sender, RMs_urgency, RMs_u_urgency, RMs_len, RMs_u_len, RMs_fsize, RMs_u_fsize, RMs_frames, RMs_u_frames, RMs_phase, RMs_u_phase, RMs_began, RMs_u_began, RMs_ended, RMs_u_ended, RMs_unf, RMs_u_unf, RMs_letters, RMs_u_letters, RMs_log, RMs_u_log, RMs_fst, RMs_u_fst, RMs_tries, RMs_u_tries, RMi_told, RMi_u_told, RMi_firsts, RMi_u_firsts, RMi_lasts, RMi_u_lasts, RMi_levels, RMi_u_levels, RW_time, RW_u_time, RW_told, RW_u_told, RW_way, RW_u_way, RW_fsize, RW_u_fsize, RW_limit, RW_u_limit, RW_sent, RW_u_sent, RW_lost, RW_u_lost, RW_garbled, RW_u_garbled, RW_given, RW_u_given, RW_no, RW_u_no, RW_c0, RW_u_c0, RW_c1, RW_u_c1, RW_k0, RW_u_k0, RW_k1, RW_u_k1, RW_mi, RW_u_mi, RW_ms, RW_u_ms, RCh_eta, RKp_eta, RMs_eta, RMi_eta, RW_eta]
    split
    · split
      · have hm := h.ok.way m e
        obtain ⟨k1, k2, k3, k4, k5⟩ := takeOpen_facts (R.ms m)
        have n : RW.near R ((R.setMs m (R.ms m).takeOpen.2).setCh b ((R.ch b).take (R.ms m).takeOpen.1)) b := by
          cases b <;> exact ⟨rfl, rfl, rfl, rfl, rfl, rfl, sh_upd (takeOpen_sh _), rfl⟩
        have w : ((R.setMs m (R.ms m).takeOpen.2).setCh b ((R.ch b).take (R.ms m).takeOpen.1)).way = R.way := by cases b <;> rfl
        have g := near_good h n (Or.inl w) (fun m' e' => by
          have : m' = m := by rw [e] at e'; cases e'; rfl
          subst this
          rw [setCh_ch]
          rcases k5 with k5 | ⟨f, k5, k6⟩
          · exact Or.inl k5
          · exact Or.inr ⟨f, 0, 0, k5, nI_0.symm, nI_0.symm, k6, h.fr _ hm f k6, by omega, by omega⟩)
        have q := served_good (b := b) (m := m) g (w.trans e) level
        exact ⟨q.1, q.2.trans n.time⟩
      · exact served_good h e level
    · exact ⟨h, rfl⟩
