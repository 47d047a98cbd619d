/-! questions; a word sent -/
section CA3
variable {G : gG} {a b bA : Nat} {h h' h1 : gH} {F F' : RFc} {S S' : RS} {D D' : Nat → Int32} {xs : Nat → Int32} {N : Nat} {K4 : gH → Int32 → Int32 → Option (Int32 × gH)} {K247 : gH → Int32 → Int32 → Nat → Nat → Nat → Nat → Nat → Int32 → Int32 → Option (Int32 × gH)} {l2 l8 l9 : Int32} {l5 l7 l10 : Nat}
theorem ask_c (B : Bas a b h) (C : Cls a h F) (l : Lin h (Pq a bA) S D F.now) (ht : F.now.time ≤ 1000) {s : Nat} (hs : s < 2) : f_L_letter G h a (nI F.now.told) 0 0 = some (-2000000097, thr h) ∧ f_L_mist G (thr h) a (nI F.now.time) = some (F.now.mi.levelAt (nI F.now.time), thr h) ∧ f_X10_mist G (thr h) S.B (nI F.now.time) = some (F.now.mi.levelAt (nI F.now.time)) ∧ f_L_key G (thr h) a (nI s) (nI F.now.time) = some ((F.now.kp (nI s)).keyAt (nI F.now.time), thr h) ∧ f_X10_key G (thr h) S.B (nI s) (nI F.now.time) = some ((F.now.kp (nI s)).keyAt (nI F.now.time)) := by
  obtain ⟨B1, C1, l1, -⟩ := fin_thr B C l
  have ok := l.rel.ok
  have e2 : (20000 : Int32) = nI 20000 := by decide
  have c2 : 0 ≤ nI F.now.time ∧ nI F.now.time ≤ 20000 := tR e2 (by omega) (by decide)
  have c1 : 0 ≤ nI s ∧ nI s ≤ 1 := tR e1n (by omega) (by decide)
  have m1 := mist_r (G := G) l1.L (nI F.now.time)
  have k1 := key_r (G := G) l1.L hs (nI F.now.time)
  have mc := mist_c (G := G) C1.1 ok (nI F.now.time)
  rw [l1.self] at m1 k1
  rw [if_pos c2] at mc
  exact ⟨letter_0 C.1 (fun z => Int32.lt_irrefl z.2), mc, m1, key_c C1.1 ok c1 c2, k1⟩
theorem fin_fPb (B : Bas a b h1) (bo : bfO a h1) (l : Lin h1 (Pq a bA) S' D' F'.now) (n0 : F'.n = 0) (pl : F'.pl < 8) (ct : F'.ct ≤ 8) : Bas a b (fP h1 a F') ∧ Cls a (fP h1 a F') F' ∧ Lin (fP h1 a F') (Pq a bA) S' D' F'.now ∧ stp a a S' S' h1 (fP h1 a F') := by
  have hc := B.2.2.2.1
  have hb := B.2.2.1
  have e := eff_fP (a := a) (h := h1) F' (by omega)
  obtain ⟨f, c2, c3⟩ := bo
  exact ⟨B.fr e (fun q hq => by omega), ⟨fP_is h1 a F', ⟨f, (fP_out h1 a F' (Or.inr (Nat.le_refl _))).trans c2, c3⟩, n0, pl, ct⟩, l.fr B.1 e (fun q hq z => by have := z.1; omega), stp_eff e (fun q hq => Or.inl (by omega))⟩
theorem eff_ld (hc : a + 614 ≤ h.1) (z : h'.1 = h.1 + 1) (o : ∀ q, (q < a ∨ a + 614 ≤ q) → q ≠ h.1 → h'.2 q = h.2 q) : eff (fun q => a ≤ q ∧ q < a + 614) h h' := ⟨by omega, fun q hq hw => o q (by omega) (by omega), fun w q c e => by
  rw [z]
  by_cases c1 : a ≤ q ∧ q < a + 614
  · omega
  · by_cases c2 : q = h.1
    · omega
    · rw [o q (by omega) c2] at e
      exact Nat.lt_succ_of_lt (w q c e)⟩
theorem ltr_B {M : List Nat} (sm : smL M) {B : Nat → Int32} (e : ∀ i, i < M.length → B i = nI (byt M i)) : ∀ j, j < M.length → isL (B j) := fun j hj => by
  have c := sm _ (byt_in hj)
  rw [e j hj]
  exact ⟨by rw [show (97 : Int32) = nI 97 by decide]; exact (nI_leI (by decide) (by omega)).mpr c.1, by rw [show (122 : Int32) = nI 122 by decide]; exact (nI_leI (by omega) (by decide)).mpr c.2⟩
theorem case_send (B : Bas a b h) (C : Cls a h F) (l : Lin h (Pq a bA) S D F.now) (hA : bA < h.1) {s x k : Nat} {M : List Nat} (hs : s < 2) (hk : k < 24) (wa : wordAt h x M) (sm : smL M) (m1 : 1 ≤ M.length) (m11 : M.length ≤ 11) (px : ∀ q, x ≤ q → Pq a bA q ∧ S.r q = 0) : ∃ d h', f_L_law_b411 G xs N K4 K247 h l2 a (a + 614) l5 S.B l7 l8 (nI k) l10 (nI s) x (bI (decide (F.now.told < 8))) = f_L_law_b1159 G xs N K4 K247 h' 1 l2 a (a + 614) l5 S.B l7 l8 (nI k) l10 (bI d) ∧ Rs a b bA h F S d h' := by
  have r := l.rel
  have t8 := r.inv.1
  have hc := B.2.2.2.1
  have hb := B.2.2.1
  have rm : g_rem (nI k) 10 = nI (k % 10) := by rw [show (10 : Int32) = nI 10 by decide]; exact rem_gen k 10 (by omega) (by decide) (by decide)
  have u10 : k % 10 < 10 := Nat.mod_lt _ (by decide)
  have c1 : 0 ≤ nI s ∧ nI s ≤ 1 := tR e1n (by omega) (by decide)
  have c2 : 0 ≤ nI (k % 10) ∧ nI (k % 10) ≤ 9 := tR (show (9 : Int32) = nI 9 by decide) (by omega) (by decide)
  unfold f_L_law_b411
  by_cases c : F.now.told < 8
  · rw [decide_eq_true c, bI_t, if_neg (by decide), rm]
    obtain ⟨h1, S1, D1, e1, e2, e3, e4, e5⟩ := Lin.adds (G := G) (a := a) (bA := a) l B.1 (hPq B hA) c hs u10 sm m1 (show M.length ≤ 16 by omega) wa px
    have own : ∀ q, q = S.B → a + 616 ≤ q := fun q hq => by rw [hq]; exact (l.2.2.2.2.2.2.1 _ l.rB).1
    have B1 : Bas a b h1 := B.fr e5 (fun q hq => by have := own q hq; omega)
    have C1 : Cls a h1 F := C.fr (by omega) e5 (fun q hq => by have := own q hq; omega)
    have wa1 : wordAt h1 x M := by
      obtain ⟨v, g, ex, ev, xv, eg⟩ := wa
      exact ⟨v, g, (e5.2.1 x (B.1 _ _ ex) (fun z => l.rB (by rw [← z]; exact (px x (Nat.le_refl x)).2))).trans ex, (e5.2.1 v (B.1 _ _ ev) (fun z => l.rB (by rw [← z]; exact (px v (by omega)).2))).trans ev, xv, eg⟩
    obtain ⟨h3, B', g1, g2, g3, g4, g5, g6⟩ := sendText_t (G := G) (s := s) (u := k % 10) B1.1 (by have := B1.2.2.2.1; omega) C1.1 C1.2.2.1 C1.2.1 wa1 (by have := (px x (Nat.le_refl x)).1.1; omega) sm m1 m11
    have B3 : Bas a b h3 := B1.fr g5 (fun q hq => by omega)
    have l3 := e2.fr B1.1 g5 (fun q hq z => by have := z.1; omega)
    have sc := send_c (G := G) g2 (show ((F.s_B B').s_n 20).now.ok from r.ok) (show ((F.s_B B').s_n 20).n ≤ 500 from by show 20 ≤ 500; decide) C.2.2.2.1 C.2.2.2.2 t8 c1 c2 m1 (show M.length ≤ 24 by omega) (show M.length ≤ 20 by omega) (ltr_B sm g4)
    have nc : ¬ 8 ≤ ((F.s_B B').s_n 20).now.told := by show ¬ 8 ≤ F.now.told; omega
    rw [if_neg nc] at sc
    have ae : F.now.addMsg (nI s) (nI (k % 10)) B' 0 M.length = F.now.addMsg (nI s) (nI (k % 10)) (fun i => nI (byt M i)) 0 M.length := addMsg_ext g4
    generalize hF : (((F.s_B B').s_n 20).keep.s_now (((F.s_B B').s_n 20).now.addMsg (nI s) (nI (k % 10)) ((F.s_B B').s_n 20).B 0 M.length)).s_n 0 = F1 at sc
    have f1 : F1.now = F.now.addMsg (nI s) (nI (k % 10)) (fun i => nI (byt M i)) 0 M.length := by rw [← hF]; exact ae
    have f2 : F1.n = 0 ∧ F1.K = F.keep.K ∧ F1.pl = F.keep.pl ∧ F1.ct = F.keep.ct := by rw [← hF]; exact ⟨rfl, rfl, rfl, rfl⟩
    obtain ⟨v1, v2, -⟩ := addMsg_f (s := nI s) (u := nI (k % 10)) (n := M.length) (p := 0) (T := fun i => nI (byt M i)) c
    rw [← f1] at l3 v1 v2
    obtain ⟨y1, y2, y3, y4⟩ := fin_fPb B3 g3 l3 f2.1 (by rw [f2.2.2.1]; exact keep_pl F) (by rw [f2.2.2.2]; exact keep_ct F)
    have fl := y3.fld
    rw [e3, v1] at fl
    have s3 : stp a a S1 S1 h1 h3 := stp_eff g5 (fun q hq => Or.inl (by omega))
    refine ⟨true, fP h3 a F1, ?_, F1, S1, D1, y1, y2, y3, e3, e4.trans (s3.trans y4), by rw [v2]; exact Nat.le_add_right _ _, fun _ => f2.2, (fun z => nomatch z)⟩
    rw [l.fld.1, cond_true, e1, Option.bind_some]
    unfold f_L_law_b432
    rw [rm, g1, sc, Option.bind_some, if_neg (by decide)]
    dsimp only
    rw [fl.2.2.1, Option.bind_some, fl.2.2.2.2.2.2.2.2.1, Option.bind_some]
    have sb : nI (F.now.told + 1) - 1 = nI F.now.told := by rw [e1n, nI_sub (by omega)]; rfl
    unfold f_L_law_b465
    rw [sb]
    have et : nI ((F.s_B B').s_n 20).now.told = nI F.now.told := rfl
    rw [et, if_pos rfl]
    unfold f_L_law_b473
    rw [if_neg (by decide)]
    rfl
  · rw [decide_eq_false c, bI_f, if_pos rfl]
    obtain ⟨h3, B', g1, g2, g3, g4, g5, g6⟩ := sendText_t (G := G) (s := s) (u := k % 10) B.1 (by omega) C.1 C.2.2.1 C.2.1 wa (by have := (px x (Nat.le_refl x)).1.1; omega) sm m1 m11
    have B3 : Bas a b h3 := B.fr g5 (fun q hq => by omega)
    have l3 := l.fr B.1 g5 (fun q hq z => by have := z.1; omega)
    have sc := send_c (G := G) g2 (show ((F.s_B B').s_n 20).now.ok from r.ok) (show ((F.s_B B').s_n 20).n ≤ 500 from by show 20 ≤ 500; decide) C.2.2.2.1 C.2.2.2.2 t8 c1 c2 m1 (show M.length ≤ 24 by omega) (show M.length ≤ 20 by omega) (ltr_B sm g4)
    have nc : 8 ≤ ((F.s_B B').s_n 20).now.told := by show 8 ≤ F.now.told; omega
    rw [if_pos nc] at sc
    have et := eff_thr (fun _ => False) h3
    have B4 : Bas a b (thr h3) := B3.fr et (fun q hq => hq.elim)
    have l4 := l3.fr B3.1 et (fun q hq => hq.elim)
    obtain ⟨h5, er, x1, x2, x3, x4⟩ := load_e (G := G) (h := thr h3) (F := (F.s_B B').s_n 20) g2 (by have := B4.2.2.2.1; omega) (by show 20 ≤ 500; decide)
    have ef := eff_ld (a := a) (by have := B4.2.2.2.1; omega) x3 x4
    have B5 := B4.fr ef (fun q hq => by omega)
    have l5' := l4.fr B4.1 ef (fun q hq z => by have := z.1; omega)
    obtain ⟨f, y1, y2⟩ := g3
    have C5 : Cls a h5 ((((F.s_B B').s_n 20).s_n 0).s_err er) := ⟨x2, ⟨f, (ef.2.1 _ (by have := B4.2.2.2.1; omega) (by omega)).trans y1, y2⟩, rfl, C.2.2.2.1, C.2.2.2.2⟩
    have s3 : stp a a S S h h3 := stp_eff g5 (fun q hq => Or.inl (by omega))
    have s4 : stp a a S S h3 (thr h3) := stp_eff et (fun q hq => hq.elim)
    have s5 : stp a a S S (thr h3) h5 := stp_eff ef (fun q hq => Or.inl (by omega))
    refine ⟨false, h5, ?_, (((F.s_B B').s_n 20).s_n 0).s_err er, S, D, B5, C5, l5', rfl, s3.trans (s4.trans s5), Nat.le_add_right _ _, (fun z => nomatch z), fun _ => ⟨rfl, rfl, rfl⟩⟩
    unfold f_L_law_b432
    rw [rm, g1, sc, Option.bind_some, if_pos rfl]
    unfold f_L_law_b465
    rw [if_pos rfl]
    unfold f_L_law_b473
    rw [if_pos rfl, if_neg (by decide), x1, Option.bind_some, if_pos rfl]
    rfl
end CA3
