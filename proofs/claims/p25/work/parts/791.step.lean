/-! the Line's step keeps the relation -/
theorem flm_eq2 {l p q g : Nat} (hl : l < 26) (hp : p < 26) (hq : q < 26) (hg : g ≤ 1) : g_rem (g_rem (nI l + nI p + nI g) 26 - nI q + 26) 26 = flm (nI l + (nI p - nI q) + nI g) := by
  rw [flm_eq hl hp hq hg]
  have e1 : g_rem (g_rem (g_rem (nI l + nI p) 26 + nI g) 26 + 26 - nI q) 26 = nI (((((l + p) % 26 + g) % 26) + 26 - q) % 26) := by
    rw [nI_add, rem_nI _ (by omega), nI_add, rem_nI _ (by omega), show (26 : Int32) = nI 26 by decide, nI_add, nI_sub (by omega), show nI 26 = (26 : Int32) by decide, rem_nI _ (by omega)]
  have e2 : g_rem (nI l + nI p + nI g) 26 - nI q + 26 = nI ((l + p + g) % 26 + 26 - q) := by
    rw [nI_add, nI_add, rem_nI _ (by omega), show (26 : Int32) = nI 26 by decide, Int32.sub_eq_add_neg]
    have : nI ((l + p + g) % 26) + -nI q + nI 26 = nI ((l + p + g) % 26) + nI 26 + -nI q := by ac_rfl
    rw [this, nI_add, ← Int32.sub_eq_add_neg, nI_sub (by omega)]
  rw [e1, e2, rem_nI _ (by omega)]
  congr 1
  omega
/-- sums of letters -/
theorem up_nI {g : Nat → Int32} : ∀ (d k a : Nat), (∀ j, k ≤ j → j < k + d → lOf (g j)) → ∃ n, n ≤ a + 25 * d ∧ up (fun k (s : Int32) => s + g k) d k (nI a) = nI n
  | 0, k, a, _ => ⟨a, by omega, rfl⟩
  | d + 1, k, a, h => by
    obtain ⟨c, c1, c2⟩ := h k (by omega) (by omega)
    obtain ⟨n, n1, n2⟩ := up_nI d (k + 1) (a + c) (fun j j1 j2 => h j (by omega) (by omega))
    refine ⟨n, by omega, ?_⟩
    rw [up, c2, nI_add]
    exact n2
theorem up_shift {g : Nat → Int32} (v : Int32) : ∀ (d k : Nat) (x : Int32), up (fun k (s : Int32) => s + g k) d k (x + v) = up (fun k (s : Int32) => s + g k) d k x + v
  | 0, _, _ => rfl
  | d + 1, k, x => by
    rw [up, up, show x + v + g k = x + g k + v by ac_rfl]
    exact up_shift v d (k + 1) (x + g k)
theorem check_eq {M : RMs} {f z : Nat} (hz : M.fsize = z) (hf : f < 26) (h8 : M.many f ≤ 8) (hl : ∀ k, k < M.many f → lOf (M.letters (f * z + k))) (ga : Bool) : g_rem (up (fun k (s : Int32) => s + M.letters (f * z + k)) (M.many f) 0 (nI f + bI ga)) 26 = g_rem (M.check f + bI ga) 26 := by
  obtain ⟨n, n1, n2⟩ := up_nI (g := fun k => M.letters (f * z + k)) (M.many f) 0 f (fun j _ j2 => hl j (by omega))
  obtain ⟨g, g1, g2⟩ := bI_nI ga
  rw [up_shift, n2, g2]
  unfold RMs.check
  rw [hz, n2, rem_nI _ (by omega), nI_add, nI_add, rem_nI _ (by omega), rem_nI _ (by omega)]
  congr 1
  omega
section STR
variable {G : gG} {h : gH} {S : RS} {D : Nat → Int32} {R : RW}
theorem b402_0 (L : lnR h S D R) {i c mf fu : Nat} {E : Nat → Int32} (hc : c < 2) (e7 : E (10 + 16 * c + 7) = 0) : f_X10_steps_b402 G (fu + 1) (lnP h S E) S.B (S.t i) (S.p c) (nI mf) (nI 0) = f_X10_steps_b481 G (lnP h S E) (S.p c) := by
  have ok := L.1
  simp only [f_X10_steps_b402, lmG_isGood ok hc, e7, Option.bind_some, if_true, ite_self]
theorem b402_1 (L : lnR h S D R) {i c mf fu b : Nat} (hi : i < R.told) {E : Nat → Int32} (hc : c < 2) (e6 : E (10 + 16 * c + 6) = nI b) (e7 : E (10 + 16 * c + 7) = 1) (hb : (R.ms i).frames ≤ b) (b26 : b < 26) : f_X10_steps_b402 G (fu + 1) (lnP h S E) S.B (S.t i) (S.p c) (nI mf) (nI 0) = f_X10_steps_b481 G (lnP h S E) (S.p c) := by
  have ok := L.1
  have z10 : ((1 : Int32) = 0) = False := eq_false (by decide)
  simp only [f_X10_steps_b402, lmG_isGood ok hc, e7, Option.bind_some, z10, if_false, lmG_number ok hc, e6, tk_frames ok hi, frameN_p L hi, if_neg (nI_nlt hb (show b < 2 ^ 31 by omega)), ite_self]
theorem check_p (L : lnR h S D R) {i c f b z l : Nat} (hi : i < R.told) (hc : c < 2) (h1 : 1 ≤ z) (h8 : z ≤ 8) (hM : (R.ms i).inv z l) {E : Nat → Int32} (rS : relMs (R.ms i) (112 + 102 * i) E) (hf : f < (R.ms i).frames) (C : RCh) (ga : Bool) (eb : C.number = nI b) (hb : b < 26) (e3 : E (10 + 16 * c + 3) = nI f) (e8 : E 8 = nI z) (e5 : E (10 + 16 * c + 5) = bI C.lost) (e6 : C.lost = false → E (10 + 16 * c + 6) = C.number ∧ ∀ k, k < (R.ms i).many f → E (10 + 16 * c + (8 + k)) = C.heard k) (hh : ∀ k, k < (R.ms i).many f → lOf (C.heard k)) :
    ∃ D', f_X10_steps_b325 G g_N (lnP h S E) S.B (S.t i) (S.p c) (nI ((R.ms i).many f)) (nI f + bI ga) (E (10 + 16 * c + 6)) 0 = f_X10_steps_b481 G (lnP h S D') (S.p c) ∧ D' (10 + 16 * c + 7) = bI (C.judge ((R.ms i).many f) (g_rem ((R.ms i).check f + bI ga) 26)).good ∧ relMs (if (C.judge ((R.ms i).many f) (g_rem ((R.ms i).check f + bI ga) 26)).good then (R.ms i).written b C.heard ((R.ms i).many f) else (R.ms i)) (112 + 102 * i) D' ∧ (∀ j, j ≠ 10 + 16 * c + 7 → (j < 112 + 102 * i ∨ 214 + 102 * i ≤ j) → D' j = E j) := by
  have ok := L.1
  have hfz := hM.fr' h1 hf
  have k8 := hM.many_le h8 f
  have h24 := hM.2.2.1
  have f24 := hM.fr24 h1
  have z10 : ((1 : Int32) = 0) = False := eq_false (by decide)
  have mz : f * z + (R.ms i).many f ≤ (R.ms i).len := by have := hM.1; unfold RMs.many; rw [this]; omega
  have ck := check_eq (M := R.ms i) (f := f) hM.1 (by omega) k8 (fun k hk => hM.2.2.2.2.2.2.2.2.2 _ (by omega)) ga
  have l0 : f_X10_steps_b325 G g_N (lnP h S E) S.B (S.t i) (S.p c) (nI ((R.ms i).many f)) (nI f + bI ga) (E (10 + 16 * c + 6)) 0 = f_X10_steps_b325 G g_N (lnP h S E) S.B (S.t i) (S.p c) (nI ((R.ms i).many f)) (nI f + bI ga) (E (10 + 16 * c + 6)) (nI 0) := by rw [nI_0]
  rw [l0, b325_l L hi hc k8 e3 e8 mz ((R.ms i).many f) 0 g_N _ _ (by omega) (by unfold g_N; omega), ck, e5]
  have w0 : f_X10_steps_b396 G (lnP h S E) S.B (S.t i) (S.p c) (nI ((R.ms i).many f)) 0 (S.p c) = f_X10_steps_b481 G (lnP h S (upd E (10 + 16 * c + 7) 0)) (S.p c) := by
    have z0 : g_z 0 = some 0 := rfl
    have q := b402_0 (G := G) L (i := i) (mf := (R.ms i).many f) (fu := 8191) (E := upd E (10 + 16 * c + 7) 0) hc (upd_at _ _ _)
    rw [nI_0] at q
    simp only [f_X10_steps_b396, z0, Option.bind_some, lmT_isGood ok hc]
    exact q
  have r0 : relMs (R.ms i) (112 + 102 * i) (upd E (10 + 16 * c + 7) 0) := rS.congr h24 (fun j j1 j2 => upd_ne (by omega))
  unfold RCh.judge
  cases hl : C.lost with
  | true =>
    simp only [bI_t, z10, false_and, if_false, w0, RCh_s, Bool.not_true, Bool.false_and, bI_f, Bool.false_eq_true]
    exact ⟨_, rfl, upd_at _ _ _, r0, fun j j1 j2 => upd_ne j1⟩
  | false =>
    obtain ⟨q1, q2⟩ := e6 hl
    have eu : up (fun k s => s + E (10 + 16 * c + (8 + k))) ((R.ms i).many f) 0 (E (10 + 16 * c + 6)) = up (fun i s => s + C.heard i) ((R.ms i).many f) 0 C.number := by
      rw [q1]
      exact up_congr _ _ _ (fun j j1 j2 y => by rw [q2 j (by omega)])
    rw [eu]
    simp only [bI_f, true_and, RCh_s, Bool.not_false, Bool.true_and]
    by_cases g : g_rem ((R.ms i).check f + bI ga) 26 = g_rem (up (fun i s => s + C.heard i) ((R.ms i).many f) 0 C.number) 26
    · rw [if_pos g, decide_eq_true g.symm]
      simp only [if_true, bI_t]
      generalize hE1 : upd E (10 + 16 * c + 7) 1 = E1
      have E1o : ∀ j, j ≠ 10 + 16 * c + 7 → E1 j = E j := fun j hj => by rw [← hE1, upd_ne hj]
      have E17 : E1 (10 + 16 * c + 7) = 1 := by rw [← hE1, upd_at]
      have rr : relMs (R.ms i) (112 + 102 * i) E1 := rS.congr h24 (fun j j1 j2 => E1o j (by omega))
      have z1 : g_z 1 = some 1 := rfl
      simp only [f_X10_steps_b396, z1, Option.bind_some, lmT_isGood ok hc, hE1]
      by_cases g2 : (R.ms i).frames ≤ b
      · have q := b402_1 (G := G) L hi (mf := (R.ms i).many f) (fu := 8191) hc (E := E1) (by rw [E1o _ (by omega), q1, eb]) E17 g2 hb
        rw [nI_0] at q
        refine ⟨E1, q, E17, ?_, fun j j1 j2 => E1o j j1⟩
        unfold RMs.written
        rw [if_pos g2]
        exact rr
      · obtain ⟨D', d1, d2, d3⟩ := write_l (G := G) L (z := z) (b := b) hi hc (by omega) h8 k8 hh ((R.ms i).many f) 0 g_N E1 (R.ms i).log (by omega) (by unfold g_N; omega) E17 (by rw [E1o _ (by omega), q1, eb]) (by rw [E1o _ (by omega)]; exact e8) (fun j hj => rr.2.2.2.2.2.2.2.1 j hj) (fun j hj => L.2.2.2.1 i hi j hj) (fun j hj => by rw [E1o _ (by omega)]; exact q2 j hj)
        rw [nI_0] at d1
        refine ⟨D', d1, by rw [d3 _ (by omega)]; exact E17, ?_, fun j j1 j2 => by rw [d3 j (by omega)]; exact E1o j j1⟩
        unfold RMs.written
        rw [if_neg g2, hM.1]
        exact rr.logs h24 d2 (fun j j1 j2 j3 => d3 j j3)
    · rw [if_neg g, decide_eq_false (fun z => g z.symm)]
      simp only [Bool.false_eq_true, if_false, w0, bI_f]
      exact ⟨_, rfl, upd_at _ _ _, r0, fun j j1 j2 => upd_ne j1⟩
end STR
