/-! the statements that randomLine writes, read back -/
theorem nle {n c : Nat} (h : n ≤ c) (hc : c < 2 ^ 31) {x : Int32} (e : x = nI c) : nI n ≤ x := by rw [e]; exact (nI_leI (by omega) hc).mpr h
theorem nge {n c : Nat} (h : c ≤ n) (hc : n < 2 ^ 31) {x : Int32} (e : x = nI c) : x ≤ nI n := by rw [e]; exact (nI_leI (by omega) hc).mpr h
def nmsL : List Nat → List Nat
  | [] => []
  | n :: t => [32] ++ (nmL n ++ nmsL t)
/-- the channel as a statement tells it -/
def RW.chW (V : RW) (b : Bool) (p o c : Int32) : RW := ((V.setCh b ((V.ch b).s_power p)).setCh b (((V.setCh b ((V.ch b).s_power p)).ch b).s_opening o)).setCh b ((((V.setCh b ((V.ch b).s_power p)).setCh b (((V.setCh b ((V.ch b).s_power p)).ch b).s_opening o)).ch b).s_closing c)
def RRd.gx (R : RRd) (p t : Nat) (b : Int32) : RRd := RRd.mk R.text R.len p t b R.code R.err
theorem ltr_ext {n p p' : Nat} {T T' f : Nat → Int32} (e : ∀ k, k < n → T (p + k) = T' (p' + k)) : ltr n p T f = ltr n p' T' f := funext fun k => by
  unfold ltr
  by_cases c : k < n
  · rw [if_pos c, if_pos c, e k c]
  · rw [if_neg c, if_neg c]
section RDS
variable {T : Nat → Int32} {R : RRd} {L P M Q : List Nat}
theorem num_2 (t : tL T R L) {n d : Nat} (hn : n < 100) (e : L = P ++ ([32] ++ (nmL n ++ ([d] ++ Q)))) (hp : R.pos = P.length) (hd : d < 48 ∨ 57 < d) {lo hi : Int32} (hlo : lo ≤ nI n) (hhi : nI n ≤ hi) : ∃ p t, R.num T lo hi = (nI n, R.go p t) ∧ p = (P ++ ([32] ++ nmL n)).length ∧ L = (P ++ ([32] ++ nmL n)) ++ ([d] ++ Q) :=
  ⟨_, _, num_1 t hn e hp hd hlo hhi, by simp only [List.length_append, List.length_cons, List.length_nil]; omega, by rw [e]; simp only [List.append_assoc]⟩
/-- a number, a further one behind it -/
theorem num_m (t : tL T R L) {n m : Nat} {r : List Nat} (hn : n < 100) (e : L = P ++ (nmsL (n :: m :: r) ++ Q)) (hp : R.pos = P.length) {lo hi : Int32} (hlo : lo ≤ nI n) (hhi : nI n ≤ hi) : ∃ p t P', R.num T lo hi = (nI n, R.go p t) ∧ p = P'.length ∧ L = P' ++ (nmsL (m :: r) ++ Q) := by
  obtain ⟨p, t, q1, q2, q3⟩ := num_2 (d := 32) (Q := nmL m ++ nmsL r ++ Q) t hn (by rw [e]; simp only [nmsL, List.append_assoc]) hp (by decide) hlo hhi
  exact ⟨p, t, _, q1, q2, by rw [q3]; simp only [nmsL, List.append_assoc]⟩
/-- the last number, and no digit behind it -/
theorem num_z (t : tL T R L) {n d : Nat} (hn : n < 100) (e : L = P ++ (nmsL [n] ++ ([d] ++ Q))) (hp : R.pos = P.length) (hd : d < 48 ∨ 57 < d) {lo hi : Int32} (hlo : lo ≤ nI n) (hhi : nI n ≤ hi) : ∃ p t P', R.num T lo hi = (nI n, R.go p t) ∧ p = P'.length ∧ L = P' ++ ([d] ++ Q) ∧ P' = P ++ nmsL [n] := by
  obtain ⟨p, t, q1, q2, q3⟩ := num_2 (d := d) (Q := Q) t hn (by rw [e]; simp only [nmsL, List.append_assoc, List.append_nil]) hp hd hlo hhi
  exact ⟨p, t, _, q1, q2, q3, by simp only [nmsL, List.append_nil]⟩
theorem tL.go (t : tL T R L) (p q : Nat) (b : Int32) : tL T (R.gx p q b) L := t
theorem semi_1 (t : tL T R L) (e : L = P ++ ([59] ++ Q)) (hp : R.pos = P.length) : ∃ t, R.semi T = (true, R.go (P ++ [59]).length t) ∧ t ≤ R.len := ⟨P.length, by rw [semi_0 t e hp, List.length_append]; rfl, by rw [t.1, e, List.length_append]; omega⟩
theorem word_2 (t : tL T R L) {i d : Nat} (e : L = P ++ (wK i ++ ([d] ++ Q))) (hp : R.pos = P.length) (hd : d < 97 ∨ 122 < d) : ∃ t, R.word T = R.go (P ++ wK i).length t ∧ ∀ j, (R.go (P ++ wK i).length t).isTok T j = tokB (wK i) j := by
  have w := word_0 t e hp (wK_sm i) (wK_len i) hd
  refine ⟨P.length, by rw [w, List.length_append], fun j => ?_⟩
  exact tok_eq (R := R) t e rfl (by show (P ++ wK i).length = _; rw [List.length_append]) j
theorem relay_t (t : tL T R L) (hp : R.pos = 0) {z l : Nat} (z1 : 1 ≤ z) (z8 : z ≤ 8) (l1 : 1 ≤ l) (l9 : l ≤ 9) (e : L = (wK 0 ++ (nmsL [z, l] ++ [59])) ++ Q) (V : RW) : ∃ S, readRelay T R V = (true, S, V.clear z (nI l)) ∧ S.pos = (wK 0 ++ (nmsL [z, l] ++ [59])).length ∧ S.told = R.told ∧ S.text = R.text ∧ S.len = R.len ∧ S.tok ≤ S.len := by
  obtain ⟨t0, w, wt⟩ := word_2 (P := []) (i := 0) (d := 32) (Q := nmL z ++ (nmsL [l] ++ ([59] ++ Q))) t (by rw [e]; simp only [nmsL, List.append_assoc, List.nil_append, List.append_nil]) hp (by decide)
  obtain ⟨p1, t1, P1, q1, r1, s1⟩ := num_m (R := R.go (([] : List Nat) ++ wK 0).length t0) (P := ([] : List Nat) ++ wK 0) (n := z) (m := l) (r := []) (Q := [59] ++ Q) t (by omega) (by rw [e]; simp only [List.append_assoc, List.nil_append]) rfl (lo := 1) (hi := 8) (nge z1 (by omega) rfl) (nle z8 (by decide) rfl)
  obtain ⟨p2, t2, P2, q2, r2, s2, -⟩ := num_z (R := (R.go (([] : List Nat) ++ wK 0).length t0).go p1 t1) (P := P1) (n := l) (d := 59) (Q := Q) t (by omega) s1 r1 (by decide) (lo := 1) (hi := 9) (nge l1 (by omega) rfl) (nle l9 (by decide) rfl)
  obtain ⟨t3, q3, b3⟩ := semi_1 (R := ((R.go (([] : List Nat) ++ wK 0).length t0).go p1 t1).go p2 t2) (P := P2) (Q := Q) t s2 r2
  have ln : (P2 ++ [59]).length = (wK 0 ++ (nmsL [z, l] ++ [59])).length := by
    have a := congrArg List.length s2
    rw [e] at a
    simp only [List.length_append] at a ⊢
    omega
  refine ⟨(((R.go (([] : List Nat) ++ wK 0).length t0).go p1 t1).go p2 t2).go (P2 ++ ([59] : List Nat)).length t3, ?_, ln, rfl, rfl, rfl, b3⟩
  have a1 : nI z ≠ -1 := nI_neN (by omega)
  have a2 : nI l ≠ -1 := nI_neN (by omega)
  have a3 : (nI z).toNatClampNeg = z := nI_clamp (by omega)
  unfold readRelay
  simp only [w, wt, tok_tab.1, if_true, q1, a1, if_false, q2, a2, q3, a3]
/-- a statement's word, numbers and semicolon -/
theorem st_end {R S : RRd} {V' : RW} {x : Bool × RRd × RW} (t : tL T R L) (e : L = P ++ ([59] ++ Q)) (hx : x = (true, S, V')) (hp : S.pos = P.length) (hl : S.len = R.len) (ht : S.text = R.text) : ∃ S', thenSemi T x = (true, S', V') ∧ S'.pos = (P ++ ([59] : List Nat)).length ∧ S'.told = S.told ∧ S'.text = R.text ∧ S'.len = R.len ∧ S'.tok ≤ S'.len := by
  have t2 : tL T S L := ⟨hl.trans t.1, t.2⟩
  obtain ⟨t3, q3, b3⟩ := semi_1 (R := S) (P := P) (Q := Q) t2 e hp
  refine ⟨S.go (P ++ ([59] : List Nat)).length t3, ?_, rfl, rfl, ht, hl, b3⟩
  unfold thenSemi
  simp only [hx, if_true, q3]
theorem channel_t (t : tL T R L) {c p o u : Nat} (hc : c < 2) (hp9 : p < 10) (ho : o < 24) (hu : u < 24) (e : L = P ++ (nmsL [c, p, o, u] ++ ([59] ++ Q))) (hp : R.pos = P.length) (hb : (R.told &&& (1 <<< (nI c &&& 31))) = 0) (V : RW) : ∃ S P', readChannel T R V = (true, S, V.chW (decide (nI c ≠ 0)) (nI p) (nI o) (nI u)) ∧ L = P' ++ ([59] ++ Q) ∧ S.pos = P'.length ∧ S.told = (R.told ||| (1 <<< (nI c &&& 31))) ∧ S.text = R.text ∧ S.len = R.len := by
  obtain ⟨p1, t1, P1, q1, r1, s1⟩ := num_m (R := R) (P := P) (n := c) (m := p) (r := [o, u]) (Q := [59] ++ Q) t (by omega) e hp (lo := 0) (hi := 1) (nge (Nat.zero_le _) (by omega) rfl) (nle (show c ≤ 1 by omega) (by decide) rfl)
  obtain ⟨p2, t2, P2, q2, r2, s2⟩ := num_m (R := R.gx p1 t1 (R.told ||| (1 <<< (nI c &&& 31)))) (P := P1) (n := p) (m := o) (r := [u]) (Q := [59] ++ Q) t (by omega) s1 r1 (lo := 0) (hi := 9) (nge (Nat.zero_le _) (by omega) rfl) (nle (show p ≤ 9 by omega) (by decide) rfl)
  obtain ⟨p3, t3, P3, q3, r3, s3⟩ := num_m (R := (R.gx p1 t1 (R.told ||| (1 <<< (nI c &&& 31)))).go p2 t2) (P := P2) (n := o) (m := u) (r := []) (Q := [59] ++ Q) t (by omega) s2 r2 (lo := 0) (hi := 23) (nge (Nat.zero_le _) (by omega) rfl) (nle (show o ≤ 23 by omega) (by decide) rfl)
  obtain ⟨p4, t4, P4, q4, r4, s4, -⟩ := num_z (R := ((R.gx p1 t1 (R.told ||| (1 <<< (nI c &&& 31)))).go p2 t2).go p3 t3) (P := P3) (n := u) (d := 59) (Q := Q) t (by omega) s3 r3 (by decide) (lo := 0) (hi := 23) (nge (Nat.zero_le _) (by omega) rfl) (nle (show u ≤ 23 by omega) (by decide) rfl)
  refine ⟨(((R.gx p1 t1 (R.told ||| (1 <<< (nI c &&& 31)))).go p2 t2).go p3 t3).go p4 t4, P4, ?_, s4, r4, rfl, rfl, rfl⟩
  have a1 : nI c ≠ -1 := nI_neN (by omega)
  have a2 : nI p ≠ -1 := nI_neN (by omega)
  have a3 : nI o ≠ -1 := nI_neN (by omega)
  have a4 : nI u ≠ -1 := nI_neN (by omega)
  unfold readChannel
  have q2' : (RRd.mk (R.go p1 t1).text (R.go p1 t1).len (R.go p1 t1).pos (R.go p1 t1).tok ((R.go p1 t1).told ||| (1 <<< (nI c &&& 31))) (R.go p1 t1).code (R.go p1 t1).err).num T 0 9 = (nI p, (R.gx p1 t1 (R.told ||| (1 <<< (nI c &&& 31)))).go p2 t2) := q2
  have hb' : ((R.go p1 t1).told &&& (1 <<< (nI c &&& 31))) = 0 := hb
  have d4 : decide (nI u ≠ -1) = true := decide_eq_true a4
  simp only [q1, a1, if_false, hb', if_true, q2', a2, q3, a3, q4, d4]
  rfl
theorem keeper_t (t : tL T R L) {s k y : Nat} (hs : s < 2) (hk : k < 100) (hy : y < 26) (e : L = P ++ (nmsL [s, k, y] ++ ([59] ++ Q))) (hp : R.pos = P.length) {V : RW} (h8 : (V.kp (nI s)).told < 8) (hn : (V.kp (nI s)).place (nI k) = none) : ∃ S P', readKeeper T R V = (true, S, V.setKp (nI s) ((V.kp (nI s)).come (nI k) (nI y))) ∧ L = P' ++ ([59] ++ Q) ∧ S.pos = P'.length ∧ S.told = R.told ∧ S.text = R.text ∧ S.len = R.len := by
  obtain ⟨p1, t1, P1, q1, r1, s1⟩ := num_m (R := R) (P := P) (n := s) (m := k) (r := [y]) (Q := [59] ++ Q) t (by omega) e hp (lo := 0) (hi := 1) (nge (Nat.zero_le _) (by omega) rfl) (nle (show s ≤ 1 by omega) (by decide) rfl)
  obtain ⟨p2, t2, P2, q2, r2, s2⟩ := num_m (R := R.go p1 t1) (P := P1) (n := k) (m := y) (r := []) (Q := [59] ++ Q) t (by omega) s1 r1 (lo := 0) (hi := 9999) (nge (Nat.zero_le _) (by omega) rfl) (nle (show k ≤ 9999 by omega) (by decide) rfl)
  obtain ⟨p4, t4, P4, q4, r4, s4, -⟩ := num_z (R := (R.go p1 t1).go p2 t2) (P := P2) (n := y) (d := 59) (Q := Q) t (by omega) s2 r2 (by decide) (lo := 0) (hi := 25) (nge (Nat.zero_le _) (by omega) rfl) (nle (show y ≤ 25 by omega) (by decide) rfl)
  refine ⟨((R.go p1 t1).go p2 t2).go p4 t4, P4, ?_, s4, r4, rfl, rfl, rfl⟩
  have a1 : nI s ≠ -1 := nI_neN (by omega)
  have a2 : nI k ≠ -1 := nI_neN (by omega)
  have a3 : nI y ≠ -1 := nI_neN (by omega)
  have b1 : ¬ 8 ≤ (V.kp (nI s)).told := by omega
  have b2 : ¬ ((V.kp (nI s)).place (nI k)).isSome = true := by rw [hn]; decide
  unfold readKeeper
  simp only [q1, a1, if_false, b1, q2, a2, b2, q4, a3]
  rfl
theorem mist_t (t : tL T R L) {x y z : Nat} (hxy : x ≤ y) (hy : y < 100) (hz : z < 10) (e : L = P ++ (nmsL [x, y, z] ++ ([59] ++ Q))) (hp : R.pos = P.length) {V : RW} (h12 : V.mi.told < 12) : ∃ S P', readMist T R V = (true, S, V.fogged (nI x) (nI y) (nI z)) ∧ L = P' ++ ([59] ++ Q) ∧ S.pos = P'.length ∧ S.told = R.told ∧ S.text = R.text ∧ S.len = R.len := by
  obtain ⟨p1, t1, P1, q1, r1, s1⟩ := num_m (R := R) (P := P) (n := x) (m := y) (r := [z]) (Q := [59] ++ Q) t (by omega) e hp (lo := 0) (hi := 9999) (nge (Nat.zero_le _) (by omega) rfl) (nle (show x ≤ 9999 by omega) (by decide) rfl)
  obtain ⟨p2, t2, P2, q2, r2, s2⟩ := num_m (R := R.go p1 t1) (P := P1) (n := y) (m := z) (r := []) (Q := [59] ++ Q) t (by omega) s1 r1 (lo := nI x) (hi := 9999) (nge hxy (by omega) rfl) (nle (show y ≤ 9999 by omega) (by decide) rfl)
  obtain ⟨p4, t4, P4, q4, r4, s4, -⟩ := num_z (R := (R.go p1 t1).go p2 t2) (P := P2) (n := z) (d := 59) (Q := Q) t (by omega) s2 r2 (by decide) (lo := 0) (hi := 9) (nge (Nat.zero_le _) (by omega) rfl) (nle (show z ≤ 9 by omega) (by decide) rfl)
  refine ⟨((R.go p1 t1).go p2 t2).go p4 t4, P4, ?_, s4, r4, rfl, rfl, rfl⟩
  have a1 : nI x ≠ -1 := nI_neN (by omega)
  have a2 : nI y ≠ -1 := nI_neN (by omega)
  have a3 : nI z ≠ -1 := nI_neN (by omega)
  have b1 : ¬ 12 ≤ V.mi.told := by omega
  unfold readMist
  simp only [b1, if_false, q1, a1, q2, a2, q4, a3]
  rfl
theorem message_t (t : tL T R L) {s u : Nat} {M : List Nat} (hs : s < 2) (hu : u < 10) (sm : smL M) (m1 : 1 ≤ M.length) (m2 : M.length ≤ 24) (e : L = P ++ (nmsL [s, u] ++ ([32] ++ (M ++ ([59] ++ Q))))) (hp : R.pos = P.length) {V : RW} (h8 : V.told < 8) : ∃ S P', readMessage T R V = (true, S, V.addMsg (nI s) (nI u) (fun i => nI (byt M i)) 0 M.length) ∧ L = P' ++ ([59] ++ Q) ∧ S.pos = P'.length ∧ S.told = R.told ∧ S.text = R.text ∧ S.len = R.len := by
  obtain ⟨p1, t1, P1, q1, r1, s1⟩ := num_m (R := R) (P := P) (n := s) (m := u) (r := []) (Q := [32] ++ (M ++ ([59] ++ Q))) t (by omega) e hp (lo := 0) (hi := 1) (nge (Nat.zero_le _) (by omega) rfl) (nle (show s ≤ 1 by omega) (by decide) rfl)
  obtain ⟨p2, t2, P2, q2, r2, s2, -⟩ := num_z (R := R.go p1 t1) (P := P1) (n := u) (d := 32) (Q := M ++ ([59] ++ Q)) t (by omega) s1 r1 (by decide) (lo := 0) (hi := 9) (nge (Nat.zero_le _) (by omega) rfl) (nle (show u ≤ 9 by omega) (by decide) rfl)
  have w := word_1 (R := (R.go p1 t1).go p2 t2) (P := P2) (M := M) (d := 59) (Q := Q) t s2 r2 sm m1 (by decide)
  refine ⟨((R.go p1 t1).go p2 t2).go (P2.length + 1 + M.length) (P2.length + 1), P2 ++ ([32] ++ M), ?_, by rw [s2]; simp only [List.append_assoc], by simp only [List.length_append, List.length_cons, List.length_nil]; show P2.length + 1 + M.length = _; omega, rfl, rfl, rfl⟩
  have a1 : nI s ≠ -1 := nI_neN (by omega)
  have a2 : nI u ≠ -1 := nI_neN (by omega)
  have b1 : ¬ 8 ≤ V.told := by omega
  have e2 : L = (P2 ++ [32]) ++ (M ++ ([59] ++ Q)) := by rw [s2]; simp only [List.append_assoc]
  have lp : (P2 ++ ([32] : List Nat)).length = P2.length + 1 := by rw [List.length_append]; rfl
  have eT : V.addMsg (nI s) (nI u) T (P2.length + 1) M.length = V.addMsg (nI s) (nI u) (fun i => nI (byt M i)) 0 M.length := by
    unfold RW.addMsg RMs.letters'
    rw [ltr_ext (T := T) (T' := fun i => nI (byt M i)) (p := P2.length + 1) (p' := 0) (n := M.length) (fun k hk => by
      have := t.at' e2 (k := k) hk
      rw [lp] at this
      rw [this, Nat.zero_add])]
  have c0 : (((R.go p1 t1).go p2 t2).go (P2.length + 1 + M.length) (P2.length + 1)).pos = P2.length + 1 + M.length := rfl
  have c4 : (((R.go p1 t1).go p2 t2).go (P2.length + 1 + M.length) (P2.length + 1)).tok = P2.length + 1 := rfl
  have c1 : ¬ P2.length + 1 + M.length = P2.length + 1 := by omega
  have c3 : P2.length + 1 + M.length - (P2.length + 1) = M.length := by omega
  have c2 : ¬ 24 < M.length := by omega
  unfold readMessage
  simp only [b1, if_false, q1, a1, q2, a2, w, c0, c4, c1, c3, c2, eT]
end RDS
