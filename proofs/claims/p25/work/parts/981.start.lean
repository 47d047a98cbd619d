/-! the start: String constants, classes that are no kind of another -/
theorem st_nw : ∀ q ∈ g_nc, Cond.not (.castable q.1 q.2) ∈ flatC (Jvm.Cond.and given_1 narrow_1) := by decide +kernel
theorem st_nc {s : State} {args : Array Value} (hg : (Jvm.Cond.and given_1 narrow_1).before args s = true) : ∀ q ∈ g_nc, va_Nc q.1 q.2 s :=
  fun q hq => va_Nc.of (flat_of_before _ hg _ (st_nw q hq))
/-- what the start tells of a String constant -/
def st_w (tm : Term) (len : Nat) (byt : List Int32) : List Cond := [.exactly tm "java/lang/String", .eq (.field tm "java/lang/String" "coder" "B") (.int 0), .arrayOf (.field tm "java/lang/String" "value" "[B") .byte, .eq (.length (.field tm "java/lang/String" "value" "[B")) (.int (Int32.ofNat len))] ++ (List.range len).map fun j => .eq (.elem (.field tm "java/lang/String" "value" "[B") (.int (Int32.ofNat j))) (.int (byt.getD j 0))
theorem st_one {args : Array Value} {s : State} {A : Nat → Prop} {tm : Term} {len : Nat} {byt : List Int32} (hN : len < 2 ^ 31) (hw : ∀ w ∈ st_w tm len byt, w.before args s = true) (hA : ∀ a : Nat, a < s.heap.size → ¬ A a) : ∃ q t : Nat, tm.eval args s none [] s = some (.ref q) ∧ va_O "java/lang/String" q A s s.heap ∧ va_OF "java/lang/String" "coder" "B" (.int 0) q A s s.heap ∧ va_OF "java/lang/String" "value" "[B" (.ref t) q A s s.heap ∧ va_T .byte t len (fun j => .int (byt.getD j 0)) A s s.heap := by
  have hel : ∀ j : Nat, j < len → (Cond.eq (.elem (.field tm "java/lang/String" "value" "[B") (.int (Int32.ofNat j))) (.int (byt.getD j 0))).before args s = true := fun j hj => hw _ (List.mem_append_right _ (List.mem_map.mpr ⟨j, List.mem_range.mpr hj, rfl⟩))
  obtain ⟨aK, aV, h, he⟩ := vk_Sof (N := 1) (tm := fun _ => tm) (len := [len]) (byt := [byt]) (A := A) (s := s) (args := args)
    (fun i hi => by obtain rfl : i = 0 := by omega
                    exact hN)
    (fun i hi => hw _ (List.mem_append_left _ (.head _)))
    (fun i hi => hw _ (List.mem_append_left _ (.tail _ (.head _))))
    (fun i hi => hw _ (List.mem_append_left _ (.tail _ (.tail _ (.head _)))))
    (fun i hi => by obtain rfl : i = 0 := by omega
                    exact hw _ (List.mem_append_left _ (.tail _ (.tail _ (.tail _ (.head _))))))
    (fun i hi j hj => by obtain rfl : i = 0 := by omega
                         exact hel j hj)
    (fun i j hi hj hij => absurd (show i = j by omega) hij) hA
  have h1 := h.1 0 (by omega)
  exact ⟨aK 0, aV 0, he 0 (by omega), h1.1, h1.2.1, h1.2.2.1, h1.2.2.2⟩
theorem st_OFu {o n d : String} {v w : Value} {a : Nat} {A : Nat → Prop} {s : State} {H : Heap} (h : va_OF o n d v a A s H) (h' : va_OF o n d w a A s H) : v = w := by
  obtain ⟨cf, k, i, f, cell, h1, -, h2, -, h3, -⟩ := h
  obtain ⟨cf', k', i', f', cell', g1, -, g2, -, g3, -⟩ := h'
  cases h1.symm.trans g1
  cases h2.symm.trans g2
  cases h3.symm.trans g3
  rfl
theorem st_Tu {t n m : Nat} {f g : Nat → Value} {A : Nat → Prop} {s : State} {H : Heap} (hn : n < 2 ^ 31) (hm : m < 2 ^ 31) (h : va_T .byte t n f A s H) (h' : va_T .byte t m g A s H) : n = m ∧ ∀ j : Nat, j < n → f j = g j := by
  obtain ⟨c1, e1, -, -, -, z1, v1, -⟩ := h
  obtain ⟨c2, e2, -, -, -, z2, v2, -⟩ := h'
  cases e1.symm.trans e2
  have hnm : n = m := by
    have z := congrArg Int32.toInt (z1.symm.trans z2)
    rw [Int32.toInt_ofNat_of_lt hn, Int32.toInt_ofNat_of_lt hm] at z
    omega
  refine ⟨hnm, fun j hj => ?_⟩
  exact Option.some.inj ((v1 j hj).symm.trans (v2 j (by omega)))
/-- one place of each text, by its number -/
def st_pl : List (String × Nat) := [("LampRelay$SetupReader", 48), ("LampRelay$SetupReader", 71), ("LampRelay$SetupReader", 76), ("LampRelay$SetupReader", 81), ("LampRelay$SetupReader", 86), ("LampRelay", 43), ("LampRelay", 77), ("LampRelay", 85), ("LampRelay", 104), ("LampRelay", 118), ("LampRelay", 130), ("LampRelay", 141), ("LampRelay", 182), ("LampRelay", 190), ("LampRelay", 194), ("LampRelay", 201), ("LampRelay", 206), ("LampRelay", 212), ("LampRelay", 218), ("LampRelay", 224), ("LampRelay", 228), ("LampRelayLaw", 113), ("LampRelayLaw", 154), ("LampRelayLaw$Talk", 7)]
def st_tm (n : Nat) : Term := Term.string (st_pl.getD n ("", 0)).1 (st_pl.getD n ("", 0)).2
/-- where the words of a text begin among those of the start -/
def st_ps : List Nat := [417, 426, 437, 447, 455, 407, 478, 466, 486, 498, 503, 511, 522, 531, 561, 573, 597, 606, 613, 632, 641, 684, 689, 403]
theorem st_k0 : ∀ n : Nat, n < 8 → ((flatC (Jvm.Cond.and given_1 narrow_1)).drop (st_ps.getD n 0)).take (4 + g_len.getD n 0) = st_w (st_tm n) (g_len.getD n 0) (g_byt.getD n []) := by decide +kernel
theorem st_k1 : ∀ n : Nat, n < 8 → ((flatC (Jvm.Cond.and given_1 narrow_1)).drop (st_ps.getD (n + 8) 0)).take (4 + g_len.getD (n + 8) 0) = st_w (st_tm (n + 8)) (g_len.getD (n + 8) 0) (g_byt.getD (n + 8) []) := by decide +kernel
theorem st_k2 : ∀ n : Nat, n < 8 → ((flatC (Jvm.Cond.and given_1 narrow_1)).drop (st_ps.getD (n + 16) 0)).take (4 + g_len.getD (n + 16) 0) = st_w (st_tm (n + 16)) (g_len.getD (n + 16) 0) (g_byt.getD (n + 16) []) := by decide +kernel
theorem st_k (n : Nat) (h : n < 24) : ((flatC (Jvm.Cond.and given_1 narrow_1)).drop (st_ps.getD n 0)).take (4 + g_len.getD n 0) = st_w (st_tm n) (g_len.getD n 0) (g_byt.getD n []) := by
  by_cases c : n < 8
  · exact st_k0 n c
  · by_cases c2 : n < 16
    · obtain ⟨k, rfl⟩ : ∃ k, n = k + 8 := ⟨n - 8, by omega⟩
      exact st_k1 k (by omega)
    · obtain ⟨k, rfl⟩ : ∃ k, n = k + 16 := ⟨n - 16, by omega⟩
      exact st_k2 k (by omega)
theorem st_t (n : Nat) (h : n < 24) : ∀ w ∈ st_w (st_tm n) (g_len.getD n 0) (g_byt.getD n []), w ∈ flatC (Jvm.Cond.and given_1 narrow_1) := fun w hw => by
  rw [← st_k n h] at hw
  exact List.mem_of_mem_drop (List.mem_of_mem_take hw)
theorem st_l : ∀ n : Nat, n < 24 → g_len.getD n 0 < 2 ^ 31 := by decide +kernel
theorem st_ne : ∀ i : Nat, i < 24 → (i < 5 ∨ 21 ≤ i) → ∀ j : Nat, j < i → g_len.getD j 0 ≠ g_len.getD i 0 ∨ (0 < g_len.getD j 0 ∧ (g_byt.getD j []).getD 0 0 ≠ (g_byt.getD i []).getD 0 0) := by decide +kernel
theorem st_sr : ∀ r ∈ g_strs, Cond.stringRef r.1 r.2.1 r.2.2.1 ∈ lw_tbl := by decide +kernel
theorem st_al : ∀ r ∈ g_strs, r.2.2.2 < 24 ∧ (st_tm r.2.2.2 = Term.string r.1 r.2.1 ∨ Cond.eq (st_tm r.2.2.2) (Term.string r.1 r.2.1) ∈ flatC (Jvm.Cond.and given_1 narrow_1)) := by decide +kernel
theorem st_S {s : State} {args : Array Value} {A : Nat → Prop} (hg : (Jvm.Cond.and given_1 narrow_1).before args s = true) (hts : ∀ w ∈ lw_tbl, w.before args s = true) (hA : ∀ a : Nat, a < s.heap.size → ¬ A a) : ∃ aK aV : Nat → Nat, (∀ r ∈ g_strs, vk_R r.1 r.2.1 r.2.2.1 (aK r.2.2.2) s) ∧ ∀ i : Nat, i < 24 → va_O "java/lang/String" (aK i) A s s.heap ∧ va_OF "java/lang/String" "coder" "B" (.int 0) (aK i) A s s.heap ∧ va_OF "java/lang/String" "value" "[B" (.ref (aV i)) (aK i) A s s.heap ∧ va_T .byte (aV i) (g_len.getD i 0) (fun j => .int ((g_byt.getD i []).getD j 0)) A s s.heap := by
  have hs := flat_of_before _ hg
  have h0 : ∀ n : Nat, ∃ y : Nat × Nat, n < 24 → (st_tm n).eval args s none [] s = some (.ref y.1) ∧ va_O "java/lang/String" y.1 A s s.heap ∧ va_OF "java/lang/String" "coder" "B" (.int 0) y.1 A s s.heap ∧ va_OF "java/lang/String" "value" "[B" (.ref y.2) y.1 A s s.heap ∧ va_T .byte y.2 (g_len.getD n 0) (fun j => .int ((g_byt.getD n []).getD j 0)) A s s.heap := by
    intro n
    by_cases hn : n < 24
    · obtain ⟨a, t, q1, q2⟩ := st_one (tm := st_tm n) (st_l n hn) (fun w hw => hs w (st_t n hn w hw)) hA
      exact ⟨(a, t), fun _ => ⟨q1, q2⟩⟩
    · exact ⟨(0, 0), fun h => absurd h hn⟩
  obtain ⟨ad, had⟩ := Classical.axiomOfChoice h0
  refine ⟨fun n => (ad n).1, fun n => (ad n).2, fun r hr => ?_, fun i hi => (had i hi).2⟩
  obtain ⟨h1, h2⟩ := st_al r hr
  refine vk_R.of (hts _ (st_sr r hr)) ?_
  rcases h2 with h2 | h2
  · rw [← h2]
    exact (had _ h1).1
  · exact va_eqR (hs _ h2) (had _ h1).1
/-- the first of a row that is so -/
theorem st_fnd {f : Nat → Nat} {i : Nat} (hi : i < 24) (h : ∀ j, j < i → f j ≠ f i) : g_fnd f (f i) = some i := by
  unfold g_fnd
  rw [List.find?_range_eq_some]
  refine ⟨Nat.beq_refl _, List.mem_range.mpr hi, fun j hj => ?_⟩
  have n : Nat.beq (f j) (f i) = false := Bool.eq_false_iff.mpr (fun z => h j hj (Nat.eq_of_beq_eq_true z))
  rw [n]
  rfl
theorem st_cs {s : State} {A : Nat → Prop} {G : gG} (h : ∀ i : Nat, i < 24 → va_O "java/lang/String" (g_aK G i) A s s.heap ∧ va_OF "java/lang/String" "coder" "B" (.int 0) (g_aK G i) A s s.heap ∧ va_OF "java/lang/String" "value" "[B" (.ref (g_aV G i)) (g_aK G i) A s s.heap ∧ va_T .byte (g_aV G i) (g_len.getD i 0) (fun j => .int ((g_byt.getD i []).getD j 0)) A s s.heap) : csG G s.heap.size := by
  intro i hi hi2
  have dV : ∀ j, j < i → g_aV G j ≠ g_aV G i := fun j hj e => by
    obtain ⟨-, -, -, t1⟩ := h j (by omega)
    obtain ⟨-, -, -, t2⟩ := h i hi
    rw [← e] at t2
    obtain ⟨z1, z2⟩ := st_Tu (st_l j (by omega)) (st_l i hi) t1 t2
    rcases st_ne i hi hi2 j hj with w | ⟨w0, w⟩
    · exact w z1
    · exact w (Value.int.inj (z2 0 w0))
  have dK : ∀ j, j < i → g_aK G j ≠ g_aK G i := fun j hj e => by
    obtain ⟨-, -, v1, -⟩ := h j (by omega)
    obtain ⟨-, -, v2, -⟩ := h i hi
    rw [← e] at v2
    exact dV j hj (Value.ref.inj (st_OFu v1 v2))
  obtain ⟨o, -, -, t⟩ := h i hi
  obtain ⟨cell, r1, -⟩ := o
  obtain ⟨c1, e1, -⟩ := t
  exact ⟨st_fnd hi dK, st_fnd hi dV, (Array.getElem?_eq_some_iff.mp r1).1, (Array.getElem?_eq_some_iff.mp e1).1⟩
