/-! the start: what the tables' words say of it -/
theorem st_inst : ∀ q ∈ vwCl, Cond.instantiable q.1 q.2.2 ∈ lw_tbl := by decide +kernel
theorem st_cl {s : State} {args : Array Value} (c0 : ClassId) (hts : ∀ w ∈ lw_tbl, w.before args s = true) : ∃ D : va_G, ∀ (k : Nat) (q : vw_C), vwCl[k]? = some q → u_Kn s q.1 q.2.1 q.2.2 (D.1 k) (D.2 k) := by
  have h1 : ∀ k : Nat, ∃ y : ClassId × (Nat → Nat), ∀ q : vw_C, vwCl[k]? = some q → u_Kn s q.1 q.2.1 q.2.2 y.1 y.2 := by
    intro k
    cases e : vwCl[k]? with
    | none => exact ⟨(c0, fun _ => 0), fun q hq => nomatch hq⟩
    | some q =>
      obtain ⟨C, T, N⟩ := q
      obtain ⟨cC, iS, hK⟩ := u_known (n := N) (fun w h => hts w ((g_cls e).1 w h).1) (fun w h => h) (hts _ (st_inst _ (List.mem_of_getElem? e)))
      refine ⟨(cC, iS), fun q hq => ?_⟩
      cases hq
      exact hK
  exact ⟨(fun k => (Classical.choose (h1 k)).1, fun k => (Classical.choose (h1 k)).2), fun k q hq => Classical.choose_spec (h1 k) q hq⟩
theorem st_ar {s : State} {args : Array Value} {ty : FieldType} (h : (Cond.arrayClass ty).before args s = true) : ∃ cA : ClassId, ArrOfT s cA ty ∧ s.vm.findClass ("[" ++ ty.toString) = some cA := by
  obtain ⟨cA, kA, comp, f1, f2, f3⟩ := Cond.arrayClass_spec h
  exact ⟨cA, fun N z => ⟨(fun k h => by cases h), kA, f2, comp, f3⟩, f1⟩
theorem st_prim : Cond.arrayClass .int ∈ lw_tbl ∧ Cond.arrayClass .byte ∈ lw_tbl := by decide +kernel
theorem st_ao {s : State} {args : Array Value} {C : String} (h : (Cond.arrayOver (.object C)).before args s = true) : ∃ cA : ClassId, ArrOfT s cA (.object C) ∧ va_RA s cA (.object C) := by
  obtain ⟨comp, cA, kA, f1, -, f2, f3, f4⟩ := Cond.arrayOver_spec h
  exact ⟨cA, fun N z => ⟨(fun k h => by cases h), kA, f2, comp, f3⟩, kA, comp, f2, f3, f1, f4⟩
theorem st_words : Cond.arrayOver (.object "LampRelay$Message") ∈ lw_tbl ∧ Cond.arrayOver (.object "LampRelay$World") ∈ lw_tbl ∧ Cond.arrayOver (.array .int) ∈ lw_tbl ∧ Cond.arrayOver (.object "LampRelayLaw$Frame") ∈ lw_tbl ∧ Cond.arrayOver (.object "LampRelayLaw$Lamp") ∈ lw_tbl ∧ Cond.arrayOver (.object "LampRelayLaw$Talk") ∈ lw_tbl ∧ Cond.arrayOver (.object "LampRelayLaw$Line") ∈ lw_tbl := by decide +kernel
theorem st_aoa {s : State} {args : Array Value} {t : FieldType} (h : (Cond.arrayOver (.array t)).before args s = true) : ∃ cA : ClassId, ArrOfT s cA (.array t) ∧ s.vm.findClass ("[" ++ (FieldType.array t).toString) = some cA := by
  have h0 : (Cond.arrayOver (.array t)).holds args s none s [] = true := h
  simp only [Cond.holds, Cond.value, beq_iff_eq] at h0
  cases hc : s.vm.findClass (FieldType.array t).toString with
  | none => rw [hc] at h0; simp at h0
  | some comp =>
    simp only [hc, Option.bind_some, Option.bind_eq_some_iff, Option.map_eq_some_iff] at h0
    obtain ⟨c, hi0, k, hk, hb⟩ := h0
    cases hkind : k.kind with
    | array component ty =>
      rw [hkind] at hb
      simp at hb
      exact ⟨c, fun N z => ⟨(fun k h => by cases h), k, hk, component, by rw [hkind, hb.1]⟩, hb.2⟩
    | _ => rw [hkind] at hb; simp at hb
theorem st_tl {s : State} {args : Array Value} (hts : ∀ w ∈ lw_tbl, w.before args s = true) : ∃ c : Nat → ClassId, ∀ (k : Nat) (q : ClassId × FieldType), (g_tl c)[k]? = some q → ArrOfT s q.1 q.2 ∧ va_RA s q.1 q.2 := by
  obtain ⟨c0, a0, r0⟩ := st_ar (hts _ st_prim.1)
  obtain ⟨c1, a1, r1⟩ := st_ar (hts _ st_prim.2)
  obtain ⟨c3, a3, r3⟩ := st_aoa (hts _ st_words.2.2.1)
  obtain ⟨c4, a4, r4⟩ := st_ao (hts _ st_words.1)
  obtain ⟨c5, a5, r5⟩ := st_ao (hts _ st_words.2.1)
  obtain ⟨c6, a6, r6⟩ := st_ao (hts _ st_words.2.2.2.1)
  obtain ⟨c7, a7, r7⟩ := st_ao (hts _ st_words.2.2.2.2.1)
  obtain ⟨c8, a8, r8⟩ := st_ao (hts _ st_words.2.2.2.2.2.1)
  obtain ⟨c9, a9, r9⟩ := st_ao (hts _ st_words.2.2.2.2.2.2)
  refine ⟨fun k => if k = 0 then c0 else if k = 1 then c1 else if k = 2 then c0 else if k = 3 then c3 else if k = 4 then c4 else if k = 5 then c5 else if k = 6 then c6 else if k = 7 then c7 else if k = 8 then c8 else c9, fun k q hq => ?_⟩
  match k, hq with
  | 0, hq => cases hq; exact ⟨a0, r0⟩
  | 1, hq => cases hq; exact ⟨a1, r1⟩
  | 2, hq => cases hq; exact ⟨a0, r0⟩
  | 3, hq => cases hq; exact ⟨a3, r3⟩
  | 4, hq => cases hq; exact ⟨a4, r4⟩
  | 5, hq => cases hq; exact ⟨a5, r5⟩
  | 6, hq => cases hq; exact ⟨a6, r6⟩
  | 7, hq => cases hq; exact ⟨a7, r7⟩
  | 8, hq => cases hq; exact ⟨a8, r8⟩
  | 9, hq => cases hq; exact ⟨a9, r9⟩
  | k + 10, hq => simp [g_tl] at hq
theorem st_K {s : State} {args : Array Value} (c0 : ClassId) (hts : ∀ w ∈ lw_tbl, w.before args s = true) : ∃ (D : va_G) (c : Nat → ClassId), va_K D vwCl (g_tl c) s := by
  obtain ⟨D, h1⟩ := st_cl c0 hts
  obtain ⟨c, h2⟩ := st_tl hts
  exact ⟨D, c, h1, h2⟩
theorem st_fw {s : State} {args : Array Value} (hts : ∀ w ∈ lw_tbl, w.before args s = true) : ∀ w ∈ g_fw, w.before #[] s = true := by
  intro w hw
  obtain ⟨hm, hf⟩ := List.mem_filter.mp hw
  have h := hts w hm
  unfold g_face at hf
  cases w <;> first | exact h | (simp [Cond.faceAtom] at hf)
theorem st_zw1 : Cond.laysStatic Bundle.tN "UNASSIGNED_STACK" Bundle.steD ∈ lw_tbl ∧ Cond.initialized Bundle.tN ∈ lw_tbl ∧ Cond.laysStatic Bundle.tN "SUPPRESSED_SENTINEL" Bundle.listD ∈ lw_tbl := by decide +kernel
theorem st_zw2 : Cond.laysStatic "java/lang/String" "COMPACT_STRINGS" "Z" ∈ lw_tbl ∧ Cond.initialized "java/lang/String" ∈ lw_tbl := by decide +kernel
theorem st_zw3 : Cond.laysStatic "jdk/internal/util/Preconditions" "SIOOBE_FORMATTER" "Ljava/util/function/BiFunction;" ∈ lw_tbl ∧ Cond.initialized "jdk/internal/util/Preconditions" ∈ lw_tbl := by decide +kernel
theorem st_Z {s : State} {args : Array Value} {A : Nat → Prop} (hA : ∀ a : Nat, a < s.heap.size → ¬ A a) (hts : ∀ w ∈ lw_tbl, w.before args s = true) (u1 : (Cond.isRef (.static Bundle.tN "UNASSIGNED_STACK" Bundle.steD)).before args s = true) (u2 : (Cond.isRef (.static Bundle.tN "SUPPRESSED_SENTINEL" Bundle.listD)).before args s = true) (u3 : (Cond.isRef (.static "jdk/internal/util/Preconditions" "SIOOBE_FORMATTER" "Ljava/util/function/BiFunction;")).before args s = true) (u4 : (Term.static "java/lang/String" "COMPACT_STRINGS" "Z").eval args s none [] s = some (.int 1)) : vx_Zq Bundle.tN "UNASSIGNED_STACK" Bundle.steD A s s.heap ∧ vx_Zq Bundle.tN "SUPPRESSED_SENTINEL" Bundle.listD A s s.heap ∧ va_Z "java/lang/String" "COMPACT_STRINGS" "Z" (.int 1) A s s.heap ∧ va_Zq "jdk/internal/util/Preconditions" "SIOOBE_FORMATTER" "Ljava/util/function/BiFunction;" A s s.heap :=
  ⟨vx_Zqof (hts _ st_zw1.1) (hts _ st_zw1.2.1) u1 hA, vx_Zqof (hts _ st_zw1.2.2) (hts _ st_zw1.2.1) u2 hA, va_Zof (hts _ st_zw2.1) (hts _ st_zw2.2) u4 hA, va_Zqof (hts _ st_zw3.1) (hts _ st_zw3.2) u3 hA⟩
