/-! THE OWN LAYER: an abstract heap (a function from addresses to cells), a method as a tuple, and a judgement GX: 'from this pc the machine comes to the end that F tells' -/
/-- a cell: an array (the number of its class, its contents) or an object (the number of its class, its fields) -/
abbrev gC : Type := (Nat × vp_A) ⊕ (Nat × List Value)
/-- an abstract heap: the number of cells, and what is known of them -/
abbrev gH : Type := Nat × (Nat → Option gC)
/-- what a run fixes: classes and slots, the array classes, the first address of the law's own cells, where the String constants and their bytes lie -/
abbrev gG : Type := va_G × (Nat → ClassId) × Nat × (Nat → Nat) × (Nat → Nat)
def g_D (G : gG) : va_G := G.1
def g_c (G : gG) : Nat → ClassId := G.2.1
def g_b (G : gG) : Nat := G.2.2.1
def g_aK (G : gG) : Nat → Nat := G.2.2.2.1
def g_aV (G : gG) : Nat → Nat := G.2.2.2.2
def g_tl (c : Nat → ClassId) : List (ClassId × FieldType) := [(c 0, .int), (c 1, .byte), (c 2, .int), (c 3, .array .int), (c 4, .object "LampRelay$Message"), (c 5, .object "LampRelay$World"), (c 6, .object "LampRelayLaw$Frame"), (c 7, .object "LampRelayLaw$Lamp"), (c 8, .object "LampRelayLaw$Talk"), (c 9, .object "LampRelayLaw$Line")]
def g_A (G : gG) : Nat → Prop := fun q => g_b G ≤ q
def g_at (G : gG) (q : Nat) (x : gC) (H : Heap) : Prop := match x with
  | .inl y => H[q]? = some (vp_cell (g_c G y.1) y.2)
  | .inr o => va_at (g_D G) vwCl (q, .inr o) H
/-- the heap H is as h says -/
def g_M (G : gG) (h : gH) (H : Heap) : Prop := H.size = h.1 ∧ g_b G ≤ h.1 ∧ ∀ (q : Nat) (x : gC), h.2 q = some x → g_b G ≤ q ∧ g_at G q x H
theorem g_at.kept {G : gG} {q : Nat} {x : gC} {H H1 : Heap} (h : g_at G q x H) (hq : H1[q]? = H[q]?) : g_at G q x H1 := by
  cases x with
  | inl y => exact hq.trans h
  | inr o => exact va_at.kept (q := (q, .inr o)) h hq
theorem g_at.lt {G : gG} {q : Nat} {x : gC} {H : Heap} (h : g_at G q x H) : q < H.size := by
  cases x with
  | inl y => exact (Array.getElem?_eq_some_iff.mp h).1
  | inr o => exact va_at.lt (q := (q, .inr o)) h
/-- one cell is written -/
def g_set (h : gH) (a : Nat) (x : gC) : gH := (h.1, fun q => if q = a then some x else h.2 q)
/-- a cell is made -/
def g_add (h : gH) (x : gC) : gH := (h.1 + 1, fun q => if q = h.1 then some x else h.2 q)
theorem g_M.set {G : gG} {h : gH} {a : Nat} {x0 x : gC} {H H1 : Heap} (hM : g_M G h H) (ha : h.2 a = some x0) (e : g_at G a x H1) (z : H1.size = H.size) (o : ∀ q : Nat, q ≠ a → H1[q]? = H[q]?) : g_M G (g_set h a x) H1 := by
  refine ⟨z.trans hM.1, hM.2.1, fun q y hq => ?_⟩
  by_cases hqa : q = a
  · subst hqa
    simp only [g_set, if_true] at hq
    cases hq
    exact ⟨(hM.2.2 q x0 ha).1, e⟩
  · simp only [g_set, if_neg hqa] at hq
    exact ⟨(hM.2.2 q y hq).1, (hM.2.2 q y hq).2.kept (o q hqa)⟩
theorem g_M.add {G : gG} {h : gH} {x : gC} {H H1 : Heap} (hM : g_M G h H) (e : g_at G h.1 x H1) (z : H1.size = h.1 + 1) (o : ∀ q : Nat, q < h.1 → H1[q]? = H[q]?) : g_M G (g_add h x) H1 := by
  refine ⟨z, Nat.le_succ_of_le hM.2.1, fun q y hq => ?_⟩
  by_cases hqa : q = h.1
  · subst hqa
    simp only [g_add, if_true] at hq
    cases hq
    exact ⟨hM.2.1, e⟩
  · simp only [g_add, if_neg hqa] at hq
    have h2 := hM.2.2 q y hq
    have hl := h2.2.lt
    rw [hM.1] at hl
    exact ⟨h2.1, h2.2.kept (o q hl)⟩
theorem g_S.put {G : gG} {H0 H H1 : Heap} {locs : List Loc} {a k : Nat} (h : va_S (g_A G) H0 H locs) (z : H1.size = H.size) (o : ∀ q : Nat, q ≠ a → H1[q]? = H[q]?) (ha : g_b G ≤ a) : va_S (g_A G) H0 H1 (locs ++ [⟨a, k⟩]) := va_S.put h z o ha
theorem g_S.add {G : gG} {H0 H H1 : Heap} {locs : List Loc} {n : Nat} (h : va_S (g_A G) H0 H locs) (hn : H.size = n) (z : H1.size = n + 1) (o : ∀ q : Nat, q < n → H1[q]? = H[q]?) : va_S (g_A G) H0 H1 locs :=
  ⟨Nat.le_trans h.1 (by omega), fun q h1 h2 => (o q (by have := h.1; omega)).trans (h.2.1 q h1 h2), h.2.2⟩
/-- a row of a method's code: pc, instruction, next pc, two numbers (a target; a class and a field) -/
abbrev gE : Type := Nat × Instr × Nat × Nat × Nat
/-- a method: name, bytes, locals, return type, room, rows, handlers -/
abbrev gMt : Type := MethodName × ByteArray × Nat × Option FieldType × Room × List gE × List (Nat × Nat × Nat × Nat)
def m_y (M : gMt) : MethodName := M.1
def m_cc (M : gMt) : ByteArray := M.2.1
def m_nL (M : gMt) : Nat := M.2.2.1
def m_ret (M : gMt) : Option FieldType := M.2.2.2.1
def m_R (M : gMt) : Room := M.2.2.2.2.1
def m_code (M : gMt) : List gE := M.2.2.2.2.2.1
def m_h (M : gMt) : List (Nat × Nat × Nat × Nat) := M.2.2.2.2.2.2
def g_lk : List gE → Nat → Option (Instr × Nat × Nat × Nat)
  | [], _ => none
  | e :: t, pc => bif Nat.beq e.1 pc then some e.2 else g_lk t pc
def g_fldOk (own : String) (idx ci j : Nat) : Bool := match vwCl[ci]? with
  | none => false
  | some (_, T, N) => decide (j < N) && decide (Cond.fieldLink own idx (T j).1 (T j).2.1 (T j).2.2.1 ∈ lw_tbl)
def g_newOk (own : String) (idx ci : Nat) : Bool := match vwCl[ci]? with
  | none => false
  | some (C, _, N) => decide (Cond.classLink own idx C ∈ lw_tbl) && decide (Cond.instantiable C N ∈ lw_tbl) && decide (Cond.initialized C ∈ lw_tbl)
def g_ent (M : gMt) (e : gE) : Bool := decide (decode (m_cc M) e.1 = .ok (e.2.1, e.2.2.1 - e.1)) && decide (e.1 < e.2.2.1) && (match e.2.1 with
  | .goto off => decide ((e.1 : Int) + off = (e.2.2.2.1 : Int))
  | .ifCond _ off => decide ((e.1 : Int) + off = (e.2.2.2.1 : Int))
  | .if_icmp _ off => decide ((e.1 : Int) + off = (e.2.2.2.1 : Int))
  | .ifnull off => decide ((e.1 : Int) + off = (e.2.2.2.1 : Int))
  | .ifnonnull off => decide ((e.1 : Int) + off = (e.2.2.2.1 : Int))
  | .getfield idx => g_fldOk (m_y M).cls idx e.2.2.2.1 e.2.2.2.2
  | .putfield idx => g_fldOk (m_y M).cls idx e.2.2.2.1 e.2.2.2.2
  | .new idx => g_newOk (m_y M).cls idx e.2.2.2.1
  | _ => true)
def g_ok (M : gMt) : Prop := (m_code M).all (g_ent M) = true
theorem g_lk_ent {M : gMt} : ∀ (t : List gE), t.all (g_ent M) = true → ∀ {pc : Nat} {x : Instr × Nat × Nat × Nat}, g_lk t pc = some x → g_ent M (pc, x) = true
  | [], _, _, _, h => by cases h
  | e :: t, ha, pc, x, h => by
    rw [List.all_cons, Bool.and_eq_true] at ha
    unfold g_lk at h
    cases hb : Nat.beq e.1 pc with
    | true =>
      rw [hb] at h
      simp only [cond_true] at h
      cases h
      have : e.1 = pc := Nat.eq_of_beq_eq_true hb
      subst this
      exact ha.1
    | false =>
      rw [hb] at h
      simp only [cond_false] at h
      exact g_lk_ent t ha.2 h
theorem g_dec {M : gMt} (hok : g_ok M) {pc nx x1 x2 : Nat} {I : Instr} (hd : g_lk (m_code M) pc = some (I, nx, x1, x2)) {d : Nat} (hn : nx = pc + d) : decode (m_cc M) pc = .ok (I, d) := by
  have h := g_lk_ent _ hok hd
  unfold g_ent at h
  simp only [Bool.and_eq_true, decide_eq_true_eq] at h
  have h1 := h.1.1
  rw [hn, show pc + d - pc = d by omega] at h1
  exact h1
/-- the words that aren't good ones but go with the machine all the same -/
def g_face (w : Cond) : Bool := w.faceAtom || (match w with | .methodLinkNest .. => true | .arrayOver (.object _) => true | .arrayOver (.array _) => true | _ => false)
def g_fw : List Cond := lw_tbl.filter g_face
/-- String constants: class, place, text, number of the text -/
def g_strs : List (String × Nat × String × Nat) := [("LampRelay", 43, "length", 5), ("LampRelay", 77, "what", 6), ("LampRelay", 85, "channel", 7), ("LampRelay", 104, "message", 8), ("LampRelay", 118, "k", 9), ("LampRelay", 130, "tick", 10), ("LampRelay", 141, "station", 11), ("LampRelay", 182, "ticks", 12), ("LampRelay", 190, "urgency, length or letters", 13), ("LampRelay", 194, "messages", 14), ("LampRelay", 201, "first, last or level", 15), ("LampRelay", 206, "mists", 16), ("LampRelay", 212, "key", 17), ("LampRelay", 218, "keepers or time", 18), ("LampRelay", 224, "power", 19), ("LampRelay", 228, "over or cancelled", 20), ("LampRelay$SetupReader", 48, "relay", 0), ("LampRelay$SetupReader", 71, "channel", 1), ("LampRelay$SetupReader", 76, "keeper", 2), ("LampRelay$SetupReader", 81, "mist", 3), ("LampRelay$SetupReader", 86, "message", 4), ("LampRelayLaw", 148, "relay", 0), ("LampRelayLaw", 170, "channel", 1), ("LampRelayLaw", 179, "keeper", 2), ("LampRelayLaw", 184, "mist", 3), ("LampRelayLaw", 193, "message", 4), ("LampRelayLaw", 113, " ", 21), ("LampRelayLaw", 154, ";", 22), ("LampRelayLaw", 121, "", 23), ("LampRelayLaw$Talk", 7, "", 23)]
def g_len : List Nat := [5, 7, 6, 4, 7, 6, 4, 7, 7, 1, 4, 7, 5, 26, 8, 20, 5, 3, 15, 5, 17, 1, 1, 0]
def g_byt : List (List Int32) := [[114, 101, 108, 97, 121], [99, 104, 97, 110, 110, 101, 108], [107, 101, 101, 112, 101, 114], [109, 105, 115, 116], [109, 101, 115, 115, 97, 103, 101], [108, 101, 110, 103, 116, 104], [119, 104, 97, 116], [99, 104, 97, 110, 110, 101, 108], [109, 101, 115, 115, 97, 103, 101], [107], [116, 105, 99, 107], [115, 116, 97, 116, 105, 111, 110], [116, 105, 99, 107, 115], [117, 114, 103, 101, 110, 99, 121, 44, 32, 108, 101, 110, 103, 116, 104, 32, 111, 114, 32, 108, 101, 116, 116, 101, 114, 115], [109, 101, 115, 115, 97, 103, 101, 115], [102, 105, 114, 115, 116, 44, 32, 108, 97, 115, 116, 32, 111, 114, 32, 108, 101, 118, 101, 108], [109, 105, 115, 116, 115], [107, 101, 121], [107, 101, 101, 112, 101, 114, 115, 32, 111, 114, 32, 116, 105, 109, 101], [112, 111, 119, 101, 114], [111, 118, 101, 114, 32, 111, 114, 32, 99, 97, 110, 99, 101, 108, 108, 101, 100], [32], [59], []]
/-- pairs of classes, the first no kind of the second -/
def g_nc : List (String × String) := [("java/lang/IllegalArgumentException", "java/lang/IndexOutOfBoundsException"), ("java/lang/IllegalStateException", "java/lang/IndexOutOfBoundsException"), ("java/lang/IllegalStateException", "java/lang/IllegalArgumentException"), ("java/util/NoSuchElementException", "java/lang/IndexOutOfBoundsException")]
/-- the String constants and their rows of bytes; constants of the same text may be one object -/
def g_Ks (G : gG) (A : Nat → Prop) (U : State) (H : Heap) : Prop := (∀ i : Nat, i < 24 → va_O "java/lang/String" (g_aK G i) A U H ∧ va_OF "java/lang/String" "coder" "B" (.int 0) (g_aK G i) A U H ∧ va_OF "java/lang/String" "value" "[B" (.ref (g_aV G i)) (g_aK G i) A U H ∧ va_T .byte (g_aV G i) (g_len.getD i 0) (fun j => .int ((g_byt.getD i []).getD j 0)) A U H) ∧ True
theorem g_Ks.moved {G : gG} {A : Nat → Prop} {u U : State} {H : Heap} (h : g_Ks G A u H) (hvm : u.vm.Alike U.vm) : g_Ks G A U H := ⟨fun i hi => ⟨va_O.moved hvm (h.1 i hi).1, va_OF.moved hvm (h.1 i hi).2.1, va_OF.moved hvm (h.1 i hi).2.2.1, va_T.moved hvm (h.1 i hi).2.2.2⟩, trivial⟩
theorem g_Ks.kept {G : gG} {A : Nat → Prop} {U : State} {H H1 : Heap} (h : g_Ks G A U H) (hq : ∀ a : Nat, a < H.size → ¬ A a → H1[a]? = H[a]?) : g_Ks G A U H1 := ⟨fun i hi => ⟨(h.1 i hi).1.kept hq, (h.1 i hi).2.1.kept hq, (h.1 i hi).2.2.1.kept hq, (h.1 i hi).2.2.2.kept hq⟩, trivial⟩
/-- what a run fixes, at the state U with the heap H -/
def g_K (G : gG) (U : State) (H : Heap) : Prop := va_K (g_D G) vwCl (g_tl (g_c G)) U ∧ (∀ w ∈ g_fw, w.before #[] U = true) ∧ (∀ r ∈ g_strs, vk_R r.1 r.2.1 r.2.2.1 (g_aK G r.2.2.2) U) ∧ g_Ks G (g_A G) U H ∧ vx_Zq Bundle.tN "UNASSIGNED_STACK" Bundle.steD (g_A G) U H ∧ vx_Zq Bundle.tN "SUPPRESSED_SENTINEL" Bundle.listD (g_A G) U H ∧ va_Z "java/lang/String" "COMPACT_STRINGS" "Z" (.int 1) (g_A G) U H ∧ va_Zq "jdk/internal/util/Preconditions" "SIOOBE_FORMATTER" "Ljava/util/function/BiFunction;" (g_A G) U H ∧ ∀ q ∈ g_nc, va_Nc q.1 q.2 U
theorem g_AO_moved {t : FieldType} {u U : State} (hvm : u.vm.Alike U.vm) (h : (Cond.arrayOver (.array t)).before #[] u = true) : (Cond.arrayOver (.array t)).before #[] U = true := by
  have h0 : (Cond.arrayOver (.array t)).holds #[] u none u [] = true := h
  simp only [Cond.holds, Cond.value, beq_iff_eq] at h0
  cases hc : u.vm.findClass (FieldType.array t).toString with
  | none => rw [hc] at h0; simp at h0
  | some comp =>
    simp only [hc, Option.bind_some, Option.bind_eq_some_iff, Option.map_eq_some_iff] at h0
    obtain ⟨c, hi0, k, hk, hb⟩ := h0
    have hi1 : (u.vm.classes.findIdx? fun (x : Class) => match x.kind with | .array component _ => component == comp | _ => false) = some c := hi0
    obtain ⟨k', hk', he⟩ := hvm.2.2 _ _ hk
    have hi : (U.vm.classes.findIdx? fun (x : Class) => match x.kind with | .array component _ => component == comp | _ => false) = some c := by
      refine ((va_idx_bare U.vm comp).symm.trans ?_)
      refine Eq.trans ?_ ((va_idx_bare u.vm comp).trans hi1)
      first | rw [hvm.bare_eq] | rw [← hvm.bare_eq]
    have hkind : k'.kind = k.kind := by rw [he]
    have f1 : U.vm.findClass (FieldType.array t).toString = some comp := by rw [hvm.findClass]; exact hc
    show (Cond.arrayOver (.array t)).holds #[] U none U [] = true
    simp only [Cond.holds, Cond.value, beq_iff_eq, f1, Option.bind_some, Option.bind_eq_some_iff, Option.map_eq_some_iff]
    refine ⟨c, hi, k', hk', ?_⟩
    rw [hkind, hvm.findClass]
    exact hb
theorem g_face_warm {w : Cond} {s U : State} (hw : g_face w = true) (hW : s.WarmedH U.vm) (h : w.before #[] s = true) : w.before #[] U = true := by
  unfold g_face at hw
  cases hf : w.faceAtom with
  | true =>
    have h1 := Cond.faceAtom_setVm (args := #[]) hW.alike w hf h
    have ht : w.onTables = true := by cases w <;> first | rfl | (simp [Cond.faceAtom] at hf)
    exact va_tabs ht (rfl : (s.setVm U.vm).vm = U.vm) h1
  | false =>
    rw [hf, Bool.false_or] at hw
    cases w with
    | methodLinkNest a i x hh => exact va_Nw.warmM hW h
    | arrayOver t =>
      cases t with
      | object C => exact va_AO.moved hW.alike h
      | array t => exact g_AO_moved hW.alike h
      | _ => simp at hw
    | _ => simp at hw
theorem g_K.warm {G : gG} {s U : State} {H H1 : Heap} (hW : s.WarmedH U.vm) (hq : ∀ a : Nat, a < H.size → ¬ g_A G a → H1[a]? = H[a]?) (h : g_K G s H) : g_K G U H1 := by
  obtain ⟨h1, h2, h3, h4, h5, h6, h7, h8, h9⟩ := h
  have hA := hW.alike
  refine ⟨h1.moved hA, fun w hw => ?_, fun r hr => (h3 r hr).warm hW, (h4.moved hA).kept hq, (h5.moved hA).kept hq, (h6.moved hA).kept hq, (h7.moved hA).kept hq, (h8.moved hA).kept hq, fun q hq9 => (h9 q hq9).moved hA⟩
  exact g_face_warm (List.mem_filter.mp hw).2 hW (h2 w hw)
/-- the locals of a frame, by their places -/
def g_ls (A : Array Slot) (nL : Nat) (L : List (Option Value)) : Prop := A.size = nL ∧ lv_wf A ∧ L.length = nL ∧ ∀ (i : Nat) (v : Value), L[i]? = some (some v) → A[i]? = some (.val v)
def g_al : Nat → List (Option Value) → List (Nat × Value)
  | _, [] => []
  | i, none :: t => g_al (i + 1) t
  | i, some v :: t => (i, v) :: g_al (i + 1) t
theorem g_al_mem : ∀ (L : List (Option Value)) (i j : Nat) (v : Value), (j, v) ∈ g_al i L ↔ ∃ k, j = i + k ∧ L[k]? = some (some v)
  | [], i, j, v => by simp [g_al]
  | none :: t, i, j, v => by
    rw [g_al, g_al_mem t]
    constructor
    · rintro ⟨k, h1, h2⟩
      exact ⟨k + 1, by omega, by simpa using h2⟩
    · rintro ⟨k, h1, h2⟩
      cases k with
      | zero => simp at h2
      | succ k => exact ⟨k, by omega, by simpa using h2⟩
  | some w :: t, i, j, v => by
    rw [g_al, List.mem_cons, g_al_mem t]
    constructor
    · rintro (h | ⟨k, h1, h2⟩)
      · cases h
        exact ⟨0, by omega, by simp⟩
      · exact ⟨k + 1, by omega, by simpa using h2⟩
    · rintro ⟨k, h1, h2⟩
      cases k with
      | zero =>
        simp at h2
        subst h2
        exact Or.inl (by simp [h1])
      | succ k => exact Or.inr ⟨k, by omega, by simpa using h2⟩
theorem g_ls.has {A : Array Slot} {nL : Nat} {L : List (Option Value)} (h : g_ls A nL L) : lv_has A nL (g_al 0 L) := by
  refine ⟨h.1, h.2.1, fun q hq => ?_⟩
  obtain ⟨j, v⟩ := q
  obtain ⟨k, h1, h2⟩ := (g_al_mem L 0 j v).mp hq
  rw [Nat.zero_add] at h1
  subst h1
  exact h.2.2.2 _ _ h2
theorem g_ls.at {A : Array Slot} {nL : Nat} {L : List (Option Value)} (h : g_ls A nL L) {i : Nat} {v : Value} (hl : L[i]? = some (some v)) : A[i]? = some (.val v) := h.2.2.2 i v hl
/-- no value of two places stands just ahead of i -/
def g_pl (L : List (Option Value)) : Nat → Bool
  | 0 => true
  | i + 1 => match L[i]? with
    | some (some v) => Nat.beq v.category 1
    | _ => true
theorem g_ls.put1 {A A' : Array Slot} {nL i : Nat} {v : Value} {L : List (Option Value)} (h : g_ls A nL L) (hp : g_pl L i = true) (h' : lv_has A' nL ((i, v) :: (g_al 0 L).filter (fun q => !(q.1 == i) && !(q.1 + 1 == i && q.2.category == 2)))) : g_ls A' nL (L.set i (some v)) := by
  refine ⟨h'.1, h'.2.1, by simpa using h.2.2.1, fun j w hj => ?_⟩
  by_cases hji : j = i
  · subst hji
    rw [List.getElem?_set_self'] at hj
    cases hL : L[j]? with
    | none => rw [hL] at hj; simp at hj
    | some x =>
      rw [hL] at hj
      simp at hj
      subst hj
      exact h'.2.2 _ List.mem_cons_self
  · rw [List.getElem?_set_ne (Ne.symm hji)] at hj
    refine h'.2.2 (j, w) (List.mem_cons_of_mem _ (List.mem_filter.mpr ⟨(g_al_mem L 0 j w).mpr ⟨j, by omega, hj⟩, ?_⟩))
    simp only [Bool.and_eq_true, Bool.not_eq_true', beq_eq_false_iff_ne, ne_eq]
    refine ⟨hji, ?_⟩
    cases i with
    | zero => simp
    | succ i =>
      by_cases e : j = i
      · subst e
        simp only [g_pl, hj] at hp
        have := Nat.eq_of_beq_eq_true hp
        simp [this]
      · simp [e]
theorem g_ls.put2 {A A' : Array Slot} {nL i : Nat} {v : Value} {L : List (Option Value)} (h : g_ls A nL L) (hp : g_pl L i = true) (h' : lv_has A' nL ((i, v) :: (g_al 0 L).filter (fun q => !(q.1 == i) && (!(q.1 == i + 1) && !(q.1 + 1 == i && q.2.category == 2))))) : g_ls A' nL ((L.set i (some v)).set (i + 1) none) := by
  refine ⟨h'.1, h'.2.1, by simpa using h.2.2.1, fun j w hj => ?_⟩
  by_cases hj1 : j = i + 1
  · subst hj1
    rw [List.getElem?_set_self'] at hj
    cases hL : (L.set i (some v))[i + 1]? with
    | none => rw [hL] at hj; simp at hj
    | some x => rw [hL] at hj; simp at hj
  rw [List.getElem?_set_ne (Ne.symm hj1)] at hj
  by_cases hji : j = i
  · subst hji
    rw [List.getElem?_set_self'] at hj
    cases hL : L[j]? with
    | none => rw [hL] at hj; simp at hj
    | some x =>
      rw [hL] at hj
      simp at hj
      subst hj
      exact h'.2.2 _ List.mem_cons_self
  · rw [List.getElem?_set_ne (Ne.symm hji)] at hj
    refine h'.2.2 (j, w) (List.mem_cons_of_mem _ (List.mem_filter.mpr ⟨(g_al_mem L 0 j w).mpr ⟨j, by omega, hj⟩, ?_⟩))
    simp only [Bool.and_eq_true, Bool.not_eq_true', beq_eq_false_iff_ne, ne_eq]
    refine ⟨hji, hj1, ?_⟩
    cases i with
    | zero => simp
    | succ i =>
      by_cases e : j = i
      · subst e
        simp only [g_pl, hj] at hp
        have := Nat.eq_of_beq_eq_true hp
        simp [this]
      · simp [e]
/-- fewer locals are known -/
def g_sub : List (Option Value) → List (Option Value) → Prop
  | [], [] => True
  | _ :: t, none :: u => g_sub t u
  | x :: t, some v :: u => x = some v ∧ g_sub t u
  | _, _ => False
theorem g_sub_at : ∀ {L L' : List (Option Value)}, g_sub L L' → L.length = L'.length ∧ ∀ (i : Nat) (v : Value), L'[i]? = some (some v) → L[i]? = some (some v)
  | [], [], _ => ⟨rfl, fun i v h => h⟩
  | x :: t, none :: u, h => by
    obtain ⟨h1, h2⟩ := g_sub_at (L := t) (L' := u) h
    refine ⟨by simp [h1], fun i v hi => ?_⟩
    cases i with
    | zero => simp at hi
    | succ i => simpa using h2 i v (by simpa using hi)
  | x :: t, some w :: u, h => by
    obtain ⟨e, h⟩ := h
    obtain ⟨h1, h2⟩ := g_sub_at (L := t) (L' := u) h
    refine ⟨by simp [h1], fun i v hi => ?_⟩
    cases i with
    | zero => simp at hi; simp [e, hi]
    | succ i => simpa using h2 i v (by simpa using hi)
  | [], _ :: _, h => by simp [g_sub] at h
  | _ :: _, [], h => by simp [g_sub] at h
theorem g_ls.sub {A : Array Slot} {nL : Nat} {L L' : List (Option Value)} (h : g_ls A nL L) (hs : g_sub L L') : g_ls A nL L' := by
  obtain ⟨h1, h2⟩ := g_sub_at hs
  exact ⟨h.1, h.2.1, by rw [← h1]; exact h.2.2.1, fun i v hi => h.2.2.2 i v (h2 i v hi)⟩
/-- what stands still while a body runs -/
def g_bx (G : gG) (M : gMt) (p : Program) (s : State) (m : MethodId) (args : Array Value) (meth : Method) (c : Code) : Prop := p.tables.exec = Jvm.exec ∧ c.code = m_cc M ∧ c.maxLocals = m_nL M ∧ meth.sig.returnType = m_ret M ∧ meth.locks = false ∧ s.vm.findClass (m_y M).cls = some m.cls ∧ (∀ w ∈ lw_tbl, goodWord w = true → w.before args s = true) ∧ g_K G s s.heap ∧ (((m_y M).name = "<init>" → meth.name = "<init>") ∧ g_b G ≤ s.heap.size ∧ ((m_y M).name ≠ "law" → c.exceptionTable.toList = tableOf (m_h M))) ∧ g_ok M
/-- THE JUDGEMENT: whatever F answers, the machine, at pc with the locals L and the stack st over the heap h, comes to the end that Φ tells of it; k cells and n slots are new so far -/
def GX {α : Type} (l : Launch) (G : gG) (M : gMt) (Φ : α → Method → Code → State → Array Value → List Frame → State → Prop) (k n pc : Nat) (L : List (Option Value)) (st : List Value) (h : gH) (F : Option α) : Prop :=
  ∀ r, F = some r → ∀ (p : Program) (e : Env) (s : State) (m : MethodId) (args : Array Value) (below : List Frame) (meth : Method) (c : Code) (H : Heap) (locs : List Loc) (A : Array Slot), g_bx G M p s m args meth c → g_ls A (m_nL M) L → g_M G h H → va_S (g_A G) s.heap H locs → W p l e (m_R M) s m args below meth c H locs k n (Φ r meth c s args below) (F0 m pc A st)
section GXR
variable {α : Type} {l : Launch} {G : gG} {M : gMt} {Φ : α → Method → Code → State → Array Value → List Frame → State → Prop} {k n pc nx x1 x2 : Nat} {L : List (Option Value)} {st : List Value} {h : gH} {F : Option α}
theorem X_sub {L' : List (Option Value)} (hs : g_sub L L') (kk : GX l G M Φ k n pc L' st h F) : GX l G M Φ k n pc L st h F :=
  fun r hr p e s m args below meth c H locs A B hl hM hS => kk r hr p e s m args below meth c H locs A B (hl.sub hs) hM hS
theorem X_eqF {F' : Option α} (hF : F = F') (kk : GX l G M Φ k n pc L st h F') : GX l G M Φ k n pc L st h F := hF ▸ kk
theorem X_none : GX l G M Φ k n pc L st h none := fun r hr => by cases hr
theorem X_if {c : Prop} [Decidable c] {F1 F2 : Option α} (k1 : c → GX l G M Φ k n pc L st h F1) (k2 : ¬ c → GX l G M Φ k n pc L st h F2) : GX l G M Φ k n pc L st h (if c then F1 else F2) := by
  by_cases hc : c
  · rw [if_pos hc]; exact k1 hc
  · rw [if_neg hc]; exact k2 hc
theorem X_bind {β : Type} {o : Option β} {K : β → Option α} (kk : ∀ x, o = some x → GX l G M Φ k n pc L st h (K x)) : GX l G M Φ k n pc L st h (o.bind K) := by
  cases o with
  | none => exact X_none
  | some x => exact kk x rfl
theorem X_iconst {i : Int} {v : Int32} (hd : g_lk (m_code M) pc = some (.iconst i, nx, x1, x2)) (hn : nx = pc + 1) (hv : Int32.ofInt i = v) (kk : GX l G M Φ k n nx L (.int v :: st) h F) : GX l G M Φ k n pc L (st) h F := by
  intro r hr p e s m args below meth c H locs A B hl hM hS
  have hg := g_dec B.2.2.2.2.2.2.2.2.2 hd hn
  have q := kk r hr p e s m args below meth c H locs A B hl hM hS
  rw [hn] at q
  exact lv_iconst B.1 B.2.1 hg hv q
theorem X_bipush {i : Int} {v : Int32} (hd : g_lk (m_code M) pc = some (.bipush i, nx, x1, x2)) (hn : nx = pc + 2) (hv : (Int8.ofInt i).toInt32 = v) (kk : GX l G M Φ k n nx L (.int v :: st) h F) : GX l G M Φ k n pc L (st) h F := by
  intro r hr p e s m args below meth c H locs A B hl hM hS
  have hg := g_dec B.2.2.2.2.2.2.2.2.2 hd hn
  have q := kk r hr p e s m args below meth c H locs A B hl hM hS
  rw [hn] at q
  exact lv_bipush B.1 B.2.1 hg hv q
theorem X_sipush {i : Int} {v : Int32} (hd : g_lk (m_code M) pc = some (.sipush i, nx, x1, x2)) (hn : nx = pc + 3) (hv : (Int16.ofInt i).toInt32 = v) (kk : GX l G M Φ k n nx L (.int v :: st) h F) : GX l G M Φ k n pc L (st) h F := by
  intro r hr p e s m args below meth c H locs A B hl hM hS
  have hg := g_dec B.2.2.2.2.2.2.2.2.2 hd hn
  have q := kk r hr p e s m args below meth c H locs A B hl hM hS
  rw [hn] at q
  exact lv_sipush B.1 B.2.1 hg hv q
theorem X_lconst {i : Fin 2} {v : Int64} (hd : g_lk (m_code M) pc = some (.lconst i, nx, x1, x2)) (hn : nx = pc + 1) (hv : Int64.ofNat (i : Nat) = v) (kk : GX l G M Φ k n nx L (.long v :: st) h F) : GX l G M Φ k n pc L (st) h F := by
  intro r hr p e s m args below meth c H locs A B hl hM hS
  have hg := g_dec B.2.2.2.2.2.2.2.2.2 hd hn
  have q := kk r hr p e s m args below meth c H locs A B hl hM hS
  rw [hn] at q
  exact lv_lconst B.1 B.2.1 hg hv q
theorem X_dconst0  (hd : g_lk (m_code M) pc = some (.dconst 0, nx, x1, x2)) (hn : nx = pc + 1)  (kk : GX l G M Φ k n nx L (.double 0 :: st) h F) : GX l G M Φ k n pc L (st) h F := by
  intro r hr p e s m args below meth c H locs A B hl hM hS
  have hg := g_dec B.2.2.2.2.2.2.2.2.2 hd hn
  have q := kk r hr p e s m args below meth c H locs A B hl hM hS
  rw [hn] at q
  exact lv_dconst0 B.1 B.2.1 hg q
theorem X_null  (hd : g_lk (m_code M) pc = some (.aconst_null, nx, x1, x2)) (hn : nx = pc + 1)  (kk : GX l G M Φ k n nx L (.null :: st) h F) : GX l G M Φ k n pc L (st) h F := by
  intro r hr p e s m args below meth c H locs A B hl hM hS
  have hg := g_dec B.2.2.2.2.2.2.2.2.2 hd hn
  have q := kk r hr p e s m args below meth c H locs A B hl hM hS
  rw [hn] at q
  exact lv_null B.1 B.2.1 hg q
theorem X_iload_n {j : Fin 4} {x : Int32} (hd : g_lk (m_code M) pc = some (.iload_n j, nx, x1, x2)) (hn : nx = pc + 1) (hx : L[(j : Nat)]? = some (some (.int x))) (kk : GX l G M Φ k n nx L (.int x :: st) h F) : GX l G M Φ k n pc L (st) h F := by
  intro r hr p e s m args below meth c H locs A B hl hM hS
  have hg := g_dec B.2.2.2.2.2.2.2.2.2 hd hn
  have q := kk r hr p e s m args below meth c H locs A B hl hM hS
  rw [hn] at q
  exact lv_iload_n B.1 B.2.1 hg rfl (hl.at hx) q
theorem X_iload {j : Nat} {x : Int32} (hd : g_lk (m_code M) pc = some (.iload j, nx, x1, x2)) (hn : nx = pc + 2) (hx : L[j]? = some (some (.int x))) (kk : GX l G M Φ k n nx L (.int x :: st) h F) : GX l G M Φ k n pc L (st) h F := by
  intro r hr p e s m args below meth c H locs A B hl hM hS
  have hg := g_dec B.2.2.2.2.2.2.2.2.2 hd hn
  have q := kk r hr p e s m args below meth c H locs A B hl hM hS
  rw [hn] at q
  exact lv_iload B.1 B.2.1 hg (hl.at hx) q
theorem X_lload_n {j : Fin 4} {x : Int64} (hd : g_lk (m_code M) pc = some (.lload_n j, nx, x1, x2)) (hn : nx = pc + 1) (hx : L[(j : Nat)]? = some (some (.long x))) (kk : GX l G M Φ k n nx L (.long x :: st) h F) : GX l G M Φ k n pc L (st) h F := by
  intro r hr p e s m args below meth c H locs A B hl hM hS
  have hg := g_dec B.2.2.2.2.2.2.2.2.2 hd hn
  have q := kk r hr p e s m args below meth c H locs A B hl hM hS
  rw [hn] at q
  exact lv_lload_n B.1 B.2.1 hg rfl (hl.at hx) q
theorem X_lload {j : Nat} {x : Int64} (hd : g_lk (m_code M) pc = some (.lload j, nx, x1, x2)) (hn : nx = pc + 2) (hx : L[j]? = some (some (.long x))) (kk : GX l G M Φ k n nx L (.long x :: st) h F) : GX l G M Φ k n pc L (st) h F := by
  intro r hr p e s m args below meth c H locs A B hl hM hS
  have hg := g_dec B.2.2.2.2.2.2.2.2.2 hd hn
  have q := kk r hr p e s m args below meth c H locs A B hl hM hS
  rw [hn] at q
  exact lv_lload B.1 B.2.1 hg (hl.at hx) q
theorem X_aload_n {j : Fin 4} {x : Nat} (hd : g_lk (m_code M) pc = some (.aload_n j, nx, x1, x2)) (hn : nx = pc + 1) (hx : L[(j : Nat)]? = some (some (.ref x))) (kk : GX l G M Φ k n nx L (.ref x :: st) h F) : GX l G M Φ k n pc L (st) h F := by
  intro r hr p e s m args below meth c H locs A B hl hM hS
  have hg := g_dec B.2.2.2.2.2.2.2.2.2 hd hn
  have q := kk r hr p e s m args below meth c H locs A B hl hM hS
  rw [hn] at q
  exact lv_aload_n B.1 B.2.1 hg rfl (hl.at hx) q
theorem X_aload {j : Nat} {x : Nat} (hd : g_lk (m_code M) pc = some (.aload j, nx, x1, x2)) (hn : nx = pc + 2) (hx : L[j]? = some (some (.ref x))) (kk : GX l G M Φ k n nx L (.ref x :: st) h F) : GX l G M Φ k n pc L (st) h F := by
  intro r hr p e s m args below meth c H locs A B hl hM hS
  have hg := g_dec B.2.2.2.2.2.2.2.2.2 hd hn
  have q := kk r hr p e s m args below meth c H locs A B hl hM hS
  rw [hn] at q
  exact lv_aload B.1 B.2.1 hg (hl.at hx) q
theorem X_dload_n {j : Fin 4} {x : UInt64} (hd : g_lk (m_code M) pc = some (.dload_n j, nx, x1, x2)) (hn : nx = pc + 1) (hx : L[(j : Nat)]? = some (some (.double x))) (kk : GX l G M Φ k n nx L (.double x :: st) h F) : GX l G M Φ k n pc L (st) h F := by
  intro r hr p e s m args below meth c H locs A B hl hM hS
  have hg := g_dec B.2.2.2.2.2.2.2.2.2 hd hn
  have q := kk r hr p e s m args below meth c H locs A B hl hM hS
  rw [hn] at q
  exact lv_dload_n B.1 B.2.1 hg rfl (hl.at hx) q
theorem X_dload {j : Nat} {x : UInt64} (hd : g_lk (m_code M) pc = some (.dload j, nx, x1, x2)) (hn : nx = pc + 2) (hx : L[j]? = some (some (.double x))) (kk : GX l G M Φ k n nx L (.double x :: st) h F) : GX l G M Φ k n pc L (st) h F := by
  intro r hr p e s m args below meth c H locs A B hl hM hS
  have hg := g_dec B.2.2.2.2.2.2.2.2.2 hd hn
  have q := kk r hr p e s m args below meth c H locs A B hl hM hS
  rw [hn] at q
  exact lv_dload B.1 B.2.1 hg (hl.at hx) q
theorem X_iadd {x y : Int32} (hd : g_lk (m_code M) pc = some (.iadd, nx, x1, x2)) (hn : nx = pc + 1)  (kk : GX l G M Φ k n nx L (.int (x + y) :: st) h F) : GX l G M Φ k n pc L (.int y :: .int x :: st) h F := by
  intro r hr p e s m args below meth c H locs A B hl hM hS
  have hg := g_dec B.2.2.2.2.2.2.2.2.2 hd hn
  have q := kk r hr p e s m args below meth c H locs A B hl hM hS
  rw [hn] at q
  exact lv_iadd B.1 B.2.1 hg q
theorem X_isub {x y : Int32} (hd : g_lk (m_code M) pc = some (.isub, nx, x1, x2)) (hn : nx = pc + 1)  (kk : GX l G M Φ k n nx L (.int (x - y) :: st) h F) : GX l G M Φ k n pc L (.int y :: .int x :: st) h F := by
  intro r hr p e s m args below meth c H locs A B hl hM hS
  have hg := g_dec B.2.2.2.2.2.2.2.2.2 hd hn
  have q := kk r hr p e s m args below meth c H locs A B hl hM hS
  rw [hn] at q
  exact lv_isub B.1 B.2.1 hg q
theorem X_imul {x y : Int32} (hd : g_lk (m_code M) pc = some (.imul, nx, x1, x2)) (hn : nx = pc + 1)  (kk : GX l G M Φ k n nx L (.int (x * y) :: st) h F) : GX l G M Φ k n pc L (.int y :: .int x :: st) h F := by
  intro r hr p e s m args below meth c H locs A B hl hM hS
  have hg := g_dec B.2.2.2.2.2.2.2.2.2 hd hn
  have q := kk r hr p e s m args below meth c H locs A B hl hM hS
  rw [hn] at q
  exact lv_imul B.1 B.2.1 hg q
theorem X_iand {x y : Int32} (hd : g_lk (m_code M) pc = some (.iand, nx, x1, x2)) (hn : nx = pc + 1)  (kk : GX l G M Φ k n nx L (.int (x &&& y) :: st) h F) : GX l G M Φ k n pc L (.int y :: .int x :: st) h F := by
  intro r hr p e s m args below meth c H locs A B hl hM hS
  have hg := g_dec B.2.2.2.2.2.2.2.2.2 hd hn
  have q := kk r hr p e s m args below meth c H locs A B hl hM hS
  rw [hn] at q
  exact lv_iand B.1 B.2.1 hg q
theorem X_ior {x y : Int32} (hd : g_lk (m_code M) pc = some (.ior, nx, x1, x2)) (hn : nx = pc + 1)  (kk : GX l G M Φ k n nx L (.int (x ||| y) :: st) h F) : GX l G M Φ k n pc L (.int y :: .int x :: st) h F := by
  intro r hr p e s m args below meth c H locs A B hl hM hS
  have hg := g_dec B.2.2.2.2.2.2.2.2.2 hd hn
  have q := kk r hr p e s m args below meth c H locs A B hl hM hS
  rw [hn] at q
  exact lv_ior B.1 B.2.1 hg q
theorem X_ixor {x y : Int32} (hd : g_lk (m_code M) pc = some (.ixor, nx, x1, x2)) (hn : nx = pc + 1)  (kk : GX l G M Φ k n nx L (.int (x ^^^ y) :: st) h F) : GX l G M Φ k n pc L (.int y :: .int x :: st) h F := by
  intro r hr p e s m args below meth c H locs A B hl hM hS
  have hg := g_dec B.2.2.2.2.2.2.2.2.2 hd hn
  have q := kk r hr p e s m args below meth c H locs A B hl hM hS
  rw [hn] at q
  exact lv_ixor B.1 B.2.1 hg q
theorem X_ladd {x y : Int64} (hd : g_lk (m_code M) pc = some (.ladd, nx, x1, x2)) (hn : nx = pc + 1)  (kk : GX l G M Φ k n nx L (.long (x + y) :: st) h F) : GX l G M Φ k n pc L (.long y :: .long x :: st) h F := by
  intro r hr p e s m args below meth c H locs A B hl hM hS
  have hg := g_dec B.2.2.2.2.2.2.2.2.2 hd hn
  have q := kk r hr p e s m args below meth c H locs A B hl hM hS
  rw [hn] at q
  exact lv_ladd B.1 B.2.1 hg q
theorem X_lsub {x y : Int64} (hd : g_lk (m_code M) pc = some (.lsub, nx, x1, x2)) (hn : nx = pc + 1)  (kk : GX l G M Φ k n nx L (.long (x - y) :: st) h F) : GX l G M Φ k n pc L (.long y :: .long x :: st) h F := by
  intro r hr p e s m args below meth c H locs A B hl hM hS
  have hg := g_dec B.2.2.2.2.2.2.2.2.2 hd hn
  have q := kk r hr p e s m args below meth c H locs A B hl hM hS
  rw [hn] at q
  exact lv_lsub B.1 B.2.1 hg q
theorem X_lmul {x y : Int64} (hd : g_lk (m_code M) pc = some (.lmul, nx, x1, x2)) (hn : nx = pc + 1)  (kk : GX l G M Φ k n nx L (.long (x * y) :: st) h F) : GX l G M Φ k n pc L (.long y :: .long x :: st) h F := by
  intro r hr p e s m args below meth c H locs A B hl hM hS
  have hg := g_dec B.2.2.2.2.2.2.2.2.2 hd hn
  have q := kk r hr p e s m args below meth c H locs A B hl hM hS
  rw [hn] at q
  exact lv_lmul B.1 B.2.1 hg q
theorem X_ishl {x y v : Int32} (hd : g_lk (m_code M) pc = some (.ishl, nx, x1, x2)) (hn : nx = pc + 1) (hv : x <<< (y &&& 31) = v) (kk : GX l G M Φ k n nx L (.int v :: st) h F) : GX l G M Φ k n pc L (.int y :: .int x :: st) h F := by
  intro r hr p e s m args below meth c H locs A B hl hM hS
  have hg := g_dec B.2.2.2.2.2.2.2.2.2 hd hn
  have q := kk r hr p e s m args below meth c H locs A B hl hM hS
  rw [hn] at q
  rw [← hv] at q
  exact lv_ishl B.1 B.2.1 hg q
theorem X_ishr {x y v : Int32} (hd : g_lk (m_code M) pc = some (.ishr, nx, x1, x2)) (hn : nx = pc + 1) (hv : x >>> (y &&& 31) = v) (kk : GX l G M Φ k n nx L (.int v :: st) h F) : GX l G M Φ k n pc L (.int y :: .int x :: st) h F := by
  intro r hr p e s m args below meth c H locs A B hl hM hS
  have hg := g_dec B.2.2.2.2.2.2.2.2.2 hd hn
  have q := kk r hr p e s m args below meth c H locs A B hl hM hS
  rw [hn] at q
  rw [← hv] at q
  exact lv_ishr B.1 B.2.1 hg q
theorem X_iushr {x y : Int32} (hd : g_lk (m_code M) pc = some (.iushr, nx, x1, x2)) (hn : nx = pc + 1)  (kk : GX l G M Φ k n nx L (.int (x.toUInt32 >>> (y.toUInt32 &&& Int32.toUInt32 31)).toInt32 :: st) h F) : GX l G M Φ k n pc L (.int y :: .int x :: st) h F := by
  intro r hr p e s m args below meth c H locs A B hl hM hS
  have hg := g_dec B.2.2.2.2.2.2.2.2.2 hd hn
  have q := kk r hr p e s m args below meth c H locs A B hl hM hS
  rw [hn] at q
  exact lv_iushr B.1 B.2.1 hg rfl q
theorem X_i2l {x : Int32} (hd : g_lk (m_code M) pc = some (.i2l, nx, x1, x2)) (hn : nx = pc + 1)  (kk : GX l G M Φ k n nx L (.long x.toInt64 :: st) h F) : GX l G M Φ k n pc L (.int x :: st) h F := by
  intro r hr p e s m args below meth c H locs A B hl hM hS
  have hg := g_dec B.2.2.2.2.2.2.2.2.2 hd hn
  have q := kk r hr p e s m args below meth c H locs A B hl hM hS
  rw [hn] at q
  exact lv_i2l B.1 B.2.1 hg rfl q
theorem X_i2b {x : Int32} (hd : g_lk (m_code M) pc = some (.i2b, nx, x1, x2)) (hn : nx = pc + 1)  (kk : GX l G M Φ k n nx L (.int x.toInt8.toInt32 :: st) h F) : GX l G M Φ k n pc L (.int x :: st) h F := by
  intro r hr p e s m args below meth c H locs A B hl hM hS
  have hg := g_dec B.2.2.2.2.2.2.2.2.2 hd hn
  have q := kk r hr p e s m args below meth c H locs A B hl hM hS
  rw [hn] at q
  exact lv_i2b B.1 B.2.1 hg rfl q
theorem X_i2d {x : Int32} (hd : g_lk (m_code M) pc = some (.i2d, nx, x1, x2)) (hn : nx = pc + 1)  (kk : GX l G M Φ k n nx L (.double (FP.i2d x) :: st) h F) : GX l G M Φ k n pc L (.int x :: st) h F := by
  intro r hr p e s m args below meth c H locs A B hl hM hS
  have hg := g_dec B.2.2.2.2.2.2.2.2.2 hd hn
  have q := kk r hr p e s m args below meth c H locs A B hl hM hS
  rw [hn] at q
  exact lv_i2d B.1 B.2.1 hg q
theorem X_lcmp {x y : Int64} (hd : g_lk (m_code M) pc = some (.lcmp, nx, x1, x2)) (hn : nx = pc + 1)  (kk : GX l G M Φ k n nx L (.int (lg_cmp x y) :: st) h F) : GX l G M Φ k n pc L (.long y :: .long x :: st) h F := by
  intro r hr p e s m args below meth c H locs A B hl hM hS
  have hg := g_dec B.2.2.2.2.2.2.2.2.2 hd hn
  have q := kk r hr p e s m args below meth c H locs A B hl hM hS
  rw [hn] at q
  exact W.lcmp B.1 B.2.1 hg q
theorem X_dcmp {x y : UInt64} {op : CmpOp} (hd : g_lk (m_code M) pc = some (.dcmp op, nx, x1, x2)) (hn : nx = pc + 1)  (kk : GX l G M Φ k n nx L (.int (Op.cmpValue (FP.dcmp x y) op) :: st) h F) : GX l G M Φ k n pc L (.double y :: .double x :: st) h F := by
  intro r hr p e s m args below meth c H locs A B hl hM hS
  have hg := g_dec B.2.2.2.2.2.2.2.2.2 hd hn
  have q := kk r hr p e s m args below meth c H locs A B hl hM hS
  rw [hn] at q
  exact lv_dcmp B.1 B.2.1 hg q
theorem X_dup {v : Value} (hd : g_lk (m_code M) pc = some (.dup, nx, x1, x2)) (hn : nx = pc + 1) (hc : v.category = 1) (kk : GX l G M Φ k n nx L (v :: v :: st) h F) : GX l G M Φ k n pc L (v :: st) h F := by
  intro r hr p e s m args below meth c H locs A B hl hM hS
  have hg := g_dec B.2.2.2.2.2.2.2.2.2 hd hn
  have q := kk r hr p e s m args below meth c H locs A B hl hM hS
  rw [hn] at q
  exact lv_dup B.1 B.2.1 hg hc q
theorem X_pop {v : Value} (hd : g_lk (m_code M) pc = some (.pop, nx, x1, x2)) (hn : nx = pc + 1) (hc : v.category = 1) (kk : GX l G M Φ k n nx L (st) h F) : GX l G M Φ k n pc L (v :: st) h F := by
  intro r hr p e s m args below meth c H locs A B hl hM hS
  have hg := g_dec B.2.2.2.2.2.2.2.2.2 hd hn
  have q := kk r hr p e s m args below meth c H locs A B hl hM hS
  rw [hn] at q
  exact lv_pop B.1 B.2.1 hg hc q
theorem X_dup2 {v w : Value} (hd : g_lk (m_code M) pc = some (.dup2, nx, x1, x2)) (hn : nx = pc + 1) (hc : v.category = 1) (hc2 : w.category = 1) (kk : GX l G M Φ k n nx L (v :: w :: v :: w :: st) h F) : GX l G M Φ k n pc L (v :: w :: st) h F := by
  intro r hr p e s m args below meth c H locs A B hl hM hS
  have hg := g_dec B.2.2.2.2.2.2.2.2.2 hd hn
  have q := kk r hr p e s m args below meth c H locs A B hl hM hS
  rw [hn] at q
  exact lv_dup2_11 B.1 B.2.1 hg hc hc2 q
theorem X_idiv {x y v : Int32} {F : Option α} (hd : g_lk (m_code M) pc = some (.idiv, nx, x1, x2)) (hn : nx = pc + 1) (hv : x / y = v) (hne : ¬ y = 0) (kk : GX l G M Φ k n nx L (.int v :: st) h F) : GX l G M Φ k n pc L (.int y :: .int x :: st) h F := by
  intro r hr p e s m args below meth c H locs A B hl hM hS
  have hg := g_dec B.2.2.2.2.2.2.2.2.2 hd hn
  have q := kk r hr p e s m args below meth c H locs A B hl hM hS
  rw [hn, ← hv] at q
  exact lv_idiv B.1 B.2.1 hg hne q
theorem X_irem {x y v : Int32} {F : Option α} (hd : g_lk (m_code M) pc = some (.irem, nx, x1, x2)) (hn : nx = pc + 1) (hv : x - x / y * y = v) (hne : ¬ y = 0) (kk : GX l G M Φ k n nx L (.int v :: st) h F) : GX l G M Φ k n pc L (.int y :: .int x :: st) h F := by
  intro r hr p e s m args below meth c H locs A B hl hM hS
  have hg := g_dec B.2.2.2.2.2.2.2.2.2 hd hn
  have q := kk r hr p e s m args below meth c H locs A B hl hM hS
  rw [hn, ← hv] at q
  exact lv_irem B.1 B.2.1 hg hne q
theorem X_ddiv {x y : UInt64} (hd : g_lk (m_code M) pc = some (.ddiv, nx, x1, x2)) (hn : nx = pc + 1) (hne : vf_n64 (FP.ddiv x y)) (kk : GX l G M Φ k n nx L (.double (FP.ddiv x y) :: st) h F) : GX l G M Φ k n pc L (.double y :: .double x :: st) h F := by
  intro r hr p e s m args below meth c H locs A B hl hM hS
  have hg := g_dec B.2.2.2.2.2.2.2.2.2 hd hn
  have q := kk r hr p e s m args below meth c H locs A B hl hM hS
  rw [hn] at q
  exact lv_ddiv B.1 B.2.1 hg hne q
theorem X_istore_n {j : Fin 4} {x : Int32} (hd : g_lk (m_code M) pc = some (.istore_n j, nx, x1, x2)) (hn : nx = pc + 1) (hj : Nat.blt (j : Nat) L.length = true) (hp : g_pl L (j : Nat) = true) (kk : GX l G M Φ k n nx (L.set (j : Nat) (some (.int x))) st h F) : GX l G M Φ k n pc L (.int x :: st) h F := by
  intro r hr p e s m args below meth c H locs A B hl hM hS
  have hg := g_dec B.2.2.2.2.2.2.2.2.2 hd hn
  have hj1 : (j : Nat) < m_nL M := by rw [← hl.2.2.1]; exact Nat.blt_eq.mp hj
  refine lv_istore_n B.1 B.2.1 hg rfl hl.has hj1 rfl (fun A' h' => ?_)
  have q := kk r hr p e s m args below meth c H locs A' B (hl.put1 hp h') hM hS
  rw [hn] at q
  exact q
theorem X_istore {j : Nat} {x : Int32} (hd : g_lk (m_code M) pc = some (.istore j, nx, x1, x2)) (hn : nx = pc + 2) (hj : Nat.blt j L.length = true) (hp : g_pl L j = true) (kk : GX l G M Φ k n nx (L.set j (some (.int x))) st h F) : GX l G M Φ k n pc L (.int x :: st) h F := by
  intro r hr p e s m args below meth c H locs A B hl hM hS
  have hg := g_dec B.2.2.2.2.2.2.2.2.2 hd hn
  have hj1 : j < m_nL M := by rw [← hl.2.2.1]; exact Nat.blt_eq.mp hj
  refine lv_istore B.1 B.2.1 hg hl.has hj1 rfl (fun A' h' => ?_)
  have q := kk r hr p e s m args below meth c H locs A' B (hl.put1 hp h') hM hS
  rw [hn] at q
  exact q
theorem X_astore_n {j : Fin 4} {x : Nat} (hd : g_lk (m_code M) pc = some (.astore_n j, nx, x1, x2)) (hn : nx = pc + 1) (hj : Nat.blt (j : Nat) L.length = true) (hp : g_pl L (j : Nat) = true) (kk : GX l G M Φ k n nx (L.set (j : Nat) (some (.ref x))) st h F) : GX l G M Φ k n pc L (.ref x :: st) h F := by
  intro r hr p e s m args below meth c H locs A B hl hM hS
  have hg := g_dec B.2.2.2.2.2.2.2.2.2 hd hn
  have hj1 : (j : Nat) < m_nL M := by rw [← hl.2.2.1]; exact Nat.blt_eq.mp hj
  refine lv_astore_n B.1 B.2.1 hg rfl hl.has hj1 rfl (fun A' h' => ?_)
  have q := kk r hr p e s m args below meth c H locs A' B (hl.put1 hp h') hM hS
  rw [hn] at q
  exact q
theorem X_astore {j : Nat} {x : Nat} (hd : g_lk (m_code M) pc = some (.astore j, nx, x1, x2)) (hn : nx = pc + 2) (hj : Nat.blt j L.length = true) (hp : g_pl L j = true) (kk : GX l G M Φ k n nx (L.set j (some (.ref x))) st h F) : GX l G M Φ k n pc L (.ref x :: st) h F := by
  intro r hr p e s m args below meth c H locs A B hl hM hS
  have hg := g_dec B.2.2.2.2.2.2.2.2.2 hd hn
  have hj1 : j < m_nL M := by rw [← hl.2.2.1]; exact Nat.blt_eq.mp hj
  refine lv_astore B.1 B.2.1 hg hl.has hj1 rfl (fun A' h' => ?_)
  have q := kk r hr p e s m args below meth c H locs A' B (hl.put1 hp h') hM hS
  rw [hn] at q
  exact q
theorem X_lstore_n {j : Fin 4} {x : Int64} (hd : g_lk (m_code M) pc = some (.lstore_n j, nx, x1, x2)) (hn : nx = pc + 1) (hj : Nat.blt ((j : Nat) + 1) L.length = true) (hp : g_pl L (j : Nat) = true) (kk : GX l G M Φ k n nx ((L.set (j : Nat) (some (.long x))).set ((j : Nat) + 1) none) st h F) : GX l G M Φ k n pc L (.long x :: st) h F := by
  intro r hr p e s m args below meth c H locs A B hl hM hS
  have hg := g_dec B.2.2.2.2.2.2.2.2.2 hd hn
  have hj1 : (j : Nat) + 1 < m_nL M := by rw [← hl.2.2.1]; exact Nat.blt_eq.mp hj
  refine lv_lstore_n B.1 B.2.1 hg rfl hl.has hj1 rfl (fun A' h' => ?_)
  have q := kk r hr p e s m args below meth c H locs A' B (hl.put2 hp h') hM hS
  rw [hn] at q
  exact q
theorem X_lstore {j : Nat} {x : Int64} (hd : g_lk (m_code M) pc = some (.lstore j, nx, x1, x2)) (hn : nx = pc + 2) (hj : Nat.blt (j + 1) L.length = true) (hp : g_pl L j = true) (kk : GX l G M Φ k n nx ((L.set j (some (.long x))).set (j + 1) none) st h F) : GX l G M Φ k n pc L (.long x :: st) h F := by
  intro r hr p e s m args below meth c H locs A B hl hM hS
  have hg := g_dec B.2.2.2.2.2.2.2.2.2 hd hn
  have hj1 : j + 1 < m_nL M := by rw [← hl.2.2.1]; exact Nat.blt_eq.mp hj
  refine lv_lstore B.1 B.2.1 hg hl.has hj1 rfl (fun A' h' => ?_)
  have q := kk r hr p e s m args below meth c H locs A' B (hl.put2 hp h') hM hS
  rw [hn] at q
  exact q
theorem X_dstore_n {j : Fin 4} {x : UInt64} (hd : g_lk (m_code M) pc = some (.dstore_n j, nx, x1, x2)) (hn : nx = pc + 1) (hj : Nat.blt ((j : Nat) + 1) L.length = true) (hp : g_pl L (j : Nat) = true) (kk : GX l G M Φ k n nx ((L.set (j : Nat) (some (.double x))).set ((j : Nat) + 1) none) st h F) : GX l G M Φ k n pc L (.double x :: st) h F := by
  intro r hr p e s m args below meth c H locs A B hl hM hS
  have hg := g_dec B.2.2.2.2.2.2.2.2.2 hd hn
  have hj1 : (j : Nat) + 1 < m_nL M := by rw [← hl.2.2.1]; exact Nat.blt_eq.mp hj
  refine lv_dstore_n B.1 B.2.1 hg rfl hl.has hj1 rfl (fun A' h' => ?_)
  have q := kk r hr p e s m args below meth c H locs A' B (hl.put2 hp h') hM hS
  rw [hn] at q
  exact q
theorem X_dstore {j : Nat} {x : UInt64} (hd : g_lk (m_code M) pc = some (.dstore j, nx, x1, x2)) (hn : nx = pc + 2) (hj : Nat.blt (j + 1) L.length = true) (hp : g_pl L j = true) (kk : GX l G M Φ k n nx ((L.set j (some (.double x))).set (j + 1) none) st h F) : GX l G M Φ k n pc L (.double x :: st) h F := by
  intro r hr p e s m args below meth c H locs A B hl hM hS
  have hg := g_dec B.2.2.2.2.2.2.2.2.2 hd hn
  have hj1 : j + 1 < m_nL M := by rw [← hl.2.2.1]; exact Nat.blt_eq.mp hj
  refine lv_dstore B.1 B.2.1 hg hl.has hj1 rfl (fun A' h' => ?_)
  have q := kk r hr p e s m args below meth c H locs A' B (hl.put2 hp h') hM hS
  rw [hn] at q
  exact q
theorem X_iinc {j : Nat} {i : Int} {x v : Int32} (hd : g_lk (m_code M) pc = some (.iinc j i, nx, x1, x2)) (hn : nx = pc + 3) (hx : L[j]? = some (some (.int x))) (hv : x + Int32.ofInt i = v) (hp : g_pl L j = true) (kk : GX l G M Φ k n nx (L.set j (some (.int v))) st h F) : GX l G M Φ k n pc L st h F := by
  intro r hr p e s m args below meth c H locs A B hl hM hS
  have hg := g_dec B.2.2.2.2.2.2.2.2.2 hd hn
  have hj1 : j < m_nL M := by rw [← hl.2.2.1]; exact (List.getElem?_eq_some_iff.mp hx).1
  have hmem : (j, Value.int x) ∈ g_al 0 L := (g_al_mem L 0 j _).mpr ⟨j, by omega, hx⟩
  obtain ⟨kq, hkq⟩ := List.getElem?_of_mem hmem
  refine lv_iinc B.1 B.2.1 hg hl.has hkq hv hj1 rfl (fun A' h' => ?_)
  have q := kk r hr p e s m args below meth c H locs A' B (hl.put1 hp h') hM hS
  rw [hn] at q
  exact q
theorem X_if_eq {x : Int32} {off : Int} (hd : g_lk (m_code M) pc = some (.ifCond .eq off, nx, x1, x2)) (hn : nx = pc + 3) (kt : (x = 0) → GX l G M Φ k n x1 L st h F) (kf : ¬ (x = 0) → GX l G M Φ k n nx L st h F) : GX l G M Φ k n pc L (.int x :: st) h F := by
  intro r hr p e s m args below meth c H locs A B hl hM hS
  have hg := g_dec B.2.2.2.2.2.2.2.2.2 hd hn
  have ht := g_lk_ent _ B.2.2.2.2.2.2.2.2.2 hd
  unfold g_ent at ht
  simp only [Bool.and_eq_true, decide_eq_true_eq] at ht
  refine lv_if_eq B.1 B.2.1 hg ht.2 (fun hc => kt (by first | exact hc | exact Int32.not_lt.mp hc | exact Int32.not_le.mp hc | (simpa using hc)) r hr p e s m args below meth c H locs A B hl hM hS) (fun hc => ?_)
  have q := kf (by first | exact hc | exact Int32.not_lt.mp hc | exact Int32.not_le.mp hc | (simpa using hc)) r hr p e s m args below meth c H locs A B hl hM hS
  rw [hn] at q
  exact q
theorem X_icmp_eq {x y : Int32} {off : Int} (hd : g_lk (m_code M) pc = some (.if_icmp .eq off, nx, x1, x2)) (hn : nx = pc + 3) (kt : (x = y) → GX l G M Φ k n x1 L st h F) (kf : ¬ (x = y) → GX l G M Φ k n nx L st h F) : GX l G M Φ k n pc L (.int y :: .int x :: st) h F := by
  intro r hr p e s m args below meth c H locs A B hl hM hS
  have hg := g_dec B.2.2.2.2.2.2.2.2.2 hd hn
  have ht := g_lk_ent _ B.2.2.2.2.2.2.2.2.2 hd
  unfold g_ent at ht
  simp only [Bool.and_eq_true, decide_eq_true_eq] at ht
  refine lv_icmp_eq B.1 B.2.1 hg ht.2 (fun hc => kt (by first | exact hc | exact Int32.not_lt.mp hc | exact Int32.not_le.mp hc | (simpa using hc)) r hr p e s m args below meth c H locs A B hl hM hS) (fun hc => ?_)
  have q := kf (by first | exact hc | exact Int32.not_lt.mp hc | exact Int32.not_le.mp hc | (simpa using hc)) r hr p e s m args below meth c H locs A B hl hM hS
  rw [hn] at q
  exact q
theorem X_if_ne {x : Int32} {off : Int} (hd : g_lk (m_code M) pc = some (.ifCond .ne off, nx, x1, x2)) (hn : nx = pc + 3) (kt : (¬ x = 0) → GX l G M Φ k n x1 L st h F) (kf : ¬ (¬ x = 0) → GX l G M Φ k n nx L st h F) : GX l G M Φ k n pc L (.int x :: st) h F := by
  intro r hr p e s m args below meth c H locs A B hl hM hS
  have hg := g_dec B.2.2.2.2.2.2.2.2.2 hd hn
  have ht := g_lk_ent _ B.2.2.2.2.2.2.2.2.2 hd
  unfold g_ent at ht
  simp only [Bool.and_eq_true, decide_eq_true_eq] at ht
  refine lv_if_ne B.1 B.2.1 hg ht.2 (fun hc => kt (by first | exact hc | exact Int32.not_lt.mp hc | exact Int32.not_le.mp hc | (simpa using hc)) r hr p e s m args below meth c H locs A B hl hM hS) (fun hc => ?_)
  have q := kf (by first | exact hc | exact Int32.not_lt.mp hc | exact Int32.not_le.mp hc | (simpa using hc)) r hr p e s m args below meth c H locs A B hl hM hS
  rw [hn] at q
  exact q
theorem X_icmp_ne {x y : Int32} {off : Int} (hd : g_lk (m_code M) pc = some (.if_icmp .ne off, nx, x1, x2)) (hn : nx = pc + 3) (kt : (¬ x = y) → GX l G M Φ k n x1 L st h F) (kf : ¬ (¬ x = y) → GX l G M Φ k n nx L st h F) : GX l G M Φ k n pc L (.int y :: .int x :: st) h F := by
  intro r hr p e s m args below meth c H locs A B hl hM hS
  have hg := g_dec B.2.2.2.2.2.2.2.2.2 hd hn
  have ht := g_lk_ent _ B.2.2.2.2.2.2.2.2.2 hd
  unfold g_ent at ht
  simp only [Bool.and_eq_true, decide_eq_true_eq] at ht
  refine lv_icmp_ne B.1 B.2.1 hg ht.2 (fun hc => kt (by first | exact hc | exact Int32.not_lt.mp hc | exact Int32.not_le.mp hc | (simpa using hc)) r hr p e s m args below meth c H locs A B hl hM hS) (fun hc => ?_)
  have q := kf (by first | exact hc | exact Int32.not_lt.mp hc | exact Int32.not_le.mp hc | (simpa using hc)) r hr p e s m args below meth c H locs A B hl hM hS
  rw [hn] at q
  exact q
theorem X_if_lt {x : Int32} {off : Int} (hd : g_lk (m_code M) pc = some (.ifCond .lt off, nx, x1, x2)) (hn : nx = pc + 3) (kt : (x < 0) → GX l G M Φ k n x1 L st h F) (kf : ¬ (x < 0) → GX l G M Φ k n nx L st h F) : GX l G M Φ k n pc L (.int x :: st) h F := by
  intro r hr p e s m args below meth c H locs A B hl hM hS
  have hg := g_dec B.2.2.2.2.2.2.2.2.2 hd hn
  have ht := g_lk_ent _ B.2.2.2.2.2.2.2.2.2 hd
  unfold g_ent at ht
  simp only [Bool.and_eq_true, decide_eq_true_eq] at ht
  refine lv_if_lt B.1 B.2.1 hg ht.2 (fun hc => kt (by first | exact hc | exact Int32.not_lt.mp hc | exact Int32.not_le.mp hc | (simpa using hc)) r hr p e s m args below meth c H locs A B hl hM hS) (fun hc => ?_)
  have q := kf (by first | exact hc | exact Int32.not_lt.mp hc | exact Int32.not_le.mp hc | (simpa using hc)) r hr p e s m args below meth c H locs A B hl hM hS
  rw [hn] at q
  exact q
theorem X_icmp_lt {x y : Int32} {off : Int} (hd : g_lk (m_code M) pc = some (.if_icmp .lt off, nx, x1, x2)) (hn : nx = pc + 3) (kt : (x < y) → GX l G M Φ k n x1 L st h F) (kf : ¬ (x < y) → GX l G M Φ k n nx L st h F) : GX l G M Φ k n pc L (.int y :: .int x :: st) h F := by
  intro r hr p e s m args below meth c H locs A B hl hM hS
  have hg := g_dec B.2.2.2.2.2.2.2.2.2 hd hn
  have ht := g_lk_ent _ B.2.2.2.2.2.2.2.2.2 hd
  unfold g_ent at ht
  simp only [Bool.and_eq_true, decide_eq_true_eq] at ht
  refine lv_icmp_lt B.1 B.2.1 hg ht.2 (fun hc => kt (by first | exact hc | exact Int32.not_lt.mp hc | exact Int32.not_le.mp hc | (simpa using hc)) r hr p e s m args below meth c H locs A B hl hM hS) (fun hc => ?_)
  have q := kf (by first | exact hc | exact Int32.not_lt.mp hc | exact Int32.not_le.mp hc | (simpa using hc)) r hr p e s m args below meth c H locs A B hl hM hS
  rw [hn] at q
  exact q
theorem X_if_ge {x : Int32} {off : Int} (hd : g_lk (m_code M) pc = some (.ifCond .ge off, nx, x1, x2)) (hn : nx = pc + 3) (kt : (0 ≤ x) → GX l G M Φ k n x1 L st h F) (kf : ¬ (0 ≤ x) → GX l G M Φ k n nx L st h F) : GX l G M Φ k n pc L (.int x :: st) h F := by
  intro r hr p e s m args below meth c H locs A B hl hM hS
  have hg := g_dec B.2.2.2.2.2.2.2.2.2 hd hn
  have ht := g_lk_ent _ B.2.2.2.2.2.2.2.2.2 hd
  unfold g_ent at ht
  simp only [Bool.and_eq_true, decide_eq_true_eq] at ht
  refine lv_if_ge B.1 B.2.1 hg ht.2 (fun hc => kt (by first | exact hc | exact Int32.not_lt.mp hc | exact Int32.not_le.mp hc | (simpa using hc)) r hr p e s m args below meth c H locs A B hl hM hS) (fun hc => ?_)
  have q := kf (by first | exact hc | exact Int32.not_lt.mp hc | exact Int32.not_le.mp hc | (simpa using hc)) r hr p e s m args below meth c H locs A B hl hM hS
  rw [hn] at q
  exact q
theorem X_icmp_ge {x y : Int32} {off : Int} (hd : g_lk (m_code M) pc = some (.if_icmp .ge off, nx, x1, x2)) (hn : nx = pc + 3) (kt : (y ≤ x) → GX l G M Φ k n x1 L st h F) (kf : ¬ (y ≤ x) → GX l G M Φ k n nx L st h F) : GX l G M Φ k n pc L (.int y :: .int x :: st) h F := by
  intro r hr p e s m args below meth c H locs A B hl hM hS
  have hg := g_dec B.2.2.2.2.2.2.2.2.2 hd hn
  have ht := g_lk_ent _ B.2.2.2.2.2.2.2.2.2 hd
  unfold g_ent at ht
  simp only [Bool.and_eq_true, decide_eq_true_eq] at ht
  refine lv_icmp_ge B.1 B.2.1 hg ht.2 (fun hc => kt (by first | exact hc | exact Int32.not_lt.mp hc | exact Int32.not_le.mp hc | (simpa using hc)) r hr p e s m args below meth c H locs A B hl hM hS) (fun hc => ?_)
  have q := kf (by first | exact hc | exact Int32.not_lt.mp hc | exact Int32.not_le.mp hc | (simpa using hc)) r hr p e s m args below meth c H locs A B hl hM hS
  rw [hn] at q
  exact q
theorem X_if_gt {x : Int32} {off : Int} (hd : g_lk (m_code M) pc = some (.ifCond .gt off, nx, x1, x2)) (hn : nx = pc + 3) (kt : (0 < x) → GX l G M Φ k n x1 L st h F) (kf : ¬ (0 < x) → GX l G M Φ k n nx L st h F) : GX l G M Φ k n pc L (.int x :: st) h F := by
  intro r hr p e s m args below meth c H locs A B hl hM hS
  have hg := g_dec B.2.2.2.2.2.2.2.2.2 hd hn
  have ht := g_lk_ent _ B.2.2.2.2.2.2.2.2.2 hd
  unfold g_ent at ht
  simp only [Bool.and_eq_true, decide_eq_true_eq] at ht
  refine lv_if_gt B.1 B.2.1 hg ht.2 (fun hc => kt (by first | exact hc | exact Int32.not_lt.mp hc | exact Int32.not_le.mp hc | (simpa using hc)) r hr p e s m args below meth c H locs A B hl hM hS) (fun hc => ?_)
  have q := kf (by first | exact hc | exact Int32.not_lt.mp hc | exact Int32.not_le.mp hc | (simpa using hc)) r hr p e s m args below meth c H locs A B hl hM hS
  rw [hn] at q
  exact q
theorem X_icmp_gt {x y : Int32} {off : Int} (hd : g_lk (m_code M) pc = some (.if_icmp .gt off, nx, x1, x2)) (hn : nx = pc + 3) (kt : (y < x) → GX l G M Φ k n x1 L st h F) (kf : ¬ (y < x) → GX l G M Φ k n nx L st h F) : GX l G M Φ k n pc L (.int y :: .int x :: st) h F := by
  intro r hr p e s m args below meth c H locs A B hl hM hS
  have hg := g_dec B.2.2.2.2.2.2.2.2.2 hd hn
  have ht := g_lk_ent _ B.2.2.2.2.2.2.2.2.2 hd
  unfold g_ent at ht
  simp only [Bool.and_eq_true, decide_eq_true_eq] at ht
  refine lv_icmp_gt B.1 B.2.1 hg ht.2 (fun hc => kt (by first | exact hc | exact Int32.not_lt.mp hc | exact Int32.not_le.mp hc | (simpa using hc)) r hr p e s m args below meth c H locs A B hl hM hS) (fun hc => ?_)
  have q := kf (by first | exact hc | exact Int32.not_lt.mp hc | exact Int32.not_le.mp hc | (simpa using hc)) r hr p e s m args below meth c H locs A B hl hM hS
  rw [hn] at q
  exact q
theorem X_if_le {x : Int32} {off : Int} (hd : g_lk (m_code M) pc = some (.ifCond .le off, nx, x1, x2)) (hn : nx = pc + 3) (kt : (x ≤ 0) → GX l G M Φ k n x1 L st h F) (kf : ¬ (x ≤ 0) → GX l G M Φ k n nx L st h F) : GX l G M Φ k n pc L (.int x :: st) h F := by
  intro r hr p e s m args below meth c H locs A B hl hM hS
  have hg := g_dec B.2.2.2.2.2.2.2.2.2 hd hn
  have ht := g_lk_ent _ B.2.2.2.2.2.2.2.2.2 hd
  unfold g_ent at ht
  simp only [Bool.and_eq_true, decide_eq_true_eq] at ht
  refine lv_if_le B.1 B.2.1 hg ht.2 (fun hc => kt (by first | exact hc | exact Int32.not_lt.mp hc | exact Int32.not_le.mp hc | (simpa using hc)) r hr p e s m args below meth c H locs A B hl hM hS) (fun hc => ?_)
  have q := kf (by first | exact hc | exact Int32.not_lt.mp hc | exact Int32.not_le.mp hc | (simpa using hc)) r hr p e s m args below meth c H locs A B hl hM hS
  rw [hn] at q
  exact q
theorem X_icmp_le {x y : Int32} {off : Int} (hd : g_lk (m_code M) pc = some (.if_icmp .le off, nx, x1, x2)) (hn : nx = pc + 3) (kt : (x ≤ y) → GX l G M Φ k n x1 L st h F) (kf : ¬ (x ≤ y) → GX l G M Φ k n nx L st h F) : GX l G M Φ k n pc L (.int y :: .int x :: st) h F := by
  intro r hr p e s m args below meth c H locs A B hl hM hS
  have hg := g_dec B.2.2.2.2.2.2.2.2.2 hd hn
  have ht := g_lk_ent _ B.2.2.2.2.2.2.2.2.2 hd
  unfold g_ent at ht
  simp only [Bool.and_eq_true, decide_eq_true_eq] at ht
  refine lv_icmp_le B.1 B.2.1 hg ht.2 (fun hc => kt (by first | exact hc | exact Int32.not_lt.mp hc | exact Int32.not_le.mp hc | (simpa using hc)) r hr p e s m args below meth c H locs A B hl hM hS) (fun hc => ?_)
  have q := kf (by first | exact hc | exact Int32.not_lt.mp hc | exact Int32.not_le.mp hc | (simpa using hc)) r hr p e s m args below meth c H locs A B hl hM hS
  rw [hn] at q
  exact q
theorem X_goto {off : Int} (hd : g_lk (m_code M) pc = some (.goto off, nx, x1, x2)) (hn : nx = pc + 3) (kk : GX l G M Φ k n x1 L st h F) : GX l G M Φ k n pc L st h F := by
  intro r hr p e s m args below meth c H locs A B hl hM hS
  have hg := g_dec B.2.2.2.2.2.2.2.2.2 hd hn
  have ht := g_lk_ent _ B.2.2.2.2.2.2.2.2.2 hd
  unfold g_ent at ht
  simp only [Bool.and_eq_true, decide_eq_true_eq] at ht
  exact lv_goto B.1 B.2.1 hg ht.2 (kk r hr p e s m args below meth c H locs A B hl hM hS)
theorem X_ifnonnull {x : Option Nat} {off : Int} (hd : g_lk (m_code M) pc = some (.ifnonnull off, nx, x1, x2)) (hn : nx = pc + 3) (kt : ∀ a, x = some a → GX l G M Φ k n x1 L st h F) (kf : x = none → GX l G M Φ k n nx L st h F) : GX l G M Φ k n pc L (va_rf x :: st) h F := by
  intro r hr p e s m args below meth c H locs A B hl hM hS
  have hg := g_dec B.2.2.2.2.2.2.2.2.2 hd hn
  have ht := g_lk_ent _ B.2.2.2.2.2.2.2.2.2 hd
  unfold g_ent at ht
  simp only [Bool.and_eq_true, decide_eq_true_eq] at ht
  cases x with
  | none =>
    have q := kf rfl r hr p e s m args below meth c H locs A B hl hM hS
    rw [hn] at q
    exact lv_ifnonnullN B.1 B.2.1 hg q
  | some a => exact lv_ifnonnull B.1 B.2.1 hg ht.2 (kt a rfl r hr p e s m args below meth c H locs A B hl hM hS)
theorem X_ifnull {x : Option Nat} {off : Int} (hd : g_lk (m_code M) pc = some (.ifnull off, nx, x1, x2)) (hn : nx = pc + 3) (kt : x = none → GX l G M Φ k n x1 L st h F) (kf : ∀ a, x = some a → GX l G M Φ k n nx L st h F) : GX l G M Φ k n pc L (va_rf x :: st) h F := by
  intro r hr p e s m args below meth c H locs A B hl hM hS
  have hg := g_dec B.2.2.2.2.2.2.2.2.2 hd hn
  have ht := g_lk_ent _ B.2.2.2.2.2.2.2.2.2 hd
  unfold g_ent at ht
  simp only [Bool.and_eq_true, decide_eq_true_eq] at ht
  cases x with
  | none => exact lv_ifnullN B.1 B.2.1 hg ht.2 (kt rfl r hr p e s m args below meth c H locs A B hl hM hS)
  | some a =>
    have q := kf a rfl r hr p e s m args below meth c H locs A B hl hM hS
    rw [hn] at q
    exact lv_ifnull B.1 B.2.1 hg q
end GXR
