/-! the law's own calls with handlers -/
def f_L_load (G : gG) (h : gH) (a0 : Nat) (p1 : Int32) : Option (Int32 × gH) :=
  bif g_is h a0 7 then
  match f_X7_load h a0 p1 with
  | none => none
  | some (.inr v, h1) => some (v, h1)
  | some (.inl 1, h1) => some (-2000000098, (h.1 + 1, h1.2))
  | _ => none
  else none
set_option maxRecDepth 100000 in
theorem cy_L_load {l : Launch} {G : gG} (hl : l.stackTraces = false) {h : gH} {a0 : Nat} {p1 : Int32} {r : Int32} {h1 : gH} (e : f_L_load G h a0 p1 = some (r, h1)) : CtY l G M_L_load [.ref a0, .int p1] h (some (.int r)) h1 := by
  refine CtY_of (L := [some (.ref a0), some (.int p1), none]) ok_L_load (by decide +kernel) rfl rfl rfl (ρ := g_wI) (F := f_L_load G h a0 p1) ?_ e rfl
  refine X_aload_n rfl rfl rfl ?_
  refine X_iload_n rfl rfl rfl ?_
  unfold f_L_load
  cases hg : g_is h a0 7 with
  | false => exact X_none
  | true =>
    simp only [cond_true]
    cases he : f_X7_load h a0 p1 with
    | none => exact X_none
    | some o1 =>
      obtain ⟨o, h3⟩ := o1
      cases o with
      | inr v =>
        dsimp only
        refine X_callX (M' := M_X7_load) (nA := 1) (b := a0) (ci := 7) (As := [.int p1]) (st := []) rfl rfl (by decide +kernel) rfl rfl rfl ⟨hg, by decide⟩ (ct_X7_load hl he) rfl rfl (fun v9 e9 => ?_) (fun cx e9 => ?_)
        · cases e9
          exact X_iret rfl rfl rfl rfl rfl rfl rfl
        · cases e9
      | inl c =>
        by_cases c0 : c = 1
        · subst c0
          refine X_callX (M' := M_X7_load) (nA := 1) (b := a0) (ci := 7) (As := [.int p1]) (st := []) rfl rfl (by decide +kernel) rfl rfl rfl ⟨hg, by decide⟩ (ct_X7_load hl he) rfl rfl (fun v9 e9 => ?_) (fun cx e9 => ?_)
          · cases e9
          · cases e9
            refine ⟨[], ⟨0, 5, 6, 40⟩, [], rfl, by decide +kernel, by decide, by decide, by decide +kernel, by decide +kernel, by decide, fun q9 => ?_⟩
            refine X_astore_n rfl rfl rfl rfl ?_
            refine X_ldc (v := -2000000098) rfl rfl (by decide +kernel) ?_
            exact X_iret rfl rfl rfl rfl rfl rfl rfl
        split
        · rename_i q1; cases q1
        · rename_i q1; cases q1
        · rename_i q1; cases q1; exact absurd rfl c0
        · exact X_none
def f_L_state (G : gG) (h : gH) (a0 : Nat) (p1 : Int32) : Option (Int32 × gH) :=
  bif g_is h a0 7 then
  match f_X7_state h a0 p1 with
  | none => none
  | some (.inr v, h1) => some (v, h1)
  | some (.inl 1, h1) => some (-2000000098, (h.1 + 1, h1.2))
  | _ => none
  else none
set_option maxRecDepth 100000 in
theorem cy_L_state {l : Launch} {G : gG} (hl : l.stackTraces = false) {h : gH} {a0 : Nat} {p1 : Int32} {r : Int32} {h1 : gH} (e : f_L_state G h a0 p1 = some (r, h1)) : CtY l G M_L_state [.ref a0, .int p1] h (some (.int r)) h1 := by
  refine CtY_of (L := [some (.ref a0), some (.int p1), none]) ok_L_state (by decide +kernel) rfl rfl rfl (ρ := g_wI) (F := f_L_state G h a0 p1) ?_ e rfl
  refine X_aload_n rfl rfl rfl ?_
  refine X_iload_n rfl rfl rfl ?_
  unfold f_L_state
  cases hg : g_is h a0 7 with
  | false => exact X_none
  | true =>
    simp only [cond_true]
    cases he : f_X7_state h a0 p1 with
    | none => exact X_none
    | some o1 =>
      obtain ⟨o, h3⟩ := o1
      cases o with
      | inr v =>
        dsimp only
        refine X_callX (M' := M_X7_state) (nA := 1) (b := a0) (ci := 7) (As := [.int p1]) (st := []) rfl rfl (by decide +kernel) rfl rfl rfl ⟨hg, by decide⟩ (ct_X7_state hl he) rfl rfl (fun v9 e9 => ?_) (fun cx e9 => ?_)
        · cases e9
          exact X_iret rfl rfl rfl rfl rfl rfl rfl
        · cases e9
      | inl c =>
        by_cases c0 : c = 1
        · subst c0
          refine X_callX (M' := M_X7_state) (nA := 1) (b := a0) (ci := 7) (As := [.int p1]) (st := []) rfl rfl (by decide +kernel) rfl rfl rfl ⟨hg, by decide⟩ (ct_X7_state hl he) rfl rfl (fun v9 e9 => ?_) (fun cx e9 => ?_)
          · cases e9
          · cases e9
            refine ⟨[], ⟨0, 5, 6, 40⟩, [], rfl, by decide +kernel, by decide, by decide, by decide +kernel, by decide +kernel, by decide, fun q9 => ?_⟩
            refine X_astore_n rfl rfl rfl rfl ?_
            refine X_ldc (v := -2000000098) rfl rfl (by decide +kernel) ?_
            exact X_iret rfl rfl rfl rfl rfl rfl rfl
        split
        · rename_i q1; cases q1
        · rename_i q1; cases q1
        · rename_i q1; cases q1; exact absurd rfl c0
        · exact X_none
def f_L_channel (G : gG) (h : gH) (a0 : Nat) (p1 : Int32) (p2 : Int32) : Option (Int32 × gH) :=
  bif g_is h a0 7 then
  match f_X7_channel h a0 p1 p2 with
  | none => none
  | some (.inr v, h1) => some (v, h1)
  | some (.inl 2, h1) => some (-2000000097, (h.1 + 1, h1.2))
  | some (.inl 1, h1) => some (-2000000098, (h.1 + 1, h1.2))
  | _ => none
  else none
set_option maxRecDepth 100000 in
theorem cy_L_channel {l : Launch} {G : gG} (hl : l.stackTraces = false) {h : gH} {a0 : Nat} {p1 : Int32} {p2 : Int32} {r : Int32} {h1 : gH} (e : f_L_channel G h a0 p1 p2 = some (r, h1)) : CtY l G M_L_channel [.ref a0, .int p1, .int p2] h (some (.int r)) h1 := by
  refine CtY_of (L := [some (.ref a0), some (.int p1), some (.int p2), none]) ok_L_channel (by decide +kernel) rfl rfl rfl (ρ := g_wI) (F := f_L_channel G h a0 p1 p2) ?_ e rfl
  refine X_aload_n rfl rfl rfl ?_
  refine X_iload_n rfl rfl rfl ?_
  refine X_iload_n rfl rfl rfl ?_
  unfold f_L_channel
  cases hg : g_is h a0 7 with
  | false => exact X_none
  | true =>
    simp only [cond_true]
    cases he : f_X7_channel h a0 p1 p2 with
    | none => exact X_none
    | some o1 =>
      obtain ⟨o, h3⟩ := o1
      cases o with
      | inr v =>
        dsimp only
        refine X_callX (M' := M_X7_channel) (nA := 2) (b := a0) (ci := 7) (As := [.int p1, .int p2]) (st := []) rfl rfl (by decide +kernel) rfl rfl rfl ⟨hg, by decide⟩ (ct_X7_channel hl he) rfl rfl (fun v9 e9 => ?_) (fun cx e9 => ?_)
        · cases e9
          exact X_iret rfl rfl rfl rfl rfl rfl rfl
        · cases e9
      | inl c =>
        by_cases c0 : c = 2
        · subst c0
          refine X_callX (M' := M_X7_channel) (nA := 2) (b := a0) (ci := 7) (As := [.int p1, .int p2]) (st := []) rfl rfl (by decide +kernel) rfl rfl rfl ⟨hg, by decide⟩ (ct_X7_channel hl he) rfl rfl (fun v9 e9 => ?_) (fun cx e9 => ?_)
          · cases e9
          · cases e9
            refine ⟨[], ⟨0, 6, 7, 50⟩, [⟨0, 6, 11, 40⟩], rfl, by decide +kernel, by decide, by decide, by decide +kernel, by decide +kernel, by decide, fun q9 => ?_⟩
            refine X_astore_n rfl rfl rfl rfl ?_
            refine X_ldc (v := -2000000097) rfl rfl (by decide +kernel) ?_
            exact X_iret rfl rfl rfl rfl rfl rfl rfl
        by_cases c1 : c = 1
        · subst c1
          refine X_callX (M' := M_X7_channel) (nA := 2) (b := a0) (ci := 7) (As := [.int p1, .int p2]) (st := []) rfl rfl (by decide +kernel) rfl rfl rfl ⟨hg, by decide⟩ (ct_X7_channel hl he) rfl rfl (fun v9 e9 => ?_) (fun cx e9 => ?_)
          · cases e9
          · cases e9
            refine ⟨[((⟨0, 6, 7, 50⟩ : ExceptionTableEntry), "java/lang/IndexOutOfBoundsException")], ⟨0, 6, 11, 40⟩, [], rfl, by decide +kernel, by decide, by decide, by decide +kernel, by decide +kernel, by decide, fun q9 => ?_⟩
            refine X_astore_n rfl rfl rfl rfl ?_
            refine X_ldc (v := -2000000098) rfl rfl (by decide +kernel) ?_
            exact X_iret rfl rfl rfl rfl rfl rfl rfl
        split
        · rename_i q1; cases q1
        · rename_i q1; cases q1
        · rename_i q1; cases q1; exact absurd rfl c0
        · rename_i q1; cases q1; exact absurd rfl c1
        · exact X_none
def f_L_message (G : gG) (h : gH) (a0 : Nat) (p1 : Int32) (p2 : Int32) : Option (Int32 × gH) :=
  bif g_is h a0 7 then
  match f_X7_message h a0 p1 p2 with
  | none => none
  | some (.inr v, h1) => some (v, h1)
  | some (.inl 2, h1) => some (-2000000097, (h.1 + 1, h1.2))
  | some (.inl 1, h1) => some (-2000000098, (h.1 + 1, h1.2))
  | _ => none
  else none
set_option maxRecDepth 100000 in
theorem cy_L_message {l : Launch} {G : gG} (hl : l.stackTraces = false) {h : gH} {a0 : Nat} {p1 : Int32} {p2 : Int32} {r : Int32} {h1 : gH} (e : f_L_message G h a0 p1 p2 = some (r, h1)) : CtY l G M_L_message [.ref a0, .int p1, .int p2] h (some (.int r)) h1 := by
  refine CtY_of (L := [some (.ref a0), some (.int p1), some (.int p2), none]) ok_L_message (by decide +kernel) rfl rfl rfl (ρ := g_wI) (F := f_L_message G h a0 p1 p2) ?_ e rfl
  refine X_aload_n rfl rfl rfl ?_
  refine X_iload_n rfl rfl rfl ?_
  refine X_iload_n rfl rfl rfl ?_
  unfold f_L_message
  cases hg : g_is h a0 7 with
  | false => exact X_none
  | true =>
    simp only [cond_true]
    cases he : f_X7_message h a0 p1 p2 with
    | none => exact X_none
    | some o1 =>
      obtain ⟨o, h3⟩ := o1
      cases o with
      | inr v =>
        dsimp only
        refine X_callX (M' := M_X7_message) (nA := 2) (b := a0) (ci := 7) (As := [.int p1, .int p2]) (st := []) rfl rfl (by decide +kernel) rfl rfl rfl ⟨hg, by decide⟩ (ct_X7_message hl he) rfl rfl (fun v9 e9 => ?_) (fun cx e9 => ?_)
        · cases e9
          exact X_iret rfl rfl rfl rfl rfl rfl rfl
        · cases e9
      | inl c =>
        by_cases c0 : c = 2
        · subst c0
          refine X_callX (M' := M_X7_message) (nA := 2) (b := a0) (ci := 7) (As := [.int p1, .int p2]) (st := []) rfl rfl (by decide +kernel) rfl rfl rfl ⟨hg, by decide⟩ (ct_X7_message hl he) rfl rfl (fun v9 e9 => ?_) (fun cx e9 => ?_)
          · cases e9
          · cases e9
            refine ⟨[], ⟨0, 6, 7, 50⟩, [⟨0, 6, 11, 40⟩], rfl, by decide +kernel, by decide, by decide, by decide +kernel, by decide +kernel, by decide, fun q9 => ?_⟩
            refine X_astore_n rfl rfl rfl rfl ?_
            refine X_ldc (v := -2000000097) rfl rfl (by decide +kernel) ?_
            exact X_iret rfl rfl rfl rfl rfl rfl rfl
        by_cases c1 : c = 1
        · subst c1
          refine X_callX (M' := M_X7_message) (nA := 2) (b := a0) (ci := 7) (As := [.int p1, .int p2]) (st := []) rfl rfl (by decide +kernel) rfl rfl rfl ⟨hg, by decide⟩ (ct_X7_message hl he) rfl rfl (fun v9 e9 => ?_) (fun cx e9 => ?_)
          · cases e9
          · cases e9
            refine ⟨[((⟨0, 6, 7, 50⟩ : ExceptionTableEntry), "java/lang/IndexOutOfBoundsException")], ⟨0, 6, 11, 40⟩, [], rfl, by decide +kernel, by decide, by decide, by decide +kernel, by decide +kernel, by decide, fun q9 => ?_⟩
            refine X_astore_n rfl rfl rfl rfl ?_
            refine X_ldc (v := -2000000098) rfl rfl (by decide +kernel) ?_
            exact X_iret rfl rfl rfl rfl rfl rfl rfl
        split
        · rename_i q1; cases q1
        · rename_i q1; cases q1
        · rename_i q1; cases q1; exact absurd rfl c0
        · rename_i q1; cases q1; exact absurd rfl c1
        · exact X_none
def f_L_letter (G : gG) (h : gH) (a0 : Nat) (p1 : Int32) (p2 : Int32) (p3 : Int32) : Option (Int32 × gH) :=
  bif g_is h a0 7 then
  match f_X7_letter h a0 p1 p2 p3 with
  | none => none
  | some (.inr v, h1) => some (v, h1)
  | some (.inl 2, h1) => some (-2000000097, (h.1 + 1, h1.2))
  | some (.inl 3, h1) => some (-2000000100, (h.1 + 1, h1.2))
  | _ => none
  else none
set_option maxRecDepth 100000 in
theorem cy_L_letter {l : Launch} {G : gG} (hl : l.stackTraces = false) {h : gH} {a0 : Nat} {p1 : Int32} {p2 : Int32} {p3 : Int32} {r : Int32} {h1 : gH} (e : f_L_letter G h a0 p1 p2 p3 = some (r, h1)) : CtY l G M_L_letter [.ref a0, .int p1, .int p2, .int p3] h (some (.int r)) h1 := by
  refine CtY_of (L := [some (.ref a0), some (.int p1), some (.int p2), some (.int p3), none]) ok_L_letter (by decide +kernel) rfl rfl rfl (ρ := g_wI) (F := f_L_letter G h a0 p1 p2 p3) ?_ e rfl
  refine X_aload_n rfl rfl rfl ?_
  refine X_iload_n rfl rfl rfl ?_
  refine X_iload_n rfl rfl rfl ?_
  refine X_iload_n rfl rfl rfl ?_
  unfold f_L_letter
  cases hg : g_is h a0 7 with
  | false => exact X_none
  | true =>
    simp only [cond_true]
    cases he : f_X7_letter h a0 p1 p2 p3 with
    | none => exact X_none
    | some o1 =>
      obtain ⟨o, h3⟩ := o1
      cases o with
      | inr v =>
        dsimp only
        refine X_callX (M' := M_X7_letter) (nA := 3) (b := a0) (ci := 7) (As := [.int p1, .int p2, .int p3]) (st := []) rfl rfl (by decide +kernel) rfl rfl rfl ⟨hg, by decide⟩ (ct_X7_letter hl he) rfl rfl (fun v9 e9 => ?_) (fun cx e9 => ?_)
        · cases e9
          exact X_iret rfl rfl rfl rfl rfl rfl rfl
        · cases e9
      | inl c =>
        by_cases c0 : c = 2
        · subst c0
          refine X_callX (M' := M_X7_letter) (nA := 3) (b := a0) (ci := 7) (As := [.int p1, .int p2, .int p3]) (st := []) rfl rfl (by decide +kernel) rfl rfl rfl ⟨hg, by decide⟩ (ct_X7_letter hl he) rfl rfl (fun v9 e9 => ?_) (fun cx e9 => ?_)
          · cases e9
          · cases e9
            refine ⟨[], ⟨0, 7, 8, 50⟩, [⟨0, 7, 13, 60⟩], rfl, by decide +kernel, by decide, by decide, by decide +kernel, by decide +kernel, by decide, fun q9 => ?_⟩
            refine X_astore rfl rfl rfl rfl ?_
            refine X_ldc (v := -2000000097) rfl rfl (by decide +kernel) ?_
            exact X_iret rfl rfl rfl rfl rfl rfl rfl
        by_cases c1 : c = 3
        · subst c1
          refine X_callX (M' := M_X7_letter) (nA := 3) (b := a0) (ci := 7) (As := [.int p1, .int p2, .int p3]) (st := []) rfl rfl (by decide +kernel) rfl rfl rfl ⟨hg, by decide⟩ (ct_X7_letter hl he) rfl rfl (fun v9 e9 => ?_) (fun cx e9 => ?_)
          · cases e9
          · cases e9
            refine ⟨[((⟨0, 7, 8, 50⟩ : ExceptionTableEntry), "java/lang/IndexOutOfBoundsException")], ⟨0, 7, 13, 60⟩, [], rfl, by decide +kernel, by decide, by decide, by decide +kernel, by decide +kernel, by decide, fun q9 => ?_⟩
            refine X_astore rfl rfl rfl rfl ?_
            refine X_ldc (v := -2000000100) rfl rfl (by decide +kernel) ?_
            exact X_iret rfl rfl rfl rfl rfl rfl rfl
        split
        · rename_i q1; cases q1
        · rename_i q1; cases q1
        · rename_i q1; cases q1; exact absurd rfl c0
        · rename_i q1; cases q1; exact absurd rfl c1
        · exact X_none
def f_L_why (G : gG) (h : gH) (a0 : Nat) (p1 : Int32) (p2 : Int32) : Option (Int32 × gH) :=
  bif g_is h a0 7 then
  match f_X7_why h a0 p1 p2 with
  | none => none
  | some (.inr v, h1) => some (v, h1)
  | some (.inl 2, h1) => some (-2000000097, (h.1 + 1, h1.2))
  | some (.inl 3, h1) => some (-2000000100, (h.1 + 1, h1.2))
  | _ => none
  else none
set_option maxRecDepth 100000 in
theorem cy_L_why {l : Launch} {G : gG} (hl : l.stackTraces = false) {h : gH} {a0 : Nat} {p1 : Int32} {p2 : Int32} {r : Int32} {h1 : gH} (e : f_L_why G h a0 p1 p2 = some (r, h1)) : CtY l G M_L_why [.ref a0, .int p1, .int p2] h (some (.int r)) h1 := by
  refine CtY_of (L := [some (.ref a0), some (.int p1), some (.int p2), none]) ok_L_why (by decide +kernel) rfl rfl rfl (ρ := g_wI) (F := f_L_why G h a0 p1 p2) ?_ e rfl
  refine X_aload_n rfl rfl rfl ?_
  refine X_iload_n rfl rfl rfl ?_
  refine X_iload_n rfl rfl rfl ?_
  unfold f_L_why
  cases hg : g_is h a0 7 with
  | false => exact X_none
  | true =>
    simp only [cond_true]
    cases he : f_X7_why h a0 p1 p2 with
    | none => exact X_none
    | some o1 =>
      obtain ⟨o, h3⟩ := o1
      cases o with
      | inr v =>
        dsimp only
        refine X_callX (M' := M_X7_why) (nA := 2) (b := a0) (ci := 7) (As := [.int p1, .int p2]) (st := []) rfl rfl (by decide +kernel) rfl rfl rfl ⟨hg, by decide⟩ (ct_X7_why hl he) rfl rfl (fun v9 e9 => ?_) (fun cx e9 => ?_)
        · cases e9
          exact X_iret rfl rfl rfl rfl rfl rfl rfl
        · cases e9
      | inl c =>
        by_cases c0 : c = 2
        · subst c0
          refine X_callX (M' := M_X7_why) (nA := 2) (b := a0) (ci := 7) (As := [.int p1, .int p2]) (st := []) rfl rfl (by decide +kernel) rfl rfl rfl ⟨hg, by decide⟩ (ct_X7_why hl he) rfl rfl (fun v9 e9 => ?_) (fun cx e9 => ?_)
          · cases e9
          · cases e9
            refine ⟨[], ⟨0, 6, 7, 50⟩, [⟨0, 6, 11, 60⟩], rfl, by decide +kernel, by decide, by decide, by decide +kernel, by decide +kernel, by decide, fun q9 => ?_⟩
            refine X_astore_n rfl rfl rfl rfl ?_
            refine X_ldc (v := -2000000097) rfl rfl (by decide +kernel) ?_
            exact X_iret rfl rfl rfl rfl rfl rfl rfl
        by_cases c1 : c = 3
        · subst c1
          refine X_callX (M' := M_X7_why) (nA := 2) (b := a0) (ci := 7) (As := [.int p1, .int p2]) (st := []) rfl rfl (by decide +kernel) rfl rfl rfl ⟨hg, by decide⟩ (ct_X7_why hl he) rfl rfl (fun v9 e9 => ?_) (fun cx e9 => ?_)
          · cases e9
          · cases e9
            refine ⟨[((⟨0, 6, 7, 50⟩ : ExceptionTableEntry), "java/lang/IndexOutOfBoundsException")], ⟨0, 6, 11, 60⟩, [], rfl, by decide +kernel, by decide, by decide, by decide +kernel, by decide +kernel, by decide, fun q9 => ?_⟩
            refine X_astore_n rfl rfl rfl rfl ?_
            refine X_ldc (v := -2000000100) rfl rfl (by decide +kernel) ?_
            exact X_iret rfl rfl rfl rfl rfl rfl rfl
        split
        · rename_i q1; cases q1
        · rename_i q1; cases q1
        · rename_i q1; cases q1; exact absurd rfl c0
        · rename_i q1; cases q1; exact absurd rfl c1
        · exact X_none
def f_L_mist (G : gG) (h : gH) (a0 : Nat) (p1 : Int32) : Option (Int32 × gH) :=
  bif g_is h a0 7 then
  match f_X7_mist h a0 p1 with
  | none => none
  | some (.inr v, h1) => some (v, h1)
  | some (.inl 1, h1) => some (-2000000098, (h.1 + 1, h1.2))
  | _ => none
  else none
set_option maxRecDepth 100000 in
theorem cy_L_mist {l : Launch} {G : gG} (hl : l.stackTraces = false) {h : gH} {a0 : Nat} {p1 : Int32} {r : Int32} {h1 : gH} (e : f_L_mist G h a0 p1 = some (r, h1)) : CtY l G M_L_mist [.ref a0, .int p1] h (some (.int r)) h1 := by
  refine CtY_of (L := [some (.ref a0), some (.int p1), none]) ok_L_mist (by decide +kernel) rfl rfl rfl (ρ := g_wI) (F := f_L_mist G h a0 p1) ?_ e rfl
  refine X_aload_n rfl rfl rfl ?_
  refine X_iload_n rfl rfl rfl ?_
  unfold f_L_mist
  cases hg : g_is h a0 7 with
  | false => exact X_none
  | true =>
    simp only [cond_true]
    cases he : f_X7_mist h a0 p1 with
    | none => exact X_none
    | some o1 =>
      obtain ⟨o, h3⟩ := o1
      cases o with
      | inr v =>
        dsimp only
        refine X_callX (M' := M_X7_mist) (nA := 1) (b := a0) (ci := 7) (As := [.int p1]) (st := []) rfl rfl (by decide +kernel) rfl rfl rfl ⟨hg, by decide⟩ (ct_X7_mist hl he) rfl rfl (fun v9 e9 => ?_) (fun cx e9 => ?_)
        · cases e9
          exact X_iret rfl rfl rfl rfl rfl rfl rfl
        · cases e9
      | inl c =>
        by_cases c0 : c = 1
        · subst c0
          refine X_callX (M' := M_X7_mist) (nA := 1) (b := a0) (ci := 7) (As := [.int p1]) (st := []) rfl rfl (by decide +kernel) rfl rfl rfl ⟨hg, by decide⟩ (ct_X7_mist hl he) rfl rfl (fun v9 e9 => ?_) (fun cx e9 => ?_)
          · cases e9
          · cases e9
            refine ⟨[], ⟨0, 5, 6, 40⟩, [], rfl, by decide +kernel, by decide, by decide, by decide +kernel, by decide +kernel, by decide, fun q9 => ?_⟩
            refine X_astore_n rfl rfl rfl rfl ?_
            refine X_ldc (v := -2000000098) rfl rfl (by decide +kernel) ?_
            exact X_iret rfl rfl rfl rfl rfl rfl rfl
        split
        · rename_i q1; cases q1
        · rename_i q1; cases q1
        · rename_i q1; cases q1; exact absurd rfl c0
        · exact X_none
def f_L_key (G : gG) (h : gH) (a0 : Nat) (p1 : Int32) (p2 : Int32) : Option (Int32 × gH) :=
  bif g_is h a0 7 then
  match f_X7_key h a0 p1 p2 with
  | none => none
  | some (.inr v, h1) => some (v, h1)
  | some (.inl 2, h1) => some (-2000000097, (h.1 + 1, h1.2))
  | some (.inl 1, h1) => some (-2000000098, (h.1 + 1, h1.2))
  | _ => none
  else none
set_option maxRecDepth 100000 in
theorem cy_L_key {l : Launch} {G : gG} (hl : l.stackTraces = false) {h : gH} {a0 : Nat} {p1 : Int32} {p2 : Int32} {r : Int32} {h1 : gH} (e : f_L_key G h a0 p1 p2 = some (r, h1)) : CtY l G M_L_key [.ref a0, .int p1, .int p2] h (some (.int r)) h1 := by
  refine CtY_of (L := [some (.ref a0), some (.int p1), some (.int p2), none]) ok_L_key (by decide +kernel) rfl rfl rfl (ρ := g_wI) (F := f_L_key G h a0 p1 p2) ?_ e rfl
  refine X_aload_n rfl rfl rfl ?_
  refine X_iload_n rfl rfl rfl ?_
  refine X_iload_n rfl rfl rfl ?_
  unfold f_L_key
  cases hg : g_is h a0 7 with
  | false => exact X_none
  | true =>
    simp only [cond_true]
    cases he : f_X7_key h a0 p1 p2 with
    | none => exact X_none
    | some o1 =>
      obtain ⟨o, h3⟩ := o1
      cases o with
      | inr v =>
        dsimp only
        refine X_callX (M' := M_X7_key) (nA := 2) (b := a0) (ci := 7) (As := [.int p1, .int p2]) (st := []) rfl rfl (by decide +kernel) rfl rfl rfl ⟨hg, by decide⟩ (ct_X7_key hl he) rfl rfl (fun v9 e9 => ?_) (fun cx e9 => ?_)
        · cases e9
          exact X_iret rfl rfl rfl rfl rfl rfl rfl
        · cases e9
      | inl c =>
        by_cases c0 : c = 2
        · subst c0
          refine X_callX (M' := M_X7_key) (nA := 2) (b := a0) (ci := 7) (As := [.int p1, .int p2]) (st := []) rfl rfl (by decide +kernel) rfl rfl rfl ⟨hg, by decide⟩ (ct_X7_key hl he) rfl rfl (fun v9 e9 => ?_) (fun cx e9 => ?_)
          · cases e9
          · cases e9
            refine ⟨[], ⟨0, 6, 7, 50⟩, [⟨0, 6, 11, 40⟩], rfl, by decide +kernel, by decide, by decide, by decide +kernel, by decide +kernel, by decide, fun q9 => ?_⟩
            refine X_astore_n rfl rfl rfl rfl ?_
            refine X_ldc (v := -2000000097) rfl rfl (by decide +kernel) ?_
            exact X_iret rfl rfl rfl rfl rfl rfl rfl
        by_cases c1 : c = 1
        · subst c1
          refine X_callX (M' := M_X7_key) (nA := 2) (b := a0) (ci := 7) (As := [.int p1, .int p2]) (st := []) rfl rfl (by decide +kernel) rfl rfl rfl ⟨hg, by decide⟩ (ct_X7_key hl he) rfl rfl (fun v9 e9 => ?_) (fun cx e9 => ?_)
          · cases e9
          · cases e9
            refine ⟨[((⟨0, 6, 7, 50⟩ : ExceptionTableEntry), "java/lang/IndexOutOfBoundsException")], ⟨0, 6, 11, 40⟩, [], rfl, by decide +kernel, by decide, by decide, by decide +kernel, by decide +kernel, by decide, fun q9 => ?_⟩
            refine X_astore_n rfl rfl rfl rfl ?_
            refine X_ldc (v := -2000000098) rfl rfl (by decide +kernel) ?_
            exact X_iret rfl rfl rfl rfl rfl rfl rfl
        split
        · rename_i q1; cases q1
        · rename_i q1; cases q1
        · rename_i q1; cases q1; exact absurd rfl c0
        · rename_i q1; cases q1; exact absurd rfl c1
        · exact X_none
def f_L_next (G : gG) (h : gH) (a0 : Nat) (p1 : Int32) : Option (Int32 × gH) :=
  bif g_is h a0 7 then
  match f_X7_next h a0 p1 with
  | none => none
  | some (.inr v, h1) => some (v, h1)
  | some (.inl 3, h1) => some (-2000000100, (h.1 + 1, h1.2))
  | _ => none
  else none
set_option maxRecDepth 100000 in
theorem cy_L_next {l : Launch} {G : gG} (hl : l.stackTraces = false) {h : gH} {a0 : Nat} {p1 : Int32} {r : Int32} {h1 : gH} (e : f_L_next G h a0 p1 = some (r, h1)) : CtY l G M_L_next [.ref a0, .int p1] h (some (.int r)) h1 := by
  refine CtY_of (L := [some (.ref a0), some (.int p1), none]) ok_L_next (by decide +kernel) rfl rfl rfl (ρ := g_wI) (F := f_L_next G h a0 p1) ?_ e rfl
  refine X_aload_n rfl rfl rfl ?_
  refine X_iload_n rfl rfl rfl ?_
  unfold f_L_next
  cases hg : g_is h a0 7 with
  | false => exact X_none
  | true =>
    simp only [cond_true]
    cases he : f_X7_next h a0 p1 with
    | none => exact X_none
    | some o1 =>
      obtain ⟨o, h3⟩ := o1
      cases o with
      | inr v =>
        dsimp only
        refine X_callX (M' := M_X7_next) (nA := 1) (b := a0) (ci := 7) (As := [.int p1]) (st := []) rfl rfl (by decide +kernel) rfl rfl rfl ⟨hg, by decide⟩ (ct_X7_next hl he) rfl rfl (fun v9 e9 => ?_) (fun cx e9 => ?_)
        · cases e9
          exact X_iret rfl rfl rfl rfl rfl rfl rfl
        · cases e9
      | inl c =>
        by_cases c0 : c = 3
        · subst c0
          refine X_callX (M' := M_X7_next) (nA := 1) (b := a0) (ci := 7) (As := [.int p1]) (st := []) rfl rfl (by decide +kernel) rfl rfl rfl ⟨hg, by decide⟩ (ct_X7_next hl he) rfl rfl (fun v9 e9 => ?_) (fun cx e9 => ?_)
          · cases e9
          · cases e9
            refine ⟨[], ⟨0, 5, 6, 60⟩, [], rfl, by decide +kernel, by decide, by decide, by decide +kernel, by decide +kernel, by decide, fun q9 => ?_⟩
            refine X_astore_n rfl rfl rfl rfl ?_
            refine X_ldc (v := -2000000100) rfl rfl (by decide +kernel) ?_
            exact X_iret rfl rfl rfl rfl rfl rfl rfl
        split
        · rename_i q1; cases q1
        · rename_i q1; cases q1
        · rename_i q1; cases q1; exact absurd rfl c0
        · exact X_none
def f_L_foretold (G : gG) (h : gH) (a0 : Nat) (p1 : Int32) : Option (Int32 × gH) :=
  bif g_is h a0 7 then
  match f_X7_foretold h a0 p1 with
  | none => none
  | some (.inr v, h1) => some (v, h1)
  | some (.inl 1, h1) => some (-2000000098, (h.1 + 1, h1.2))
  | _ => none
  else none
set_option maxRecDepth 100000 in
theorem cy_L_foretold {l : Launch} {G : gG} (hl : l.stackTraces = false) {h : gH} {a0 : Nat} {p1 : Int32} {r : Int32} {h1 : gH} (e : f_L_foretold G h a0 p1 = some (r, h1)) : CtY l G M_L_foretold [.ref a0, .int p1] h (some (.int r)) h1 := by
  refine CtY_of (L := [some (.ref a0), some (.int p1), none]) ok_L_foretold (by decide +kernel) rfl rfl rfl (ρ := g_wI) (F := f_L_foretold G h a0 p1) ?_ e rfl
  refine X_aload_n rfl rfl rfl ?_
  refine X_iload_n rfl rfl rfl ?_
  unfold f_L_foretold
  cases hg : g_is h a0 7 with
  | false => exact X_none
  | true =>
    simp only [cond_true]
    cases he : f_X7_foretold h a0 p1 with
    | none => exact X_none
    | some o1 =>
      obtain ⟨o, h3⟩ := o1
      cases o with
      | inr v =>
        dsimp only
        refine X_callX (M' := M_X7_foretold) (nA := 1) (b := a0) (ci := 7) (As := [.int p1]) (st := []) rfl rfl (by decide +kernel) rfl rfl rfl ⟨hg, by decide⟩ (ct_X7_foretold hl he) rfl rfl (fun v9 e9 => ?_) (fun cx e9 => ?_)
        · cases e9
          exact X_iret rfl rfl rfl rfl rfl rfl rfl
        · cases e9
      | inl c =>
        by_cases c0 : c = 1
        · subst c0
          refine X_callX (M' := M_X7_foretold) (nA := 1) (b := a0) (ci := 7) (As := [.int p1]) (st := []) rfl rfl (by decide +kernel) rfl rfl rfl ⟨hg, by decide⟩ (ct_X7_foretold hl he) rfl rfl (fun v9 e9 => ?_) (fun cx e9 => ?_)
          · cases e9
          · cases e9
            refine ⟨[], ⟨0, 5, 6, 40⟩, [], rfl, by decide +kernel, by decide, by decide, by decide +kernel, by decide +kernel, by decide, fun q9 => ?_⟩
            refine X_astore_n rfl rfl rfl rfl ?_
            refine X_ldc (v := -2000000098) rfl rfl (by decide +kernel) ?_
            exact X_iret rfl rfl rfl rfl rfl rfl rfl
        split
        · rename_i q1; cases q1
        · rename_i q1; cases q1
        · rename_i q1; cases q1; exact absurd rfl c0
        · exact X_none
def f_L_leastPower (G : gG) (h : gH) (a0 : Nat) (p1 : Int32) : Option (Int32 × gH) :=
  bif g_is h a0 7 then
  match f_X7_leastPower h a0 p1 with
  | none => none
  | some (.inr v, h1) => some (v, h1)
  | some (.inl 2, h1) => some (-2000000097, (h.1 + 1, h1.2))
  | _ => none
  else none
set_option maxRecDepth 100000 in
theorem cy_L_leastPower {l : Launch} {G : gG} (hl : l.stackTraces = false) {h : gH} {a0 : Nat} {p1 : Int32} {r : Int32} {h1 : gH} (e : f_L_leastPower G h a0 p1 = some (r, h1)) : CtY l G M_L_leastPower [.ref a0, .int p1] h (some (.int r)) h1 := by
  refine CtY_of (L := [some (.ref a0), some (.int p1), none]) ok_L_leastPower (by decide +kernel) rfl rfl rfl (ρ := g_wI) (F := f_L_leastPower G h a0 p1) ?_ e rfl
  refine X_aload_n rfl rfl rfl ?_
  refine X_iload_n rfl rfl rfl ?_
  unfold f_L_leastPower
  cases hg : g_is h a0 7 with
  | false => exact X_none
  | true =>
    simp only [cond_true]
    cases he : f_X7_leastPower h a0 p1 with
    | none => exact X_none
    | some o1 =>
      obtain ⟨o, h3⟩ := o1
      cases o with
      | inr v =>
        dsimp only
        refine X_callX (M' := M_X7_leastPower) (nA := 1) (b := a0) (ci := 7) (As := [.int p1]) (st := []) rfl rfl (by decide +kernel) rfl rfl rfl ⟨hg, by decide⟩ (ct_X7_leastPower hl he) rfl rfl (fun v9 e9 => ?_) (fun cx e9 => ?_)
        · cases e9
          exact X_iret rfl rfl rfl rfl rfl rfl rfl
        · cases e9
      | inl c =>
        by_cases c0 : c = 2
        · subst c0
          refine X_callX (M' := M_X7_leastPower) (nA := 1) (b := a0) (ci := 7) (As := [.int p1]) (st := []) rfl rfl (by decide +kernel) rfl rfl rfl ⟨hg, by decide⟩ (ct_X7_leastPower hl he) rfl rfl (fun v9 e9 => ?_) (fun cx e9 => ?_)
          · cases e9
          · cases e9
            refine ⟨[], ⟨0, 5, 6, 50⟩, [], rfl, by decide +kernel, by decide, by decide, by decide +kernel, by decide +kernel, by decide, fun q9 => ?_⟩
            refine X_astore_n rfl rfl rfl rfl ?_
            refine X_ldc (v := -2000000097) rfl rfl (by decide +kernel) ?_
            exact X_iret rfl rfl rfl rfl rfl rfl rfl
        split
        · rename_i q1; cases q1
        · rename_i q1; cases q1
        · rename_i q1; cases q1; exact absurd rfl c0
        · exact X_none
def f_L_pass (G : gG) (h : gH) (a0 : Nat) (p1 : Int32) : Option (Int32 × gH) :=
  bif g_is h a0 7 then
  match f_X7_pass h a0 p1 with
  | none => none
  | some (.inr v, h1) => some (v, h1)
  | some (.inl 1, h1) => some (-2000000098, (h.1 + 1, h1.2))
  | _ => none
  else none
set_option maxRecDepth 100000 in
theorem cy_L_pass {l : Launch} {G : gG} (hl : l.stackTraces = false) {h : gH} {a0 : Nat} {p1 : Int32} {r : Int32} {h1 : gH} (e : f_L_pass G h a0 p1 = some (r, h1)) : CtY l G M_L_pass [.ref a0, .int p1] h (some (.int r)) h1 := by
  refine CtY_of (L := [some (.ref a0), some (.int p1), none]) ok_L_pass (by decide +kernel) rfl rfl rfl (ρ := g_wI) (F := f_L_pass G h a0 p1) ?_ e rfl
  refine X_aload_n rfl rfl rfl ?_
  refine X_iload_n rfl rfl rfl ?_
  unfold f_L_pass
  cases hg : g_is h a0 7 with
  | false => exact X_none
  | true =>
    simp only [cond_true]
    cases he : f_X7_pass h a0 p1 with
    | none => exact X_none
    | some o1 =>
      obtain ⟨o, h3⟩ := o1
      cases o with
      | inr v =>
        dsimp only
        refine X_callX (M' := M_X7_pass) (nA := 1) (b := a0) (ci := 7) (As := [.int p1]) (st := []) rfl rfl (by decide +kernel) rfl rfl rfl ⟨hg, by decide⟩ (ct_X7_pass hl he) rfl rfl (fun v9 e9 => ?_) (fun cx e9 => ?_)
        · cases e9
          exact X_iret rfl rfl rfl rfl rfl rfl rfl
        · cases e9
      | inl c =>
        by_cases c0 : c = 1
        · subst c0
          refine X_callX (M' := M_X7_pass) (nA := 1) (b := a0) (ci := 7) (As := [.int p1]) (st := []) rfl rfl (by decide +kernel) rfl rfl rfl ⟨hg, by decide⟩ (ct_X7_pass hl he) rfl rfl (fun v9 e9 => ?_) (fun cx e9 => ?_)
          · cases e9
          · cases e9
            refine ⟨[], ⟨0, 5, 6, 40⟩, [], rfl, by decide +kernel, by decide, by decide, by decide +kernel, by decide +kernel, by decide, fun q9 => ?_⟩
            refine X_astore_n rfl rfl rfl rfl ?_
            refine X_ldc (v := -2000000098) rfl rfl (by decide +kernel) ?_
            exact X_iret rfl rfl rfl rfl rfl rfl rfl
        split
        · rename_i q1; cases q1
        · rename_i q1; cases q1
        · rename_i q1; cases q1; exact absurd rfl c0
        · exact X_none
def f_L_send (G : gG) (h : gH) (a0 : Nat) (p1 : Int32) (p2 : Int32) (p3 : Int32) : Option (Int32 × gH) :=
  bif g_is h a0 7 then
  match f_X7_send h a0 p1 p2 p3 with
  | none => none
  | some (.inr v, h1) => some (v, h1)
  | some (.inl 2, h1) => some (-2000000097, (h.1 + 1, h1.2))
  | some (.inl 1, h1) => some (-2000000098, (h.1 + 1, h1.2))
  | some (.inl 4, h1) => some (-2000000099, (h.1 + 1, h1.2))
  | _ => none
  else none
set_option maxRecDepth 100000 in
theorem cy_L_send {l : Launch} {G : gG} (hl : l.stackTraces = false) {h : gH} {a0 : Nat} {p1 : Int32} {p2 : Int32} {p3 : Int32} {r : Int32} {h1 : gH} (e : f_L_send G h a0 p1 p2 p3 = some (r, h1)) : CtY l G M_L_send [.ref a0, .int p1, .int p2, .int p3] h (some (.int r)) h1 := by
  refine CtY_of (L := [some (.ref a0), some (.int p1), some (.int p2), some (.int p3), none]) ok_L_send (by decide +kernel) rfl rfl rfl (ρ := g_wI) (F := f_L_send G h a0 p1 p2 p3) ?_ e rfl
  refine X_aload_n rfl rfl rfl ?_
  refine X_iload_n rfl rfl rfl ?_
  refine X_iload_n rfl rfl rfl ?_
  refine X_iload_n rfl rfl rfl ?_
  unfold f_L_send
  cases hg : g_is h a0 7 with
  | false => exact X_none
  | true =>
    simp only [cond_true]
    cases he : f_X7_send h a0 p1 p2 p3 with
    | none => exact X_none
    | some o1 =>
      obtain ⟨o, h3⟩ := o1
      cases o with
      | inr v =>
        dsimp only
        refine X_callX (M' := M_X7_send) (nA := 3) (b := a0) (ci := 7) (As := [.int p1, .int p2, .int p3]) (st := []) rfl rfl (by decide +kernel) rfl rfl rfl ⟨hg, by decide⟩ (ct_X7_send hl he) rfl rfl (fun v9 e9 => ?_) (fun cx e9 => ?_)
        · cases e9
          exact X_iret rfl rfl rfl rfl rfl rfl rfl
        · cases e9
      | inl c =>
        by_cases c0 : c = 2
        · subst c0
          refine X_callX (M' := M_X7_send) (nA := 3) (b := a0) (ci := 7) (As := [.int p1, .int p2, .int p3]) (st := []) rfl rfl (by decide +kernel) rfl rfl rfl ⟨hg, by decide⟩ (ct_X7_send hl he) rfl rfl (fun v9 e9 => ?_) (fun cx e9 => ?_)
          · cases e9
          · cases e9
            refine ⟨[], ⟨0, 7, 8, 50⟩, [⟨0, 7, 13, 40⟩, ⟨0, 7, 18, 88⟩], rfl, by decide +kernel, by decide, by decide, by decide +kernel, by decide +kernel, by decide, fun q9 => ?_⟩
            refine X_astore rfl rfl rfl rfl ?_
            refine X_ldc (v := -2000000097) rfl rfl (by decide +kernel) ?_
            exact X_iret rfl rfl rfl rfl rfl rfl rfl
        by_cases c1 : c = 1
        · subst c1
          refine X_callX (M' := M_X7_send) (nA := 3) (b := a0) (ci := 7) (As := [.int p1, .int p2, .int p3]) (st := []) rfl rfl (by decide +kernel) rfl rfl rfl ⟨hg, by decide⟩ (ct_X7_send hl he) rfl rfl (fun v9 e9 => ?_) (fun cx e9 => ?_)
          · cases e9
          · cases e9
            refine ⟨[((⟨0, 7, 8, 50⟩ : ExceptionTableEntry), "java/lang/IndexOutOfBoundsException")], ⟨0, 7, 13, 40⟩, [⟨0, 7, 18, 88⟩], rfl, by decide +kernel, by decide, by decide, by decide +kernel, by decide +kernel, by decide, fun q9 => ?_⟩
            refine X_astore rfl rfl rfl rfl ?_
            refine X_ldc (v := -2000000098) rfl rfl (by decide +kernel) ?_
            exact X_iret rfl rfl rfl rfl rfl rfl rfl
        by_cases c2 : c = 4
        · subst c2
          refine X_callX (M' := M_X7_send) (nA := 3) (b := a0) (ci := 7) (As := [.int p1, .int p2, .int p3]) (st := []) rfl rfl (by decide +kernel) rfl rfl rfl ⟨hg, by decide⟩ (ct_X7_send hl he) rfl rfl (fun v9 e9 => ?_) (fun cx e9 => ?_)
          · cases e9
          · cases e9
            refine ⟨[((⟨0, 7, 8, 50⟩ : ExceptionTableEntry), "java/lang/IndexOutOfBoundsException"), ((⟨0, 7, 13, 40⟩ : ExceptionTableEntry), "java/lang/IllegalArgumentException")], ⟨0, 7, 18, 88⟩, [], rfl, by decide +kernel, by decide, by decide, by decide +kernel, by decide +kernel, by decide, fun q9 => ?_⟩
            refine X_astore rfl rfl rfl rfl ?_
            refine X_ldc (v := -2000000099) rfl rfl (by decide +kernel) ?_
            exact X_iret rfl rfl rfl rfl rfl rfl rfl
        split
        · rename_i q1; cases q1
        · rename_i q1; cases q1
        · rename_i q1; cases q1; exact absurd rfl c0
        · rename_i q1; cases q1; exact absurd rfl c1
        · rename_i q1; cases q1; exact absurd rfl c2
        · exact X_none
def f_L_fog (G : gG) (h : gH) (a0 : Nat) (p1 : Int32) (p2 : Int32) (p3 : Int32) : Option (Int32 × gH) :=
  bif g_is h a0 7 then
  match f_X7_fog h a0 p1 p2 p3 with
  | none => none
  | some (.inr v, h1) => some (v, h1)
  | some (.inl 1, h1) => some (-2000000098, (h.1 + 1, h1.2))
  | some (.inl 4, h1) => some (-2000000099, (h.1 + 1, h1.2))
  | _ => none
  else none
set_option maxRecDepth 100000 in
theorem cy_L_fog {l : Launch} {G : gG} (hl : l.stackTraces = false) {h : gH} {a0 : Nat} {p1 : Int32} {p2 : Int32} {p3 : Int32} {r : Int32} {h1 : gH} (e : f_L_fog G h a0 p1 p2 p3 = some (r, h1)) : CtY l G M_L_fog [.ref a0, .int p1, .int p2, .int p3] h (some (.int r)) h1 := by
  refine CtY_of (L := [some (.ref a0), some (.int p1), some (.int p2), some (.int p3), none]) ok_L_fog (by decide +kernel) rfl rfl rfl (ρ := g_wI) (F := f_L_fog G h a0 p1 p2 p3) ?_ e rfl
  refine X_aload_n rfl rfl rfl ?_
  refine X_iload_n rfl rfl rfl ?_
  refine X_iload_n rfl rfl rfl ?_
  refine X_iload_n rfl rfl rfl ?_
  unfold f_L_fog
  cases hg : g_is h a0 7 with
  | false => exact X_none
  | true =>
    simp only [cond_true]
    cases he : f_X7_fog h a0 p1 p2 p3 with
    | none => exact X_none
    | some o1 =>
      obtain ⟨o, h3⟩ := o1
      cases o with
      | inr v =>
        dsimp only
        refine X_callX (M' := M_X7_fog) (nA := 3) (b := a0) (ci := 7) (As := [.int p1, .int p2, .int p3]) (st := []) rfl rfl (by decide +kernel) rfl rfl rfl ⟨hg, by decide⟩ (ct_X7_fog hl he) rfl rfl (fun v9 e9 => ?_) (fun cx e9 => ?_)
        · cases e9
          exact X_iret rfl rfl rfl rfl rfl rfl rfl
        · cases e9
      | inl c =>
        by_cases c0 : c = 1
        · subst c0
          refine X_callX (M' := M_X7_fog) (nA := 3) (b := a0) (ci := 7) (As := [.int p1, .int p2, .int p3]) (st := []) rfl rfl (by decide +kernel) rfl rfl rfl ⟨hg, by decide⟩ (ct_X7_fog hl he) rfl rfl (fun v9 e9 => ?_) (fun cx e9 => ?_)
          · cases e9
          · cases e9
            refine ⟨[], ⟨0, 7, 8, 40⟩, [⟨0, 7, 13, 88⟩], rfl, by decide +kernel, by decide, by decide, by decide +kernel, by decide +kernel, by decide, fun q9 => ?_⟩
            refine X_astore rfl rfl rfl rfl ?_
            refine X_ldc (v := -2000000098) rfl rfl (by decide +kernel) ?_
            exact X_iret rfl rfl rfl rfl rfl rfl rfl
        by_cases c1 : c = 4
        · subst c1
          refine X_callX (M' := M_X7_fog) (nA := 3) (b := a0) (ci := 7) (As := [.int p1, .int p2, .int p3]) (st := []) rfl rfl (by decide +kernel) rfl rfl rfl ⟨hg, by decide⟩ (ct_X7_fog hl he) rfl rfl (fun v9 e9 => ?_) (fun cx e9 => ?_)
          · cases e9
          · cases e9
            refine ⟨[((⟨0, 7, 8, 40⟩ : ExceptionTableEntry), "java/lang/IllegalArgumentException")], ⟨0, 7, 13, 88⟩, [], rfl, by decide +kernel, by decide, by decide, by decide +kernel, by decide +kernel, by decide, fun q9 => ?_⟩
            refine X_astore rfl rfl rfl rfl ?_
            refine X_ldc (v := -2000000099) rfl rfl (by decide +kernel) ?_
            exact X_iret rfl rfl rfl rfl rfl rfl rfl
        split
        · rename_i q1; cases q1
        · rename_i q1; cases q1
        · rename_i q1; cases q1; exact absurd rfl c0
        · rename_i q1; cases q1; exact absurd rfl c1
        · exact X_none
def f_L_relieve (G : gG) (h : gH) (a0 : Nat) (p1 : Int32) (p2 : Int32) : Option (Int32 × gH) :=
  bif g_is h a0 7 then
  match f_X7_relieve h a0 p1 p2 with
  | none => none
  | some (.inr v, h1) => some (v, h1)
  | some (.inl 2, h1) => some (-2000000097, (h.1 + 1, h1.2))
  | some (.inl 1, h1) => some (-2000000098, (h.1 + 1, h1.2))
  | some (.inl 4, h1) => some (-2000000099, (h.1 + 1, h1.2))
  | _ => none
  else none
set_option maxRecDepth 100000 in
theorem cy_L_relieve {l : Launch} {G : gG} (hl : l.stackTraces = false) {h : gH} {a0 : Nat} {p1 : Int32} {p2 : Int32} {r : Int32} {h1 : gH} (e : f_L_relieve G h a0 p1 p2 = some (r, h1)) : CtY l G M_L_relieve [.ref a0, .int p1, .int p2] h (some (.int r)) h1 := by
  refine CtY_of (L := [some (.ref a0), some (.int p1), some (.int p2), none]) ok_L_relieve (by decide +kernel) rfl rfl rfl (ρ := g_wI) (F := f_L_relieve G h a0 p1 p2) ?_ e rfl
  refine X_aload_n rfl rfl rfl ?_
  refine X_iload_n rfl rfl rfl ?_
  refine X_iload_n rfl rfl rfl ?_
  unfold f_L_relieve
  cases hg : g_is h a0 7 with
  | false => exact X_none
  | true =>
    simp only [cond_true]
    cases he : f_X7_relieve h a0 p1 p2 with
    | none => exact X_none
    | some o1 =>
      obtain ⟨o, h3⟩ := o1
      cases o with
      | inr v =>
        dsimp only
        refine X_callX (M' := M_X7_relieve) (nA := 2) (b := a0) (ci := 7) (As := [.int p1, .int p2]) (st := []) rfl rfl (by decide +kernel) rfl rfl rfl ⟨hg, by decide⟩ (ct_X7_relieve hl he) rfl rfl (fun v9 e9 => ?_) (fun cx e9 => ?_)
        · cases e9
          exact X_iret rfl rfl rfl rfl rfl rfl rfl
        · cases e9
      | inl c =>
        by_cases c0 : c = 2
        · subst c0
          refine X_callX (M' := M_X7_relieve) (nA := 2) (b := a0) (ci := 7) (As := [.int p1, .int p2]) (st := []) rfl rfl (by decide +kernel) rfl rfl rfl ⟨hg, by decide⟩ (ct_X7_relieve hl he) rfl rfl (fun v9 e9 => ?_) (fun cx e9 => ?_)
          · cases e9
          · cases e9
            refine ⟨[], ⟨0, 6, 7, 50⟩, [⟨0, 6, 11, 40⟩, ⟨0, 6, 15, 88⟩], rfl, by decide +kernel, by decide, by decide, by decide +kernel, by decide +kernel, by decide, fun q9 => ?_⟩
            refine X_astore_n rfl rfl rfl rfl ?_
            refine X_ldc (v := -2000000097) rfl rfl (by decide +kernel) ?_
            exact X_iret rfl rfl rfl rfl rfl rfl rfl
        by_cases c1 : c = 1
        · subst c1
          refine X_callX (M' := M_X7_relieve) (nA := 2) (b := a0) (ci := 7) (As := [.int p1, .int p2]) (st := []) rfl rfl (by decide +kernel) rfl rfl rfl ⟨hg, by decide⟩ (ct_X7_relieve hl he) rfl rfl (fun v9 e9 => ?_) (fun cx e9 => ?_)
          · cases e9
          · cases e9
            refine ⟨[((⟨0, 6, 7, 50⟩ : ExceptionTableEntry), "java/lang/IndexOutOfBoundsException")], ⟨0, 6, 11, 40⟩, [⟨0, 6, 15, 88⟩], rfl, by decide +kernel, by decide, by decide, by decide +kernel, by decide +kernel, by decide, fun q9 => ?_⟩
            refine X_astore_n rfl rfl rfl rfl ?_
            refine X_ldc (v := -2000000098) rfl rfl (by decide +kernel) ?_
            exact X_iret rfl rfl rfl rfl rfl rfl rfl
        by_cases c2 : c = 4
        · subst c2
          refine X_callX (M' := M_X7_relieve) (nA := 2) (b := a0) (ci := 7) (As := [.int p1, .int p2]) (st := []) rfl rfl (by decide +kernel) rfl rfl rfl ⟨hg, by decide⟩ (ct_X7_relieve hl he) rfl rfl (fun v9 e9 => ?_) (fun cx e9 => ?_)
          · cases e9
          · cases e9
            refine ⟨[((⟨0, 6, 7, 50⟩ : ExceptionTableEntry), "java/lang/IndexOutOfBoundsException"), ((⟨0, 6, 11, 40⟩ : ExceptionTableEntry), "java/lang/IllegalArgumentException")], ⟨0, 6, 15, 88⟩, [], rfl, by decide +kernel, by decide, by decide, by decide +kernel, by decide +kernel, by decide, fun q9 => ?_⟩
            refine X_astore_n rfl rfl rfl rfl ?_
            refine X_ldc (v := -2000000099) rfl rfl (by decide +kernel) ?_
            exact X_iret rfl rfl rfl rfl rfl rfl rfl
        split
        · rename_i q1; cases q1
        · rename_i q1; cases q1
        · rename_i q1; cases q1; exact absurd rfl c0
        · rename_i q1; cases q1; exact absurd rfl c1
        · rename_i q1; cases q1; exact absurd rfl c2
        · exact X_none
def f_L_power (G : gG) (h : gH) (a0 : Nat) (p1 : Int32) (p2 : Int32) : Option (Int32 × gH) :=
  bif g_is h a0 7 then
  match f_X7_power h a0 p1 p2 with
  | none => none
  | some (.inr v, h1) => some (v, h1)
  | some (.inl 2, h1) => some (-2000000097, (h.1 + 1, h1.2))
  | some (.inl 1, h1) => some (-2000000098, (h.1 + 1, h1.2))
  | _ => none
  else none
set_option maxRecDepth 100000 in
theorem cy_L_power {l : Launch} {G : gG} (hl : l.stackTraces = false) {h : gH} {a0 : Nat} {p1 : Int32} {p2 : Int32} {r : Int32} {h1 : gH} (e : f_L_power G h a0 p1 p2 = some (r, h1)) : CtY l G M_L_power [.ref a0, .int p1, .int p2] h (some (.int r)) h1 := by
  refine CtY_of (L := [some (.ref a0), some (.int p1), some (.int p2), none]) ok_L_power (by decide +kernel) rfl rfl rfl (ρ := g_wI) (F := f_L_power G h a0 p1 p2) ?_ e rfl
  refine X_aload_n rfl rfl rfl ?_
  refine X_iload_n rfl rfl rfl ?_
  refine X_iload_n rfl rfl rfl ?_
  unfold f_L_power
  cases hg : g_is h a0 7 with
  | false => exact X_none
  | true =>
    simp only [cond_true]
    cases he : f_X7_power h a0 p1 p2 with
    | none => exact X_none
    | some o1 =>
      obtain ⟨o, h3⟩ := o1
      cases o with
      | inr v =>
        dsimp only
        refine X_callX (M' := M_X7_power) (nA := 2) (b := a0) (ci := 7) (As := [.int p1, .int p2]) (st := []) rfl rfl (by decide +kernel) rfl rfl rfl ⟨hg, by decide⟩ (ct_X7_power hl he) rfl rfl (fun v9 e9 => ?_) (fun cx e9 => ?_)
        · cases e9
          exact X_iret rfl rfl rfl rfl rfl rfl rfl
        · cases e9
      | inl c =>
        by_cases c0 : c = 2
        · subst c0
          refine X_callX (M' := M_X7_power) (nA := 2) (b := a0) (ci := 7) (As := [.int p1, .int p2]) (st := []) rfl rfl (by decide +kernel) rfl rfl rfl ⟨hg, by decide⟩ (ct_X7_power hl he) rfl rfl (fun v9 e9 => ?_) (fun cx e9 => ?_)
          · cases e9
          · cases e9
            refine ⟨[], ⟨0, 6, 7, 50⟩, [⟨0, 6, 11, 40⟩], rfl, by decide +kernel, by decide, by decide, by decide +kernel, by decide +kernel, by decide, fun q9 => ?_⟩
            refine X_astore_n rfl rfl rfl rfl ?_
            refine X_ldc (v := -2000000097) rfl rfl (by decide +kernel) ?_
            exact X_iret rfl rfl rfl rfl rfl rfl rfl
        by_cases c1 : c = 1
        · subst c1
          refine X_callX (M' := M_X7_power) (nA := 2) (b := a0) (ci := 7) (As := [.int p1, .int p2]) (st := []) rfl rfl (by decide +kernel) rfl rfl rfl ⟨hg, by decide⟩ (ct_X7_power hl he) rfl rfl (fun v9 e9 => ?_) (fun cx e9 => ?_)
          · cases e9
          · cases e9
            refine ⟨[((⟨0, 6, 7, 50⟩ : ExceptionTableEntry), "java/lang/IndexOutOfBoundsException")], ⟨0, 6, 11, 40⟩, [], rfl, by decide +kernel, by decide, by decide, by decide +kernel, by decide +kernel, by decide, fun q9 => ?_⟩
            refine X_astore_n rfl rfl rfl rfl ?_
            refine X_ldc (v := -2000000098) rfl rfl (by decide +kernel) ?_
            exact X_iret rfl rfl rfl rfl rfl rfl rfl
        split
        · rename_i q1; cases q1
        · rename_i q1; cases q1
        · rename_i q1; cases q1; exact absurd rfl c0
        · rename_i q1; cases q1; exact absurd rfl c1
        · exact X_none
def f_L_cancel (G : gG) (h : gH) (a0 : Nat) (p1 : Int32) : Option (Int32 × gH) :=
  bif g_is h a0 7 then
  match f_X7_cancel h a0 p1 with
  | none => none
  | some (.inr v, h1) => some (if v = 0 then 0 else 1, h1)
  | some (.inl 2, h1) => some (-2000000097, (h.1 + 1, h1.2))
  | some (.inl 4, h1) => some (-2000000099, (h.1 + 1, h1.2))
  | _ => none
  else none
set_option maxRecDepth 100000 in
theorem cy_L_cancel {l : Launch} {G : gG} (hl : l.stackTraces = false) {h : gH} {a0 : Nat} {p1 : Int32} {r : Int32} {h1 : gH} (e : f_L_cancel G h a0 p1 = some (r, h1)) : CtY l G M_L_cancel [.ref a0, .int p1] h (some (.int r)) h1 := by
  refine CtY_of (L := [some (.ref a0), some (.int p1), none]) ok_L_cancel (by decide +kernel) rfl rfl rfl (ρ := g_wI) (F := f_L_cancel G h a0 p1) ?_ e rfl
  refine X_aload_n rfl rfl rfl ?_
  refine X_iload_n rfl rfl rfl ?_
  unfold f_L_cancel
  cases hg : g_is h a0 7 with
  | false => exact X_none
  | true =>
    simp only [cond_true]
    cases he : f_X7_cancel h a0 p1 with
    | none => exact X_none
    | some o1 =>
      obtain ⟨o, h3⟩ := o1
      cases o with
      | inr v =>
        dsimp only
        refine X_callX (M' := M_X7_cancel) (nA := 1) (b := a0) (ci := 7) (As := [.int p1]) (st := []) rfl rfl (by decide +kernel) rfl rfl rfl ⟨hg, by decide⟩ (ct_X7_cancel hl he) rfl rfl (fun v9 e9 => ?_) (fun cx e9 => ?_)
        · cases e9
          by_cases hv : v = 0
          · rw [if_pos hv]
            refine X_if_eq rfl rfl (fun _ => ?_) (fun c => absurd hv c)
            refine X_iconst (v := 0) rfl rfl (by decide) ?_
            exact X_iret rfl rfl rfl rfl rfl rfl rfl
          · rw [if_neg hv]
            refine X_if_eq rfl rfl (fun c => absurd c hv) (fun _ => ?_)
            refine X_iconst (v := 1) rfl rfl (by decide) ?_
            refine X_goto rfl rfl ?_
            exact X_iret rfl rfl rfl rfl rfl rfl rfl
        · cases e9
      | inl c =>
        by_cases c0 : c = 2
        · subst c0
          refine X_callX (M' := M_X7_cancel) (nA := 1) (b := a0) (ci := 7) (As := [.int p1]) (st := []) rfl rfl (by decide +kernel) rfl rfl rfl ⟨hg, by decide⟩ (ct_X7_cancel hl he) rfl rfl (fun v9 e9 => ?_) (fun cx e9 => ?_)
          · cases e9
          · cases e9
            refine ⟨[], ⟨0, 13, 14, 50⟩, [⟨0, 13, 18, 88⟩], rfl, by decide +kernel, by decide, by decide, by decide +kernel, by decide +kernel, by decide, fun q9 => ?_⟩
            refine X_astore_n rfl rfl rfl rfl ?_
            refine X_ldc (v := -2000000097) rfl rfl (by decide +kernel) ?_
            exact X_iret rfl rfl rfl rfl rfl rfl rfl
        by_cases c1 : c = 4
        · subst c1
          refine X_callX (M' := M_X7_cancel) (nA := 1) (b := a0) (ci := 7) (As := [.int p1]) (st := []) rfl rfl (by decide +kernel) rfl rfl rfl ⟨hg, by decide⟩ (ct_X7_cancel hl he) rfl rfl (fun v9 e9 => ?_) (fun cx e9 => ?_)
          · cases e9
          · cases e9
            refine ⟨[((⟨0, 13, 14, 50⟩ : ExceptionTableEntry), "java/lang/IndexOutOfBoundsException")], ⟨0, 13, 18, 88⟩, [], rfl, by decide +kernel, by decide, by decide, by decide +kernel, by decide +kernel, by decide, fun q9 => ?_⟩
            refine X_astore_n rfl rfl rfl rfl ?_
            refine X_ldc (v := -2000000099) rfl rfl (by decide +kernel) ?_
            exact X_iret rfl rfl rfl rfl rfl rfl rfl
        split
        · rename_i q1; cases q1
        · rename_i q1; cases q1
        · rename_i q1; cases q1; exact absurd rfl c0
        · rename_i q1; cases q1; exact absurd rfl c1
        · exact X_none
