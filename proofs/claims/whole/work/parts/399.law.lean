theorem g_ble {a b : Nat} (h : a ≤ b) : Nat.ble a b = true := Nat.ble_eq_true_of_le h
/-- what is told of the law's run: as long as Q holds of its start -/
def g_phL (Q : State → Array Value → List Frame → Prop) (Z : State → Prop) : Unit → Method → Code → State → Array Value → List Frame → State → Prop := fun _ _ _ s args below t => Q s args below → Z t
section LAW
variable {l : Launch} {G : gG} {Q : State → Array Value → List Frame → Prop} {Z : State → Prop} {M : gMt} {k n pc nx x1 x2 : Nat} {L : List (Option Value)} {st : List Value} {h : gH} {F : Option Unit} {b N : Nat} {xs : Nat → Int32}
/-- the script lies at b -/
def g_scr (G : gG) (Q : State → Array Value → List Frame → Prop) (b N : Nat) (xs : Nat → Int32) : Prop := ∀ s args below, Q s args below → va_X b N xs s s.heap ∧ b < s.heap.size ∧ b < g_b G
theorem X_sld {j v : Int32} (hX : g_scr G Q b N xs) (hd : g_lk (m_code M) pc = some (.iaload, nx, x1, x2)) (hn : nx = pc + 1) (hin : vp_in j N) (hv : xs j.toNatClampNeg = v) (kk : GX l G M (g_phL Q Z) k n nx L (.int v :: st) h F) : GX l G M (g_phL Q Z) k n pc L (.int j :: .ref b :: st) h F := by
  intro r hr p e s m args below meth c H locs A B hl hM hS
  subst hv
  have hg := g_dec B.2.2.2.2.2.2.2.2.2 hd hn
  have q := kk r hr p e s m args below meth c H locs A B hl hM hS
  by_cases hQ : Q s args below
  · obtain ⟨h1, h2, h3⟩ := hX s args below hQ
    refine va_sld B.1 B.2.1 h1 h2 (Nat.not_le.mpr h3) hS hin hg ?_
    rw [hn] at q
    exact q
  · intro T hT X
    exact ⟨_, Steps.refl _, fun h => absurd h hQ⟩
theorem X_sln (hX : g_scr G Q b N xs) (hd : g_lk (m_code M) pc = some (.arraylength, nx, x1, x2)) (hn : nx = pc + 1) (kk : GX l G M (g_phL Q Z) k n nx L (.int (Int32.ofNat N) :: st) h F) : GX l G M (g_phL Q Z) k n pc L (.ref b :: st) h F := by
  intro r hr p e s m args below meth c H locs A B hl hM hS
  have hg := g_dec B.2.2.2.2.2.2.2.2.2 hd hn
  have q := kk r hr p e s m args below meth c H locs A B hl hM hS
  by_cases hQ : Q s args below
  · obtain ⟨h1, h2, h3⟩ := hX s args below hQ
    refine va_slen B.1 B.2.1 h1 h2 (Nat.not_le.mpr h3) hS hg ?_
    rw [hn] at q
    exact q
  · intro T hT X
    exact ⟨_, Steps.refl _, fun h => absurd h hQ⟩
theorem X_lldE {a : Nat} {i : Int32} {w : Int64} (hd : g_lk (m_code M) pc = some (.laload, nx, x1, x2)) (hn : nx = pc + 1) (e : g_lld h a i = some w) (kk : GX l G M (g_phL Q Z) k n nx L (.long w :: st) h F) : GX l G M (g_phL Q Z) k n pc L (.int i :: .ref a :: st) h F := by
  have q : GX l G M (g_phL Q Z) k n pc L (.int i :: .ref a :: st) h ((g_lld h a i).bind fun v => if v = w then F else none) := by
    refine X_lld hd hn (fun v => ?_)
    by_cases hv : v = w
    · subst hv; rw [if_pos rfl]; exact kk
    · rw [if_neg hv]; exact X_none
  rw [e] at q
  simpa using q
theorem lg_cmp_self (x : Int64) : lg_cmp x x = 0 := (lg_cmp_eq x x).mpr rfl
end LAW
/-- what is asked of a call that can throw: c which exception; then the same call of the model -/
def lw_S (Inv : gH → Prop) (m q : Nat) (w : Int32 → Int64) (fc : Option (Int32 × gH)) (fr : gH → Option (Int32 × gH)) : Prop := ∃ c h1, fc = some (c, h1) ∧ ∀ n' : Nat, ∃ r h2, fr (n', h1.2) = some (r, h2) ∧ f_X8_thrown h2 m = some c ∧ g_is (n', h1.2) m 8 = true ∧ g_is h2 m 8 = true ∧ (c = 0 → g_lld h2 q 0 = some (w r)) ∧ Inv h2
/-- what is asked of a call that cannot throw -/
def lw_S0 (Inv : gH → Prop) (a m : Nat) (h : gH) (fc : Option (Int32 × gH)) (fr : gH → Option (Int32 × gH)) : Prop := g_is h a 7 = true ∧ ∃ r h1 h2, fc = some (r, h1) ∧ g_is h1 m 8 = true ∧ fr h1 = some (r, h2) ∧ Inv h2
section LAWC
variable {l : Launch} {G : gG} {Q : State → Array Value → List Frame → Prop} {Z : State → Prop} {k n : Nat} {h : gH} {b N a m q : Nat} {xs : Nat → Int32} {i x1 x2 x3 x4 x5 : Int32} {Inv : gH → Prop}
set_option maxRecDepth 100000 in
theorem law_append (hl : l.stackTraces = false) (hX : g_scr G Q b N xs) (hi1 : vp_in (i + 1) N) (hv1 : xs (i + 1).toNatClampNeg = x1) (hi2 : vp_in (i + 2) N) (hv2 : xs (i + 2).toNatClampNeg = x2) (hi3 : vp_in (i + 3) N) (hv3 : xs (i + 3).toNatClampNeg = x3) (hi4 : vp_in (i + 4) N) (hv4 : xs (i + 4).toNatClampNeg = x4) (hi5 : vp_in (i + 5) N) (hv5 : xs (i + 5).toNatClampNeg = x5) (hS : lw_S0 Inv a m h (f_X7_append h a x1 x2 x3 x4 x5) (fun h9 => f_X8_append h9 m x1 x2 x3 x4 x5)) (hk : k + 0 ≤ 601024) (hs : n + 0 ≤ 7293034) (kk : ∀ h2, Inv h2 → GX l G M_L_law (g_phL Q Z) (k + 0) (n + 0) 1417 [some (.ref b), some (.ref a), some (.ref m), some (.ref q), some (.int i), none, none, none, none] [] h2 (some ())) : GX l G M_L_law (g_phL Q Z) k n 144 [some (.ref b), some (.ref a), some (.ref m), some (.ref q), some (.int i), none, none, none, none] [] h (some ()) := by
  obtain ⟨g0, r, h1, h2, e1, g1, e2, hI⟩ := hS
  refine X_aload_n rfl rfl rfl ?_
  refine X_aload_n rfl rfl rfl ?_
  refine X_iload rfl rfl rfl ?_
  refine X_iconst (v := 1) rfl rfl (by decide) ?_
  refine X_iadd rfl rfl ?_
  refine X_sld hX rfl rfl hi1 hv1 ?_
  refine X_aload_n rfl rfl rfl ?_
  refine X_iload rfl rfl rfl ?_
  refine X_iconst (v := 2) rfl rfl (by decide) ?_
  refine X_iadd rfl rfl ?_
  refine X_sld hX rfl rfl hi2 hv2 ?_
  refine X_aload_n rfl rfl rfl ?_
  refine X_iload rfl rfl rfl ?_
  refine X_iconst (v := 3) rfl rfl (by decide) ?_
  refine X_iadd rfl rfl ?_
  refine X_sld hX rfl rfl hi3 hv3 ?_
  refine X_aload_n rfl rfl rfl ?_
  refine X_iload rfl rfl rfl ?_
  refine X_iconst (v := 4) rfl rfl (by decide) ?_
  refine X_iadd rfl rfl ?_
  refine X_sld hX rfl rfl hi4 hv4 ?_
  refine X_aload_n rfl rfl rfl ?_
  refine X_iload rfl rfl rfl ?_
  refine X_iconst (v := 5) rfl rfl (by decide) ?_
  refine X_iadd rfl rfl ?_
  refine X_sld hX rfl rfl hi5 hv5 ?_
  refine X_callV (M' := M_X7_append) (nA := 5) (b := a) (ci := 7) (As := [.int x1, .int x2, .int x3, .int x4, .int x5]) (st := []) rfl rfl (by decide +kernel) rfl rfl rfl ⟨g0, by decide⟩ (ct_X7_append e1) (g_ble (by exact hk)) (g_ble (by exact hs)) ?_
  refine X_rfl (st' := [.int r]) rfl ?_
  refine X_aload_n rfl rfl rfl ?_
  refine X_aload_n rfl rfl rfl ?_
  refine X_iload rfl rfl rfl ?_
  refine X_iconst (v := 1) rfl rfl (by decide) ?_
  refine X_iadd rfl rfl ?_
  refine X_sld hX rfl rfl hi1 hv1 ?_
  refine X_aload_n rfl rfl rfl ?_
  refine X_iload rfl rfl rfl ?_
  refine X_iconst (v := 2) rfl rfl (by decide) ?_
  refine X_iadd rfl rfl ?_
  refine X_sld hX rfl rfl hi2 hv2 ?_
  refine X_aload_n rfl rfl rfl ?_
  refine X_iload rfl rfl rfl ?_
  refine X_iconst (v := 3) rfl rfl (by decide) ?_
  refine X_iadd rfl rfl ?_
  refine X_sld hX rfl rfl hi3 hv3 ?_
  refine X_aload_n rfl rfl rfl ?_
  refine X_iload rfl rfl rfl ?_
  refine X_iconst (v := 4) rfl rfl (by decide) ?_
  refine X_iadd rfl rfl ?_
  refine X_sld hX rfl rfl hi4 hv4 ?_
  refine X_aload_n rfl rfl rfl ?_
  refine X_iload rfl rfl rfl ?_
  refine X_iconst (v := 5) rfl rfl (by decide) ?_
  refine X_iadd rfl rfl ?_
  refine X_sld hX rfl rfl hi5 hv5 ?_
  refine X_callV (M' := M_X8_append) (nA := 5) (b := m) (ci := 8) (As := [.int x1, .int x2, .int x3, .int x4, .int x5]) (st := [.int r]) rfl rfl (by decide +kernel) rfl rfl rfl ⟨g1, by decide⟩ (ct_X8_append e2) (g_ble (by exact hk)) (g_ble (by exact hs)) ?_
  refine X_rfl (st' := [.int r, .int r]) rfl ?_
  refine X_icmp_eq rfl rfl (fun _ => ?_) (fun cc => absurd rfl cc)
  exact X_sub (g_sub_s (g_sub_s (g_sub_s (g_sub_s (g_sub_s (g_sub_n (g_sub_n (g_sub_n (g_sub_n g_sub_0))))))))) (kk _ hI)
set_option maxRecDepth 100000 in
theorem law_load (hl : l.stackTraces = false) (hX : g_scr G Q b N xs) (hi1 : vp_in (i + 1) N) (hv1 : xs (i + 1).toNatClampNeg = x1) (hS : lw_S Inv m q (fun r => r.toInt64) (f_L_load h a x1 q) (fun h9 => f_X8_load h9 m x1)) (hk : k + 1 ≤ 601024) (hs : n + 7 ≤ 7293034) (kk : ∀ h2, Inv h2 → GX l G M_L_law (g_phL Q Z) (k + 1) (n + 7) 1417 [some (.ref b), some (.ref a), some (.ref m), some (.ref q), some (.int i), none, none, none, none] [] h2 (some ())) : GX l G M_L_law (g_phL Q Z) k n 217 [some (.ref b), some (.ref a), some (.ref m), some (.ref q), some (.int i), none, none, none, none] [] h (some ()) := by
  unfold lw_S at hS
  obtain ⟨c, h1, e1, hS⟩ := hS
  refine X_aload_n rfl rfl rfl ?_
  refine X_aload_n rfl rfl rfl ?_
  refine X_iload rfl rfl rfl ?_
  refine X_iconst (v := 1) rfl rfl (by decide) ?_
  refine X_iadd rfl rfl ?_
  refine X_sld hX rfl rfl hi1 hv1 ?_
  refine X_aload_n rfl rfl rfl ?_
  refine X_callH (M' := M_L_load) (nA := 3) (As := [.ref a, .int x1, .ref q]) (st := []) rfl rfl (by decide +kernel) rfl rfl rfl (ct_L_load hl e1) hk hs (fun n' => ?_)
  obtain ⟨r, h2, e2, e3, g1, g2, e4, hI⟩ := hS n'
  refine X_rfl (st' := [.int c]) rfl ?_
  refine X_istore rfl rfl rfl rfl ?_
  refine X_aload_n rfl rfl rfl ?_
  refine X_aload_n rfl rfl rfl ?_
  refine X_iload rfl rfl rfl ?_
  refine X_iconst (v := 1) rfl rfl (by decide) ?_
  refine X_iadd rfl rfl ?_
  refine X_sld hX rfl rfl hi1 hv1 ?_
  refine X_callV (M' := M_X8_load) (nA := 1) (b := m) (ci := 8) (As := [.int x1]) (st := []) rfl rfl (by decide +kernel) rfl rfl rfl ⟨g1, by decide⟩ (ct_X8_load e2) (g_ble (by exact hk)) (g_ble (by exact hs)) ?_
  refine X_rfl (st' := [.int r]) rfl ?_
  refine X_istore rfl rfl rfl rfl ?_
  refine X_aload_n rfl rfl rfl ?_
  refine X_callV (M' := M_X8_thrown) (nA := 0) (b := m) (ci := 8) (As := []) (st := []) rfl rfl (by decide +kernel) rfl rfl rfl ⟨g2, by decide⟩ (ct_X8_thrown e3) (g_ble (by exact hk)) (g_ble (by exact hs)) ?_
  refine X_rfl (st' := [.int c]) rfl ?_
  refine X_iload rfl rfl rfl ?_
  refine X_icmp_eq rfl rfl (fun _ => ?_) (fun cc => absurd rfl cc)
  refine X_iload rfl rfl rfl ?_
  refine X_if_ne rfl rfl (fun hc => ?_) (fun hc => ?_)
  · refine X_goto rfl rfl ?_
    exact X_sub (g_sub_s (g_sub_s (g_sub_s (g_sub_s (g_sub_s (g_sub_n (g_sub_n (g_sub_n (g_sub_n g_sub_0))))))))) (kk _ hI)
  · refine X_aload_n rfl rfl rfl ?_
    refine X_iconst (v := 0) rfl rfl (by decide) ?_
    refine X_lldE rfl rfl (e4 (by simpa using hc)) ?_
    refine X_iload rfl rfl rfl ?_
    refine X_i2l rfl rfl ?_
    refine X_lcmp rfl rfl ?_
    refine X_rfl (st' := [.int 0]) (by simp [lg_cmp_self]) ?_
    refine X_if_eq rfl rfl (fun _ => ?_) (fun cc => absurd rfl cc)
    refine X_goto rfl rfl ?_
    exact X_sub (g_sub_s (g_sub_s (g_sub_s (g_sub_s (g_sub_s (g_sub_n (g_sub_n (g_sub_n (g_sub_n g_sub_0))))))))) (kk _ hI)
set_option maxRecDepth 100000 in
theorem law_errorOffset (hl : l.stackTraces = false) (hX : g_scr G Q b N xs) (hS : lw_S0 Inv a m h ((f_X7_errorOffset h a ).map (fun r => (r, h))) (fun h9 => f_X8_errorOffset h9 m )) (hk : k + 0 ≤ 601024) (hs : n + 0 ≤ 7293034) (kk : ∀ h2, Inv h2 → GX l G M_L_law (g_phL Q Z) (k + 0) (n + 0) 1417 [some (.ref b), some (.ref a), some (.ref m), some (.ref q), some (.int i), none, none, none, none] [] h2 (some ())) : GX l G M_L_law (g_phL Q Z) k n 273 [some (.ref b), some (.ref a), some (.ref m), some (.ref q), some (.int i), none, none, none, none] [] h (some ()) := by
  obtain ⟨g0, r, h1, h2, e1, g1, e2, hI⟩ := hS
  obtain ⟨_, ex, e9⟩ := Option.map_eq_some_iff.mp e1
  cases e9
  refine X_aload_n rfl rfl rfl ?_
  refine X_callV (M' := M_X7_errorOffset) (nA := 0) (b := a) (ci := 7) (As := []) (st := []) rfl rfl (by decide +kernel) rfl rfl rfl ⟨g0, by decide⟩ (ct_X7_errorOffset ex) (g_ble (by exact hk)) (g_ble (by exact hs)) ?_
  refine X_rfl (st' := [.int r]) rfl ?_
  refine X_aload_n rfl rfl rfl ?_
  refine X_callV (M' := M_X8_errorOffset) (nA := 0) (b := m) (ci := 8) (As := []) (st := [.int r]) rfl rfl (by decide +kernel) rfl rfl rfl ⟨g1, by decide⟩ (ct_X8_errorOffset e2) (g_ble (by exact hk)) (g_ble (by exact hs)) ?_
  refine X_rfl (st' := [.int r, .int r]) rfl ?_
  refine X_icmp_eq rfl rfl (fun _ => ?_) (fun cc => absurd rfl cc)
  exact X_sub (g_sub_s (g_sub_s (g_sub_s (g_sub_s (g_sub_s (g_sub_n (g_sub_n (g_sub_n (g_sub_n g_sub_0))))))))) (kk _ hI)
set_option maxRecDepth 100000 in
theorem law_state (hl : l.stackTraces = false) (hX : g_scr G Q b N xs) (hi1 : vp_in (i + 1) N) (hv1 : xs (i + 1).toNatClampNeg = x1) (hS : lw_S Inv m q (fun r => r.toInt64) (f_L_state h a x1 q) (fun h9 => f_X8_state h9 m x1)) (hk : k + 1 ≤ 601024) (hs : n + 6 ≤ 7293034) (kk : ∀ h2, Inv h2 → GX l G M_L_law (g_phL Q Z) (k + 1) (n + 6) 1417 [some (.ref b), some (.ref a), some (.ref m), some (.ref q), some (.int i), none, none, none, none] [] h2 (some ())) : GX l G M_L_law (g_phL Q Z) k n 286 [some (.ref b), some (.ref a), some (.ref m), some (.ref q), some (.int i), none, none, none, none] [] h (some ()) := by
  unfold lw_S at hS
  obtain ⟨c, h1, e1, hS⟩ := hS
  refine X_aload_n rfl rfl rfl ?_
  refine X_aload_n rfl rfl rfl ?_
  refine X_iload rfl rfl rfl ?_
  refine X_iconst (v := 1) rfl rfl (by decide) ?_
  refine X_iadd rfl rfl ?_
  refine X_sld hX rfl rfl hi1 hv1 ?_
  refine X_aload_n rfl rfl rfl ?_
  refine X_callH (M' := M_L_state) (nA := 3) (As := [.ref a, .int x1, .ref q]) (st := []) rfl rfl (by decide +kernel) rfl rfl rfl (ct_L_state hl e1) hk hs (fun n' => ?_)
  obtain ⟨r, h2, e2, e3, g1, g2, e4, hI⟩ := hS n'
  refine X_rfl (st' := [.int c]) rfl ?_
  refine X_istore rfl rfl rfl rfl ?_
  refine X_aload_n rfl rfl rfl ?_
  refine X_aload_n rfl rfl rfl ?_
  refine X_iload rfl rfl rfl ?_
  refine X_iconst (v := 1) rfl rfl (by decide) ?_
  refine X_iadd rfl rfl ?_
  refine X_sld hX rfl rfl hi1 hv1 ?_
  refine X_callV (M' := M_X8_state) (nA := 1) (b := m) (ci := 8) (As := [.int x1]) (st := []) rfl rfl (by decide +kernel) rfl rfl rfl ⟨g1, by decide⟩ (ct_X8_state e2) (g_ble (by exact hk)) (g_ble (by exact hs)) ?_
  refine X_rfl (st' := [.int r]) rfl ?_
  refine X_istore rfl rfl rfl rfl ?_
  refine X_aload_n rfl rfl rfl ?_
  refine X_callV (M' := M_X8_thrown) (nA := 0) (b := m) (ci := 8) (As := []) (st := []) rfl rfl (by decide +kernel) rfl rfl rfl ⟨g2, by decide⟩ (ct_X8_thrown e3) (g_ble (by exact hk)) (g_ble (by exact hs)) ?_
  refine X_rfl (st' := [.int c]) rfl ?_
  refine X_iload rfl rfl rfl ?_
  refine X_icmp_eq rfl rfl (fun _ => ?_) (fun cc => absurd rfl cc)
  refine X_iload rfl rfl rfl ?_
  refine X_if_ne rfl rfl (fun hc => ?_) (fun hc => ?_)
  · refine X_goto rfl rfl ?_
    exact X_sub (g_sub_s (g_sub_s (g_sub_s (g_sub_s (g_sub_s (g_sub_n (g_sub_n (g_sub_n (g_sub_n g_sub_0))))))))) (kk _ hI)
  · refine X_aload_n rfl rfl rfl ?_
    refine X_iconst (v := 0) rfl rfl (by decide) ?_
    refine X_lldE rfl rfl (e4 (by simpa using hc)) ?_
    refine X_iload rfl rfl rfl ?_
    refine X_i2l rfl rfl ?_
    refine X_lcmp rfl rfl ?_
    refine X_rfl (st' := [.int 0]) (by simp [lg_cmp_self]) ?_
    refine X_if_eq rfl rfl (fun _ => ?_) (fun cc => absurd rfl cc)
    refine X_goto rfl rfl ?_
    exact X_sub (g_sub_s (g_sub_s (g_sub_s (g_sub_s (g_sub_s (g_sub_n (g_sub_n (g_sub_n (g_sub_n g_sub_0))))))))) (kk _ hI)
set_option maxRecDepth 100000 in
theorem law_channel (hl : l.stackTraces = false) (hX : g_scr G Q b N xs) (hi1 : vp_in (i + 1) N) (hv1 : xs (i + 1).toNatClampNeg = x1) (hi2 : vp_in (i + 2) N) (hv2 : xs (i + 2).toNatClampNeg = x2) (hS : lw_S Inv m q (fun r => r.toInt64) (f_L_channel h a x1 x2 q) (fun h9 => f_X8_channel h9 m x1 x2)) (hk : k + 1 ≤ 601024) (hs : n + 6 ≤ 7293034) (kk : ∀ h2, Inv h2 → GX l G M_L_law (g_phL Q Z) (k + 1) (n + 6) 1417 [some (.ref b), some (.ref a), some (.ref m), some (.ref q), some (.int i), none, none, none, none] [] h2 (some ())) : GX l G M_L_law (g_phL Q Z) k n 342 [some (.ref b), some (.ref a), some (.ref m), some (.ref q), some (.int i), none, none, none, none] [] h (some ()) := by
  unfold lw_S at hS
  obtain ⟨c, h1, e1, hS⟩ := hS
  refine X_aload_n rfl rfl rfl ?_
  refine X_aload_n rfl rfl rfl ?_
  refine X_iload rfl rfl rfl ?_
  refine X_iconst (v := 1) rfl rfl (by decide) ?_
  refine X_iadd rfl rfl ?_
  refine X_sld hX rfl rfl hi1 hv1 ?_
  refine X_aload_n rfl rfl rfl ?_
  refine X_iload rfl rfl rfl ?_
  refine X_iconst (v := 2) rfl rfl (by decide) ?_
  refine X_iadd rfl rfl ?_
  refine X_sld hX rfl rfl hi2 hv2 ?_
  refine X_aload_n rfl rfl rfl ?_
  refine X_callH (M' := M_L_channel) (nA := 4) (As := [.ref a, .int x1, .int x2, .ref q]) (st := []) rfl rfl (by decide +kernel) rfl rfl rfl (ct_L_channel hl e1) hk hs (fun n' => ?_)
  obtain ⟨r, h2, e2, e3, g1, g2, e4, hI⟩ := hS n'
  refine X_rfl (st' := [.int c]) rfl ?_
  refine X_istore rfl rfl rfl rfl ?_
  refine X_aload_n rfl rfl rfl ?_
  refine X_aload_n rfl rfl rfl ?_
  refine X_iload rfl rfl rfl ?_
  refine X_iconst (v := 1) rfl rfl (by decide) ?_
  refine X_iadd rfl rfl ?_
  refine X_sld hX rfl rfl hi1 hv1 ?_
  refine X_aload_n rfl rfl rfl ?_
  refine X_iload rfl rfl rfl ?_
  refine X_iconst (v := 2) rfl rfl (by decide) ?_
  refine X_iadd rfl rfl ?_
  refine X_sld hX rfl rfl hi2 hv2 ?_
  refine X_callV (M' := M_X8_channel) (nA := 2) (b := m) (ci := 8) (As := [.int x1, .int x2]) (st := []) rfl rfl (by decide +kernel) rfl rfl rfl ⟨g1, by decide⟩ (ct_X8_channel e2) (g_ble (by exact hk)) (g_ble (by exact hs)) ?_
  refine X_rfl (st' := [.int r]) rfl ?_
  refine X_istore rfl rfl rfl rfl ?_
  refine X_aload_n rfl rfl rfl ?_
  refine X_callV (M' := M_X8_thrown) (nA := 0) (b := m) (ci := 8) (As := []) (st := []) rfl rfl (by decide +kernel) rfl rfl rfl ⟨g2, by decide⟩ (ct_X8_thrown e3) (g_ble (by exact hk)) (g_ble (by exact hs)) ?_
  refine X_rfl (st' := [.int c]) rfl ?_
  refine X_iload rfl rfl rfl ?_
  refine X_icmp_eq rfl rfl (fun _ => ?_) (fun cc => absurd rfl cc)
  refine X_iload rfl rfl rfl ?_
  refine X_if_ne rfl rfl (fun hc => ?_) (fun hc => ?_)
  · refine X_goto rfl rfl ?_
    exact X_sub (g_sub_s (g_sub_s (g_sub_s (g_sub_s (g_sub_s (g_sub_n (g_sub_n (g_sub_n (g_sub_n g_sub_0))))))))) (kk _ hI)
  · refine X_aload_n rfl rfl rfl ?_
    refine X_iconst (v := 0) rfl rfl (by decide) ?_
    refine X_lldE rfl rfl (e4 (by simpa using hc)) ?_
    refine X_iload rfl rfl rfl ?_
    refine X_i2l rfl rfl ?_
    refine X_lcmp rfl rfl ?_
    refine X_rfl (st' := [.int 0]) (by simp [lg_cmp_self]) ?_
    refine X_if_eq rfl rfl (fun _ => ?_) (fun cc => absurd rfl cc)
    refine X_goto rfl rfl ?_
    exact X_sub (g_sub_s (g_sub_s (g_sub_s (g_sub_s (g_sub_s (g_sub_n (g_sub_n (g_sub_n (g_sub_n g_sub_0))))))))) (kk _ hI)
set_option maxRecDepth 100000 in
theorem law_message (hl : l.stackTraces = false) (hX : g_scr G Q b N xs) (hi1 : vp_in (i + 1) N) (hv1 : xs (i + 1).toNatClampNeg = x1) (hi2 : vp_in (i + 2) N) (hv2 : xs (i + 2).toNatClampNeg = x2) (hS : lw_S Inv m q (fun r => r.toInt64) (f_L_message h a x1 x2 q) (fun h9 => f_X8_message h9 m x1 x2)) (hk : k + 1 ≤ 601024) (hs : n + 6 ≤ 7293034) (kk : ∀ h2, Inv h2 → GX l G M_L_law (g_phL Q Z) (k + 1) (n + 6) 1417 [some (.ref b), some (.ref a), some (.ref m), some (.ref q), some (.int i), none, none, none, none] [] h2 (some ())) : GX l G M_L_law (g_phL Q Z) k n 410 [some (.ref b), some (.ref a), some (.ref m), some (.ref q), some (.int i), none, none, none, none] [] h (some ()) := by
  unfold lw_S at hS
  obtain ⟨c, h1, e1, hS⟩ := hS
  refine X_aload_n rfl rfl rfl ?_
  refine X_aload_n rfl rfl rfl ?_
  refine X_iload rfl rfl rfl ?_
  refine X_iconst (v := 1) rfl rfl (by decide) ?_
  refine X_iadd rfl rfl ?_
  refine X_sld hX rfl rfl hi1 hv1 ?_
  refine X_aload_n rfl rfl rfl ?_
  refine X_iload rfl rfl rfl ?_
  refine X_iconst (v := 2) rfl rfl (by decide) ?_
  refine X_iadd rfl rfl ?_
  refine X_sld hX rfl rfl hi2 hv2 ?_
  refine X_aload_n rfl rfl rfl ?_
  refine X_callH (M' := M_L_message) (nA := 4) (As := [.ref a, .int x1, .int x2, .ref q]) (st := []) rfl rfl (by decide +kernel) rfl rfl rfl (ct_L_message hl e1) hk hs (fun n' => ?_)
  obtain ⟨r, h2, e2, e3, g1, g2, e4, hI⟩ := hS n'
  refine X_rfl (st' := [.int c]) rfl ?_
  refine X_istore rfl rfl rfl rfl ?_
  refine X_aload_n rfl rfl rfl ?_
  refine X_aload_n rfl rfl rfl ?_
  refine X_iload rfl rfl rfl ?_
  refine X_iconst (v := 1) rfl rfl (by decide) ?_
  refine X_iadd rfl rfl ?_
  refine X_sld hX rfl rfl hi1 hv1 ?_
  refine X_aload_n rfl rfl rfl ?_
  refine X_iload rfl rfl rfl ?_
  refine X_iconst (v := 2) rfl rfl (by decide) ?_
  refine X_iadd rfl rfl ?_
  refine X_sld hX rfl rfl hi2 hv2 ?_
  refine X_callV (M' := M_X8_message) (nA := 2) (b := m) (ci := 8) (As := [.int x1, .int x2]) (st := []) rfl rfl (by decide +kernel) rfl rfl rfl ⟨g1, by decide⟩ (ct_X8_message e2) (g_ble (by exact hk)) (g_ble (by exact hs)) ?_
  refine X_rfl (st' := [.int r]) rfl ?_
  refine X_istore rfl rfl rfl rfl ?_
  refine X_aload_n rfl rfl rfl ?_
  refine X_callV (M' := M_X8_thrown) (nA := 0) (b := m) (ci := 8) (As := []) (st := []) rfl rfl (by decide +kernel) rfl rfl rfl ⟨g2, by decide⟩ (ct_X8_thrown e3) (g_ble (by exact hk)) (g_ble (by exact hs)) ?_
  refine X_rfl (st' := [.int c]) rfl ?_
  refine X_iload rfl rfl rfl ?_
  refine X_icmp_eq rfl rfl (fun _ => ?_) (fun cc => absurd rfl cc)
  refine X_iload rfl rfl rfl ?_
  refine X_if_ne rfl rfl (fun hc => ?_) (fun hc => ?_)
  · refine X_goto rfl rfl ?_
    exact X_sub (g_sub_s (g_sub_s (g_sub_s (g_sub_s (g_sub_s (g_sub_n (g_sub_n (g_sub_n (g_sub_n g_sub_0))))))))) (kk _ hI)
  · refine X_aload_n rfl rfl rfl ?_
    refine X_iconst (v := 0) rfl rfl (by decide) ?_
    refine X_lldE rfl rfl (e4 (by simpa using hc)) ?_
    refine X_iload rfl rfl rfl ?_
    refine X_i2l rfl rfl ?_
    refine X_lcmp rfl rfl ?_
    refine X_rfl (st' := [.int 0]) (by simp [lg_cmp_self]) ?_
    refine X_if_eq rfl rfl (fun _ => ?_) (fun cc => absurd rfl cc)
    refine X_goto rfl rfl ?_
    exact X_sub (g_sub_s (g_sub_s (g_sub_s (g_sub_s (g_sub_s (g_sub_n (g_sub_n (g_sub_n (g_sub_n g_sub_0))))))))) (kk _ hI)
set_option maxRecDepth 100000 in
theorem law_letter0 (hl : l.stackTraces = false) (hX : g_scr G Q b N xs) (hi1 : vp_in (i + 1) N) (hv1 : xs (i + 1).toNatClampNeg = x1) (hi2 : vp_in (i + 2) N) (hv2 : xs (i + 2).toNatClampNeg = x2) (hi3 : vp_in (i + 3) N) (hv3 : xs (i + 3).toNatClampNeg = x3) (hz : x3 = 0) (hS : lw_S Inv m q (fun r => r.toInt64) (f_L_letter h a x1 x2 0 q) (fun h9 => f_X8_letter h9 m x1 x2 0)) (hk : k + 1 ≤ 601024) (hs : n + 6 ≤ 7293034) (kk : ∀ h2, Inv h2 → GX l G M_L_law (g_phL Q Z) (k + 1) (n + 6) 1417 [some (.ref b), some (.ref a), some (.ref m), some (.ref q), some (.int i), none, none, none, none] [] h2 (some ())) : GX l G M_L_law (g_phL Q Z) k n 478 [some (.ref b), some (.ref a), some (.ref m), some (.ref q), some (.int i), none, none, none, none] [] h (some ()) := by
  unfold lw_S at hS
  obtain ⟨c, h1, e1, hS⟩ := hS
  refine X_aload_n rfl rfl rfl ?_
  refine X_aload_n rfl rfl rfl ?_
  refine X_iload rfl rfl rfl ?_
  refine X_iconst (v := 1) rfl rfl (by decide) ?_
  refine X_iadd rfl rfl ?_
  refine X_sld hX rfl rfl hi1 hv1 ?_
  refine X_aload_n rfl rfl rfl ?_
  refine X_iload rfl rfl rfl ?_
  refine X_iconst (v := 2) rfl rfl (by decide) ?_
  refine X_iadd rfl rfl ?_
  refine X_sld hX rfl rfl hi2 hv2 ?_
  refine X_aload_n rfl rfl rfl ?_
  refine X_iload rfl rfl rfl ?_
  refine X_iconst (v := 3) rfl rfl (by decide) ?_
  refine X_iadd rfl rfl ?_
  refine X_sld hX rfl rfl hi3 hv3 ?_
  refine X_if_eq rfl rfl (fun _ => ?_) (fun cc => absurd hz cc)
  refine X_iconst (v := 0) rfl rfl (by decide) ?_
  refine X_aload_n rfl rfl rfl ?_
  refine X_callH (M' := M_L_letter) (nA := 5) (As := [.ref a, .int x1, .int x2, .int 0, .ref q]) (st := []) rfl rfl (by decide +kernel) rfl rfl rfl (ct_L_letter hl e1) hk hs (fun n' => ?_)
  obtain ⟨r, h2, e2, e3, g1, g2, e4, hI⟩ := hS n'
  refine X_rfl (st' := [.int c]) rfl ?_
  refine X_istore rfl rfl rfl rfl ?_
  refine X_aload_n rfl rfl rfl ?_
  refine X_aload_n rfl rfl rfl ?_
  refine X_iload rfl rfl rfl ?_
  refine X_iconst (v := 1) rfl rfl (by decide) ?_
  refine X_iadd rfl rfl ?_
  refine X_sld hX rfl rfl hi1 hv1 ?_
  refine X_aload_n rfl rfl rfl ?_
  refine X_iload rfl rfl rfl ?_
  refine X_iconst (v := 2) rfl rfl (by decide) ?_
  refine X_iadd rfl rfl ?_
  refine X_sld hX rfl rfl hi2 hv2 ?_
  refine X_aload_n rfl rfl rfl ?_
  refine X_iload rfl rfl rfl ?_
  refine X_iconst (v := 3) rfl rfl (by decide) ?_
  refine X_iadd rfl rfl ?_
  refine X_sld hX rfl rfl hi3 hv3 ?_
  refine X_if_eq rfl rfl (fun _ => ?_) (fun cc => absurd hz cc)
  refine X_iconst (v := 0) rfl rfl (by decide) ?_
  refine X_callV (M' := M_X8_letter) (nA := 3) (b := m) (ci := 8) (As := [.int x1, .int x2, .int 0]) (st := []) rfl rfl (by decide +kernel) rfl rfl rfl ⟨g1, by decide⟩ (ct_X8_letter e2) (g_ble (by exact hk)) (g_ble (by exact hs)) ?_
  refine X_rfl (st' := [.int r]) rfl ?_
  refine X_istore rfl rfl rfl rfl ?_
  refine X_aload_n rfl rfl rfl ?_
  refine X_callV (M' := M_X8_thrown) (nA := 0) (b := m) (ci := 8) (As := []) (st := []) rfl rfl (by decide +kernel) rfl rfl rfl ⟨g2, by decide⟩ (ct_X8_thrown e3) (g_ble (by exact hk)) (g_ble (by exact hs)) ?_
  refine X_rfl (st' := [.int c]) rfl ?_
  refine X_iload rfl rfl rfl ?_
  refine X_icmp_eq rfl rfl (fun _ => ?_) (fun cc => absurd rfl cc)
  refine X_iload rfl rfl rfl ?_
  refine X_if_ne rfl rfl (fun hc => ?_) (fun hc => ?_)
  · refine X_goto rfl rfl ?_
    exact X_sub (g_sub_s (g_sub_s (g_sub_s (g_sub_s (g_sub_s (g_sub_n (g_sub_n (g_sub_n (g_sub_n g_sub_0))))))))) (kk _ hI)
  · refine X_aload_n rfl rfl rfl ?_
    refine X_iconst (v := 0) rfl rfl (by decide) ?_
    refine X_lldE rfl rfl (e4 (by simpa using hc)) ?_
    refine X_iload rfl rfl rfl ?_
    refine X_i2l rfl rfl ?_
    refine X_lcmp rfl rfl ?_
    refine X_rfl (st' := [.int 0]) (by simp [lg_cmp_self]) ?_
    refine X_if_eq rfl rfl (fun _ => ?_) (fun cc => absurd rfl cc)
    refine X_goto rfl rfl ?_
    exact X_sub (g_sub_s (g_sub_s (g_sub_s (g_sub_s (g_sub_s (g_sub_n (g_sub_n (g_sub_n (g_sub_n g_sub_0))))))))) (kk _ hI)
set_option maxRecDepth 100000 in
theorem law_letter1 (hl : l.stackTraces = false) (hX : g_scr G Q b N xs) (hi1 : vp_in (i + 1) N) (hv1 : xs (i + 1).toNatClampNeg = x1) (hi2 : vp_in (i + 2) N) (hv2 : xs (i + 2).toNatClampNeg = x2) (hi3 : vp_in (i + 3) N) (hv3 : xs (i + 3).toNatClampNeg = x3) (hz : ¬ x3 = 0) (hS : lw_S Inv m q (fun r => r.toInt64) (f_L_letter h a x1 x2 1 q) (fun h9 => f_X8_letter h9 m x1 x2 1)) (hk : k + 1 ≤ 601024) (hs : n + 6 ≤ 7293034) (kk : ∀ h2, Inv h2 → GX l G M_L_law (g_phL Q Z) (k + 1) (n + 6) 1417 [some (.ref b), some (.ref a), some (.ref m), some (.ref q), some (.int i), none, none, none, none] [] h2 (some ())) : GX l G M_L_law (g_phL Q Z) k n 478 [some (.ref b), some (.ref a), some (.ref m), some (.ref q), some (.int i), none, none, none, none] [] h (some ()) := by
  unfold lw_S at hS
  obtain ⟨c, h1, e1, hS⟩ := hS
  refine X_aload_n rfl rfl rfl ?_
  refine X_aload_n rfl rfl rfl ?_
  refine X_iload rfl rfl rfl ?_
  refine X_iconst (v := 1) rfl rfl (by decide) ?_
  refine X_iadd rfl rfl ?_
  refine X_sld hX rfl rfl hi1 hv1 ?_
  refine X_aload_n rfl rfl rfl ?_
  refine X_iload rfl rfl rfl ?_
  refine X_iconst (v := 2) rfl rfl (by decide) ?_
  refine X_iadd rfl rfl ?_
  refine X_sld hX rfl rfl hi2 hv2 ?_
  refine X_aload_n rfl rfl rfl ?_
  refine X_iload rfl rfl rfl ?_
  refine X_iconst (v := 3) rfl rfl (by decide) ?_
  refine X_iadd rfl rfl ?_
  refine X_sld hX rfl rfl hi3 hv3 ?_
  refine X_if_eq rfl rfl (fun cc => absurd cc hz) (fun _ => ?_)
  refine X_iconst (v := 1) rfl rfl (by decide) ?_
  refine X_goto rfl rfl ?_
  refine X_aload_n rfl rfl rfl ?_
  refine X_callH (M' := M_L_letter) (nA := 5) (As := [.ref a, .int x1, .int x2, .int 1, .ref q]) (st := []) rfl rfl (by decide +kernel) rfl rfl rfl (ct_L_letter hl e1) hk hs (fun n' => ?_)
  obtain ⟨r, h2, e2, e3, g1, g2, e4, hI⟩ := hS n'
  refine X_rfl (st' := [.int c]) rfl ?_
  refine X_istore rfl rfl rfl rfl ?_
  refine X_aload_n rfl rfl rfl ?_
  refine X_aload_n rfl rfl rfl ?_
  refine X_iload rfl rfl rfl ?_
  refine X_iconst (v := 1) rfl rfl (by decide) ?_
  refine X_iadd rfl rfl ?_
  refine X_sld hX rfl rfl hi1 hv1 ?_
  refine X_aload_n rfl rfl rfl ?_
  refine X_iload rfl rfl rfl ?_
  refine X_iconst (v := 2) rfl rfl (by decide) ?_
  refine X_iadd rfl rfl ?_
  refine X_sld hX rfl rfl hi2 hv2 ?_
  refine X_aload_n rfl rfl rfl ?_
  refine X_iload rfl rfl rfl ?_
  refine X_iconst (v := 3) rfl rfl (by decide) ?_
  refine X_iadd rfl rfl ?_
  refine X_sld hX rfl rfl hi3 hv3 ?_
  refine X_if_eq rfl rfl (fun cc => absurd cc hz) (fun _ => ?_)
  refine X_iconst (v := 1) rfl rfl (by decide) ?_
  refine X_goto rfl rfl ?_
  refine X_callV (M' := M_X8_letter) (nA := 3) (b := m) (ci := 8) (As := [.int x1, .int x2, .int 1]) (st := []) rfl rfl (by decide +kernel) rfl rfl rfl ⟨g1, by decide⟩ (ct_X8_letter e2) (g_ble (by exact hk)) (g_ble (by exact hs)) ?_
  refine X_rfl (st' := [.int r]) rfl ?_
  refine X_istore rfl rfl rfl rfl ?_
  refine X_aload_n rfl rfl rfl ?_
  refine X_callV (M' := M_X8_thrown) (nA := 0) (b := m) (ci := 8) (As := []) (st := []) rfl rfl (by decide +kernel) rfl rfl rfl ⟨g2, by decide⟩ (ct_X8_thrown e3) (g_ble (by exact hk)) (g_ble (by exact hs)) ?_
  refine X_rfl (st' := [.int c]) rfl ?_
  refine X_iload rfl rfl rfl ?_
  refine X_icmp_eq rfl rfl (fun _ => ?_) (fun cc => absurd rfl cc)
  refine X_iload rfl rfl rfl ?_
  refine X_if_ne rfl rfl (fun hc => ?_) (fun hc => ?_)
  · refine X_goto rfl rfl ?_
    exact X_sub (g_sub_s (g_sub_s (g_sub_s (g_sub_s (g_sub_s (g_sub_n (g_sub_n (g_sub_n (g_sub_n g_sub_0))))))))) (kk _ hI)
  · refine X_aload_n rfl rfl rfl ?_
    refine X_iconst (v := 0) rfl rfl (by decide) ?_
    refine X_lldE rfl rfl (e4 (by simpa using hc)) ?_
    refine X_iload rfl rfl rfl ?_
    refine X_i2l rfl rfl ?_
    refine X_lcmp rfl rfl ?_
    refine X_rfl (st' := [.int 0]) (by simp [lg_cmp_self]) ?_
    refine X_if_eq rfl rfl (fun _ => ?_) (fun cc => absurd rfl cc)
    refine X_goto rfl rfl ?_
    exact X_sub (g_sub_s (g_sub_s (g_sub_s (g_sub_s (g_sub_s (g_sub_n (g_sub_n (g_sub_n (g_sub_n g_sub_0))))))))) (kk _ hI)
set_option maxRecDepth 100000 in
theorem law_why (hl : l.stackTraces = false) (hX : g_scr G Q b N xs) (hi1 : vp_in (i + 1) N) (hv1 : xs (i + 1).toNatClampNeg = x1) (hi2 : vp_in (i + 2) N) (hv2 : xs (i + 2).toNatClampNeg = x2) (hS : lw_S Inv m q (fun r => r.toInt64) (f_L_why h a x1 x2 q) (fun h9 => f_X8_why h9 m x1 x2)) (hk : k + 1 ≤ 601024) (hs : n + 6 ≤ 7293034) (kk : ∀ h2, Inv h2 → GX l G M_L_law (g_phL Q Z) (k + 1) (n + 6) 1417 [some (.ref b), some (.ref a), some (.ref m), some (.ref q), some (.int i), none, none, none, none] [] h2 (some ())) : GX l G M_L_law (g_phL Q Z) k n 574 [some (.ref b), some (.ref a), some (.ref m), some (.ref q), some (.int i), none, none, none, none] [] h (some ()) := by
  unfold lw_S at hS
  obtain ⟨c, h1, e1, hS⟩ := hS
  refine X_aload_n rfl rfl rfl ?_
  refine X_aload_n rfl rfl rfl ?_
  refine X_iload rfl rfl rfl ?_
  refine X_iconst (v := 1) rfl rfl (by decide) ?_
  refine X_iadd rfl rfl ?_
  refine X_sld hX rfl rfl hi1 hv1 ?_
  refine X_aload_n rfl rfl rfl ?_
  refine X_iload rfl rfl rfl ?_
  refine X_iconst (v := 2) rfl rfl (by decide) ?_
  refine X_iadd rfl rfl ?_
  refine X_sld hX rfl rfl hi2 hv2 ?_
  refine X_aload_n rfl rfl rfl ?_
  refine X_callH (M' := M_L_why) (nA := 4) (As := [.ref a, .int x1, .int x2, .ref q]) (st := []) rfl rfl (by decide +kernel) rfl rfl rfl (ct_L_why hl e1) hk hs (fun n' => ?_)
  obtain ⟨r, h2, e2, e3, g1, g2, e4, hI⟩ := hS n'
  refine X_rfl (st' := [.int c]) rfl ?_
  refine X_istore rfl rfl rfl rfl ?_
  refine X_aload_n rfl rfl rfl ?_
  refine X_aload_n rfl rfl rfl ?_
  refine X_iload rfl rfl rfl ?_
  refine X_iconst (v := 1) rfl rfl (by decide) ?_
  refine X_iadd rfl rfl ?_
  refine X_sld hX rfl rfl hi1 hv1 ?_
  refine X_aload_n rfl rfl rfl ?_
  refine X_iload rfl rfl rfl ?_
  refine X_iconst (v := 2) rfl rfl (by decide) ?_
  refine X_iadd rfl rfl ?_
  refine X_sld hX rfl rfl hi2 hv2 ?_
  refine X_callV (M' := M_X8_why) (nA := 2) (b := m) (ci := 8) (As := [.int x1, .int x2]) (st := []) rfl rfl (by decide +kernel) rfl rfl rfl ⟨g1, by decide⟩ (ct_X8_why e2) (g_ble (by exact hk)) (g_ble (by exact hs)) ?_
  refine X_rfl (st' := [.int r]) rfl ?_
  refine X_istore rfl rfl rfl rfl ?_
  refine X_aload_n rfl rfl rfl ?_
  refine X_callV (M' := M_X8_thrown) (nA := 0) (b := m) (ci := 8) (As := []) (st := []) rfl rfl (by decide +kernel) rfl rfl rfl ⟨g2, by decide⟩ (ct_X8_thrown e3) (g_ble (by exact hk)) (g_ble (by exact hs)) ?_
  refine X_rfl (st' := [.int c]) rfl ?_
  refine X_iload rfl rfl rfl ?_
  refine X_icmp_eq rfl rfl (fun _ => ?_) (fun cc => absurd rfl cc)
  refine X_iload rfl rfl rfl ?_
  refine X_if_ne rfl rfl (fun hc => ?_) (fun hc => ?_)
  · refine X_goto rfl rfl ?_
    exact X_sub (g_sub_s (g_sub_s (g_sub_s (g_sub_s (g_sub_s (g_sub_n (g_sub_n (g_sub_n (g_sub_n g_sub_0))))))))) (kk _ hI)
  · refine X_aload_n rfl rfl rfl ?_
    refine X_iconst (v := 0) rfl rfl (by decide) ?_
    refine X_lldE rfl rfl (e4 (by simpa using hc)) ?_
    refine X_iload rfl rfl rfl ?_
    refine X_i2l rfl rfl ?_
    refine X_lcmp rfl rfl ?_
    refine X_rfl (st' := [.int 0]) (by simp [lg_cmp_self]) ?_
    refine X_if_eq rfl rfl (fun _ => ?_) (fun cc => absurd rfl cc)
    refine X_goto rfl rfl ?_
    exact X_sub (g_sub_s (g_sub_s (g_sub_s (g_sub_s (g_sub_s (g_sub_n (g_sub_n (g_sub_n (g_sub_n g_sub_0))))))))) (kk _ hI)
set_option maxRecDepth 100000 in
theorem law_mist (hl : l.stackTraces = false) (hX : g_scr G Q b N xs) (hi1 : vp_in (i + 1) N) (hv1 : xs (i + 1).toNatClampNeg = x1) (hS : lw_S Inv m q (fun r => r.toInt64) (f_L_mist h a x1 q) (fun h9 => f_X8_mist h9 m x1)) (hk : k + 1 ≤ 601024) (hs : n + 6 ≤ 7293034) (kk : ∀ h2, Inv h2 → GX l G M_L_law (g_phL Q Z) (k + 1) (n + 6) 1417 [some (.ref b), some (.ref a), some (.ref m), some (.ref q), some (.int i), none, none, none, none] [] h2 (some ())) : GX l G M_L_law (g_phL Q Z) k n 642 [some (.ref b), some (.ref a), some (.ref m), some (.ref q), some (.int i), none, none, none, none] [] h (some ()) := by
  unfold lw_S at hS
  obtain ⟨c, h1, e1, hS⟩ := hS
  refine X_aload_n rfl rfl rfl ?_
  refine X_aload_n rfl rfl rfl ?_
  refine X_iload rfl rfl rfl ?_
  refine X_iconst (v := 1) rfl rfl (by decide) ?_
  refine X_iadd rfl rfl ?_
  refine X_sld hX rfl rfl hi1 hv1 ?_
  refine X_aload_n rfl rfl rfl ?_
  refine X_callH (M' := M_L_mist) (nA := 3) (As := [.ref a, .int x1, .ref q]) (st := []) rfl rfl (by decide +kernel) rfl rfl rfl (ct_L_mist hl e1) hk hs (fun n' => ?_)
  obtain ⟨r, h2, e2, e3, g1, g2, e4, hI⟩ := hS n'
  refine X_rfl (st' := [.int c]) rfl ?_
  refine X_istore rfl rfl rfl rfl ?_
  refine X_aload_n rfl rfl rfl ?_
  refine X_aload_n rfl rfl rfl ?_
  refine X_iload rfl rfl rfl ?_
  refine X_iconst (v := 1) rfl rfl (by decide) ?_
  refine X_iadd rfl rfl ?_
  refine X_sld hX rfl rfl hi1 hv1 ?_
  refine X_callV (M' := M_X8_mist) (nA := 1) (b := m) (ci := 8) (As := [.int x1]) (st := []) rfl rfl (by decide +kernel) rfl rfl rfl ⟨g1, by decide⟩ (ct_X8_mist e2) (g_ble (by exact hk)) (g_ble (by exact hs)) ?_
  refine X_rfl (st' := [.int r]) rfl ?_
  refine X_istore rfl rfl rfl rfl ?_
  refine X_aload_n rfl rfl rfl ?_
  refine X_callV (M' := M_X8_thrown) (nA := 0) (b := m) (ci := 8) (As := []) (st := []) rfl rfl (by decide +kernel) rfl rfl rfl ⟨g2, by decide⟩ (ct_X8_thrown e3) (g_ble (by exact hk)) (g_ble (by exact hs)) ?_
  refine X_rfl (st' := [.int c]) rfl ?_
  refine X_iload rfl rfl rfl ?_
  refine X_icmp_eq rfl rfl (fun _ => ?_) (fun cc => absurd rfl cc)
  refine X_iload rfl rfl rfl ?_
  refine X_if_ne rfl rfl (fun hc => ?_) (fun hc => ?_)
  · refine X_goto rfl rfl ?_
    exact X_sub (g_sub_s (g_sub_s (g_sub_s (g_sub_s (g_sub_s (g_sub_n (g_sub_n (g_sub_n (g_sub_n g_sub_0))))))))) (kk _ hI)
  · refine X_aload_n rfl rfl rfl ?_
    refine X_iconst (v := 0) rfl rfl (by decide) ?_
    refine X_lldE rfl rfl (e4 (by simpa using hc)) ?_
    refine X_iload rfl rfl rfl ?_
    refine X_i2l rfl rfl ?_
    refine X_lcmp rfl rfl ?_
    refine X_rfl (st' := [.int 0]) (by simp [lg_cmp_self]) ?_
    refine X_if_eq rfl rfl (fun _ => ?_) (fun cc => absurd rfl cc)
    refine X_goto rfl rfl ?_
    exact X_sub (g_sub_s (g_sub_s (g_sub_s (g_sub_s (g_sub_s (g_sub_n (g_sub_n (g_sub_n (g_sub_n g_sub_0))))))))) (kk _ hI)
set_option maxRecDepth 100000 in
theorem law_key (hl : l.stackTraces = false) (hX : g_scr G Q b N xs) (hi1 : vp_in (i + 1) N) (hv1 : xs (i + 1).toNatClampNeg = x1) (hi2 : vp_in (i + 2) N) (hv2 : xs (i + 2).toNatClampNeg = x2) (hS : lw_S Inv m q (fun r => r.toInt64) (f_L_key h a x1 x2 q) (fun h9 => f_X8_key h9 m x1 x2)) (hk : k + 1 ≤ 601024) (hs : n + 6 ≤ 7293034) (kk : ∀ h2, Inv h2 → GX l G M_L_law (g_phL Q Z) (k + 1) (n + 6) 1417 [some (.ref b), some (.ref a), some (.ref m), some (.ref q), some (.int i), none, none, none, none] [] h2 (some ())) : GX l G M_L_law (g_phL Q Z) k n 698 [some (.ref b), some (.ref a), some (.ref m), some (.ref q), some (.int i), none, none, none, none] [] h (some ()) := by
  unfold lw_S at hS
  obtain ⟨c, h1, e1, hS⟩ := hS
  refine X_aload_n rfl rfl rfl ?_
  refine X_aload_n rfl rfl rfl ?_
  refine X_iload rfl rfl rfl ?_
  refine X_iconst (v := 1) rfl rfl (by decide) ?_
  refine X_iadd rfl rfl ?_
  refine X_sld hX rfl rfl hi1 hv1 ?_
  refine X_aload_n rfl rfl rfl ?_
  refine X_iload rfl rfl rfl ?_
  refine X_iconst (v := 2) rfl rfl (by decide) ?_
  refine X_iadd rfl rfl ?_
  refine X_sld hX rfl rfl hi2 hv2 ?_
  refine X_aload_n rfl rfl rfl ?_
  refine X_callH (M' := M_L_key) (nA := 4) (As := [.ref a, .int x1, .int x2, .ref q]) (st := []) rfl rfl (by decide +kernel) rfl rfl rfl (ct_L_key hl e1) hk hs (fun n' => ?_)
  obtain ⟨r, h2, e2, e3, g1, g2, e4, hI⟩ := hS n'
  refine X_rfl (st' := [.int c]) rfl ?_
  refine X_istore rfl rfl rfl rfl ?_
  refine X_aload_n rfl rfl rfl ?_
  refine X_aload_n rfl rfl rfl ?_
  refine X_iload rfl rfl rfl ?_
  refine X_iconst (v := 1) rfl rfl (by decide) ?_
  refine X_iadd rfl rfl ?_
  refine X_sld hX rfl rfl hi1 hv1 ?_
  refine X_aload_n rfl rfl rfl ?_
  refine X_iload rfl rfl rfl ?_
  refine X_iconst (v := 2) rfl rfl (by decide) ?_
  refine X_iadd rfl rfl ?_
  refine X_sld hX rfl rfl hi2 hv2 ?_
  refine X_callV (M' := M_X8_key) (nA := 2) (b := m) (ci := 8) (As := [.int x1, .int x2]) (st := []) rfl rfl (by decide +kernel) rfl rfl rfl ⟨g1, by decide⟩ (ct_X8_key e2) (g_ble (by exact hk)) (g_ble (by exact hs)) ?_
  refine X_rfl (st' := [.int r]) rfl ?_
  refine X_istore rfl rfl rfl rfl ?_
  refine X_aload_n rfl rfl rfl ?_
  refine X_callV (M' := M_X8_thrown) (nA := 0) (b := m) (ci := 8) (As := []) (st := []) rfl rfl (by decide +kernel) rfl rfl rfl ⟨g2, by decide⟩ (ct_X8_thrown e3) (g_ble (by exact hk)) (g_ble (by exact hs)) ?_
  refine X_rfl (st' := [.int c]) rfl ?_
  refine X_iload rfl rfl rfl ?_
  refine X_icmp_eq rfl rfl (fun _ => ?_) (fun cc => absurd rfl cc)
  refine X_iload rfl rfl rfl ?_
  refine X_if_ne rfl rfl (fun hc => ?_) (fun hc => ?_)
  · refine X_goto rfl rfl ?_
    exact X_sub (g_sub_s (g_sub_s (g_sub_s (g_sub_s (g_sub_s (g_sub_n (g_sub_n (g_sub_n (g_sub_n g_sub_0))))))))) (kk _ hI)
  · refine X_aload_n rfl rfl rfl ?_
    refine X_iconst (v := 0) rfl rfl (by decide) ?_
    refine X_lldE rfl rfl (e4 (by simpa using hc)) ?_
    refine X_iload rfl rfl rfl ?_
    refine X_i2l rfl rfl ?_
    refine X_lcmp rfl rfl ?_
    refine X_rfl (st' := [.int 0]) (by simp [lg_cmp_self]) ?_
    refine X_if_eq rfl rfl (fun _ => ?_) (fun cc => absurd rfl cc)
    refine X_goto rfl rfl ?_
    exact X_sub (g_sub_s (g_sub_s (g_sub_s (g_sub_s (g_sub_s (g_sub_n (g_sub_n (g_sub_n (g_sub_n g_sub_0))))))))) (kk _ hI)
set_option maxRecDepth 100000 in
theorem law_next (hl : l.stackTraces = false) (hX : g_scr G Q b N xs) (hi1 : vp_in (i + 1) N) (hv1 : xs (i + 1).toNatClampNeg = x1) (hS : lw_S Inv m q (fun r => r.toInt64) (f_L_next h a x1 q) (fun h9 => f_X8_next h9 m x1)) (hk : k + 1 ≤ 601024) (hs : n + 6 ≤ 7293034) (kk : ∀ h2, Inv h2 → GX l G M_L_law (g_phL Q Z) (k + 1) (n + 6) 1417 [some (.ref b), some (.ref a), some (.ref m), some (.ref q), some (.int i), none, none, none, none] [] h2 (some ())) : GX l G M_L_law (g_phL Q Z) k n 766 [some (.ref b), some (.ref a), some (.ref m), some (.ref q), some (.int i), none, none, none, none] [] h (some ()) := by
  unfold lw_S at hS
  obtain ⟨c, h1, e1, hS⟩ := hS
  refine X_aload_n rfl rfl rfl ?_
  refine X_aload_n rfl rfl rfl ?_
  refine X_iload rfl rfl rfl ?_
  refine X_iconst (v := 1) rfl rfl (by decide) ?_
  refine X_iadd rfl rfl ?_
  refine X_sld hX rfl rfl hi1 hv1 ?_
  refine X_aload_n rfl rfl rfl ?_
  refine X_callH (M' := M_L_next) (nA := 3) (As := [.ref a, .int x1, .ref q]) (st := []) rfl rfl (by decide +kernel) rfl rfl rfl (ct_L_next hl e1) hk hs (fun n' => ?_)
  obtain ⟨r, h2, e2, e3, g1, g2, e4, hI⟩ := hS n'
  refine X_rfl (st' := [.int c]) rfl ?_
  refine X_istore rfl rfl rfl rfl ?_
  refine X_aload_n rfl rfl rfl ?_
  refine X_aload_n rfl rfl rfl ?_
  refine X_iload rfl rfl rfl ?_
  refine X_iconst (v := 1) rfl rfl (by decide) ?_
  refine X_iadd rfl rfl ?_
  refine X_sld hX rfl rfl hi1 hv1 ?_
  refine X_callV (M' := M_X8_next) (nA := 1) (b := m) (ci := 8) (As := [.int x1]) (st := []) rfl rfl (by decide +kernel) rfl rfl rfl ⟨g1, by decide⟩ (ct_X8_next e2) (g_ble (by exact hk)) (g_ble (by exact hs)) ?_
  refine X_rfl (st' := [.int r]) rfl ?_
  refine X_istore rfl rfl rfl rfl ?_
  refine X_aload_n rfl rfl rfl ?_
  refine X_callV (M' := M_X8_thrown) (nA := 0) (b := m) (ci := 8) (As := []) (st := []) rfl rfl (by decide +kernel) rfl rfl rfl ⟨g2, by decide⟩ (ct_X8_thrown e3) (g_ble (by exact hk)) (g_ble (by exact hs)) ?_
  refine X_rfl (st' := [.int c]) rfl ?_
  refine X_iload rfl rfl rfl ?_
  refine X_icmp_eq rfl rfl (fun _ => ?_) (fun cc => absurd rfl cc)
  refine X_iload rfl rfl rfl ?_
  refine X_if_ne rfl rfl (fun hc => ?_) (fun hc => ?_)
  · refine X_goto rfl rfl ?_
    exact X_sub (g_sub_s (g_sub_s (g_sub_s (g_sub_s (g_sub_s (g_sub_n (g_sub_n (g_sub_n (g_sub_n g_sub_0))))))))) (kk _ hI)
  · refine X_aload_n rfl rfl rfl ?_
    refine X_iconst (v := 0) rfl rfl (by decide) ?_
    refine X_lldE rfl rfl (e4 (by simpa using hc)) ?_
    refine X_iload rfl rfl rfl ?_
    refine X_i2l rfl rfl ?_
    refine X_lcmp rfl rfl ?_
    refine X_rfl (st' := [.int 0]) (by simp [lg_cmp_self]) ?_
    refine X_if_eq rfl rfl (fun _ => ?_) (fun cc => absurd rfl cc)
    refine X_goto rfl rfl ?_
    exact X_sub (g_sub_s (g_sub_s (g_sub_s (g_sub_s (g_sub_s (g_sub_n (g_sub_n (g_sub_n (g_sub_n g_sub_0))))))))) (kk _ hI)
set_option maxRecDepth 100000 in
theorem law_foretold (hl : l.stackTraces = false) (hX : g_scr G Q b N xs) (hi1 : vp_in (i + 1) N) (hv1 : xs (i + 1).toNatClampNeg = x1) (hS : lw_S Inv m q (fun r => r.toInt64) (f_L_foretold h a x1 q) (fun h9 => f_X8_foretold h9 m x1)) (hk : k + 1 ≤ 601024) (hs : n + 6 ≤ 7293034) (kk : ∀ h2, Inv h2 → GX l G M_L_law (g_phL Q Z) (k + 1) (n + 6) 1417 [some (.ref b), some (.ref a), some (.ref m), some (.ref q), some (.int i), none, none, none, none] [] h2 (some ())) : GX l G M_L_law (g_phL Q Z) k n 822 [some (.ref b), some (.ref a), some (.ref m), some (.ref q), some (.int i), none, none, none, none] [] h (some ()) := by
  unfold lw_S at hS
  obtain ⟨c, h1, e1, hS⟩ := hS
  refine X_aload_n rfl rfl rfl ?_
  refine X_aload_n rfl rfl rfl ?_
  refine X_iload rfl rfl rfl ?_
  refine X_iconst (v := 1) rfl rfl (by decide) ?_
  refine X_iadd rfl rfl ?_
  refine X_sld hX rfl rfl hi1 hv1 ?_
  refine X_aload_n rfl rfl rfl ?_
  refine X_callH (M' := M_L_foretold) (nA := 3) (As := [.ref a, .int x1, .ref q]) (st := []) rfl rfl (by decide +kernel) rfl rfl rfl (ct_L_foretold hl e1) hk hs (fun n' => ?_)
  obtain ⟨r, h2, e2, e3, g1, g2, e4, hI⟩ := hS n'
  refine X_rfl (st' := [.int c]) rfl ?_
  refine X_istore rfl rfl rfl rfl ?_
  refine X_aload_n rfl rfl rfl ?_
  refine X_aload_n rfl rfl rfl ?_
  refine X_iload rfl rfl rfl ?_
  refine X_iconst (v := 1) rfl rfl (by decide) ?_
  refine X_iadd rfl rfl ?_
  refine X_sld hX rfl rfl hi1 hv1 ?_
  refine X_callV (M' := M_X8_foretold) (nA := 1) (b := m) (ci := 8) (As := [.int x1]) (st := []) rfl rfl (by decide +kernel) rfl rfl rfl ⟨g1, by decide⟩ (ct_X8_foretold e2) (g_ble (by exact hk)) (g_ble (by exact hs)) ?_
  refine X_rfl (st' := [.int r]) rfl ?_
  refine X_istore rfl rfl rfl rfl ?_
  refine X_aload_n rfl rfl rfl ?_
  refine X_callV (M' := M_X8_thrown) (nA := 0) (b := m) (ci := 8) (As := []) (st := []) rfl rfl (by decide +kernel) rfl rfl rfl ⟨g2, by decide⟩ (ct_X8_thrown e3) (g_ble (by exact hk)) (g_ble (by exact hs)) ?_
  refine X_rfl (st' := [.int c]) rfl ?_
  refine X_iload rfl rfl rfl ?_
  refine X_icmp_eq rfl rfl (fun _ => ?_) (fun cc => absurd rfl cc)
  refine X_iload rfl rfl rfl ?_
  refine X_if_ne rfl rfl (fun hc => ?_) (fun hc => ?_)
  · refine X_goto rfl rfl ?_
    exact X_sub (g_sub_s (g_sub_s (g_sub_s (g_sub_s (g_sub_s (g_sub_n (g_sub_n (g_sub_n (g_sub_n g_sub_0))))))))) (kk _ hI)
  · refine X_aload_n rfl rfl rfl ?_
    refine X_iconst (v := 0) rfl rfl (by decide) ?_
    refine X_lldE rfl rfl (e4 (by simpa using hc)) ?_
    refine X_iload rfl rfl rfl ?_
    refine X_i2l rfl rfl ?_
    refine X_lcmp rfl rfl ?_
    refine X_rfl (st' := [.int 0]) (by simp [lg_cmp_self]) ?_
    refine X_if_eq rfl rfl (fun _ => ?_) (fun cc => absurd rfl cc)
    refine X_goto rfl rfl ?_
    exact X_sub (g_sub_s (g_sub_s (g_sub_s (g_sub_s (g_sub_s (g_sub_n (g_sub_n (g_sub_n (g_sub_n g_sub_0))))))))) (kk _ hI)
set_option maxRecDepth 100000 in
theorem law_leastPower (hl : l.stackTraces = false) (hX : g_scr G Q b N xs) (hi1 : vp_in (i + 1) N) (hv1 : xs (i + 1).toNatClampNeg = x1) (hS : lw_S Inv m q (fun r => r.toInt64) (f_L_leastPower h a x1 q) (fun h9 => f_X8_leastPower h9 m x1)) (hk : k + 1 ≤ 601024) (hs : n + 6 ≤ 7293034) (kk : ∀ h2, Inv h2 → GX l G M_L_law (g_phL Q Z) (k + 1) (n + 6) 1417 [some (.ref b), some (.ref a), some (.ref m), some (.ref q), some (.int i), none, none, none, none] [] h2 (some ())) : GX l G M_L_law (g_phL Q Z) k n 878 [some (.ref b), some (.ref a), some (.ref m), some (.ref q), some (.int i), none, none, none, none] [] h (some ()) := by
  unfold lw_S at hS
  obtain ⟨c, h1, e1, hS⟩ := hS
  refine X_aload_n rfl rfl rfl ?_
  refine X_aload_n rfl rfl rfl ?_
  refine X_iload rfl rfl rfl ?_
  refine X_iconst (v := 1) rfl rfl (by decide) ?_
  refine X_iadd rfl rfl ?_
  refine X_sld hX rfl rfl hi1 hv1 ?_
  refine X_aload_n rfl rfl rfl ?_
  refine X_callH (M' := M_L_leastPower) (nA := 3) (As := [.ref a, .int x1, .ref q]) (st := []) rfl rfl (by decide +kernel) rfl rfl rfl (ct_L_leastPower hl e1) hk hs (fun n' => ?_)
  obtain ⟨r, h2, e2, e3, g1, g2, e4, hI⟩ := hS n'
  refine X_rfl (st' := [.int c]) rfl ?_
  refine X_istore rfl rfl rfl rfl ?_
  refine X_aload_n rfl rfl rfl ?_
  refine X_aload_n rfl rfl rfl ?_
  refine X_iload rfl rfl rfl ?_
  refine X_iconst (v := 1) rfl rfl (by decide) ?_
  refine X_iadd rfl rfl ?_
  refine X_sld hX rfl rfl hi1 hv1 ?_
  refine X_callV (M' := M_X8_leastPower) (nA := 1) (b := m) (ci := 8) (As := [.int x1]) (st := []) rfl rfl (by decide +kernel) rfl rfl rfl ⟨g1, by decide⟩ (ct_X8_leastPower e2) (g_ble (by exact hk)) (g_ble (by exact hs)) ?_
  refine X_rfl (st' := [.int r]) rfl ?_
  refine X_istore rfl rfl rfl rfl ?_
  refine X_aload_n rfl rfl rfl ?_
  refine X_callV (M' := M_X8_thrown) (nA := 0) (b := m) (ci := 8) (As := []) (st := []) rfl rfl (by decide +kernel) rfl rfl rfl ⟨g2, by decide⟩ (ct_X8_thrown e3) (g_ble (by exact hk)) (g_ble (by exact hs)) ?_
  refine X_rfl (st' := [.int c]) rfl ?_
  refine X_iload rfl rfl rfl ?_
  refine X_icmp_eq rfl rfl (fun _ => ?_) (fun cc => absurd rfl cc)
  refine X_iload rfl rfl rfl ?_
  refine X_if_ne rfl rfl (fun hc => ?_) (fun hc => ?_)
  · refine X_goto rfl rfl ?_
    exact X_sub (g_sub_s (g_sub_s (g_sub_s (g_sub_s (g_sub_s (g_sub_n (g_sub_n (g_sub_n (g_sub_n g_sub_0))))))))) (kk _ hI)
  · refine X_aload_n rfl rfl rfl ?_
    refine X_iconst (v := 0) rfl rfl (by decide) ?_
    refine X_lldE rfl rfl (e4 (by simpa using hc)) ?_
    refine X_iload rfl rfl rfl ?_
    refine X_i2l rfl rfl ?_
    refine X_lcmp rfl rfl ?_
    refine X_rfl (st' := [.int 0]) (by simp [lg_cmp_self]) ?_
    refine X_if_eq rfl rfl (fun _ => ?_) (fun cc => absurd rfl cc)
    refine X_goto rfl rfl ?_
    exact X_sub (g_sub_s (g_sub_s (g_sub_s (g_sub_s (g_sub_s (g_sub_n (g_sub_n (g_sub_n (g_sub_n g_sub_0))))))))) (kk _ hI)
set_option maxRecDepth 100000 in
theorem law_quality (hl : l.stackTraces = false) (hX : g_scr G Q b N xs) (hS : g_is h a 7 = true ∧ g_is h m 8 = true ∧ ∃ (r : UInt64) (h2 : gH), f_X7_quality h a = some r ∧ f_X8_quality h m = some (r, h2) ∧ Inv h2 ∧ Op.cmpValue (FP.dcmp r r) .l = 0) (hk : k + 0 ≤ 601024) (hs : n + 0 ≤ 7293034) (kk : ∀ h2, Inv h2 → GX l G M_L_law (g_phL Q Z) (k + 0) (n + 0) 1417 [some (.ref b), some (.ref a), some (.ref m), some (.ref q), some (.int i), none, none, none, none] [] h2 (some ())) : GX l G M_L_law (g_phL Q Z) k n 934 [some (.ref b), some (.ref a), some (.ref m), some (.ref q), some (.int i), none, none, none, none] [] h (some ()) := by
  obtain ⟨g0, g1, r, h2, e1, e2, hI, hD⟩ := hS
  refine X_aload_n rfl rfl rfl ?_
  refine X_callV (M' := M_X7_quality) (nA := 0) (b := a) (ci := 7) (As := []) (st := []) rfl rfl (by decide +kernel) rfl rfl rfl ⟨g0, by decide⟩ (ct_X7_quality e1) (g_ble (by exact hk)) (g_ble (by exact hs)) ?_
  refine X_rfl (st' := [.double r]) rfl ?_
  refine X_dstore rfl rfl rfl rfl ?_
  refine X_aload_n rfl rfl rfl ?_
  refine X_callV (M' := M_X8_quality) (nA := 0) (b := m) (ci := 8) (As := []) (st := []) rfl rfl (by decide +kernel) rfl rfl rfl ⟨g1, by decide⟩ (ct_X8_quality e2) (g_ble (by exact hk)) (g_ble (by exact hs)) ?_
  refine X_rfl (st' := [.double r]) rfl ?_
  refine X_dstore rfl rfl rfl rfl ?_
  refine X_dload rfl rfl rfl ?_
  refine X_dload rfl rfl rfl ?_
  refine X_dcmp rfl rfl ?_
  refine X_if_eq rfl rfl (fun _ => ?_) (fun cc => absurd hD cc)
  refine X_goto rfl rfl ?_
  exact X_sub (g_sub_s (g_sub_s (g_sub_s (g_sub_s (g_sub_s (g_sub_n (g_sub_n (g_sub_n (g_sub_n g_sub_0))))))))) (kk _ hI)
set_option maxRecDepth 100000 in
theorem law_pass (hl : l.stackTraces = false) (hX : g_scr G Q b N xs) (hi1 : vp_in (i + 1) N) (hv1 : xs (i + 1).toNatClampNeg = x1) (hS : lw_S Inv m q (fun r => r.toInt64) (f_L_pass h a x1 q) (fun h9 => f_X8_pass h9 m x1)) (hk : k + 1 ≤ 601024) (hs : n + 6 ≤ 7293034) (kk : ∀ h2, Inv h2 → GX l G M_L_law (g_phL Q Z) (k + 1) (n + 6) 1417 [some (.ref b), some (.ref a), some (.ref m), some (.ref q), some (.int i), none, none, none, none] [] h2 (some ())) : GX l G M_L_law (g_phL Q Z) k n 975 [some (.ref b), some (.ref a), some (.ref m), some (.ref q), some (.int i), none, none, none, none] [] h (some ()) := by
  unfold lw_S at hS
  obtain ⟨c, h1, e1, hS⟩ := hS
  refine X_aload_n rfl rfl rfl ?_
  refine X_aload_n rfl rfl rfl ?_
  refine X_iload rfl rfl rfl ?_
  refine X_iconst (v := 1) rfl rfl (by decide) ?_
  refine X_iadd rfl rfl ?_
  refine X_sld hX rfl rfl hi1 hv1 ?_
  refine X_aload_n rfl rfl rfl ?_
  refine X_callH (M' := M_L_pass) (nA := 3) (As := [.ref a, .int x1, .ref q]) (st := []) rfl rfl (by decide +kernel) rfl rfl rfl (ct_L_pass hl e1) hk hs (fun n' => ?_)
  obtain ⟨r, h2, e2, e3, g1, g2, e4, hI⟩ := hS n'
  refine X_rfl (st' := [.int c]) rfl ?_
  refine X_istore rfl rfl rfl rfl ?_
  refine X_aload_n rfl rfl rfl ?_
  refine X_aload_n rfl rfl rfl ?_
  refine X_iload rfl rfl rfl ?_
  refine X_iconst (v := 1) rfl rfl (by decide) ?_
  refine X_iadd rfl rfl ?_
  refine X_sld hX rfl rfl hi1 hv1 ?_
  refine X_callV (M' := M_X8_pass) (nA := 1) (b := m) (ci := 8) (As := [.int x1]) (st := []) rfl rfl (by decide +kernel) rfl rfl rfl ⟨g1, by decide⟩ (ct_X8_pass e2) (g_ble (by exact hk)) (g_ble (by exact hs)) ?_
  refine X_rfl (st' := [.int r]) rfl ?_
  refine X_istore rfl rfl rfl rfl ?_
  refine X_aload_n rfl rfl rfl ?_
  refine X_callV (M' := M_X8_thrown) (nA := 0) (b := m) (ci := 8) (As := []) (st := []) rfl rfl (by decide +kernel) rfl rfl rfl ⟨g2, by decide⟩ (ct_X8_thrown e3) (g_ble (by exact hk)) (g_ble (by exact hs)) ?_
  refine X_rfl (st' := [.int c]) rfl ?_
  refine X_iload rfl rfl rfl ?_
  refine X_icmp_eq rfl rfl (fun _ => ?_) (fun cc => absurd rfl cc)
  refine X_iload rfl rfl rfl ?_
  refine X_if_ne rfl rfl (fun hc => ?_) (fun hc => ?_)
  · refine X_goto rfl rfl ?_
    exact X_sub (g_sub_s (g_sub_s (g_sub_s (g_sub_s (g_sub_s (g_sub_n (g_sub_n (g_sub_n (g_sub_n g_sub_0))))))))) (kk _ hI)
  · refine X_aload_n rfl rfl rfl ?_
    refine X_iconst (v := 0) rfl rfl (by decide) ?_
    refine X_lldE rfl rfl (e4 (by simpa using hc)) ?_
    refine X_iload rfl rfl rfl ?_
    refine X_i2l rfl rfl ?_
    refine X_lcmp rfl rfl ?_
    refine X_rfl (st' := [.int 0]) (by simp [lg_cmp_self]) ?_
    refine X_if_eq rfl rfl (fun _ => ?_) (fun cc => absurd rfl cc)
    refine X_goto rfl rfl ?_
    exact X_sub (g_sub_s (g_sub_s (g_sub_s (g_sub_s (g_sub_s (g_sub_n (g_sub_n (g_sub_n (g_sub_n g_sub_0))))))))) (kk _ hI)
set_option maxRecDepth 100000 in
theorem law_send (hl : l.stackTraces = false) (hX : g_scr G Q b N xs) (hi1 : vp_in (i + 1) N) (hv1 : xs (i + 1).toNatClampNeg = x1) (hi2 : vp_in (i + 2) N) (hv2 : xs (i + 2).toNatClampNeg = x2) (hi3 : vp_in (i + 3) N) (hv3 : xs (i + 3).toNatClampNeg = x3) (hS : lw_S Inv m q (fun r => r.toInt64) (f_L_send h a x1 x2 x3 q) (fun h9 => f_X8_send h9 m x1 x2 x3)) (hk : k + 1 ≤ 601024) (hs : n + 6 ≤ 7293034) (kk : ∀ h2, Inv h2 → GX l G M_L_law (g_phL Q Z) (k + 1) (n + 6) 1417 [some (.ref b), some (.ref a), some (.ref m), some (.ref q), some (.int i), none, none, none, none] [] h2 (some ())) : GX l G M_L_law (g_phL Q Z) k n 1031 [some (.ref b), some (.ref a), some (.ref m), some (.ref q), some (.int i), none, none, none, none] [] h (some ()) := by
  unfold lw_S at hS
  obtain ⟨c, h1, e1, hS⟩ := hS
  refine X_aload_n rfl rfl rfl ?_
  refine X_aload_n rfl rfl rfl ?_
  refine X_iload rfl rfl rfl ?_
  refine X_iconst (v := 1) rfl rfl (by decide) ?_
  refine X_iadd rfl rfl ?_
  refine X_sld hX rfl rfl hi1 hv1 ?_
  refine X_aload_n rfl rfl rfl ?_
  refine X_iload rfl rfl rfl ?_
  refine X_iconst (v := 2) rfl rfl (by decide) ?_
  refine X_iadd rfl rfl ?_
  refine X_sld hX rfl rfl hi2 hv2 ?_
  refine X_aload_n rfl rfl rfl ?_
  refine X_iload rfl rfl rfl ?_
  refine X_iconst (v := 3) rfl rfl (by decide) ?_
  refine X_iadd rfl rfl ?_
  refine X_sld hX rfl rfl hi3 hv3 ?_
  refine X_aload_n rfl rfl rfl ?_
  refine X_callH (M' := M_L_send) (nA := 5) (As := [.ref a, .int x1, .int x2, .int x3, .ref q]) (st := []) rfl rfl (by decide +kernel) rfl rfl rfl (ct_L_send hl e1) hk hs (fun n' => ?_)
  obtain ⟨r, h2, e2, e3, g1, g2, e4, hI⟩ := hS n'
  refine X_rfl (st' := [.int c]) rfl ?_
  refine X_istore rfl rfl rfl rfl ?_
  refine X_aload_n rfl rfl rfl ?_
  refine X_aload_n rfl rfl rfl ?_
  refine X_iload rfl rfl rfl ?_
  refine X_iconst (v := 1) rfl rfl (by decide) ?_
  refine X_iadd rfl rfl ?_
  refine X_sld hX rfl rfl hi1 hv1 ?_
  refine X_aload_n rfl rfl rfl ?_
  refine X_iload rfl rfl rfl ?_
  refine X_iconst (v := 2) rfl rfl (by decide) ?_
  refine X_iadd rfl rfl ?_
  refine X_sld hX rfl rfl hi2 hv2 ?_
  refine X_aload_n rfl rfl rfl ?_
  refine X_iload rfl rfl rfl ?_
  refine X_iconst (v := 3) rfl rfl (by decide) ?_
  refine X_iadd rfl rfl ?_
  refine X_sld hX rfl rfl hi3 hv3 ?_
  refine X_callV (M' := M_X8_send) (nA := 3) (b := m) (ci := 8) (As := [.int x1, .int x2, .int x3]) (st := []) rfl rfl (by decide +kernel) rfl rfl rfl ⟨g1, by decide⟩ (ct_X8_send e2) (g_ble (by exact hk)) (g_ble (by exact hs)) ?_
  refine X_rfl (st' := [.int r]) rfl ?_
  refine X_istore rfl rfl rfl rfl ?_
  refine X_aload_n rfl rfl rfl ?_
  refine X_callV (M' := M_X8_thrown) (nA := 0) (b := m) (ci := 8) (As := []) (st := []) rfl rfl (by decide +kernel) rfl rfl rfl ⟨g2, by decide⟩ (ct_X8_thrown e3) (g_ble (by exact hk)) (g_ble (by exact hs)) ?_
  refine X_rfl (st' := [.int c]) rfl ?_
  refine X_iload rfl rfl rfl ?_
  refine X_icmp_eq rfl rfl (fun _ => ?_) (fun cc => absurd rfl cc)
  refine X_iload rfl rfl rfl ?_
  refine X_if_ne rfl rfl (fun hc => ?_) (fun hc => ?_)
  · refine X_goto rfl rfl ?_
    exact X_sub (g_sub_s (g_sub_s (g_sub_s (g_sub_s (g_sub_s (g_sub_n (g_sub_n (g_sub_n (g_sub_n g_sub_0))))))))) (kk _ hI)
  · refine X_aload_n rfl rfl rfl ?_
    refine X_iconst (v := 0) rfl rfl (by decide) ?_
    refine X_lldE rfl rfl (e4 (by simpa using hc)) ?_
    refine X_iload rfl rfl rfl ?_
    refine X_i2l rfl rfl ?_
    refine X_lcmp rfl rfl ?_
    refine X_rfl (st' := [.int 0]) (by simp [lg_cmp_self]) ?_
    refine X_if_eq rfl rfl (fun _ => ?_) (fun cc => absurd rfl cc)
    refine X_goto rfl rfl ?_
    exact X_sub (g_sub_s (g_sub_s (g_sub_s (g_sub_s (g_sub_s (g_sub_n (g_sub_n (g_sub_n (g_sub_n g_sub_0))))))))) (kk _ hI)
set_option maxRecDepth 100000 in
theorem law_fog (hl : l.stackTraces = false) (hX : g_scr G Q b N xs) (hi1 : vp_in (i + 1) N) (hv1 : xs (i + 1).toNatClampNeg = x1) (hi2 : vp_in (i + 2) N) (hv2 : xs (i + 2).toNatClampNeg = x2) (hi3 : vp_in (i + 3) N) (hv3 : xs (i + 3).toNatClampNeg = x3) (hS : lw_S Inv m q (fun r => r.toInt64) (f_L_fog h a x1 x2 x3 q) (fun h9 => f_X8_fog h9 m x1 x2 x3)) (hk : k + 1 ≤ 601024) (hs : n + 6 ≤ 7293034) (kk : ∀ h2, Inv h2 → GX l G M_L_law (g_phL Q Z) (k + 1) (n + 6) 1417 [some (.ref b), some (.ref a), some (.ref m), some (.ref q), some (.int i), none, none, none, none] [] h2 (some ())) : GX l G M_L_law (g_phL Q Z) k n 1111 [some (.ref b), some (.ref a), some (.ref m), some (.ref q), some (.int i), none, none, none, none] [] h (some ()) := by
  unfold lw_S at hS
  obtain ⟨c, h1, e1, hS⟩ := hS
  refine X_aload_n rfl rfl rfl ?_
  refine X_aload_n rfl rfl rfl ?_
  refine X_iload rfl rfl rfl ?_
  refine X_iconst (v := 1) rfl rfl (by decide) ?_
  refine X_iadd rfl rfl ?_
  refine X_sld hX rfl rfl hi1 hv1 ?_
  refine X_aload_n rfl rfl rfl ?_
  refine X_iload rfl rfl rfl ?_
  refine X_iconst (v := 2) rfl rfl (by decide) ?_
  refine X_iadd rfl rfl ?_
  refine X_sld hX rfl rfl hi2 hv2 ?_
  refine X_aload_n rfl rfl rfl ?_
  refine X_iload rfl rfl rfl ?_
  refine X_iconst (v := 3) rfl rfl (by decide) ?_
  refine X_iadd rfl rfl ?_
  refine X_sld hX rfl rfl hi3 hv3 ?_
  refine X_aload_n rfl rfl rfl ?_
  refine X_callH (M' := M_L_fog) (nA := 5) (As := [.ref a, .int x1, .int x2, .int x3, .ref q]) (st := []) rfl rfl (by decide +kernel) rfl rfl rfl (ct_L_fog hl e1) hk hs (fun n' => ?_)
  obtain ⟨r, h2, e2, e3, g1, g2, e4, hI⟩ := hS n'
  refine X_rfl (st' := [.int c]) rfl ?_
  refine X_istore rfl rfl rfl rfl ?_
  refine X_aload_n rfl rfl rfl ?_
  refine X_aload_n rfl rfl rfl ?_
  refine X_iload rfl rfl rfl ?_
  refine X_iconst (v := 1) rfl rfl (by decide) ?_
  refine X_iadd rfl rfl ?_
  refine X_sld hX rfl rfl hi1 hv1 ?_
  refine X_aload_n rfl rfl rfl ?_
  refine X_iload rfl rfl rfl ?_
  refine X_iconst (v := 2) rfl rfl (by decide) ?_
  refine X_iadd rfl rfl ?_
  refine X_sld hX rfl rfl hi2 hv2 ?_
  refine X_aload_n rfl rfl rfl ?_
  refine X_iload rfl rfl rfl ?_
  refine X_iconst (v := 3) rfl rfl (by decide) ?_
  refine X_iadd rfl rfl ?_
  refine X_sld hX rfl rfl hi3 hv3 ?_
  refine X_callV (M' := M_X8_fog) (nA := 3) (b := m) (ci := 8) (As := [.int x1, .int x2, .int x3]) (st := []) rfl rfl (by decide +kernel) rfl rfl rfl ⟨g1, by decide⟩ (ct_X8_fog e2) (g_ble (by exact hk)) (g_ble (by exact hs)) ?_
  refine X_rfl (st' := [.int r]) rfl ?_
  refine X_istore rfl rfl rfl rfl ?_
  refine X_aload_n rfl rfl rfl ?_
  refine X_callV (M' := M_X8_thrown) (nA := 0) (b := m) (ci := 8) (As := []) (st := []) rfl rfl (by decide +kernel) rfl rfl rfl ⟨g2, by decide⟩ (ct_X8_thrown e3) (g_ble (by exact hk)) (g_ble (by exact hs)) ?_
  refine X_rfl (st' := [.int c]) rfl ?_
  refine X_iload rfl rfl rfl ?_
  refine X_icmp_eq rfl rfl (fun _ => ?_) (fun cc => absurd rfl cc)
  refine X_iload rfl rfl rfl ?_
  refine X_if_ne rfl rfl (fun hc => ?_) (fun hc => ?_)
  · refine X_goto rfl rfl ?_
    exact X_sub (g_sub_s (g_sub_s (g_sub_s (g_sub_s (g_sub_s (g_sub_n (g_sub_n (g_sub_n (g_sub_n g_sub_0))))))))) (kk _ hI)
  · refine X_aload_n rfl rfl rfl ?_
    refine X_iconst (v := 0) rfl rfl (by decide) ?_
    refine X_lldE rfl rfl (e4 (by simpa using hc)) ?_
    refine X_iload rfl rfl rfl ?_
    refine X_i2l rfl rfl ?_
    refine X_lcmp rfl rfl ?_
    refine X_rfl (st' := [.int 0]) (by simp [lg_cmp_self]) ?_
    refine X_if_eq rfl rfl (fun _ => ?_) (fun cc => absurd rfl cc)
    refine X_goto rfl rfl ?_
    exact X_sub (g_sub_s (g_sub_s (g_sub_s (g_sub_s (g_sub_s (g_sub_n (g_sub_n (g_sub_n (g_sub_n g_sub_0))))))))) (kk _ hI)
set_option maxRecDepth 100000 in
theorem law_relieve (hl : l.stackTraces = false) (hX : g_scr G Q b N xs) (hi1 : vp_in (i + 1) N) (hv1 : xs (i + 1).toNatClampNeg = x1) (hi2 : vp_in (i + 2) N) (hv2 : xs (i + 2).toNatClampNeg = x2) (hS : lw_S Inv m q (fun r => r.toInt64) (f_L_relieve h a x1 x2 q) (fun h9 => f_X8_relieve h9 m x1 x2)) (hk : k + 1 ≤ 601024) (hs : n + 6 ≤ 7293034) (kk : ∀ h2, Inv h2 → GX l G M_L_law (g_phL Q Z) (k + 1) (n + 6) 1417 [some (.ref b), some (.ref a), some (.ref m), some (.ref q), some (.int i), none, none, none, none] [] h2 (some ())) : GX l G M_L_law (g_phL Q Z) k n 1191 [some (.ref b), some (.ref a), some (.ref m), some (.ref q), some (.int i), none, none, none, none] [] h (some ()) := by
  unfold lw_S at hS
  obtain ⟨c, h1, e1, hS⟩ := hS
  refine X_aload_n rfl rfl rfl ?_
  refine X_aload_n rfl rfl rfl ?_
  refine X_iload rfl rfl rfl ?_
  refine X_iconst (v := 1) rfl rfl (by decide) ?_
  refine X_iadd rfl rfl ?_
  refine X_sld hX rfl rfl hi1 hv1 ?_
  refine X_aload_n rfl rfl rfl ?_
  refine X_iload rfl rfl rfl ?_
  refine X_iconst (v := 2) rfl rfl (by decide) ?_
  refine X_iadd rfl rfl ?_
  refine X_sld hX rfl rfl hi2 hv2 ?_
  refine X_aload_n rfl rfl rfl ?_
  refine X_callH (M' := M_L_relieve) (nA := 4) (As := [.ref a, .int x1, .int x2, .ref q]) (st := []) rfl rfl (by decide +kernel) rfl rfl rfl (ct_L_relieve hl e1) hk hs (fun n' => ?_)
  obtain ⟨r, h2, e2, e3, g1, g2, e4, hI⟩ := hS n'
  refine X_rfl (st' := [.int c]) rfl ?_
  refine X_istore rfl rfl rfl rfl ?_
  refine X_aload_n rfl rfl rfl ?_
  refine X_aload_n rfl rfl rfl ?_
  refine X_iload rfl rfl rfl ?_
  refine X_iconst (v := 1) rfl rfl (by decide) ?_
  refine X_iadd rfl rfl ?_
  refine X_sld hX rfl rfl hi1 hv1 ?_
  refine X_aload_n rfl rfl rfl ?_
  refine X_iload rfl rfl rfl ?_
  refine X_iconst (v := 2) rfl rfl (by decide) ?_
  refine X_iadd rfl rfl ?_
  refine X_sld hX rfl rfl hi2 hv2 ?_
  refine X_callV (M' := M_X8_relieve) (nA := 2) (b := m) (ci := 8) (As := [.int x1, .int x2]) (st := []) rfl rfl (by decide +kernel) rfl rfl rfl ⟨g1, by decide⟩ (ct_X8_relieve e2) (g_ble (by exact hk)) (g_ble (by exact hs)) ?_
  refine X_rfl (st' := [.int r]) rfl ?_
  refine X_istore rfl rfl rfl rfl ?_
  refine X_aload_n rfl rfl rfl ?_
  refine X_callV (M' := M_X8_thrown) (nA := 0) (b := m) (ci := 8) (As := []) (st := []) rfl rfl (by decide +kernel) rfl rfl rfl ⟨g2, by decide⟩ (ct_X8_thrown e3) (g_ble (by exact hk)) (g_ble (by exact hs)) ?_
  refine X_rfl (st' := [.int c]) rfl ?_
  refine X_iload rfl rfl rfl ?_
  refine X_icmp_eq rfl rfl (fun _ => ?_) (fun cc => absurd rfl cc)
  refine X_iload rfl rfl rfl ?_
  refine X_if_ne rfl rfl (fun hc => ?_) (fun hc => ?_)
  · refine X_goto rfl rfl ?_
    exact X_sub (g_sub_s (g_sub_s (g_sub_s (g_sub_s (g_sub_s (g_sub_n (g_sub_n (g_sub_n (g_sub_n g_sub_0))))))))) (kk _ hI)
  · refine X_aload_n rfl rfl rfl ?_
    refine X_iconst (v := 0) rfl rfl (by decide) ?_
    refine X_lldE rfl rfl (e4 (by simpa using hc)) ?_
    refine X_iload rfl rfl rfl ?_
    refine X_i2l rfl rfl ?_
    refine X_lcmp rfl rfl ?_
    refine X_rfl (st' := [.int 0]) (by simp [lg_cmp_self]) ?_
    refine X_if_eq rfl rfl (fun _ => ?_) (fun cc => absurd rfl cc)
    refine X_goto rfl rfl ?_
    exact X_sub (g_sub_s (g_sub_s (g_sub_s (g_sub_s (g_sub_s (g_sub_n (g_sub_n (g_sub_n (g_sub_n g_sub_0))))))))) (kk _ hI)
set_option maxRecDepth 100000 in
theorem law_power (hl : l.stackTraces = false) (hX : g_scr G Q b N xs) (hi1 : vp_in (i + 1) N) (hv1 : xs (i + 1).toNatClampNeg = x1) (hi2 : vp_in (i + 2) N) (hv2 : xs (i + 2).toNatClampNeg = x2) (hS : lw_S Inv m q (fun r => r.toInt64) (f_L_power h a x1 x2 q) (fun h9 => f_X8_power h9 m x1 x2)) (hk : k + 1 ≤ 601024) (hs : n + 6 ≤ 7293034) (kk : ∀ h2, Inv h2 → GX l G M_L_law (g_phL Q Z) (k + 1) (n + 6) 1417 [some (.ref b), some (.ref a), some (.ref m), some (.ref q), some (.int i), none, none, none, none] [] h2 (some ())) : GX l G M_L_law (g_phL Q Z) k n 1259 [some (.ref b), some (.ref a), some (.ref m), some (.ref q), some (.int i), none, none, none, none] [] h (some ()) := by
  unfold lw_S at hS
  obtain ⟨c, h1, e1, hS⟩ := hS
  refine X_aload_n rfl rfl rfl ?_
  refine X_aload_n rfl rfl rfl ?_
  refine X_iload rfl rfl rfl ?_
  refine X_iconst (v := 1) rfl rfl (by decide) ?_
  refine X_iadd rfl rfl ?_
  refine X_sld hX rfl rfl hi1 hv1 ?_
  refine X_aload_n rfl rfl rfl ?_
  refine X_iload rfl rfl rfl ?_
  refine X_iconst (v := 2) rfl rfl (by decide) ?_
  refine X_iadd rfl rfl ?_
  refine X_sld hX rfl rfl hi2 hv2 ?_
  refine X_aload_n rfl rfl rfl ?_
  refine X_callH (M' := M_L_power) (nA := 4) (As := [.ref a, .int x1, .int x2, .ref q]) (st := []) rfl rfl (by decide +kernel) rfl rfl rfl (ct_L_power hl e1) hk hs (fun n' => ?_)
  obtain ⟨r, h2, e2, e3, g1, g2, e4, hI⟩ := hS n'
  refine X_rfl (st' := [.int c]) rfl ?_
  refine X_istore rfl rfl rfl rfl ?_
  refine X_aload_n rfl rfl rfl ?_
  refine X_aload_n rfl rfl rfl ?_
  refine X_iload rfl rfl rfl ?_
  refine X_iconst (v := 1) rfl rfl (by decide) ?_
  refine X_iadd rfl rfl ?_
  refine X_sld hX rfl rfl hi1 hv1 ?_
  refine X_aload_n rfl rfl rfl ?_
  refine X_iload rfl rfl rfl ?_
  refine X_iconst (v := 2) rfl rfl (by decide) ?_
  refine X_iadd rfl rfl ?_
  refine X_sld hX rfl rfl hi2 hv2 ?_
  refine X_callV (M' := M_X8_power) (nA := 2) (b := m) (ci := 8) (As := [.int x1, .int x2]) (st := []) rfl rfl (by decide +kernel) rfl rfl rfl ⟨g1, by decide⟩ (ct_X8_power e2) (g_ble (by exact hk)) (g_ble (by exact hs)) ?_
  refine X_rfl (st' := [.int r]) rfl ?_
  refine X_istore rfl rfl rfl rfl ?_
  refine X_aload_n rfl rfl rfl ?_
  refine X_callV (M' := M_X8_thrown) (nA := 0) (b := m) (ci := 8) (As := []) (st := []) rfl rfl (by decide +kernel) rfl rfl rfl ⟨g2, by decide⟩ (ct_X8_thrown e3) (g_ble (by exact hk)) (g_ble (by exact hs)) ?_
  refine X_rfl (st' := [.int c]) rfl ?_
  refine X_iload rfl rfl rfl ?_
  refine X_icmp_eq rfl rfl (fun _ => ?_) (fun cc => absurd rfl cc)
  refine X_iload rfl rfl rfl ?_
  refine X_if_ne rfl rfl (fun hc => ?_) (fun hc => ?_)
  · refine X_goto rfl rfl ?_
    exact X_sub (g_sub_s (g_sub_s (g_sub_s (g_sub_s (g_sub_s (g_sub_n (g_sub_n (g_sub_n (g_sub_n g_sub_0))))))))) (kk _ hI)
  · refine X_aload_n rfl rfl rfl ?_
    refine X_iconst (v := 0) rfl rfl (by decide) ?_
    refine X_lldE rfl rfl (e4 (by simpa using hc)) ?_
    refine X_iload rfl rfl rfl ?_
    refine X_i2l rfl rfl ?_
    refine X_lcmp rfl rfl ?_
    refine X_rfl (st' := [.int 0]) (by simp [lg_cmp_self]) ?_
    refine X_if_eq rfl rfl (fun _ => ?_) (fun cc => absurd rfl cc)
    refine X_goto rfl rfl ?_
    exact X_sub (g_sub_s (g_sub_s (g_sub_s (g_sub_s (g_sub_s (g_sub_n (g_sub_n (g_sub_n (g_sub_n g_sub_0))))))))) (kk _ hI)
set_option maxRecDepth 100000 in
theorem law_cancel (hl : l.stackTraces = false) (hX : g_scr G Q b N xs) (hi1 : vp_in (i + 1) N) (hv1 : xs (i + 1).toNatClampNeg = x1) (hS : lw_S Inv m q (fun r => if r = 0 then 0 else 1) (f_L_cancel h a x1 q) (fun h9 => f_X8_cancel h9 m x1)) (hk : k + 1 ≤ 601024) (hs : n + 6 ≤ 7293034) (kk : ∀ h2, Inv h2 → GX l G M_L_law (g_phL Q Z) (k + 1) (n + 6) 1417 [some (.ref b), some (.ref a), some (.ref m), some (.ref q), some (.int i), none, none, none, none] [] h2 (some ())) : GX l G M_L_law (g_phL Q Z) k n 1327 [some (.ref b), some (.ref a), some (.ref m), some (.ref q), some (.int i), none, none, none, none] [] h (some ()) := by
  unfold lw_S at hS
  obtain ⟨c, h1, e1, hS⟩ := hS
  refine X_aload_n rfl rfl rfl ?_
  refine X_aload_n rfl rfl rfl ?_
  refine X_iload rfl rfl rfl ?_
  refine X_iconst (v := 1) rfl rfl (by decide) ?_
  refine X_iadd rfl rfl ?_
  refine X_sld hX rfl rfl hi1 hv1 ?_
  refine X_aload_n rfl rfl rfl ?_
  refine X_callH (M' := M_L_cancel) (nA := 3) (As := [.ref a, .int x1, .ref q]) (st := []) rfl rfl (by decide +kernel) rfl rfl rfl (ct_L_cancel hl e1) hk hs (fun n' => ?_)
  obtain ⟨r, h2, e2, e3, g1, g2, e4, hI⟩ := hS n'
  refine X_rfl (st' := [.int c]) rfl ?_
  refine X_istore rfl rfl rfl rfl ?_
  refine X_aload_n rfl rfl rfl ?_
  refine X_aload_n rfl rfl rfl ?_
  refine X_iload rfl rfl rfl ?_
  refine X_iconst (v := 1) rfl rfl (by decide) ?_
  refine X_iadd rfl rfl ?_
  refine X_sld hX rfl rfl hi1 hv1 ?_
  refine X_callV (M' := M_X8_cancel) (nA := 1) (b := m) (ci := 8) (As := [.int x1]) (st := []) rfl rfl (by decide +kernel) rfl rfl rfl ⟨g1, by decide⟩ (ct_X8_cancel e2) (g_ble (by exact hk)) (g_ble (by exact hs)) ?_
  refine X_rfl (st' := [.int r]) rfl ?_
  refine X_istore rfl rfl rfl rfl ?_
  refine X_aload_n rfl rfl rfl ?_
  refine X_callV (M' := M_X8_thrown) (nA := 0) (b := m) (ci := 8) (As := []) (st := []) rfl rfl (by decide +kernel) rfl rfl rfl ⟨g2, by decide⟩ (ct_X8_thrown e3) (g_ble (by exact hk)) (g_ble (by exact hs)) ?_
  refine X_rfl (st' := [.int c]) rfl ?_
  refine X_iload rfl rfl rfl ?_
  refine X_icmp_eq rfl rfl (fun _ => ?_) (fun cc => absurd rfl cc)
  refine X_iload rfl rfl rfl ?_
  refine X_if_ne rfl rfl (fun hc => ?_) (fun hc => ?_)
  · refine X_goto rfl rfl ?_
    exact X_sub (g_sub_s (g_sub_s (g_sub_s (g_sub_s (g_sub_s (g_sub_n (g_sub_n (g_sub_n (g_sub_n g_sub_0))))))))) (kk _ hI)
  · refine X_aload_n rfl rfl rfl ?_
    refine X_iconst (v := 0) rfl rfl (by decide) ?_
    refine X_lldE rfl rfl (e4 (by simpa using hc)) ?_
    refine X_iload rfl rfl rfl ?_
    refine X_if_eq rfl rfl (fun hr0 => ?_) (fun hr0 => ?_)
    · refine X_lconst (v := 0) rfl rfl (by decide) ?_
      refine X_rfl (st' := [.long (if r = 0 then 0 else 1), .long (if r = 0 then 0 else 1)]) (by simp [hr0]) ?_
      refine X_lcmp rfl rfl ?_
      refine X_rfl (st' := [.int 0]) (by simp [lg_cmp_self]) ?_
      refine X_if_eq rfl rfl (fun _ => ?_) (fun cc => absurd rfl cc)
      refine X_goto rfl rfl ?_
      exact X_sub (g_sub_s (g_sub_s (g_sub_s (g_sub_s (g_sub_s (g_sub_n (g_sub_n (g_sub_n (g_sub_n g_sub_0))))))))) (kk _ hI)
    · refine X_lconst (v := 1) rfl rfl (by decide) ?_
      refine X_goto rfl rfl ?_
      refine X_rfl (st' := [.long (if r = 0 then 0 else 1), .long (if r = 0 then 0 else 1)]) (by simp [hr0]) ?_
      refine X_lcmp rfl rfl ?_
      refine X_rfl (st' := [.int 0]) (by simp [lg_cmp_self]) ?_
      refine X_if_eq rfl rfl (fun _ => ?_) (fun cc => absurd rfl cc)
      refine X_goto rfl rfl ?_
      exact X_sub (g_sub_s (g_sub_s (g_sub_s (g_sub_s (g_sub_s (g_sub_n (g_sub_n (g_sub_n (g_sub_n g_sub_0))))))))) (kk _ hI)
set_option maxRecDepth 100000 in
theorem law_undo (hl : l.stackTraces = false) (hX : g_scr G Q b N xs) (hS : lw_S0 Inv a m h (f_X7_undo h a ) (fun h9 => f_X8_undo h9 m )) (hk : k + 0 ≤ 601024) (hs : n + 0 ≤ 7293034) (kk : ∀ h2, Inv h2 → GX l G M_L_law (g_phL Q Z) (k + 0) (n + 0) 1417 [some (.ref b), some (.ref a), some (.ref m), some (.ref q), some (.int i), none, none, none, none] [] h2 (some ())) : GX l G M_L_law (g_phL Q Z) k n 1390 [some (.ref b), some (.ref a), some (.ref m), some (.ref q), some (.int i), none, none, none, none] [] h (some ()) := by
  obtain ⟨g0, r, h1, h2, e1, g1, e2, hI⟩ := hS
  refine X_aload_n rfl rfl rfl ?_
  refine X_callV (M' := M_X7_undo) (nA := 0) (b := a) (ci := 7) (As := []) (st := []) rfl rfl (by decide +kernel) rfl rfl rfl ⟨g0, by decide⟩ (ct_X7_undo e1) (g_ble (by exact hk)) (g_ble (by exact hs)) ?_
  refine X_rfl (st' := [.int r]) rfl ?_
  refine X_aload_n rfl rfl rfl ?_
  refine X_callV (M' := M_X8_undo) (nA := 0) (b := m) (ci := 8) (As := []) (st := [.int r]) rfl rfl (by decide +kernel) rfl rfl rfl ⟨g1, by decide⟩ (ct_X8_undo e2) (g_ble (by exact hk)) (g_ble (by exact hs)) ?_
  refine X_rfl (st' := [.int r, .int r]) rfl ?_
  refine X_icmp_eq rfl rfl (fun _ => ?_) (fun cc => absurd rfl cc)
  exact X_sub (g_sub_s (g_sub_s (g_sub_s (g_sub_s (g_sub_s (g_sub_n (g_sub_n (g_sub_n (g_sub_n g_sub_0))))))))) (kk _ hI)
set_option maxRecDepth 100000 in
theorem law_checksum (hl : l.stackTraces = false) (hX : g_scr G Q b N xs) (hS : g_is h a 7 = true ∧ g_is h m 8 = true ∧ ∃ (r : Int64) (h2 : gH), f_X7_checksum h a = some r ∧ f_X8_checksum h m = some (r, h2) ∧ Inv h2) (hk : k + 0 ≤ 601024) (hs : n + 0 ≤ 7293034) (kk : ∀ h2, Inv h2 → GX l G M_L_law (g_phL Q Z) (k + 0) (n + 0) 1417 [some (.ref b), some (.ref a), some (.ref m), some (.ref q), some (.int i), none, none, none, none] [] h2 (some ())) : GX l G M_L_law (g_phL Q Z) k n 1403 [some (.ref b), some (.ref a), some (.ref m), some (.ref q), some (.int i), none, none, none, none] [] h (some ()) := by
  obtain ⟨g0, g1, r, h2, e1, e2, hI⟩ := hS
  refine X_aload_n rfl rfl rfl ?_
  refine X_callV (M' := M_X7_checksum) (nA := 0) (b := a) (ci := 7) (As := []) (st := []) rfl rfl (by decide +kernel) rfl rfl rfl ⟨g0, by decide⟩ (ct_X7_checksum e1) (g_ble (by exact hk)) (g_ble (by exact hs)) ?_
  refine X_rfl (st' := [.long r]) rfl ?_
  refine X_aload_n rfl rfl rfl ?_
  refine X_callV (M' := M_X8_checksum) (nA := 0) (b := m) (ci := 8) (As := []) (st := [.long r]) rfl rfl (by decide +kernel) rfl rfl rfl ⟨g1, by decide⟩ (ct_X8_checksum e2) (g_ble (by exact hk)) (g_ble (by exact hs)) ?_
  refine X_rfl (st' := [.long r, .long r]) rfl ?_
  refine X_lcmp rfl rfl ?_
  refine X_rfl (st' := [.int 0]) (by simp [lg_cmp_self]) ?_
  refine X_if_eq rfl rfl (fun _ => ?_) (fun cc => absurd rfl cc)
  exact X_sub (g_sub_s (g_sub_s (g_sub_s (g_sub_s (g_sub_s (g_sub_n (g_sub_n (g_sub_n (g_sub_n g_sub_0))))))))) (kk _ hI)
end LAWC
