/-! the call of the longest method: its code is found by its place in the table -/
set_option maxRecDepth 100000 in
theorem rl_mem : Cond.code yL_randomLine cL_randomLine 12 (some (.object "LampRelayLaw$Line")) ∈ lw_tbl := List.mem_append_right _ (List.mem_append_right _ (List.mem_of_getElem? (i := 1483) rfl))
theorem g_site_of {M M' : gMt} {idx nA : Nat} (h1 : Cond.code (m_y M') (m_cc M') (m_nL M') (m_ret M') ∈ lw_tbl) (h2 : (decide (Cond.initialized (m_y M').cls ∈ lw_tbl) && decide ((m_y M').cls ≠ "java/lang/invoke/MethodHandle") && decide ((m_y M').cls ≠ "java/lang/invoke/VarHandle") && decide ((parseMethodDescriptor (m_y M').desc).map (fun d => d.parameters.length) = some nA) && Nat.ble ((m_R M').frames + 1) (m_R M).frames && Nat.ble (8 + (m_nL M' + 11) + (m_R M').locals) (m_R M).locals && (decide (Cond.static (m_y M') ∈ lw_tbl) && decide (Cond.methodLink (m_y M).cls idx (m_y M') ∈ lw_tbl))) = true) : g_site M M' (.invokestatic idx) nA = true := by
  unfold g_site
  rw [decide_eq_true h1, Bool.true_and]
  exact h2
theorem rl_site : g_site M_L_law M_L_randomLine (.invokestatic 246) 3 = true := g_site_of rl_mem (by decide +kernel)
