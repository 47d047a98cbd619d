/-! the law's body: its rows -/
theorem lawc_0 : lawL0.all (g_ent M_L_law) = true := by decide +kernel
theorem lawc_1 : lawL1.all (g_ent M_L_law) = true := by decide +kernel
theorem lawc_2 : lawL2.all (g_ent M_L_law) = true := by decide +kernel
theorem lawc_3 : lawL3.all (g_ent M_L_law) = true := by decide +kernel
