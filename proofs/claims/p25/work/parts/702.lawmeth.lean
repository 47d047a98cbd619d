/-! the law's body: its rows -/
theorem lawc_4 : lawL4.all (g_ent M_L_law) = true := by decide +kernel
theorem lawc_5 : lawL5.all (g_ent M_L_law) = true := by decide +kernel
theorem lawc_6 : lawL6.all (g_ent M_L_law) = true := by decide +kernel
theorem lawc_7 : lawL7.all (g_ent M_L_law) = true := by decide +kernel
