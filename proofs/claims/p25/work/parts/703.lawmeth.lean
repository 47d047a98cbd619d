/-! the law's body: its rows -/
theorem lawc_8 : lawL8.all (g_ent M_L_law) = true := by decide +kernel
theorem lawc_9 : lawL9.all (g_ent M_L_law) = true := by decide +kernel
theorem lawc_10 : lawL10.all (g_ent M_L_law) = true := by decide +kernel
theorem lawc_11 : lawL11.all (g_ent M_L_law) = true := by decide +kernel
