/-! the law's body: its rows -/
theorem lawc_12 : lawL12.all (g_ent M_L_law) = true := by decide +kernel
theorem lawc_13 : lawL13.all (g_ent M_L_law) = true := by decide +kernel
theorem lawc_14 : lawL14.all (g_ent M_L_law) = true := by decide +kernel
theorem ok_L_law : g_ok M_L_law := by
  show (lawL0 ++ (lawL1 ++ (lawL2 ++ (lawL3 ++ (lawL4 ++ (lawL5 ++ (lawL6 ++ (lawL7 ++ (lawL8 ++ (lawL9 ++ (lawL10 ++ (lawL11 ++ (lawL12 ++ (lawL13 ++ (lawL14))))))))))))))).all (g_ent M_L_law) = true
  simp only [List.all_append, lawc_0, lawc_1, lawc_2, lawc_3, lawc_4, lawc_5, lawc_6, lawc_7, lawc_8, lawc_9, lawc_10, lawc_11, lawc_12, lawc_13, lawc_14, Bool.and_self]
