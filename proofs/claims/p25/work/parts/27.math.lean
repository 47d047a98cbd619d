/-! the objects of a World -/
theorem wL_c0 (h : gH) (w : Nat) (R : RW) : chP (wdP h w R) (w + 7) (R.c0) = wdP h w R := chP_self (wdI_c0 (wdP_is h w R))
theorem w_c0_g (h : gH) (w : Nat) (R : RW) : g_is (wdP h w R) (w + 7) 0 = true := by rw [← wL_c0 h w R]; exact chP_g _ _ _
theorem w_c0_Gpower (h : gH) (w : Nat) (R : RW) : g_gI (wdP h w R) (w + 7) 0 0 = some ((R.c0).power) := by rw [← wL_c0 h w R]; exact chG_power _ _ _
theorem w_c0_Tpower (h : gH) (w : Nat) (R : RW) (v : Int32) : g_put (wdP h w R) (w + 7) 0 0 (.int (v)) = some (wdP h w (RW.mk R.time R.told R.way R.fsize R.limit R.sent R.lost R.garbled R.given R.no ((RCh.mk v R.c0.opening R.c0.closing R.c0.frame R.c0.step R.c0.number R.c0.n R.c0.heard R.c0.lost R.c0.good)) R.c1 R.k0 R.k1 R.mi R.ms)) := by
  have q := chT_power (wdP h w R) (w + 7) (R.c0) v
  rw [wL_c0 h w R, wdU_c0] at q
  exact q
theorem w_c0_Gopening (h : gH) (w : Nat) (R : RW) : g_gI (wdP h w R) (w + 7) 0 1 = some ((R.c0).opening) := by rw [← wL_c0 h w R]; exact chG_opening _ _ _
theorem w_c0_Topening (h : gH) (w : Nat) (R : RW) (v : Int32) : g_put (wdP h w R) (w + 7) 0 1 (.int (v)) = some (wdP h w (RW.mk R.time R.told R.way R.fsize R.limit R.sent R.lost R.garbled R.given R.no ((RCh.mk R.c0.power v R.c0.closing R.c0.frame R.c0.step R.c0.number R.c0.n R.c0.heard R.c0.lost R.c0.good)) R.c1 R.k0 R.k1 R.mi R.ms)) := by
  have q := chT_opening (wdP h w R) (w + 7) (R.c0) v
  rw [wL_c0 h w R, wdU_c0] at q
  exact q
theorem w_c0_Gclosing (h : gH) (w : Nat) (R : RW) : g_gI (wdP h w R) (w + 7) 0 2 = some ((R.c0).closing) := by rw [← wL_c0 h w R]; exact chG_closing _ _ _
theorem w_c0_Tclosing (h : gH) (w : Nat) (R : RW) (v : Int32) : g_put (wdP h w R) (w + 7) 0 2 (.int (v)) = some (wdP h w (RW.mk R.time R.told R.way R.fsize R.limit R.sent R.lost R.garbled R.given R.no ((RCh.mk R.c0.power R.c0.opening v R.c0.frame R.c0.step R.c0.number R.c0.n R.c0.heard R.c0.lost R.c0.good)) R.c1 R.k0 R.k1 R.mi R.ms)) := by
  have q := chT_closing (wdP h w R) (w + 7) (R.c0) v
  rw [wL_c0 h w R, wdU_c0] at q
  exact q
theorem w_c0_Gframe (h : gH) (w : Nat) (R : RW) : g_gI (wdP h w R) (w + 7) 0 3 = some ((R.c0).frame) := by rw [← wL_c0 h w R]; exact chG_frame _ _ _
theorem w_c0_Tframe (h : gH) (w : Nat) (R : RW) (v : Int32) : g_put (wdP h w R) (w + 7) 0 3 (.int (v)) = some (wdP h w (RW.mk R.time R.told R.way R.fsize R.limit R.sent R.lost R.garbled R.given R.no ((RCh.mk R.c0.power R.c0.opening R.c0.closing v R.c0.step R.c0.number R.c0.n R.c0.heard R.c0.lost R.c0.good)) R.c1 R.k0 R.k1 R.mi R.ms)) := by
  have q := chT_frame (wdP h w R) (w + 7) (R.c0) v
  rw [wL_c0 h w R, wdU_c0] at q
  exact q
theorem w_c0_Gstep (h : gH) (w : Nat) (R : RW) : g_gI (wdP h w R) (w + 7) 0 4 = some ((R.c0).step) := by rw [← wL_c0 h w R]; exact chG_step _ _ _
theorem w_c0_Tstep (h : gH) (w : Nat) (R : RW) (v : Int32) : g_put (wdP h w R) (w + 7) 0 4 (.int (v)) = some (wdP h w (RW.mk R.time R.told R.way R.fsize R.limit R.sent R.lost R.garbled R.given R.no ((RCh.mk R.c0.power R.c0.opening R.c0.closing R.c0.frame v R.c0.number R.c0.n R.c0.heard R.c0.lost R.c0.good)) R.c1 R.k0 R.k1 R.mi R.ms)) := by
  have q := chT_step (wdP h w R) (w + 7) (R.c0) v
  rw [wL_c0 h w R, wdU_c0] at q
  exact q
theorem w_c0_Gnumber (h : gH) (w : Nat) (R : RW) : g_gI (wdP h w R) (w + 7) 0 5 = some ((R.c0).number) := by rw [← wL_c0 h w R]; exact chG_number _ _ _
theorem w_c0_Tnumber (h : gH) (w : Nat) (R : RW) (v : Int32) : g_put (wdP h w R) (w + 7) 0 5 (.int (v)) = some (wdP h w (RW.mk R.time R.told R.way R.fsize R.limit R.sent R.lost R.garbled R.given R.no ((RCh.mk R.c0.power R.c0.opening R.c0.closing R.c0.frame R.c0.step v R.c0.n R.c0.heard R.c0.lost R.c0.good)) R.c1 R.k0 R.k1 R.mi R.ms)) := by
  have q := chT_number (wdP h w R) (w + 7) (R.c0) v
  rw [wL_c0 h w R, wdU_c0] at q
  exact q
theorem w_c0_Gn (h : gH) (w : Nat) (R : RW) : g_gI (wdP h w R) (w + 7) 0 6 = some (nI (R.c0).n) := by rw [← wL_c0 h w R]; exact chG_n _ _ _
theorem w_c0_Tn (h : gH) (w : Nat) (R : RW) (v : Nat) : g_put (wdP h w R) (w + 7) 0 6 (.int (nI v)) = some (wdP h w (RW.mk R.time R.told R.way R.fsize R.limit R.sent R.lost R.garbled R.given R.no ((RCh.mk R.c0.power R.c0.opening R.c0.closing R.c0.frame R.c0.step R.c0.number v R.c0.heard R.c0.lost R.c0.good)) R.c1 R.k0 R.k1 R.mi R.ms)) := by
  have q := chT_n (wdP h w R) (w + 7) (R.c0) v
  rw [wL_c0 h w R, wdU_c0] at q
  exact q
theorem w_c0_Glost (h : gH) (w : Nat) (R : RW) : g_gI (wdP h w R) (w + 7) 0 8 = some (bI (R.c0).lost) := by rw [← wL_c0 h w R]; exact chG_lost _ _ _
theorem w_c0_Tlost (h : gH) (w : Nat) (R : RW) (v : Bool) : g_put (wdP h w R) (w + 7) 0 8 (.int (bI v)) = some (wdP h w (RW.mk R.time R.told R.way R.fsize R.limit R.sent R.lost R.garbled R.given R.no ((RCh.mk R.c0.power R.c0.opening R.c0.closing R.c0.frame R.c0.step R.c0.number R.c0.n R.c0.heard v R.c0.good)) R.c1 R.k0 R.k1 R.mi R.ms)) := by
  have q := chT_lost (wdP h w R) (w + 7) (R.c0) v
  rw [wL_c0 h w R, wdU_c0] at q
  exact q
theorem w_c0_Ggood (h : gH) (w : Nat) (R : RW) : g_gI (wdP h w R) (w + 7) 0 9 = some (bI (R.c0).good) := by rw [← wL_c0 h w R]; exact chG_good _ _ _
theorem w_c0_Tgood (h : gH) (w : Nat) (R : RW) (v : Bool) : g_put (wdP h w R) (w + 7) 0 9 (.int (bI v)) = some (wdP h w (RW.mk R.time R.told R.way R.fsize R.limit R.sent R.lost R.garbled R.given R.no ((RCh.mk R.c0.power R.c0.opening R.c0.closing R.c0.frame R.c0.step R.c0.number R.c0.n R.c0.heard R.c0.lost v)) R.c1 R.k0 R.k1 R.mi R.ms)) := by
  have q := chT_good (wdP h w R) (w + 7) (R.c0) v
  rw [wL_c0 h w R, wdU_c0] at q
  exact q
theorem w_c0_take (h : gH) (w : Nat) (R : RW) (f : Int32) : f_X0_take (wdP h w R) (w + 7) f = some (wdP h w (RW.mk R.time R.told R.way R.fsize R.limit R.sent R.lost R.garbled R.given R.no ((R.c0).take f) R.c1 R.k0 R.k1 R.mi R.ms)) := by
  have q := take_ch (wdP h w R) (w + 7) (R.c0) f
  rw [wL_c0 h w R, wdU_c0] at q
  exact q
theorem w_c0_becomeIdle (h : gH) (w : Nat) (R : RW)  : f_X0_becomeIdle (wdP h w R) (w + 7)  = some (wdP h w (RW.mk R.time R.told R.way R.fsize R.limit R.sent R.lost R.garbled R.given R.no ((R.c0).take (-1)) R.c1 R.k0 R.k1 R.mi R.ms)) := by
  have q := becomeIdle_ch (wdP h w R) (w + 7) (R.c0) 
  rw [wL_c0 h w R, wdU_c0] at q
  exact q
theorem w_c0_clear (h : gH) (w : Nat) (R : RW)  : f_X0_clear (wdP h w R) (w + 7)  = some (wdP h w (RW.mk R.time R.told R.way R.fsize R.limit R.sent R.lost R.garbled R.given R.no ((R.c0).clear) R.c1 R.k0 R.k1 R.mi R.ms)) := by
  have q := clear_ch (wdP h w R) (w + 7) (R.c0) 
  rw [wL_c0 h w R, wdU_c0] at q
  exact q
theorem w_c0_isIdle (h : gH) (w : Nat) (R : RW)  : f_X0_isIdle (wdP h w R) (w + 7)  = some (bI (decide ((R.c0).frame = -1))) := by
  have q := isIdle_ch (wdP h w R) (w + 7) (R.c0) 
  rw [wL_c0 h w R] at q
  exact q
theorem w_c0_isOpen (h : gH) (w : Nat) (R : RW) (t : Int32) : f_X0_isOpenAt (wdP h w R) (w + 7) t = some (bI ((R.c0).isOpen t)) := by
  have q := isOpen_ch (wdP h w R) (w + 7) (R.c0) t
  rw [wL_c0 h w R] at q
  exact q
theorem w_c0_figure (h : gH) (w : Nat) (R : RW) (x t : Int32) : f_X0_figure (wdP h w R) (w + 7) x t = some ((R.c0).figure x t) := by
  have q := figure_ch (wdP h w R) (w + 7) (R.c0) x t
  rw [wL_c0 h w R] at q
  exact q
theorem w_c0_hear (h : gH) (w : Nat) (R : RW) (v : Int32) : f_X0_hear (wdP h w R) (w + 7) v = some (wdP h w (RW.mk R.time R.told R.way R.fsize R.limit R.sent R.lost R.garbled R.given R.no ((R.c0).hear v) R.c1 R.k0 R.k1 R.mi R.ms)) := by
  have q := hear_ch (wdP h w R) (w + 7) (R.c0) v
  rw [wL_c0 h w R, wdU_c0] at q
  exact q
theorem w_c0_judge (h : gH) (w : Nat) (R : RW) {k : Nat} {check : Int32} (hk : k ≤ 8) : f_X0_judge (wdP h w R) (w + 7) (nI k) check = some (wdP h w (RW.mk R.time R.told R.way R.fsize R.limit R.sent R.lost R.garbled R.given R.no ((R.c0).judge k check) R.c1 R.k0 R.k1 R.mi R.ms)) := by
  have q := judge_ch (h := wdP h w R) (a := w + 7) (C := R.c0) (check := check) hk
  rw [wL_c0 h w R, wdU_c0] at q
  exact q
theorem wL_c1 (h : gH) (w : Nat) (R : RW) : chP (wdP h w R) (w + 9) (R.c1) = wdP h w R := chP_self (wdI_c1 (wdP_is h w R))
theorem w_c1_g (h : gH) (w : Nat) (R : RW) : g_is (wdP h w R) (w + 9) 0 = true := by rw [← wL_c1 h w R]; exact chP_g _ _ _
theorem w_c1_Gpower (h : gH) (w : Nat) (R : RW) : g_gI (wdP h w R) (w + 9) 0 0 = some ((R.c1).power) := by rw [← wL_c1 h w R]; exact chG_power _ _ _
theorem w_c1_Tpower (h : gH) (w : Nat) (R : RW) (v : Int32) : g_put (wdP h w R) (w + 9) 0 0 (.int (v)) = some (wdP h w (RW.mk R.time R.told R.way R.fsize R.limit R.sent R.lost R.garbled R.given R.no R.c0 ((RCh.mk v R.c1.opening R.c1.closing R.c1.frame R.c1.step R.c1.number R.c1.n R.c1.heard R.c1.lost R.c1.good)) R.k0 R.k1 R.mi R.ms)) := by
  have q := chT_power (wdP h w R) (w + 9) (R.c1) v
  rw [wL_c1 h w R, wdU_c1] at q
  exact q
theorem w_c1_Gopening (h : gH) (w : Nat) (R : RW) : g_gI (wdP h w R) (w + 9) 0 1 = some ((R.c1).opening) := by rw [← wL_c1 h w R]; exact chG_opening _ _ _
theorem w_c1_Topening (h : gH) (w : Nat) (R : RW) (v : Int32) : g_put (wdP h w R) (w + 9) 0 1 (.int (v)) = some (wdP h w (RW.mk R.time R.told R.way R.fsize R.limit R.sent R.lost R.garbled R.given R.no R.c0 ((RCh.mk R.c1.power v R.c1.closing R.c1.frame R.c1.step R.c1.number R.c1.n R.c1.heard R.c1.lost R.c1.good)) R.k0 R.k1 R.mi R.ms)) := by
  have q := chT_opening (wdP h w R) (w + 9) (R.c1) v
  rw [wL_c1 h w R, wdU_c1] at q
  exact q
theorem w_c1_Gclosing (h : gH) (w : Nat) (R : RW) : g_gI (wdP h w R) (w + 9) 0 2 = some ((R.c1).closing) := by rw [← wL_c1 h w R]; exact chG_closing _ _ _
theorem w_c1_Tclosing (h : gH) (w : Nat) (R : RW) (v : Int32) : g_put (wdP h w R) (w + 9) 0 2 (.int (v)) = some (wdP h w (RW.mk R.time R.told R.way R.fsize R.limit R.sent R.lost R.garbled R.given R.no R.c0 ((RCh.mk R.c1.power R.c1.opening v R.c1.frame R.c1.step R.c1.number R.c1.n R.c1.heard R.c1.lost R.c1.good)) R.k0 R.k1 R.mi R.ms)) := by
  have q := chT_closing (wdP h w R) (w + 9) (R.c1) v
  rw [wL_c1 h w R, wdU_c1] at q
  exact q
theorem w_c1_Gframe (h : gH) (w : Nat) (R : RW) : g_gI (wdP h w R) (w + 9) 0 3 = some ((R.c1).frame) := by rw [← wL_c1 h w R]; exact chG_frame _ _ _
theorem w_c1_Tframe (h : gH) (w : Nat) (R : RW) (v : Int32) : g_put (wdP h w R) (w + 9) 0 3 (.int (v)) = some (wdP h w (RW.mk R.time R.told R.way R.fsize R.limit R.sent R.lost R.garbled R.given R.no R.c0 ((RCh.mk R.c1.power R.c1.opening R.c1.closing v R.c1.step R.c1.number R.c1.n R.c1.heard R.c1.lost R.c1.good)) R.k0 R.k1 R.mi R.ms)) := by
  have q := chT_frame (wdP h w R) (w + 9) (R.c1) v
  rw [wL_c1 h w R, wdU_c1] at q
  exact q
theorem w_c1_Gstep (h : gH) (w : Nat) (R : RW) : g_gI (wdP h w R) (w + 9) 0 4 = some ((R.c1).step) := by rw [← wL_c1 h w R]; exact chG_step _ _ _
theorem w_c1_Tstep (h : gH) (w : Nat) (R : RW) (v : Int32) : g_put (wdP h w R) (w + 9) 0 4 (.int (v)) = some (wdP h w (RW.mk R.time R.told R.way R.fsize R.limit R.sent R.lost R.garbled R.given R.no R.c0 ((RCh.mk R.c1.power R.c1.opening R.c1.closing R.c1.frame v R.c1.number R.c1.n R.c1.heard R.c1.lost R.c1.good)) R.k0 R.k1 R.mi R.ms)) := by
  have q := chT_step (wdP h w R) (w + 9) (R.c1) v
  rw [wL_c1 h w R, wdU_c1] at q
  exact q
theorem w_c1_Gnumber (h : gH) (w : Nat) (R : RW) : g_gI (wdP h w R) (w + 9) 0 5 = some ((R.c1).number) := by rw [← wL_c1 h w R]; exact chG_number _ _ _
theorem w_c1_Tnumber (h : gH) (w : Nat) (R : RW) (v : Int32) : g_put (wdP h w R) (w + 9) 0 5 (.int (v)) = some (wdP h w (RW.mk R.time R.told R.way R.fsize R.limit R.sent R.lost R.garbled R.given R.no R.c0 ((RCh.mk R.c1.power R.c1.opening R.c1.closing R.c1.frame R.c1.step v R.c1.n R.c1.heard R.c1.lost R.c1.good)) R.k0 R.k1 R.mi R.ms)) := by
  have q := chT_number (wdP h w R) (w + 9) (R.c1) v
  rw [wL_c1 h w R, wdU_c1] at q
  exact q
theorem w_c1_Gn (h : gH) (w : Nat) (R : RW) : g_gI (wdP h w R) (w + 9) 0 6 = some (nI (R.c1).n) := by rw [← wL_c1 h w R]; exact chG_n _ _ _
theorem w_c1_Tn (h : gH) (w : Nat) (R : RW) (v : Nat) : g_put (wdP h w R) (w + 9) 0 6 (.int (nI v)) = some (wdP h w (RW.mk R.time R.told R.way R.fsize R.limit R.sent R.lost R.garbled R.given R.no R.c0 ((RCh.mk R.c1.power R.c1.opening R.c1.closing R.c1.frame R.c1.step R.c1.number v R.c1.heard R.c1.lost R.c1.good)) R.k0 R.k1 R.mi R.ms)) := by
  have q := chT_n (wdP h w R) (w + 9) (R.c1) v
  rw [wL_c1 h w R, wdU_c1] at q
  exact q
theorem w_c1_Glost (h : gH) (w : Nat) (R : RW) : g_gI (wdP h w R) (w + 9) 0 8 = some (bI (R.c1).lost) := by rw [← wL_c1 h w R]; exact chG_lost _ _ _
theorem w_c1_Tlost (h : gH) (w : Nat) (R : RW) (v : Bool) : g_put (wdP h w R) (w + 9) 0 8 (.int (bI v)) = some (wdP h w (RW.mk R.time R.told R.way R.fsize R.limit R.sent R.lost R.garbled R.given R.no R.c0 ((RCh.mk R.c1.power R.c1.opening R.c1.closing R.c1.frame R.c1.step R.c1.number R.c1.n R.c1.heard v R.c1.good)) R.k0 R.k1 R.mi R.ms)) := by
  have q := chT_lost (wdP h w R) (w + 9) (R.c1) v
  rw [wL_c1 h w R, wdU_c1] at q
  exact q
theorem w_c1_Ggood (h : gH) (w : Nat) (R : RW) : g_gI (wdP h w R) (w + 9) 0 9 = some (bI (R.c1).good) := by rw [← wL_c1 h w R]; exact chG_good _ _ _
theorem w_c1_Tgood (h : gH) (w : Nat) (R : RW) (v : Bool) : g_put (wdP h w R) (w + 9) 0 9 (.int (bI v)) = some (wdP h w (RW.mk R.time R.told R.way R.fsize R.limit R.sent R.lost R.garbled R.given R.no R.c0 ((RCh.mk R.c1.power R.c1.opening R.c1.closing R.c1.frame R.c1.step R.c1.number R.c1.n R.c1.heard R.c1.lost v)) R.k0 R.k1 R.mi R.ms)) := by
  have q := chT_good (wdP h w R) (w + 9) (R.c1) v
  rw [wL_c1 h w R, wdU_c1] at q
  exact q
theorem w_c1_take (h : gH) (w : Nat) (R : RW) (f : Int32) : f_X0_take (wdP h w R) (w + 9) f = some (wdP h w (RW.mk R.time R.told R.way R.fsize R.limit R.sent R.lost R.garbled R.given R.no R.c0 ((R.c1).take f) R.k0 R.k1 R.mi R.ms)) := by
  have q := take_ch (wdP h w R) (w + 9) (R.c1) f
  rw [wL_c1 h w R, wdU_c1] at q
  exact q
theorem w_c1_becomeIdle (h : gH) (w : Nat) (R : RW)  : f_X0_becomeIdle (wdP h w R) (w + 9)  = some (wdP h w (RW.mk R.time R.told R.way R.fsize R.limit R.sent R.lost R.garbled R.given R.no R.c0 ((R.c1).take (-1)) R.k0 R.k1 R.mi R.ms)) := by
  have q := becomeIdle_ch (wdP h w R) (w + 9) (R.c1) 
  rw [wL_c1 h w R, wdU_c1] at q
  exact q
theorem w_c1_clear (h : gH) (w : Nat) (R : RW)  : f_X0_clear (wdP h w R) (w + 9)  = some (wdP h w (RW.mk R.time R.told R.way R.fsize R.limit R.sent R.lost R.garbled R.given R.no R.c0 ((R.c1).clear) R.k0 R.k1 R.mi R.ms)) := by
  have q := clear_ch (wdP h w R) (w + 9) (R.c1) 
  rw [wL_c1 h w R, wdU_c1] at q
  exact q
theorem w_c1_isIdle (h : gH) (w : Nat) (R : RW)  : f_X0_isIdle (wdP h w R) (w + 9)  = some (bI (decide ((R.c1).frame = -1))) := by
  have q := isIdle_ch (wdP h w R) (w + 9) (R.c1) 
  rw [wL_c1 h w R] at q
  exact q
theorem w_c1_isOpen (h : gH) (w : Nat) (R : RW) (t : Int32) : f_X0_isOpenAt (wdP h w R) (w + 9) t = some (bI ((R.c1).isOpen t)) := by
  have q := isOpen_ch (wdP h w R) (w + 9) (R.c1) t
  rw [wL_c1 h w R] at q
  exact q
theorem w_c1_figure (h : gH) (w : Nat) (R : RW) (x t : Int32) : f_X0_figure (wdP h w R) (w + 9) x t = some ((R.c1).figure x t) := by
  have q := figure_ch (wdP h w R) (w + 9) (R.c1) x t
  rw [wL_c1 h w R] at q
  exact q
theorem w_c1_hear (h : gH) (w : Nat) (R : RW) (v : Int32) : f_X0_hear (wdP h w R) (w + 9) v = some (wdP h w (RW.mk R.time R.told R.way R.fsize R.limit R.sent R.lost R.garbled R.given R.no R.c0 ((R.c1).hear v) R.k0 R.k1 R.mi R.ms)) := by
  have q := hear_ch (wdP h w R) (w + 9) (R.c1) v
  rw [wL_c1 h w R, wdU_c1] at q
  exact q
theorem w_c1_judge (h : gH) (w : Nat) (R : RW) {k : Nat} {check : Int32} (hk : k ≤ 8) : f_X0_judge (wdP h w R) (w + 9) (nI k) check = some (wdP h w (RW.mk R.time R.told R.way R.fsize R.limit R.sent R.lost R.garbled R.given R.no R.c0 ((R.c1).judge k check) R.k0 R.k1 R.mi R.ms)) := by
  have q := judge_ch (h := wdP h w R) (a := w + 9) (C := R.c1) (check := check) hk
  rw [wL_c1 h w R, wdU_c1] at q
  exact q
theorem wL_k0 (h : gH) (w : Nat) (R : RW) : kpP (wdP h w R) (w + 11) (R.k0) = wdP h w R := kpP_self (wdI_k0 (wdP_is h w R))
theorem w_k0_g (h : gH) (w : Nat) (R : RW) : g_is (wdP h w R) (w + 11) 2 = true := by rw [← wL_k0 h w R]; exact kpP_g _ _ _
theorem w_k0_Gtold (h : gH) (w : Nat) (R : RW) : g_gI (wdP h w R) (w + 11) 2 0 = some (nI (R.k0).told) := by rw [← wL_k0 h w R]; exact kpG_told _ _ _
theorem w_k0_Ttold (h : gH) (w : Nat) (R : RW) (v : Nat) : g_put (wdP h w R) (w + 11) 2 0 (.int (nI v)) = some (wdP h w (RW.mk R.time R.told R.way R.fsize R.limit R.sent R.lost R.garbled R.given R.no R.c0 R.c1 ((RKp.mk v R.k0.ticks R.k0.keys)) R.k1 R.mi R.ms)) := by
  have q := kpT_told (wdP h w R) (w + 11) (R.k0) v
  rw [wL_k0 h w R, wdU_k0] at q
  exact q
theorem w_k0_isFull (h : gH) (w : Nat) (R : RW) (hn : (R.k0).told ≤ 8) : f_X2_isFull (wdP h w R) (w + 11)  = some (bI (decide (8 ≤ (R.k0).told))) := by
  have q := isFull_kp (h := wdP h w R) (a := w + 11) (K := R.k0) hn
  rw [wL_k0 h w R] at q
  exact q
theorem w_k0_hasOneAt (h : gH) (w : Nat) (R : RW) (hn : (R.k0).told ≤ 8) (t : Int32) : f_X2_hasOneAt (wdP h w R) (w + 11) t = some (bI ((R.k0).place t).isSome) := by
  have q := hasOneAt_kp (h := wdP h w R) (a := w + 11) (K := R.k0) hn t
  rw [wL_k0 h w R] at q
  exact q
theorem w_k0_come (h : gH) (w : Nat) (R : RW) (hn : (R.k0).told ≤ 8) (t k : Int32) : f_X2_come (wdP h w R) (w + 11) t k = some (wdP h w (RW.mk R.time R.told R.way R.fsize R.limit R.sent R.lost R.garbled R.given R.no R.c0 R.c1 ((R.k0).come t k) R.k1 R.mi R.ms)) := by
  have q := come_kp (h := wdP h w R) (a := w + 11) (K := R.k0) hn t k
  rw [wL_k0 h w R, wdU_k0] at q
  exact q
theorem w_k0_keyAt (h : gH) (w : Nat) (R : RW) (hn : (R.k0).told ≤ 8) (t : Int32) : f_X2_keyAt (wdP h w R) (w + 11) t = some ((R.k0).keyAt t) := by
  have q := keyAt_kp (h := wdP h w R) (a := w + 11) (K := R.k0) hn t
  rw [wL_k0 h w R] at q
  exact q
theorem wL_k1 (h : gH) (w : Nat) (R : RW) : kpP (wdP h w R) (w + 14) (R.k1) = wdP h w R := kpP_self (wdI_k1 (wdP_is h w R))
theorem w_k1_g (h : gH) (w : Nat) (R : RW) : g_is (wdP h w R) (w + 14) 2 = true := by rw [← wL_k1 h w R]; exact kpP_g _ _ _
theorem w_k1_Gtold (h : gH) (w : Nat) (R : RW) : g_gI (wdP h w R) (w + 14) 2 0 = some (nI (R.k1).told) := by rw [← wL_k1 h w R]; exact kpG_told _ _ _
theorem w_k1_Ttold (h : gH) (w : Nat) (R : RW) (v : Nat) : g_put (wdP h w R) (w + 14) 2 0 (.int (nI v)) = some (wdP h w (RW.mk R.time R.told R.way R.fsize R.limit R.sent R.lost R.garbled R.given R.no R.c0 R.c1 R.k0 ((RKp.mk v R.k1.ticks R.k1.keys)) R.mi R.ms)) := by
  have q := kpT_told (wdP h w R) (w + 14) (R.k1) v
  rw [wL_k1 h w R, wdU_k1] at q
  exact q
theorem w_k1_isFull (h : gH) (w : Nat) (R : RW) (hn : (R.k1).told ≤ 8) : f_X2_isFull (wdP h w R) (w + 14)  = some (bI (decide (8 ≤ (R.k1).told))) := by
  have q := isFull_kp (h := wdP h w R) (a := w + 14) (K := R.k1) hn
  rw [wL_k1 h w R] at q
  exact q
theorem w_k1_hasOneAt (h : gH) (w : Nat) (R : RW) (hn : (R.k1).told ≤ 8) (t : Int32) : f_X2_hasOneAt (wdP h w R) (w + 14) t = some (bI ((R.k1).place t).isSome) := by
  have q := hasOneAt_kp (h := wdP h w R) (a := w + 14) (K := R.k1) hn t
  rw [wL_k1 h w R] at q
  exact q
theorem w_k1_come (h : gH) (w : Nat) (R : RW) (hn : (R.k1).told ≤ 8) (t k : Int32) : f_X2_come (wdP h w R) (w + 14) t k = some (wdP h w (RW.mk R.time R.told R.way R.fsize R.limit R.sent R.lost R.garbled R.given R.no R.c0 R.c1 R.k0 ((R.k1).come t k) R.mi R.ms)) := by
  have q := come_kp (h := wdP h w R) (a := w + 14) (K := R.k1) hn t k
  rw [wL_k1 h w R, wdU_k1] at q
  exact q
theorem w_k1_keyAt (h : gH) (w : Nat) (R : RW) (hn : (R.k1).told ≤ 8) (t : Int32) : f_X2_keyAt (wdP h w R) (w + 14) t = some ((R.k1).keyAt t) := by
  have q := keyAt_kp (h := wdP h w R) (a := w + 14) (K := R.k1) hn t
  rw [wL_k1 h w R] at q
  exact q
theorem wL_mi (h : gH) (w : Nat) (R : RW) : miP (wdP h w R) (w + 17) (R.mi) = wdP h w R := miP_self (wdI_mi (wdP_is h w R))
theorem w_mi_g (h : gH) (w : Nat) (R : RW) : g_is (wdP h w R) (w + 17) 4 = true := by rw [← wL_mi h w R]; exact miP_g _ _ _
theorem w_mi_Gtold (h : gH) (w : Nat) (R : RW) : g_gI (wdP h w R) (w + 17) 4 0 = some (nI (R.mi).told) := by rw [← wL_mi h w R]; exact miG_told _ _ _
theorem w_mi_Ttold (h : gH) (w : Nat) (R : RW) (v : Nat) : g_put (wdP h w R) (w + 17) 4 0 (.int (nI v)) = some (wdP h w (RW.mk R.time R.told R.way R.fsize R.limit R.sent R.lost R.garbled R.given R.no R.c0 R.c1 R.k0 R.k1 ((RMi.mk v R.mi.firsts R.mi.lasts R.mi.levels)) R.ms)) := by
  have q := miT_told (wdP h w R) (w + 17) (R.mi) v
  rw [wL_mi h w R, wdU_mi] at q
  exact q
theorem w_mi_isFull (h : gH) (w : Nat) (R : RW) (hn : (R.mi).told ≤ 12) : f_X4_isFull (wdP h w R) (w + 17)  = some (bI (decide (12 ≤ (R.mi).told))) := by
  have q := isFull_mi (h := wdP h w R) (a := w + 17) (K := R.mi) hn
  rw [wL_mi h w R] at q
  exact q
theorem w_mi_add (h : gH) (w : Nat) (R : RW) (hn : (R.mi).told ≤ 12) (x y z : Int32) : f_X4_add (wdP h w R) (w + 17) x y z = some (wdP h w (RW.mk R.time R.told R.way R.fsize R.limit R.sent R.lost R.garbled R.given R.no R.c0 R.c1 R.k0 R.k1 ((R.mi).add x y z) R.ms)) := by
  have q := add_mi (h := wdP h w R) (a := w + 17) (K := R.mi) hn x y z
  rw [wL_mi h w R, wdU_mi] at q
  exact q
theorem w_mi_levelAt (h : gH) (w : Nat) (R : RW) (hn : (R.mi).told ≤ 12) (t : Int32) : f_X4_levelAt (wdP h w R) (w + 17) t = some ((R.mi).levelAt t) := by
  have q := levelAt_mi (h := wdP h w R) (a := w + 17) (K := R.mi) hn t
  rw [wL_mi h w R] at q
  exact q
theorem wL_ms (h : gH) (w : Nat) (R : RW) {i : Nat} (hi : i < 8) : msP (wdP h w R) (w + 21 + 5 * i) (R.ms i) = wdP h w R := msP_self (wdI_ms (wdP_is h w R) hi)
theorem w_ms_g (h : gH) (w : Nat) (R : RW) {i : Nat} (hi : i < 8) : g_is (wdP h w R) (w + 21 + 5 * i) 3 = true := by rw [← wL_ms h w R hi]; exact msP_g _ _ _
theorem w_ms_Gsender (h : gH) (w : Nat) (R : RW) {i : Nat} (hi : i < 8) : g_gI (wdP h w R) (w + 21 + 5 * i) 3 0 = some ((R.ms i).sender) := by rw [← wL_ms h w R hi]; exact msG_sender _ _ _
theorem w_ms_Tsender (h : gH) (w : Nat) (R : RW) {i : Nat} (hi : i < 8) (v : Int32) : g_put (wdP h w R) (w + 21 + 5 * i) 3 0 (.int (v)) = some (wdP h w (RW.mk R.time R.told R.way R.fsize R.limit R.sent R.lost R.garbled R.given R.no R.c0 R.c1 R.k0 R.k1 R.mi (updM R.ms i ((R.ms i).s_sender v)))) := by
  have q := msT_sender (wdP h w R) (w + 21 + 5 * i) (R.ms i) v
  rw [wL_ms h w R hi, wdU_ms _ _ _ hi] at q
  exact q
theorem w_ms_Gurgency (h : gH) (w : Nat) (R : RW) {i : Nat} (hi : i < 8) : g_gI (wdP h w R) (w + 21 + 5 * i) 3 1 = some ((R.ms i).urgency) := by rw [← wL_ms h w R hi]; exact msG_urgency _ _ _
theorem w_ms_Turgency (h : gH) (w : Nat) (R : RW) {i : Nat} (hi : i < 8) (v : Int32) : g_put (wdP h w R) (w + 21 + 5 * i) 3 1 (.int (v)) = some (wdP h w (RW.mk R.time R.told R.way R.fsize R.limit R.sent R.lost R.garbled R.given R.no R.c0 R.c1 R.k0 R.k1 R.mi (updM R.ms i ((R.ms i).s_urgency v)))) := by
  have q := msT_urgency (wdP h w R) (w + 21 + 5 * i) (R.ms i) v
  rw [wL_ms h w R hi, wdU_ms _ _ _ hi] at q
  exact q
theorem w_ms_Glen (h : gH) (w : Nat) (R : RW) {i : Nat} (hi : i < 8) : g_gI (wdP h w R) (w + 21 + 5 * i) 3 2 = some (nI (R.ms i).len) := by rw [← wL_ms h w R hi]; exact msG_len _ _ _
theorem w_ms_Tlen (h : gH) (w : Nat) (R : RW) {i : Nat} (hi : i < 8) (v : Nat) : g_put (wdP h w R) (w + 21 + 5 * i) 3 2 (.int (nI v)) = some (wdP h w (RW.mk R.time R.told R.way R.fsize R.limit R.sent R.lost R.garbled R.given R.no R.c0 R.c1 R.k0 R.k1 R.mi (updM R.ms i ((R.ms i).s_len v)))) := by
  have q := msT_len (wdP h w R) (w + 21 + 5 * i) (R.ms i) v
  rw [wL_ms h w R hi, wdU_ms _ _ _ hi] at q
  exact q
theorem w_ms_Gfsize (h : gH) (w : Nat) (R : RW) {i : Nat} (hi : i < 8) : g_gI (wdP h w R) (w + 21 + 5 * i) 3 3 = some (nI (R.ms i).fsize) := by rw [← wL_ms h w R hi]; exact msG_fsize _ _ _
theorem w_ms_Tfsize (h : gH) (w : Nat) (R : RW) {i : Nat} (hi : i < 8) (v : Nat) : g_put (wdP h w R) (w + 21 + 5 * i) 3 3 (.int (nI v)) = some (wdP h w (RW.mk R.time R.told R.way R.fsize R.limit R.sent R.lost R.garbled R.given R.no R.c0 R.c1 R.k0 R.k1 R.mi (updM R.ms i ((R.ms i).s_fsize v)))) := by
  have q := msT_fsize (wdP h w R) (w + 21 + 5 * i) (R.ms i) v
  rw [wL_ms h w R hi, wdU_ms _ _ _ hi] at q
  exact q
theorem w_ms_Gframes (h : gH) (w : Nat) (R : RW) {i : Nat} (hi : i < 8) : g_gI (wdP h w R) (w + 21 + 5 * i) 3 4 = some (nI (R.ms i).frames) := by rw [← wL_ms h w R hi]; exact msG_frames _ _ _
theorem w_ms_Tframes (h : gH) (w : Nat) (R : RW) {i : Nat} (hi : i < 8) (v : Nat) : g_put (wdP h w R) (w + 21 + 5 * i) 3 4 (.int (nI v)) = some (wdP h w (RW.mk R.time R.told R.way R.fsize R.limit R.sent R.lost R.garbled R.given R.no R.c0 R.c1 R.k0 R.k1 R.mi (updM R.ms i ((R.ms i).s_frames v)))) := by
  have q := msT_frames (wdP h w R) (w + 21 + 5 * i) (R.ms i) v
  rw [wL_ms h w R hi, wdU_ms _ _ _ hi] at q
  exact q
theorem w_ms_Gphase (h : gH) (w : Nat) (R : RW) {i : Nat} (hi : i < 8) : g_gI (wdP h w R) (w + 21 + 5 * i) 3 5 = some ((R.ms i).phase) := by rw [← wL_ms h w R hi]; exact msG_phase _ _ _
theorem w_ms_Tphase (h : gH) (w : Nat) (R : RW) {i : Nat} (hi : i < 8) (v : Int32) : g_put (wdP h w R) (w + 21 + 5 * i) 3 5 (.int (v)) = some (wdP h w (RW.mk R.time R.told R.way R.fsize R.limit R.sent R.lost R.garbled R.given R.no R.c0 R.c1 R.k0 R.k1 R.mi (updM R.ms i ((R.ms i).s_phase v)))) := by
  have q := msT_phase (wdP h w R) (w + 21 + 5 * i) (R.ms i) v
  rw [wL_ms h w R hi, wdU_ms _ _ _ hi] at q
  exact q
theorem w_ms_Gbegan (h : gH) (w : Nat) (R : RW) {i : Nat} (hi : i < 8) : g_gI (wdP h w R) (w + 21 + 5 * i) 3 6 = some ((R.ms i).began) := by rw [← wL_ms h w R hi]; exact msG_began _ _ _
theorem w_ms_Tbegan (h : gH) (w : Nat) (R : RW) {i : Nat} (hi : i < 8) (v : Int32) : g_put (wdP h w R) (w + 21 + 5 * i) 3 6 (.int (v)) = some (wdP h w (RW.mk R.time R.told R.way R.fsize R.limit R.sent R.lost R.garbled R.given R.no R.c0 R.c1 R.k0 R.k1 R.mi (updM R.ms i ((R.ms i).s_began v)))) := by
  have q := msT_began (wdP h w R) (w + 21 + 5 * i) (R.ms i) v
  rw [wL_ms h w R hi, wdU_ms _ _ _ hi] at q
  exact q
theorem w_ms_Gended (h : gH) (w : Nat) (R : RW) {i : Nat} (hi : i < 8) : g_gI (wdP h w R) (w + 21 + 5 * i) 3 7 = some ((R.ms i).ended) := by rw [← wL_ms h w R hi]; exact msG_ended _ _ _
theorem w_ms_Tended (h : gH) (w : Nat) (R : RW) {i : Nat} (hi : i < 8) (v : Int32) : g_put (wdP h w R) (w + 21 + 5 * i) 3 7 (.int (v)) = some (wdP h w (RW.mk R.time R.told R.way R.fsize R.limit R.sent R.lost R.garbled R.given R.no R.c0 R.c1 R.k0 R.k1 R.mi (updM R.ms i ((R.ms i).s_ended v)))) := by
  have q := msT_ended (wdP h w R) (w + 21 + 5 * i) (R.ms i) v
  rw [wL_ms h w R hi, wdU_ms _ _ _ hi] at q
  exact q
theorem w_ms_Gunf (h : gH) (w : Nat) (R : RW) {i : Nat} (hi : i < 8) : g_gI (wdP h w R) (w + 21 + 5 * i) 3 8 = some ((R.ms i).unf) := by rw [← wL_ms h w R hi]; exact msG_unf _ _ _
theorem w_ms_Tunf (h : gH) (w : Nat) (R : RW) {i : Nat} (hi : i < 8) (v : Int32) : g_put (wdP h w R) (w + 21 + 5 * i) 3 8 (.int (v)) = some (wdP h w (RW.mk R.time R.told R.way R.fsize R.limit R.sent R.lost R.garbled R.given R.no R.c0 R.c1 R.k0 R.k1 R.mi (updM R.ms i ((R.ms i).s_unf v)))) := by
  have q := msT_unf (wdP h w R) (w + 21 + 5 * i) (R.ms i) v
  rw [wL_ms h w R hi, wdU_ms _ _ _ hi] at q
  exact q
theorem w_ms_loggedAt (h : gH) (w : Nat) (R : RW) {i : Nat} (hi : i < 8) (k : Int32) : f_X3_loggedAt (wdP h w R) (w + 21 + 5 * i) k = some (rowAt 24 (R.ms i).log k) := by
  have q := loggedAt_ms (h := wdP h w R) (a := w + 21 + 5 * i) (M := R.ms i) k
  rw [wL_ms h w R hi] at q
  exact q
theorem w_ms_letterAt (h : gH) (w : Nat) (R : RW) {i : Nat} (hi : i < 8) (k : Int32) : f_X3_letterAt (wdP h w R) (w + 21 + 5 * i) k = some (rowAt 24 (R.ms i).letters k) := by
  have q := letterAt_ms (h := wdP h w R) (a := w + 21 + 5 * i) (M := R.ms i) k
  rw [wL_ms h w R hi] at q
  exact q
theorem w_ms_figure (h : gH) (w : Nat) (R : RW) {i : Nat} (hi : i < 8) (hM : (R.ms i).ok) (x : Int32) : f_X3_figure (wdP h w R) (w + 21 + 5 * i) x = some ((R.ms i).figure x) := by
  have q := figure_ms (h := wdP h w R) (a := w + 21 + 5 * i) (M := R.ms i) hM x
  rw [wL_ms h w R hi] at q
  exact q
theorem w_ms_agrees (h : gH) (w : Nat) (R : RW) {i : Nat} (hi : i < 8) (hM : (R.ms i).ok) : f_X3_agrees (wdP h w R) (w + 21 + 5 * i)  = some (bI (R.ms i).agrees) := by
  have q := agrees_ms (h := wdP h w R) (a := w + 21 + 5 * i) (M := R.ms i) hM
  rw [wL_ms h w R hi] at q
  exact q
theorem w_ms_canBeCancelled (h : gH) (w : Nat) (R : RW) {i : Nat} (hi : i < 8)  : f_X3_canBeCancelled (wdP h w R) (w + 21 + 5 * i)  = some (bI (decide ((R.ms i).phase = 0 ∨ (R.ms i).phase = 1))) := by
  have q := canBeCancelled_ms (h := wdP h w R) (a := w + 21 + 5 * i) (M := R.ms i) 
  rw [wL_ms h w R hi] at q
  exact q
theorem w_ms_hasPlace (h : gH) (w : Nat) (R : RW) {i : Nat} (hi : i < 8) (k : Int32) : f_X3_hasPlace (wdP h w R) (w + 21 + 5 * i) k = some (bI ((R.ms i).hasPlace k)) := by
  have q := hasPlace_ms (h := wdP h w R) (a := w + 21 + 5 * i) (M := R.ms i) k
  rw [wL_ms h w R hi] at q
  exact q
theorem w_ms_reason (h : gH) (w : Nat) (R : RW) {i : Nat} (hi : i < 8) (hM : (R.ms i).ok) {k : Nat} (hk : k < (R.ms i).len) : f_X3_reasonAt (wdP h w R) (w + 21 + 5 * i) (nI k) = some ((R.ms i).reason k) := by
  have q := reason_ms (h := wdP h w R) (a := w + 21 + 5 * i) (M := R.ms i) hM hk
  rw [wL_ms h w R hi] at q
  exact q
theorem w_ms_added (h : gH) (w : Nat) (R : RW) {i : Nat} (hi : i < 8) (hM : (R.ms i).ok) (s : Int64) : f_X3_addedTo (wdP h w R) (w + 21 + 5 * i) s = some ((R.ms i).added s) := by
  have q := added_ms (h := wdP h w R) (a := w + 21 + 5 * i) (M := R.ms i) hM s
  rw [wL_ms h w R hi] at q
  exact q
theorem w_ms_start (h : gH) (w : Nat) (R : RW) {i : Nat} (hi : i < 8) (t : Int32) : f_X3_start (wdP h w R) (w + 21 + 5 * i) t = some (wdP h w (RW.mk R.time R.told R.way R.fsize R.limit R.sent R.lost R.garbled R.given R.no R.c0 R.c1 R.k0 R.k1 R.mi (updM R.ms i ((((R.ms i)).s_phase 1).s_began t)))) := by
  have q := start_ms (h := wdP h w R) (a := w + 21 + 5 * i) (M := R.ms i) t
  rw [wL_ms h w R hi, wdU_ms _ _ _ hi] at q
  exact q
theorem w_ms_end (h : gH) (w : Nat) (R : RW) {i : Nat} (hi : i < 8) (p t : Int32) : f_X3_end (wdP h w R) (w + 21 + 5 * i) p t = some (wdP h w (RW.mk R.time R.told R.way R.fsize R.limit R.sent R.lost R.garbled R.given R.no R.c0 R.c1 R.k0 R.k1 R.mi (updM R.ms i ((((R.ms i)).s_phase p).s_ended t)))) := by
  have q := end_ms (h := wdP h w R) (a := w + 21 + 5 * i) (M := R.ms i) p t
  rw [wL_ms h w R hi, wdU_ms _ _ _ hi] at q
  exact q
theorem w_ms_firstPlace (h : gH) (w : Nat) (R : RW) {i : Nat} (hi : i < 8) (f : Int32) : f_X3_firstPlaceOf (wdP h w R) (w + 21 + 5 * i) f = some (f * nI (R.ms i).fsize) := by
  have q := firstPlace_ms (h := wdP h w R) (a := w + 21 + 5 * i) (M := R.ms i) f
  rw [wL_ms h w R hi] at q
  exact q
theorem w_ms_lettersIn (h : gH) (w : Nat) (R : RW) {i : Nat} (hi : i < 8) (hM : (R.ms i).ok) {f : Nat} (hf : f * (R.ms i).fsize ≤ (R.ms i).len) : f_X3_lettersIn (wdP h w R) (w + 21 + 5 * i) (nI f) = some (nI ((R.ms i).many f)) := by
  have q := lettersIn_ms (h := wdP h w R) (a := w + 21 + 5 * i) (M := R.ms i) hM hf
  rw [wL_ms h w R hi] at q
  exact q
theorem w_ms_check (h : gH) (w : Nat) (R : RW) {i : Nat} (hi : i < 8) (hM : (R.ms i).ok) {f : Nat} (hf : f * (R.ms i).fsize ≤ (R.ms i).len) : f_X3_checkOf (wdP h w R) (w + 21 + 5 * i) (nI f) = some ((R.ms i).check f) := by
  have q := check_ms (h := wdP h w R) (a := w + 21 + 5 * i) (M := R.ms i) hM hf
  rw [wL_ms h w R hi] at q
  exact q
theorem w_ms_become (h : gH) (w : Nat) (R : RW) {i : Nat} (hi : i < 8) (s u : Int32) (z : Nat) : f_X3_become (wdP h w R) (w + 21 + 5 * i) s u (nI z) = some (wdP h w (RW.mk R.time R.told R.way R.fsize R.limit R.sent R.lost R.garbled R.given R.no R.c0 R.c1 R.k0 R.k1 R.mi (updM R.ms i ((R.ms i).become s u z)))) := by
  have q := become_ms (h := wdP h w R) (a := w + 21 + 5 * i) (M := R.ms i) s u z
  rw [wL_ms h w R hi, wdU_ms _ _ _ hi] at q
  exact q
theorem w_ms_takeOpen (h : gH) (w : Nat) (R : RW) {i : Nat} (hi : i < 8) (hn : (R.ms i).frames ≤ 24) : f_X3_takeOpenFrame (wdP h w R) (w + 21 + 5 * i) = some ((R.ms i).takeOpen.1, wdP h w (RW.mk R.time R.told R.way R.fsize R.limit R.sent R.lost R.garbled R.given R.no R.c0 R.c1 R.k0 R.k1 R.mi (updM R.ms i (R.ms i).takeOpen.2))) := by
  have q := takeOpen_ms (h := wdP h w R) (a := w + 21 + 5 * i) (M := R.ms i) hn
  rw [wL_ms h w R hi, wdU_ms _ _ _ hi] at q
  exact q
theorem w_ms_endTry (h : gH) (w : Nat) (R : RW) {i : Nat} (hi : i < 8) {f : Nat} (hf : f < 24) (yes : Bool) (limit : Int32) : f_X3_endTry (wdP h w R) (w + 21 + 5 * i) (nI f) (bI yes) limit = some (bI ((R.ms i).endTry f yes limit).1, wdP h w (RW.mk R.time R.told R.way R.fsize R.limit R.sent R.lost R.garbled R.given R.no R.c0 R.c1 R.k0 R.k1 R.mi (updM R.ms i ((R.ms i).endTry f yes limit).2))) := by
  have q := endTry_ms (h := wdP h w R) (a := w + 21 + 5 * i) (M := R.ms i) hf yes limit
  rw [wL_ms h w R hi, wdU_ms _ _ _ hi] at q
  exact q
theorem w_ms_written0 (h : gH) (w : Nat) (R : RW) {i : Nat} (hi : i < 8) (hM : (R.ms i).ok) {b k : Nat} (hb : b < 26) (hk : k ≤ 8) : f_X3_writeDown (wdP h w R) (w + 21 + 5 * i) (nI b) (w + 7 + 1) (nI k) = some (wdP h w (RW.mk R.time R.told R.way R.fsize R.limit R.sent R.lost R.garbled R.given R.no R.c0 R.c1 R.k0 R.k1 R.mi (updM R.ms i ((R.ms i).written b R.c0.heard k)))) := by
  have q := written_ms (h := wdP h w R) (a := w + 21 + 5 * i) (p := w + 7 + 1) (M := R.ms i) hM (heard := R.c0.heard) (fun L => by rw [msP_ne (by omega) (by omega) (by omega) (by omega) (by omega)]; exact (wdI_c0 (wdP_is h w R)).2) hb hk
  rw [wL_ms h w R hi, wdU_ms _ _ _ hi] at q
  exact q
theorem w_ms_written1 (h : gH) (w : Nat) (R : RW) {i : Nat} (hi : i < 8) (hM : (R.ms i).ok) {b k : Nat} (hb : b < 26) (hk : k ≤ 8) : f_X3_writeDown (wdP h w R) (w + 21 + 5 * i) (nI b) (w + 9 + 1) (nI k) = some (wdP h w (RW.mk R.time R.told R.way R.fsize R.limit R.sent R.lost R.garbled R.given R.no R.c0 R.c1 R.k0 R.k1 R.mi (updM R.ms i ((R.ms i).written b R.c1.heard k)))) := by
  have q := written_ms (h := wdP h w R) (a := w + 21 + 5 * i) (p := w + 9 + 1) (M := R.ms i) hM (heard := R.c1.heard) (fun L => by rw [msP_ne (by omega) (by omega) (by omega) (by omega) (by omega)]; exact (wdI_c1 (wdP_is h w R)).2) hb hk
  rw [wL_ms h w R hi, wdU_ms _ _ _ hi] at q
  exact q
theorem w_ms_letters (h : gH) (w : Nat) (R : RW) {i : Nat} (hi : i < 8) {t p n : Nat} {T : Nat → Int32} (hs : 1 ≤ (R.ms i).fsize) (hs8 : (R.ms i).fsize ≤ 8) (hn : n ≤ 24) (hp : p + n ≤ 500) (ht : h.2 t = some (.inl (1, 500, .inl T))) (hw : t < w ∨ w + 61 ≤ t) : f_X3_takeLetters (wdP h w R) (w + 21 + 5 * i) t (nI p) (nI n) = some (wdP h w (RW.mk R.time R.told R.way R.fsize R.limit R.sent R.lost R.garbled R.given R.no R.c0 R.c1 R.k0 R.k1 R.mi (updM R.ms i ((R.ms i).letters' T p n)))) := by
  have q := letters_ms (h := wdP h w R) (a := w + 21 + 5 * i) (t := t) (p := p) (n := n) (M := R.ms i) (T := T) hs hs8 hn hp (fun L => by rw [msP_ne (by omega) (by omega) (by omega) (by omega) (by omega), wdP_out h w R hw]; exact ht)
  rw [wL_ms h w R hi, wdU_ms _ _ _ hi] at q
  exact q
theorem w_c0_heard (h : gH) (w : Nat) (R : RW) : g_gA (wdP h w R) (w + 7) 0 7 = some (w + 7 + 1) := by rw [← wL_c0 h w R]; exact chG_heard _ _ _
theorem w_c1_heard (h : gH) (w : Nat) (R : RW) : g_gA (wdP h w R) (w + 9) 0 7 = some (w + 9 + 1) := by rw [← wL_c1 h w R]; exact chG_heard _ _ _
theorem msgNo (h : gH) (w : Nat) (R : RW) {i : Nat} (hi : i < 8) : f_X6_messageNumbered (wdP h w R) w (nI i) = some (w + 21 + 5 * i) := by
  simp only [RCh_s, RKp_s, RMs_s, RMi_s, RW_s, f_X6_messageNumbered, if_pos (nI_pos' (show i < 2 ^ 31 by omega)), wdG_ar, wdL, Option.bind_some, show (8 : Int32) = nI 8 by decide, if_pos (nI_lt hi (by decide)), wdQ h w R hi, f_X6_messageNumbered_b23, Option.elim]
theorem SIM_m46 : (∀ (h : gH) (w : Nat) (R : RW), g_is (wdP h w R) (w + 7) 0 = true) ∧ (∀ (h : gH) (w : Nat) (R : RW), g_gI (wdP h w R) (w + 7) 0 0 = some ((R.c0).power)) ∧ (∀ (h : gH) (w : Nat) (R : RW) (v : Int32), g_put (wdP h w R) (w + 7) 0 0 (.int (v)) = some (wdP h w (RW.mk R.time R.told R.way R.fsize R.limit R.sent R.lost R.garbled R.given R.no ((RCh.mk v R.c0.opening R.c0.closing R.c0.frame R.c0.step R.c0.number R.c0.n R.c0.heard R.c0.lost R.c0.good)) R.c1 R.k0 R.k1 R.mi R.ms))) ∧ (∀ (h : gH) (w : Nat) (R : RW), g_gI (wdP h w R) (w + 7) 0 1 = some ((R.c0).opening)) ∧ (∀ (h : gH) (w : Nat) (R : RW) (v : Int32), g_put (wdP h w R) (w + 7) 0 1 (.int (v)) = some (wdP h w (RW.mk R.time R.told R.way R.fsize R.limit R.sent R.lost R.garbled R.given R.no ((RCh.mk R.c0.power v R.c0.closing R.c0.frame R.c0.step R.c0.number R.c0.n R.c0.heard R.c0.lost R.c0.good)) R.c1 R.k0 R.k1 R.mi R.ms))) ∧ (∀ (h : gH) (w : Nat) (R : RW), g_gI (wdP h w R) (w + 7) 0 2 = some ((R.c0).closing)) ∧ (∀ (h : gH) (w : Nat) (R : RW) (v : Int32), g_put (wdP h w R) (w + 7) 0 2 (.int (v)) = some (wdP h w (RW.mk R.time R.told R.way R.fsize R.limit R.sent R.lost R.garbled R.given R.no ((RCh.mk R.c0.power R.c0.opening v R.c0.frame R.c0.step R.c0.number R.c0.n R.c0.heard R.c0.lost R.c0.good)) R.c1 R.k0 R.k1 R.mi R.ms))) ∧ (∀ (h : gH) (w : Nat) (R : RW), g_gI (wdP h w R) (w + 7) 0 3 = some ((R.c0).frame)) ∧ (∀ (h : gH) (w : Nat) (R : RW) (v : Int32), g_put (wdP h w R) (w + 7) 0 3 (.int (v)) = some (wdP h w (RW.mk R.time R.told R.way R.fsize R.limit R.sent R.lost R.garbled R.given R.no ((RCh.mk R.c0.power R.c0.opening R.c0.closing v R.c0.step R.c0.number R.c0.n R.c0.heard R.c0.lost R.c0.good)) R.c1 R.k0 R.k1 R.mi R.ms))) ∧ (∀ (h : gH) (w : Nat) (R : RW), g_gI (wdP h w R) (w + 7) 0 4 = some ((R.c0).step)) ∧ (∀ (h : gH) (w : Nat) (R : RW) (v : Int32), g_put (wdP h w R) (w + 7) 0 4 (.int (v)) = some (wdP h w (RW.mk R.time R.told R.way R.fsize R.limit R.sent R.lost R.garbled R.given R.no ((RCh.mk R.c0.power R.c0.opening R.c0.closing R.c0.frame v R.c0.number R.c0.n R.c0.heard R.c0.lost R.c0.good)) R.c1 R.k0 R.k1 R.mi R.ms))) ∧ (∀ (h : gH) (w : Nat) (R : RW), g_gI (wdP h w R) (w + 7) 0 5 = some ((R.c0).number)) ∧ (∀ (h : gH) (w : Nat) (R : RW) (v : Int32), g_put (wdP h w R) (w + 7) 0 5 (.int (v)) = some (wdP h w (RW.mk R.time R.told R.way R.fsize R.limit R.sent R.lost R.garbled R.given R.no ((RCh.mk R.c0.power R.c0.opening R.c0.closing R.c0.frame R.c0.step v R.c0.n R.c0.heard R.c0.lost R.c0.good)) R.c1 R.k0 R.k1 R.mi R.ms))) ∧ (∀ (h : gH) (w : Nat) (R : RW), g_gI (wdP h w R) (w + 7) 0 6 = some (nI (R.c0).n)) ∧ (∀ (h : gH) (w : Nat) (R : RW) (v : Nat), g_put (wdP h w R) (w + 7) 0 6 (.int (nI v)) = some (wdP h w (RW.mk R.time R.told R.way R.fsize R.limit R.sent R.lost R.garbled R.given R.no ((RCh.mk R.c0.power R.c0.opening R.c0.closing R.c0.frame R.c0.step R.c0.number v R.c0.heard R.c0.lost R.c0.good)) R.c1 R.k0 R.k1 R.mi R.ms))) ∧ (∀ (h : gH) (w : Nat) (R : RW), g_gI (wdP h w R) (w + 7) 0 8 = some (bI (R.c0).lost)) ∧ (∀ (h : gH) (w : Nat) (R : RW) (v : Bool), g_put (wdP h w R) (w + 7) 0 8 (.int (bI v)) = some (wdP h w (RW.mk R.time R.told R.way R.fsize R.limit R.sent R.lost R.garbled R.given R.no ((RCh.mk R.c0.power R.c0.opening R.c0.closing R.c0.frame R.c0.step R.c0.number R.c0.n R.c0.heard v R.c0.good)) R.c1 R.k0 R.k1 R.mi R.ms))) ∧ (∀ (h : gH) (w : Nat) (R : RW), g_gI (wdP h w R) (w + 7) 0 9 = some (bI (R.c0).good)) ∧ (∀ (h : gH) (w : Nat) (R : RW) (v : Bool), g_put (wdP h w R) (w + 7) 0 9 (.int (bI v)) = some (wdP h w (RW.mk R.time R.told R.way R.fsize R.limit R.sent R.lost R.garbled R.given R.no ((RCh.mk R.c0.power R.c0.opening R.c0.closing R.c0.frame R.c0.step R.c0.number R.c0.n R.c0.heard R.c0.lost v)) R.c1 R.k0 R.k1 R.mi R.ms))) ∧ (∀ (h : gH) (w : Nat) (R : RW), g_is (wdP h w R) (w + 9) 0 = true) ∧ (∀ (h : gH) (w : Nat) (R : RW), g_gI (wdP h w R) (w + 9) 0 0 = some ((R.c1).power)) ∧ (∀ (h : gH) (w : Nat) (R : RW) (v : Int32), g_put (wdP h w R) (w + 9) 0 0 (.int (v)) = some (wdP h w (RW.mk R.time R.told R.way R.fsize R.limit R.sent R.lost R.garbled R.given R.no R.c0 ((RCh.mk v R.c1.opening R.c1.closing R.c1.frame R.c1.step R.c1.number R.c1.n R.c1.heard R.c1.lost R.c1.good)) R.k0 R.k1 R.mi R.ms))) ∧ (∀ (h : gH) (w : Nat) (R : RW), g_gI (wdP h w R) (w + 9) 0 1 = some ((R.c1).opening)) ∧ (∀ (h : gH) (w : Nat) (R : RW) (v : Int32), g_put (wdP h w R) (w + 9) 0 1 (.int (v)) = some (wdP h w (RW.mk R.time R.told R.way R.fsize R.limit R.sent R.lost R.garbled R.given R.no R.c0 ((RCh.mk R.c1.power v R.c1.closing R.c1.frame R.c1.step R.c1.number R.c1.n R.c1.heard R.c1.lost R.c1.good)) R.k0 R.k1 R.mi R.ms))) ∧ (∀ (h : gH) (w : Nat) (R : RW), g_gI (wdP h w R) (w + 9) 0 2 = some ((R.c1).closing)) ∧ (∀ (h : gH) (w : Nat) (R : RW) (v : Int32), g_put (wdP h w R) (w + 9) 0 2 (.int (v)) = some (wdP h w (RW.mk R.time R.told R.way R.fsize R.limit R.sent R.lost R.garbled R.given R.no R.c0 ((RCh.mk R.c1.power R.c1.opening v R.c1.frame R.c1.step R.c1.number R.c1.n R.c1.heard R.c1.lost R.c1.good)) R.k0 R.k1 R.mi R.ms))) ∧ (∀ (h : gH) (w : Nat) (R : RW), g_gI (wdP h w R) (w + 9) 0 3 = some ((R.c1).frame)) ∧ (∀ (h : gH) (w : Nat) (R : RW) (v : Int32), g_put (wdP h w R) (w + 9) 0 3 (.int (v)) = some (wdP h w (RW.mk R.time R.told R.way R.fsize R.limit R.sent R.lost R.garbled R.given R.no R.c0 ((RCh.mk R.c1.power R.c1.opening R.c1.closing v R.c1.step R.c1.number R.c1.n R.c1.heard R.c1.lost R.c1.good)) R.k0 R.k1 R.mi R.ms))) ∧ (∀ (h : gH) (w : Nat) (R : RW), g_gI (wdP h w R) (w + 9) 0 4 = some ((R.c1).step)) ∧ (∀ (h : gH) (w : Nat) (R : RW) (v : Int32), g_put (wdP h w R) (w + 9) 0 4 (.int (v)) = some (wdP h w (RW.mk R.time R.told R.way R.fsize R.limit R.sent R.lost R.garbled R.given R.no R.c0 ((RCh.mk R.c1.power R.c1.opening R.c1.closing R.c1.frame v R.c1.number R.c1.n R.c1.heard R.c1.lost R.c1.good)) R.k0 R.k1 R.mi R.ms))) ∧ (∀ (h : gH) (w : Nat) (R : RW), g_gI (wdP h w R) (w + 9) 0 5 = some ((R.c1).number)) ∧ (∀ (h : gH) (w : Nat) (R : RW) (v : Int32), g_put (wdP h w R) (w + 9) 0 5 (.int (v)) = some (wdP h w (RW.mk R.time R.told R.way R.fsize R.limit R.sent R.lost R.garbled R.given R.no R.c0 ((RCh.mk R.c1.power R.c1.opening R.c1.closing R.c1.frame R.c1.step v R.c1.n R.c1.heard R.c1.lost R.c1.good)) R.k0 R.k1 R.mi R.ms))) ∧ (∀ (h : gH) (w : Nat) (R : RW), g_gI (wdP h w R) (w + 9) 0 6 = some (nI (R.c1).n)) ∧ (∀ (h : gH) (w : Nat) (R : RW) (v : Nat), g_put (wdP h w R) (w + 9) 0 6 (.int (nI v)) = some (wdP h w (RW.mk R.time R.told R.way R.fsize R.limit R.sent R.lost R.garbled R.given R.no R.c0 ((RCh.mk R.c1.power R.c1.opening R.c1.closing R.c1.frame R.c1.step R.c1.number v R.c1.heard R.c1.lost R.c1.good)) R.k0 R.k1 R.mi R.ms))) ∧ (∀ (h : gH) (w : Nat) (R : RW), g_gI (wdP h w R) (w + 9) 0 8 = some (bI (R.c1).lost)) ∧ (∀ (h : gH) (w : Nat) (R : RW) (v : Bool), g_put (wdP h w R) (w + 9) 0 8 (.int (bI v)) = some (wdP h w (RW.mk R.time R.told R.way R.fsize R.limit R.sent R.lost R.garbled R.given R.no R.c0 ((RCh.mk R.c1.power R.c1.opening R.c1.closing R.c1.frame R.c1.step R.c1.number R.c1.n R.c1.heard v R.c1.good)) R.k0 R.k1 R.mi R.ms))) ∧ (∀ (h : gH) (w : Nat) (R : RW), g_gI (wdP h w R) (w + 9) 0 9 = some (bI (R.c1).good)) ∧ (∀ (h : gH) (w : Nat) (R : RW) (v : Bool), g_put (wdP h w R) (w + 9) 0 9 (.int (bI v)) = some (wdP h w (RW.mk R.time R.told R.way R.fsize R.limit R.sent R.lost R.garbled R.given R.no R.c0 ((RCh.mk R.c1.power R.c1.opening R.c1.closing R.c1.frame R.c1.step R.c1.number R.c1.n R.c1.heard R.c1.lost v)) R.k0 R.k1 R.mi R.ms))) ∧ (∀ (h : gH) (w : Nat) (R : RW), g_is (wdP h w R) (w + 11) 2 = true) ∧ (∀ (h : gH) (w : Nat) (R : RW), g_gI (wdP h w R) (w + 11) 2 0 = some (nI (R.k0).told)) ∧ (∀ (h : gH) (w : Nat) (R : RW) (v : Nat), g_put (wdP h w R) (w + 11) 2 0 (.int (nI v)) = some (wdP h w (RW.mk R.time R.told R.way R.fsize R.limit R.sent R.lost R.garbled R.given R.no R.c0 R.c1 ((RKp.mk v R.k0.ticks R.k0.keys)) R.k1 R.mi R.ms))) ∧ (∀ (h : gH) (w : Nat) (R : RW), g_is (wdP h w R) (w + 14) 2 = true) ∧ (∀ (h : gH) (w : Nat) (R : RW), g_gI (wdP h w R) (w + 14) 2 0 = some (nI (R.k1).told)) ∧ (∀ (h : gH) (w : Nat) (R : RW) (v : Nat), g_put (wdP h w R) (w + 14) 2 0 (.int (nI v)) = some (wdP h w (RW.mk R.time R.told R.way R.fsize R.limit R.sent R.lost R.garbled R.given R.no R.c0 R.c1 R.k0 ((RKp.mk v R.k1.ticks R.k1.keys)) R.mi R.ms))) ∧ (∀ (h : gH) (w : Nat) (R : RW), g_is (wdP h w R) (w + 17) 4 = true) ∧ (∀ (h : gH) (w : Nat) (R : RW), g_gI (wdP h w R) (w + 17) 4 0 = some (nI (R.mi).told)) ∧ (∀ (h : gH) (w : Nat) (R : RW) (v : Nat), g_put (wdP h w R) (w + 17) 4 0 (.int (nI v)) = some (wdP h w (RW.mk R.time R.told R.way R.fsize R.limit R.sent R.lost R.garbled R.given R.no R.c0 R.c1 R.k0 R.k1 ((RMi.mk v R.mi.firsts R.mi.lasts R.mi.levels)) R.ms))) := ⟨w_c0_g, w_c0_Gpower, w_c0_Tpower, w_c0_Gopening, w_c0_Topening, w_c0_Gclosing, w_c0_Tclosing, w_c0_Gframe, w_c0_Tframe, w_c0_Gstep, w_c0_Tstep, w_c0_Gnumber, w_c0_Tnumber, w_c0_Gn, w_c0_Tn, w_c0_Glost, w_c0_Tlost, w_c0_Ggood, w_c0_Tgood, w_c1_g, w_c1_Gpower, w_c1_Tpower, w_c1_Gopening, w_c1_Topening, w_c1_Gclosing, w_c1_Tclosing, w_c1_Gframe, w_c1_Tframe, w_c1_Gstep, w_c1_Tstep, w_c1_Gnumber, w_c1_Tnumber, w_c1_Gn, w_c1_Tn, w_c1_Glost, w_c1_Tlost, w_c1_Ggood, w_c1_Tgood, w_k0_g, w_k0_Gtold, w_k0_Ttold, w_k1_g, w_k1_Gtold, w_k1_Ttold, w_mi_g, w_mi_Gtold, w_mi_Ttold⟩
