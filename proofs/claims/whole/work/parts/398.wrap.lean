/-! the law's own methods: a call of the program, and which exception it throws -/
def g_phW (G : gG) (mc ms : Nat) : Int32 × gH → Method → Code → State → Array Value → List Frame → State → Prop := fun r _ _ s args below => MQ below (g_QcE G (some (.int r.1)) r.2.2) args s mc ms (g_A G)
theorem X_iretW {l : Launch} {G : gG} {M : gMt} {k n pc nx x1 x2 mc ms : Nat} {L : List (Option Value)} {h : gH} {v : Int32} {ty : FieldType} {r0 : Int32 × gH} (hd : g_lk (m_code M) pc = some (.ireturn, nx, x1, x2)) (hn : nx = pc + 1) (hty : m_ret M = some ty) (hnr : narrow ty (.int v) = .int v) (hk : Nat.ble k mc = true) (hs : Nat.ble n ms = true) (h1 : r0.1 = v) (h2 : r0.2.2 = h.2) : GX l G M (g_phW G mc ms) k n pc L [.int v] h (some r0) := by
  intro r hr p e s m args below meth c H locs A B hl hM hS
  cases hr
  subst h1
  have q := X_iretE (f := h.2) (n0 := h.1) (mc := mc) (ms := ms) (l := l) (G := G) (M := M) (L := L) (F := some ()) hd hn hty hnr hk hs () rfl p e s m args below meth c H locs A B hl hM hS
  unfold g_phW
  rw [h2]
  exact q
theorem CtH_ofW {l : Launch} {G : gG} {M : gMt} {As : List Value} {L : List (Option Value)} {h : gH} {F : Option (Int32 × gH)} {r : Int32} {h1 : gH} (hok : g_ok M) (hpl : plainName (m_y M).cls = true) (hL : g_en As (m_nL M) = L) (hlen : L.length = m_nL M) (hn : Nat.ble (lg_sl As).length (m_nL M) = true) (body : GX l G M (g_phW G (m_R M).cells (m_R M).slots) 0 0 0 L [] h F) (hF : F = some (r, h1)) : CtH l G M As h (some (.int r)) h1.2 := by
  refine CtH_of hok hpl hL hlen hn (fun u hu p e s m args below meth c H locs A B hl hM hS => ?_)
  exact body (r, h1) hF p e s m args below meth c H locs A B hl hM hS
def M_L_load : gMt := (yL_load, cL_load, 4, (some .int), { frames := 8, cells := 1, slots := 7, locals := 174 }, [(0, .aload_n 2, 1, 0, 0), (1, .iconst 0, 2, 0, 0), (2, .aload_n 0, 3, 0, 0), (3, .iload_n 1, 4, 0, 0), (4, .invokevirtual 7, 7, 0, 0), (7, .i2l, 8, 0, 0), (8, .lastore, 9, 0, 0), (9, .goto 6, 12, 15, 0), (12, .astore_n 3, 13, 0, 0), (13, .iconst 1, 14, 0, 0), (14, .ireturn, 15, 0, 0), (15, .iconst 0, 16, 0, 0), (16, .ireturn, 17, 0, 0)], [(0, 9, 12, 13)])
theorem ok_L_load : g_ok M_L_load := by
  show (m_code M_L_load).all (g_ent M_L_load) = true
  decide +kernel
def M_L_state : gMt := (yL_state, cL_state, 4, (some .int), { frames := 7, cells := 1, slots := 6, locals := 148 }, [(0, .aload_n 2, 1, 0, 0), (1, .iconst 0, 2, 0, 0), (2, .aload_n 0, 3, 0, 0), (3, .iload_n 1, 4, 0, 0), (4, .invokevirtual 15, 7, 0, 0), (7, .i2l, 8, 0, 0), (8, .lastore, 9, 0, 0), (9, .goto 6, 12, 15, 0), (12, .astore_n 3, 13, 0, 0), (13, .iconst 1, 14, 0, 0), (14, .ireturn, 15, 0, 0), (15, .iconst 0, 16, 0, 0), (16, .ireturn, 17, 0, 0)], [(0, 9, 12, 13)])
theorem ok_L_state : g_ok M_L_state := by
  show (m_code M_L_state).all (g_ent M_L_state) = true
  decide +kernel
def M_L_channel : gMt := (yL_channel, cL_channel, 5, (some .int), { frames := 7, cells := 1, slots := 6, locals := 112 }, [(0, .aload_n 3, 1, 0, 0), (1, .iconst 0, 2, 0, 0), (2, .aload_n 0, 3, 0, 0), (3, .iload_n 1, 4, 0, 0), (4, .iload_n 2, 5, 0, 0), (5, .invokevirtual 18, 8, 0, 0), (8, .i2l, 9, 0, 0), (9, .lastore, 10, 0, 0), (10, .goto 11, 13, 21, 0), (13, .astore 4, 15, 0, 0), (15, .iconst 1, 16, 0, 0), (16, .ireturn, 17, 0, 0), (17, .astore 4, 19, 0, 0), (19, .iconst 2, 20, 0, 0), (20, .ireturn, 21, 0, 0), (21, .iconst 0, 22, 0, 0), (22, .ireturn, 23, 0, 0)], [(0, 10, 13, 22), (0, 10, 17, 13)])
theorem ok_L_channel : g_ok M_L_channel := by
  show (m_code M_L_channel).all (g_ent M_L_channel) = true
  decide +kernel
def M_L_message : gMt := (yL_message, cL_message, 5, (some .int), { frames := 7, cells := 1, slots := 6, locals := 112 }, [(0, .aload_n 3, 1, 0, 0), (1, .iconst 0, 2, 0, 0), (2, .aload_n 0, 3, 0, 0), (3, .iload_n 1, 4, 0, 0), (4, .iload_n 2, 5, 0, 0), (5, .invokevirtual 24, 8, 0, 0), (8, .i2l, 9, 0, 0), (9, .lastore, 10, 0, 0), (10, .goto 11, 13, 21, 0), (13, .astore 4, 15, 0, 0), (15, .iconst 1, 16, 0, 0), (16, .ireturn, 17, 0, 0), (17, .astore 4, 19, 0, 0), (19, .iconst 2, 20, 0, 0), (20, .ireturn, 21, 0, 0), (21, .iconst 0, 22, 0, 0), (22, .ireturn, 23, 0, 0)], [(0, 10, 13, 22), (0, 10, 17, 13)])
theorem ok_L_message : g_ok M_L_message := by
  show (m_code M_L_message).all (g_ent M_L_message) = true
  decide +kernel
def M_L_letter : gMt := (yL_letter, cL_letter, 6, (some .int), { frames := 7, cells := 1, slots := 6, locals := 114 }, [(0, .aload 4, 2, 0, 0), (2, .iconst 0, 3, 0, 0), (3, .aload_n 0, 4, 0, 0), (4, .iload_n 1, 5, 0, 0), (5, .iload_n 2, 6, 0, 0), (6, .iload_n 3, 7, 0, 0), (7, .invokevirtual 27, 10, 0, 0), (10, .i2l, 11, 0, 0), (11, .lastore, 12, 0, 0), (12, .goto 11, 15, 23, 0), (15, .astore 5, 17, 0, 0), (17, .iconst 1, 18, 0, 0), (18, .ireturn, 19, 0, 0), (19, .astore 5, 21, 0, 0), (21, .iconst 2, 22, 0, 0), (22, .ireturn, 23, 0, 0), (23, .iconst 0, 24, 0, 0), (24, .ireturn, 25, 0, 0)], [(0, 12, 15, 22), (0, 12, 19, 31)])
theorem ok_L_letter : g_ok M_L_letter := by
  show (m_code M_L_letter).all (g_ent M_L_letter) = true
  decide +kernel
def M_L_why : gMt := (yL_why, cL_why, 5, (some .int), { frames := 7, cells := 1, slots := 6, locals := 113 }, [(0, .aload_n 3, 1, 0, 0), (1, .iconst 0, 2, 0, 0), (2, .aload_n 0, 3, 0, 0), (3, .iload_n 1, 4, 0, 0), (4, .iload_n 2, 5, 0, 0), (5, .invokevirtual 33, 8, 0, 0), (8, .i2l, 9, 0, 0), (9, .lastore, 10, 0, 0), (10, .goto 11, 13, 21, 0), (13, .astore 4, 15, 0, 0), (15, .iconst 1, 16, 0, 0), (16, .ireturn, 17, 0, 0), (17, .astore 4, 19, 0, 0), (19, .iconst 2, 20, 0, 0), (20, .ireturn, 21, 0, 0), (21, .iconst 0, 22, 0, 0), (22, .ireturn, 23, 0, 0)], [(0, 10, 13, 22), (0, 10, 17, 31)])
theorem ok_L_why : g_ok M_L_why := by
  show (m_code M_L_why).all (g_ent M_L_why) = true
  decide +kernel
def M_L_mist : gMt := (yL_mist, cL_mist, 4, (some .int), { frames := 7, cells := 1, slots := 6, locals := 111 }, [(0, .aload_n 2, 1, 0, 0), (1, .iconst 0, 2, 0, 0), (2, .aload_n 0, 3, 0, 0), (3, .iload_n 1, 4, 0, 0), (4, .invokevirtual 36, 7, 0, 0), (7, .i2l, 8, 0, 0), (8, .lastore, 9, 0, 0), (9, .goto 6, 12, 15, 0), (12, .astore_n 3, 13, 0, 0), (13, .iconst 1, 14, 0, 0), (14, .ireturn, 15, 0, 0), (15, .iconst 0, 16, 0, 0), (16, .ireturn, 17, 0, 0)], [(0, 9, 12, 13)])
theorem ok_L_mist : g_ok M_L_mist := by
  show (m_code M_L_mist).all (g_ent M_L_mist) = true
  decide +kernel
def M_L_key : gMt := (yL_key, cL_key, 5, (some .int), { frames := 7, cells := 1, slots := 6, locals := 112 }, [(0, .aload_n 3, 1, 0, 0), (1, .iconst 0, 2, 0, 0), (2, .aload_n 0, 3, 0, 0), (3, .iload_n 1, 4, 0, 0), (4, .iload_n 2, 5, 0, 0), (5, .invokevirtual 39, 8, 0, 0), (8, .i2l, 9, 0, 0), (9, .lastore, 10, 0, 0), (10, .goto 11, 13, 21, 0), (13, .astore 4, 15, 0, 0), (15, .iconst 1, 16, 0, 0), (16, .ireturn, 17, 0, 0), (17, .astore 4, 19, 0, 0), (19, .iconst 2, 20, 0, 0), (20, .ireturn, 21, 0, 0), (21, .iconst 0, 22, 0, 0), (22, .ireturn, 23, 0, 0)], [(0, 10, 13, 22), (0, 10, 17, 13)])
theorem ok_L_key : g_ok M_L_key := by
  show (m_code M_L_key).all (g_ent M_L_key) = true
  decide +kernel
def M_L_next : gMt := (yL_next, cL_next, 4, (some .int), { frames := 7, cells := 1, slots := 6, locals := 112 }, [(0, .aload_n 2, 1, 0, 0), (1, .iconst 0, 2, 0, 0), (2, .aload_n 0, 3, 0, 0), (3, .iload_n 1, 4, 0, 0), (4, .invokevirtual 42, 7, 0, 0), (7, .i2l, 8, 0, 0), (8, .lastore, 9, 0, 0), (9, .goto 6, 12, 15, 0), (12, .astore_n 3, 13, 0, 0), (13, .iconst 1, 14, 0, 0), (14, .ireturn, 15, 0, 0), (15, .iconst 0, 16, 0, 0), (16, .ireturn, 17, 0, 0)], [(0, 9, 12, 31)])
theorem ok_L_next : g_ok M_L_next := by
  show (m_code M_L_next).all (g_ent M_L_next) = true
  decide +kernel
def M_L_foretold : gMt := (yL_foretold, cL_foretold, 4, (some .int), { frames := 8, cells := 1, slots := 6, locals := 187 }, [(0, .aload_n 2, 1, 0, 0), (1, .iconst 0, 2, 0, 0), (2, .aload_n 0, 3, 0, 0), (3, .iload_n 1, 4, 0, 0), (4, .invokevirtual 45, 7, 0, 0), (7, .i2l, 8, 0, 0), (8, .lastore, 9, 0, 0), (9, .goto 6, 12, 15, 0), (12, .astore_n 3, 13, 0, 0), (13, .iconst 1, 14, 0, 0), (14, .ireturn, 15, 0, 0), (15, .iconst 0, 16, 0, 0), (16, .ireturn, 17, 0, 0)], [(0, 9, 12, 13)])
theorem ok_L_foretold : g_ok M_L_foretold := by
  show (m_code M_L_foretold).all (g_ent M_L_foretold) = true
  decide +kernel
def M_L_leastPower : gMt := (yL_leastPower, cL_leastPower, 4, (some .int), { frames := 8, cells := 1, slots := 6, locals := 188 }, [(0, .aload_n 2, 1, 0, 0), (1, .iconst 0, 2, 0, 0), (2, .aload_n 0, 3, 0, 0), (3, .iload_n 1, 4, 0, 0), (4, .invokevirtual 48, 7, 0, 0), (7, .i2l, 8, 0, 0), (8, .lastore, 9, 0, 0), (9, .goto 6, 12, 15, 0), (12, .astore_n 3, 13, 0, 0), (13, .iconst 1, 14, 0, 0), (14, .ireturn, 15, 0, 0), (15, .iconst 0, 16, 0, 0), (16, .ireturn, 17, 0, 0)], [(0, 9, 12, 22)])
theorem ok_L_leastPower : g_ok M_L_leastPower := by
  show (m_code M_L_leastPower).all (g_ent M_L_leastPower) = true
  decide +kernel
def M_L_pass : gMt := (yL_pass, cL_pass, 4, (some .int), { frames := 7, cells := 1, slots := 6, locals := 166 }, [(0, .aload_n 2, 1, 0, 0), (1, .iconst 0, 2, 0, 0), (2, .aload_n 0, 3, 0, 0), (3, .iload_n 1, 4, 0, 0), (4, .invokevirtual 51, 7, 0, 0), (7, .i2l, 8, 0, 0), (8, .lastore, 9, 0, 0), (9, .goto 6, 12, 15, 0), (12, .astore_n 3, 13, 0, 0), (13, .iconst 1, 14, 0, 0), (14, .ireturn, 15, 0, 0), (15, .iconst 0, 16, 0, 0), (16, .ireturn, 17, 0, 0)], [(0, 9, 12, 13)])
theorem ok_L_pass : g_ok M_L_pass := by
  show (m_code M_L_pass).all (g_ent M_L_pass) = true
  decide +kernel
def M_L_send : gMt := (yL_send, cL_send, 6, (some .int), { frames := 7, cells := 1, slots := 6, locals := 157 }, [(0, .aload 4, 2, 0, 0), (2, .iconst 0, 3, 0, 0), (3, .aload_n 0, 4, 0, 0), (4, .iload_n 1, 5, 0, 0), (5, .iload_n 2, 6, 0, 0), (6, .iload_n 3, 7, 0, 0), (7, .invokevirtual 54, 10, 0, 0), (10, .i2l, 11, 0, 0), (11, .lastore, 12, 0, 0), (12, .goto 15, 15, 27, 0), (15, .astore 5, 17, 0, 0), (17, .iconst 1, 18, 0, 0), (18, .ireturn, 19, 0, 0), (19, .astore 5, 21, 0, 0), (21, .iconst 2, 22, 0, 0), (22, .ireturn, 23, 0, 0), (23, .astore 5, 25, 0, 0), (25, .iconst 3, 26, 0, 0), (26, .ireturn, 27, 0, 0), (27, .iconst 0, 28, 0, 0), (28, .ireturn, 29, 0, 0)], [(0, 12, 15, 22), (0, 12, 19, 13), (0, 12, 23, 58)])
theorem ok_L_send : g_ok M_L_send := by
  show (m_code M_L_send).all (g_ent M_L_send) = true
  decide +kernel
def M_L_fog : gMt := (yL_fog, cL_fog, 6, (some .int), { frames := 7, cells := 1, slots := 6, locals := 157 }, [(0, .aload 4, 2, 0, 0), (2, .iconst 0, 3, 0, 0), (3, .aload_n 0, 4, 0, 0), (4, .iload_n 1, 5, 0, 0), (5, .iload_n 2, 6, 0, 0), (6, .iload_n 3, 7, 0, 0), (7, .invokevirtual 60, 10, 0, 0), (10, .i2l, 11, 0, 0), (11, .lastore, 12, 0, 0), (12, .goto 11, 15, 23, 0), (15, .astore 5, 17, 0, 0), (17, .iconst 1, 18, 0, 0), (18, .ireturn, 19, 0, 0), (19, .astore 5, 21, 0, 0), (21, .iconst 2, 22, 0, 0), (22, .ireturn, 23, 0, 0), (23, .iconst 0, 24, 0, 0), (24, .ireturn, 25, 0, 0)], [(0, 12, 15, 13), (0, 12, 19, 58)])
theorem ok_L_fog : g_ok M_L_fog := by
  show (m_code M_L_fog).all (g_ent M_L_fog) = true
  decide +kernel
def M_L_relieve : gMt := (yL_relieve, cL_relieve, 5, (some .int), { frames := 7, cells := 1, slots := 6, locals := 158 }, [(0, .aload_n 3, 1, 0, 0), (1, .iconst 0, 2, 0, 0), (2, .aload_n 0, 3, 0, 0), (3, .iload_n 1, 4, 0, 0), (4, .iload_n 2, 5, 0, 0), (5, .invokevirtual 63, 8, 0, 0), (8, .i2l, 9, 0, 0), (9, .lastore, 10, 0, 0), (10, .goto 15, 13, 25, 0), (13, .astore 4, 15, 0, 0), (15, .iconst 1, 16, 0, 0), (16, .ireturn, 17, 0, 0), (17, .astore 4, 19, 0, 0), (19, .iconst 2, 20, 0, 0), (20, .ireturn, 21, 0, 0), (21, .astore 4, 23, 0, 0), (23, .iconst 3, 24, 0, 0), (24, .ireturn, 25, 0, 0), (25, .iconst 0, 26, 0, 0), (26, .ireturn, 27, 0, 0)], [(0, 10, 13, 22), (0, 10, 17, 13), (0, 10, 21, 58)])
theorem ok_L_relieve : g_ok M_L_relieve := by
  show (m_code M_L_relieve).all (g_ent M_L_relieve) = true
  decide +kernel
def M_L_power : gMt := (yL_power, cL_power, 5, (some .int), { frames := 7, cells := 1, slots := 6, locals := 158 }, [(0, .aload_n 3, 1, 0, 0), (1, .iconst 0, 2, 0, 0), (2, .aload_n 0, 3, 0, 0), (3, .iload_n 1, 4, 0, 0), (4, .iload_n 2, 5, 0, 0), (5, .invokevirtual 66, 8, 0, 0), (8, .i2l, 9, 0, 0), (9, .lastore, 10, 0, 0), (10, .goto 11, 13, 21, 0), (13, .astore 4, 15, 0, 0), (15, .iconst 1, 16, 0, 0), (16, .ireturn, 17, 0, 0), (17, .astore 4, 19, 0, 0), (19, .iconst 2, 20, 0, 0), (20, .ireturn, 21, 0, 0), (21, .iconst 0, 22, 0, 0), (22, .ireturn, 23, 0, 0)], [(0, 10, 13, 22), (0, 10, 17, 13)])
theorem ok_L_power : g_ok M_L_power := by
  show (m_code M_L_power).all (g_ent M_L_power) = true
  decide +kernel
def M_L_cancel : gMt := (yL_cancel, cL_cancel, 4, (some .int), { frames := 7, cells := 1, slots := 6, locals := 155 }, [(0, .aload_n 2, 1, 0, 0), (1, .iconst 0, 2, 0, 0), (2, .aload_n 0, 3, 0, 0), (3, .iload_n 1, 4, 0, 0), (4, .invokevirtual 69, 7, 0, 0), (7, .ifCond .eq 7, 10, 14, 0), (10, .lconst 1, 11, 0, 0), (11, .goto 4, 14, 15, 0), (14, .lconst 0, 15, 0, 0), (15, .lastore, 16, 0, 0), (16, .goto 9, 19, 25, 0), (19, .astore_n 3, 20, 0, 0), (20, .iconst 1, 21, 0, 0), (21, .ireturn, 22, 0, 0), (22, .astore_n 3, 23, 0, 0), (23, .iconst 2, 24, 0, 0), (24, .ireturn, 25, 0, 0), (25, .iconst 0, 26, 0, 0), (26, .ireturn, 27, 0, 0)], [(0, 16, 19, 22), (0, 16, 22, 58)])
theorem ok_L_cancel : g_ok M_L_cancel := by
  show (m_code M_L_cancel).all (g_ent M_L_cancel) = true
  decide +kernel
def f_L_load (h : gH) (a0 : Nat) (p1 : Int32) (q : Nat) : Option (Int32 × gH) :=
  bif g_is h a0 7 then
  match f_X7_load h a0 p1 with
  | none => none
  | some (.inr v, h1) => (g_lst h1 q 0 v.toInt64).bind fun h2 => some (0, h2)
  | some (.inl 1, h1) => some (1, h1)
  | _ => none
  else none
set_option maxRecDepth 100000 in
theorem ct_L_load {l : Launch} {G : gG} (hl : l.stackTraces = false) {h : gH} {a0 : Nat} {p1 : Int32} {q : Nat} {r : Int32} {h1 : gH} (e : f_L_load h a0 p1 q = some (r, h1)) : CtH l G M_L_load [.ref a0, .int p1, .ref q] h (some (.int r)) h1.2 := by
  refine CtH_ofW (L := [some (.ref a0), some (.int p1), some (.ref q), none]) ok_L_load (by decide +kernel) rfl rfl rfl (F := f_L_load h a0 p1 q) ?_ e
  refine X_aload_n rfl rfl rfl ?_
  refine X_iconst (v := 0) rfl rfl (by decide) ?_
  refine X_aload_n rfl rfl rfl ?_
  refine X_iload_n rfl rfl rfl ?_
  unfold f_L_load
  cases hg : g_is h a0 7 with
  | false => exact X_none
  | true =>
    simp only [cond_true]
    cases he : f_X7_load h a0 p1 with
    | none => exact X_none
    | some o1 =>
      obtain ⟨o, h3⟩ := o1
      cases o with
      | inr v =>
        refine X_callX (M' := M_X7_load) (nA := 1) (b := a0) (ci := 7) (As := [.int p1]) (st := [.int 0, .ref q]) rfl rfl (by decide +kernel) rfl rfl rfl ⟨hg, by decide⟩ (ct_X7_load hl he) rfl rfl (fun v9 e9 => ?_) (fun cx e9 => ?_)
        · cases e9
          refine X_rfl (st' := .int v :: [.int 0, .ref q]) rfl ?_
          refine X_i2l rfl rfl ?_
          refine X_lst rfl rfl (fun h2 => ?_)
          refine X_goto rfl rfl ?_
          refine X_iconst (v := 0) rfl rfl (by decide) ?_
          exact X_iretW rfl rfl rfl rfl rfl rfl rfl rfl
        · cases e9
      | inl c =>
        by_cases c0 : c = 1
        · subst c0
          refine X_callX (M' := M_X7_load) (nA := 1) (b := a0) (ci := 7) (As := [.int p1]) (st := [.int 0, .ref q]) rfl rfl (by decide +kernel) rfl rfl rfl ⟨hg, by decide⟩ (ct_X7_load hl he) rfl rfl (fun v9 e9 => ?_) (fun cx e9 => ?_)
          · cases e9
          · cases e9
            refine ⟨[], ⟨0, 9, 12, 13⟩, [], rfl, by decide +kernel, by decide, by decide, by decide +kernel, by decide +kernel, by decide, fun n' q9 => ?_⟩
            refine X_astore_n rfl rfl rfl rfl ?_
            refine X_iconst (v := 1) rfl rfl (by decide) ?_
            exact X_iretW rfl rfl rfl rfl rfl rfl rfl rfl
        split
        · rename_i q1; cases q1
        · rename_i q1; cases q1
        · rename_i q1; cases q1; exact absurd rfl c0
        · exact X_none
def f_L_state (h : gH) (a0 : Nat) (p1 : Int32) (q : Nat) : Option (Int32 × gH) :=
  bif g_is h a0 7 then
  match f_X7_state h a0 p1 with
  | none => none
  | some (.inr v, h1) => (g_lst h1 q 0 v.toInt64).bind fun h2 => some (0, h2)
  | some (.inl 1, h1) => some (1, h1)
  | _ => none
  else none
set_option maxRecDepth 100000 in
theorem ct_L_state {l : Launch} {G : gG} (hl : l.stackTraces = false) {h : gH} {a0 : Nat} {p1 : Int32} {q : Nat} {r : Int32} {h1 : gH} (e : f_L_state h a0 p1 q = some (r, h1)) : CtH l G M_L_state [.ref a0, .int p1, .ref q] h (some (.int r)) h1.2 := by
  refine CtH_ofW (L := [some (.ref a0), some (.int p1), some (.ref q), none]) ok_L_state (by decide +kernel) rfl rfl rfl (F := f_L_state h a0 p1 q) ?_ e
  refine X_aload_n rfl rfl rfl ?_
  refine X_iconst (v := 0) rfl rfl (by decide) ?_
  refine X_aload_n rfl rfl rfl ?_
  refine X_iload_n rfl rfl rfl ?_
  unfold f_L_state
  cases hg : g_is h a0 7 with
  | false => exact X_none
  | true =>
    simp only [cond_true]
    cases he : f_X7_state h a0 p1 with
    | none => exact X_none
    | some o1 =>
      obtain ⟨o, h3⟩ := o1
      cases o with
      | inr v =>
        refine X_callX (M' := M_X7_state) (nA := 1) (b := a0) (ci := 7) (As := [.int p1]) (st := [.int 0, .ref q]) rfl rfl (by decide +kernel) rfl rfl rfl ⟨hg, by decide⟩ (ct_X7_state hl he) rfl rfl (fun v9 e9 => ?_) (fun cx e9 => ?_)
        · cases e9
          refine X_rfl (st' := .int v :: [.int 0, .ref q]) rfl ?_
          refine X_i2l rfl rfl ?_
          refine X_lst rfl rfl (fun h2 => ?_)
          refine X_goto rfl rfl ?_
          refine X_iconst (v := 0) rfl rfl (by decide) ?_
          exact X_iretW rfl rfl rfl rfl rfl rfl rfl rfl
        · cases e9
      | inl c =>
        by_cases c0 : c = 1
        · subst c0
          refine X_callX (M' := M_X7_state) (nA := 1) (b := a0) (ci := 7) (As := [.int p1]) (st := [.int 0, .ref q]) rfl rfl (by decide +kernel) rfl rfl rfl ⟨hg, by decide⟩ (ct_X7_state hl he) rfl rfl (fun v9 e9 => ?_) (fun cx e9 => ?_)
          · cases e9
          · cases e9
            refine ⟨[], ⟨0, 9, 12, 13⟩, [], rfl, by decide +kernel, by decide, by decide, by decide +kernel, by decide +kernel, by decide, fun n' q9 => ?_⟩
            refine X_astore_n rfl rfl rfl rfl ?_
            refine X_iconst (v := 1) rfl rfl (by decide) ?_
            exact X_iretW rfl rfl rfl rfl rfl rfl rfl rfl
        split
        · rename_i q1; cases q1
        · rename_i q1; cases q1
        · rename_i q1; cases q1; exact absurd rfl c0
        · exact X_none
def f_L_channel (h : gH) (a0 : Nat) (p1 : Int32) (p2 : Int32) (q : Nat) : Option (Int32 × gH) :=
  bif g_is h a0 7 then
  match f_X7_channel h a0 p1 p2 with
  | none => none
  | some (.inr v, h1) => (g_lst h1 q 0 v.toInt64).bind fun h2 => some (0, h2)
  | some (.inl 2, h1) => some (1, h1)
  | some (.inl 1, h1) => some (2, h1)
  | _ => none
  else none
set_option maxRecDepth 100000 in
theorem ct_L_channel {l : Launch} {G : gG} (hl : l.stackTraces = false) {h : gH} {a0 : Nat} {p1 : Int32} {p2 : Int32} {q : Nat} {r : Int32} {h1 : gH} (e : f_L_channel h a0 p1 p2 q = some (r, h1)) : CtH l G M_L_channel [.ref a0, .int p1, .int p2, .ref q] h (some (.int r)) h1.2 := by
  refine CtH_ofW (L := [some (.ref a0), some (.int p1), some (.int p2), some (.ref q), none]) ok_L_channel (by decide +kernel) rfl rfl rfl (F := f_L_channel h a0 p1 p2 q) ?_ e
  refine X_aload_n rfl rfl rfl ?_
  refine X_iconst (v := 0) rfl rfl (by decide) ?_
  refine X_aload_n rfl rfl rfl ?_
  refine X_iload_n rfl rfl rfl ?_
  refine X_iload_n rfl rfl rfl ?_
  unfold f_L_channel
  cases hg : g_is h a0 7 with
  | false => exact X_none
  | true =>
    simp only [cond_true]
    cases he : f_X7_channel h a0 p1 p2 with
    | none => exact X_none
    | some o1 =>
      obtain ⟨o, h3⟩ := o1
      cases o with
      | inr v =>
        refine X_callX (M' := M_X7_channel) (nA := 2) (b := a0) (ci := 7) (As := [.int p1, .int p2]) (st := [.int 0, .ref q]) rfl rfl (by decide +kernel) rfl rfl rfl ⟨hg, by decide⟩ (ct_X7_channel hl he) rfl rfl (fun v9 e9 => ?_) (fun cx e9 => ?_)
        · cases e9
          refine X_rfl (st' := .int v :: [.int 0, .ref q]) rfl ?_
          refine X_i2l rfl rfl ?_
          refine X_lst rfl rfl (fun h2 => ?_)
          refine X_goto rfl rfl ?_
          refine X_iconst (v := 0) rfl rfl (by decide) ?_
          exact X_iretW rfl rfl rfl rfl rfl rfl rfl rfl
        · cases e9
      | inl c =>
        by_cases c0 : c = 2
        · subst c0
          refine X_callX (M' := M_X7_channel) (nA := 2) (b := a0) (ci := 7) (As := [.int p1, .int p2]) (st := [.int 0, .ref q]) rfl rfl (by decide +kernel) rfl rfl rfl ⟨hg, by decide⟩ (ct_X7_channel hl he) rfl rfl (fun v9 e9 => ?_) (fun cx e9 => ?_)
          · cases e9
          · cases e9
            refine ⟨[], ⟨0, 10, 13, 22⟩, [⟨0, 10, 17, 13⟩], rfl, by decide +kernel, by decide, by decide, by decide +kernel, by decide +kernel, by decide, fun n' q9 => ?_⟩
            refine X_astore rfl rfl rfl rfl ?_
            refine X_iconst (v := 1) rfl rfl (by decide) ?_
            exact X_iretW rfl rfl rfl rfl rfl rfl rfl rfl
        by_cases c1 : c = 1
        · subst c1
          refine X_callX (M' := M_X7_channel) (nA := 2) (b := a0) (ci := 7) (As := [.int p1, .int p2]) (st := [.int 0, .ref q]) rfl rfl (by decide +kernel) rfl rfl rfl ⟨hg, by decide⟩ (ct_X7_channel hl he) rfl rfl (fun v9 e9 => ?_) (fun cx e9 => ?_)
          · cases e9
          · cases e9
            refine ⟨[((⟨0, 10, 13, 22⟩ : ExceptionTableEntry), "java/lang/IndexOutOfBoundsException")], ⟨0, 10, 17, 13⟩, [], rfl, by decide +kernel, by decide, by decide, by decide +kernel, by decide +kernel, by decide, fun n' q9 => ?_⟩
            refine X_astore rfl rfl rfl rfl ?_
            refine X_iconst (v := 2) rfl rfl (by decide) ?_
            exact X_iretW rfl rfl rfl rfl rfl rfl rfl rfl
        split
        · rename_i q1; cases q1
        · rename_i q1; cases q1
        · rename_i q1; cases q1; exact absurd rfl c0
        · rename_i q1; cases q1; exact absurd rfl c1
        · exact X_none
def f_L_message (h : gH) (a0 : Nat) (p1 : Int32) (p2 : Int32) (q : Nat) : Option (Int32 × gH) :=
  bif g_is h a0 7 then
  match f_X7_message h a0 p1 p2 with
  | none => none
  | some (.inr v, h1) => (g_lst h1 q 0 v.toInt64).bind fun h2 => some (0, h2)
  | some (.inl 2, h1) => some (1, h1)
  | some (.inl 1, h1) => some (2, h1)
  | _ => none
  else none
set_option maxRecDepth 100000 in
theorem ct_L_message {l : Launch} {G : gG} (hl : l.stackTraces = false) {h : gH} {a0 : Nat} {p1 : Int32} {p2 : Int32} {q : Nat} {r : Int32} {h1 : gH} (e : f_L_message h a0 p1 p2 q = some (r, h1)) : CtH l G M_L_message [.ref a0, .int p1, .int p2, .ref q] h (some (.int r)) h1.2 := by
  refine CtH_ofW (L := [some (.ref a0), some (.int p1), some (.int p2), some (.ref q), none]) ok_L_message (by decide +kernel) rfl rfl rfl (F := f_L_message h a0 p1 p2 q) ?_ e
  refine X_aload_n rfl rfl rfl ?_
  refine X_iconst (v := 0) rfl rfl (by decide) ?_
  refine X_aload_n rfl rfl rfl ?_
  refine X_iload_n rfl rfl rfl ?_
  refine X_iload_n rfl rfl rfl ?_
  unfold f_L_message
  cases hg : g_is h a0 7 with
  | false => exact X_none
  | true =>
    simp only [cond_true]
    cases he : f_X7_message h a0 p1 p2 with
    | none => exact X_none
    | some o1 =>
      obtain ⟨o, h3⟩ := o1
      cases o with
      | inr v =>
        refine X_callX (M' := M_X7_message) (nA := 2) (b := a0) (ci := 7) (As := [.int p1, .int p2]) (st := [.int 0, .ref q]) rfl rfl (by decide +kernel) rfl rfl rfl ⟨hg, by decide⟩ (ct_X7_message hl he) rfl rfl (fun v9 e9 => ?_) (fun cx e9 => ?_)
        · cases e9
          refine X_rfl (st' := .int v :: [.int 0, .ref q]) rfl ?_
          refine X_i2l rfl rfl ?_
          refine X_lst rfl rfl (fun h2 => ?_)
          refine X_goto rfl rfl ?_
          refine X_iconst (v := 0) rfl rfl (by decide) ?_
          exact X_iretW rfl rfl rfl rfl rfl rfl rfl rfl
        · cases e9
      | inl c =>
        by_cases c0 : c = 2
        · subst c0
          refine X_callX (M' := M_X7_message) (nA := 2) (b := a0) (ci := 7) (As := [.int p1, .int p2]) (st := [.int 0, .ref q]) rfl rfl (by decide +kernel) rfl rfl rfl ⟨hg, by decide⟩ (ct_X7_message hl he) rfl rfl (fun v9 e9 => ?_) (fun cx e9 => ?_)
          · cases e9
          · cases e9
            refine ⟨[], ⟨0, 10, 13, 22⟩, [⟨0, 10, 17, 13⟩], rfl, by decide +kernel, by decide, by decide, by decide +kernel, by decide +kernel, by decide, fun n' q9 => ?_⟩
            refine X_astore rfl rfl rfl rfl ?_
            refine X_iconst (v := 1) rfl rfl (by decide) ?_
            exact X_iretW rfl rfl rfl rfl rfl rfl rfl rfl
        by_cases c1 : c = 1
        · subst c1
          refine X_callX (M' := M_X7_message) (nA := 2) (b := a0) (ci := 7) (As := [.int p1, .int p2]) (st := [.int 0, .ref q]) rfl rfl (by decide +kernel) rfl rfl rfl ⟨hg, by decide⟩ (ct_X7_message hl he) rfl rfl (fun v9 e9 => ?_) (fun cx e9 => ?_)
          · cases e9
          · cases e9
            refine ⟨[((⟨0, 10, 13, 22⟩ : ExceptionTableEntry), "java/lang/IndexOutOfBoundsException")], ⟨0, 10, 17, 13⟩, [], rfl, by decide +kernel, by decide, by decide, by decide +kernel, by decide +kernel, by decide, fun n' q9 => ?_⟩
            refine X_astore rfl rfl rfl rfl ?_
            refine X_iconst (v := 2) rfl rfl (by decide) ?_
            exact X_iretW rfl rfl rfl rfl rfl rfl rfl rfl
        split
        · rename_i q1; cases q1
        · rename_i q1; cases q1
        · rename_i q1; cases q1; exact absurd rfl c0
        · rename_i q1; cases q1; exact absurd rfl c1
        · exact X_none
def f_L_letter (h : gH) (a0 : Nat) (p1 : Int32) (p2 : Int32) (p3 : Int32) (q : Nat) : Option (Int32 × gH) :=
  bif g_is h a0 7 then
  match f_X7_letter h a0 p1 p2 p3 with
  | none => none
  | some (.inr v, h1) => (g_lst h1 q 0 v.toInt64).bind fun h2 => some (0, h2)
  | some (.inl 2, h1) => some (1, h1)
  | some (.inl 3, h1) => some (2, h1)
  | _ => none
  else none
set_option maxRecDepth 100000 in
theorem ct_L_letter {l : Launch} {G : gG} (hl : l.stackTraces = false) {h : gH} {a0 : Nat} {p1 : Int32} {p2 : Int32} {p3 : Int32} {q : Nat} {r : Int32} {h1 : gH} (e : f_L_letter h a0 p1 p2 p3 q = some (r, h1)) : CtH l G M_L_letter [.ref a0, .int p1, .int p2, .int p3, .ref q] h (some (.int r)) h1.2 := by
  refine CtH_ofW (L := [some (.ref a0), some (.int p1), some (.int p2), some (.int p3), some (.ref q), none]) ok_L_letter (by decide +kernel) rfl rfl rfl (F := f_L_letter h a0 p1 p2 p3 q) ?_ e
  refine X_aload rfl rfl rfl ?_
  refine X_iconst (v := 0) rfl rfl (by decide) ?_
  refine X_aload_n rfl rfl rfl ?_
  refine X_iload_n rfl rfl rfl ?_
  refine X_iload_n rfl rfl rfl ?_
  refine X_iload_n rfl rfl rfl ?_
  unfold f_L_letter
  cases hg : g_is h a0 7 with
  | false => exact X_none
  | true =>
    simp only [cond_true]
    cases he : f_X7_letter h a0 p1 p2 p3 with
    | none => exact X_none
    | some o1 =>
      obtain ⟨o, h3⟩ := o1
      cases o with
      | inr v =>
        refine X_callX (M' := M_X7_letter) (nA := 3) (b := a0) (ci := 7) (As := [.int p1, .int p2, .int p3]) (st := [.int 0, .ref q]) rfl rfl (by decide +kernel) rfl rfl rfl ⟨hg, by decide⟩ (ct_X7_letter hl he) rfl rfl (fun v9 e9 => ?_) (fun cx e9 => ?_)
        · cases e9
          refine X_rfl (st' := .int v :: [.int 0, .ref q]) rfl ?_
          refine X_i2l rfl rfl ?_
          refine X_lst rfl rfl (fun h2 => ?_)
          refine X_goto rfl rfl ?_
          refine X_iconst (v := 0) rfl rfl (by decide) ?_
          exact X_iretW rfl rfl rfl rfl rfl rfl rfl rfl
        · cases e9
      | inl c =>
        by_cases c0 : c = 2
        · subst c0
          refine X_callX (M' := M_X7_letter) (nA := 3) (b := a0) (ci := 7) (As := [.int p1, .int p2, .int p3]) (st := [.int 0, .ref q]) rfl rfl (by decide +kernel) rfl rfl rfl ⟨hg, by decide⟩ (ct_X7_letter hl he) rfl rfl (fun v9 e9 => ?_) (fun cx e9 => ?_)
          · cases e9
          · cases e9
            refine ⟨[], ⟨0, 12, 15, 22⟩, [⟨0, 12, 19, 31⟩], rfl, by decide +kernel, by decide, by decide, by decide +kernel, by decide +kernel, by decide, fun n' q9 => ?_⟩
            refine X_astore rfl rfl rfl rfl ?_
            refine X_iconst (v := 1) rfl rfl (by decide) ?_
            exact X_iretW rfl rfl rfl rfl rfl rfl rfl rfl
        by_cases c1 : c = 3
        · subst c1
          refine X_callX (M' := M_X7_letter) (nA := 3) (b := a0) (ci := 7) (As := [.int p1, .int p2, .int p3]) (st := [.int 0, .ref q]) rfl rfl (by decide +kernel) rfl rfl rfl ⟨hg, by decide⟩ (ct_X7_letter hl he) rfl rfl (fun v9 e9 => ?_) (fun cx e9 => ?_)
          · cases e9
          · cases e9
            refine ⟨[((⟨0, 12, 15, 22⟩ : ExceptionTableEntry), "java/lang/IndexOutOfBoundsException")], ⟨0, 12, 19, 31⟩, [], rfl, by decide +kernel, by decide, by decide, by decide +kernel, by decide +kernel, by decide, fun n' q9 => ?_⟩
            refine X_astore rfl rfl rfl rfl ?_
            refine X_iconst (v := 2) rfl rfl (by decide) ?_
            exact X_iretW rfl rfl rfl rfl rfl rfl rfl rfl
        split
        · rename_i q1; cases q1
        · rename_i q1; cases q1
        · rename_i q1; cases q1; exact absurd rfl c0
        · rename_i q1; cases q1; exact absurd rfl c1
        · exact X_none
def f_L_why (h : gH) (a0 : Nat) (p1 : Int32) (p2 : Int32) (q : Nat) : Option (Int32 × gH) :=
  bif g_is h a0 7 then
  match f_X7_why h a0 p1 p2 with
  | none => none
  | some (.inr v, h1) => (g_lst h1 q 0 v.toInt64).bind fun h2 => some (0, h2)
  | some (.inl 2, h1) => some (1, h1)
  | some (.inl 3, h1) => some (2, h1)
  | _ => none
  else none
set_option maxRecDepth 100000 in
theorem ct_L_why {l : Launch} {G : gG} (hl : l.stackTraces = false) {h : gH} {a0 : Nat} {p1 : Int32} {p2 : Int32} {q : Nat} {r : Int32} {h1 : gH} (e : f_L_why h a0 p1 p2 q = some (r, h1)) : CtH l G M_L_why [.ref a0, .int p1, .int p2, .ref q] h (some (.int r)) h1.2 := by
  refine CtH_ofW (L := [some (.ref a0), some (.int p1), some (.int p2), some (.ref q), none]) ok_L_why (by decide +kernel) rfl rfl rfl (F := f_L_why h a0 p1 p2 q) ?_ e
  refine X_aload_n rfl rfl rfl ?_
  refine X_iconst (v := 0) rfl rfl (by decide) ?_
  refine X_aload_n rfl rfl rfl ?_
  refine X_iload_n rfl rfl rfl ?_
  refine X_iload_n rfl rfl rfl ?_
  unfold f_L_why
  cases hg : g_is h a0 7 with
  | false => exact X_none
  | true =>
    simp only [cond_true]
    cases he : f_X7_why h a0 p1 p2 with
    | none => exact X_none
    | some o1 =>
      obtain ⟨o, h3⟩ := o1
      cases o with
      | inr v =>
        refine X_callX (M' := M_X7_why) (nA := 2) (b := a0) (ci := 7) (As := [.int p1, .int p2]) (st := [.int 0, .ref q]) rfl rfl (by decide +kernel) rfl rfl rfl ⟨hg, by decide⟩ (ct_X7_why hl he) rfl rfl (fun v9 e9 => ?_) (fun cx e9 => ?_)
        · cases e9
          refine X_rfl (st' := .int v :: [.int 0, .ref q]) rfl ?_
          refine X_i2l rfl rfl ?_
          refine X_lst rfl rfl (fun h2 => ?_)
          refine X_goto rfl rfl ?_
          refine X_iconst (v := 0) rfl rfl (by decide) ?_
          exact X_iretW rfl rfl rfl rfl rfl rfl rfl rfl
        · cases e9
      | inl c =>
        by_cases c0 : c = 2
        · subst c0
          refine X_callX (M' := M_X7_why) (nA := 2) (b := a0) (ci := 7) (As := [.int p1, .int p2]) (st := [.int 0, .ref q]) rfl rfl (by decide +kernel) rfl rfl rfl ⟨hg, by decide⟩ (ct_X7_why hl he) rfl rfl (fun v9 e9 => ?_) (fun cx e9 => ?_)
          · cases e9
          · cases e9
            refine ⟨[], ⟨0, 10, 13, 22⟩, [⟨0, 10, 17, 31⟩], rfl, by decide +kernel, by decide, by decide, by decide +kernel, by decide +kernel, by decide, fun n' q9 => ?_⟩
            refine X_astore rfl rfl rfl rfl ?_
            refine X_iconst (v := 1) rfl rfl (by decide) ?_
            exact X_iretW rfl rfl rfl rfl rfl rfl rfl rfl
        by_cases c1 : c = 3
        · subst c1
          refine X_callX (M' := M_X7_why) (nA := 2) (b := a0) (ci := 7) (As := [.int p1, .int p2]) (st := [.int 0, .ref q]) rfl rfl (by decide +kernel) rfl rfl rfl ⟨hg, by decide⟩ (ct_X7_why hl he) rfl rfl (fun v9 e9 => ?_) (fun cx e9 => ?_)
          · cases e9
          · cases e9
            refine ⟨[((⟨0, 10, 13, 22⟩ : ExceptionTableEntry), "java/lang/IndexOutOfBoundsException")], ⟨0, 10, 17, 31⟩, [], rfl, by decide +kernel, by decide, by decide, by decide +kernel, by decide +kernel, by decide, fun n' q9 => ?_⟩
            refine X_astore rfl rfl rfl rfl ?_
            refine X_iconst (v := 2) rfl rfl (by decide) ?_
            exact X_iretW rfl rfl rfl rfl rfl rfl rfl rfl
        split
        · rename_i q1; cases q1
        · rename_i q1; cases q1
        · rename_i q1; cases q1; exact absurd rfl c0
        · rename_i q1; cases q1; exact absurd rfl c1
        · exact X_none
def f_L_mist (h : gH) (a0 : Nat) (p1 : Int32) (q : Nat) : Option (Int32 × gH) :=
  bif g_is h a0 7 then
  match f_X7_mist h a0 p1 with
  | none => none
  | some (.inr v, h1) => (g_lst h1 q 0 v.toInt64).bind fun h2 => some (0, h2)
  | some (.inl 1, h1) => some (1, h1)
  | _ => none
  else none
set_option maxRecDepth 100000 in
theorem ct_L_mist {l : Launch} {G : gG} (hl : l.stackTraces = false) {h : gH} {a0 : Nat} {p1 : Int32} {q : Nat} {r : Int32} {h1 : gH} (e : f_L_mist h a0 p1 q = some (r, h1)) : CtH l G M_L_mist [.ref a0, .int p1, .ref q] h (some (.int r)) h1.2 := by
  refine CtH_ofW (L := [some (.ref a0), some (.int p1), some (.ref q), none]) ok_L_mist (by decide +kernel) rfl rfl rfl (F := f_L_mist h a0 p1 q) ?_ e
  refine X_aload_n rfl rfl rfl ?_
  refine X_iconst (v := 0) rfl rfl (by decide) ?_
  refine X_aload_n rfl rfl rfl ?_
  refine X_iload_n rfl rfl rfl ?_
  unfold f_L_mist
  cases hg : g_is h a0 7 with
  | false => exact X_none
  | true =>
    simp only [cond_true]
    cases he : f_X7_mist h a0 p1 with
    | none => exact X_none
    | some o1 =>
      obtain ⟨o, h3⟩ := o1
      cases o with
      | inr v =>
        refine X_callX (M' := M_X7_mist) (nA := 1) (b := a0) (ci := 7) (As := [.int p1]) (st := [.int 0, .ref q]) rfl rfl (by decide +kernel) rfl rfl rfl ⟨hg, by decide⟩ (ct_X7_mist hl he) rfl rfl (fun v9 e9 => ?_) (fun cx e9 => ?_)
        · cases e9
          refine X_rfl (st' := .int v :: [.int 0, .ref q]) rfl ?_
          refine X_i2l rfl rfl ?_
          refine X_lst rfl rfl (fun h2 => ?_)
          refine X_goto rfl rfl ?_
          refine X_iconst (v := 0) rfl rfl (by decide) ?_
          exact X_iretW rfl rfl rfl rfl rfl rfl rfl rfl
        · cases e9
      | inl c =>
        by_cases c0 : c = 1
        · subst c0
          refine X_callX (M' := M_X7_mist) (nA := 1) (b := a0) (ci := 7) (As := [.int p1]) (st := [.int 0, .ref q]) rfl rfl (by decide +kernel) rfl rfl rfl ⟨hg, by decide⟩ (ct_X7_mist hl he) rfl rfl (fun v9 e9 => ?_) (fun cx e9 => ?_)
          · cases e9
          · cases e9
            refine ⟨[], ⟨0, 9, 12, 13⟩, [], rfl, by decide +kernel, by decide, by decide, by decide +kernel, by decide +kernel, by decide, fun n' q9 => ?_⟩
            refine X_astore_n rfl rfl rfl rfl ?_
            refine X_iconst (v := 1) rfl rfl (by decide) ?_
            exact X_iretW rfl rfl rfl rfl rfl rfl rfl rfl
        split
        · rename_i q1; cases q1
        · rename_i q1; cases q1
        · rename_i q1; cases q1; exact absurd rfl c0
        · exact X_none
def f_L_key (h : gH) (a0 : Nat) (p1 : Int32) (p2 : Int32) (q : Nat) : Option (Int32 × gH) :=
  bif g_is h a0 7 then
  match f_X7_key h a0 p1 p2 with
  | none => none
  | some (.inr v, h1) => (g_lst h1 q 0 v.toInt64).bind fun h2 => some (0, h2)
  | some (.inl 2, h1) => some (1, h1)
  | some (.inl 1, h1) => some (2, h1)
  | _ => none
  else none
set_option maxRecDepth 100000 in
theorem ct_L_key {l : Launch} {G : gG} (hl : l.stackTraces = false) {h : gH} {a0 : Nat} {p1 : Int32} {p2 : Int32} {q : Nat} {r : Int32} {h1 : gH} (e : f_L_key h a0 p1 p2 q = some (r, h1)) : CtH l G M_L_key [.ref a0, .int p1, .int p2, .ref q] h (some (.int r)) h1.2 := by
  refine CtH_ofW (L := [some (.ref a0), some (.int p1), some (.int p2), some (.ref q), none]) ok_L_key (by decide +kernel) rfl rfl rfl (F := f_L_key h a0 p1 p2 q) ?_ e
  refine X_aload_n rfl rfl rfl ?_
  refine X_iconst (v := 0) rfl rfl (by decide) ?_
  refine X_aload_n rfl rfl rfl ?_
  refine X_iload_n rfl rfl rfl ?_
  refine X_iload_n rfl rfl rfl ?_
  unfold f_L_key
  cases hg : g_is h a0 7 with
  | false => exact X_none
  | true =>
    simp only [cond_true]
    cases he : f_X7_key h a0 p1 p2 with
    | none => exact X_none
    | some o1 =>
      obtain ⟨o, h3⟩ := o1
      cases o with
      | inr v =>
        refine X_callX (M' := M_X7_key) (nA := 2) (b := a0) (ci := 7) (As := [.int p1, .int p2]) (st := [.int 0, .ref q]) rfl rfl (by decide +kernel) rfl rfl rfl ⟨hg, by decide⟩ (ct_X7_key hl he) rfl rfl (fun v9 e9 => ?_) (fun cx e9 => ?_)
        · cases e9
          refine X_rfl (st' := .int v :: [.int 0, .ref q]) rfl ?_
          refine X_i2l rfl rfl ?_
          refine X_lst rfl rfl (fun h2 => ?_)
          refine X_goto rfl rfl ?_
          refine X_iconst (v := 0) rfl rfl (by decide) ?_
          exact X_iretW rfl rfl rfl rfl rfl rfl rfl rfl
        · cases e9
      | inl c =>
        by_cases c0 : c = 2
        · subst c0
          refine X_callX (M' := M_X7_key) (nA := 2) (b := a0) (ci := 7) (As := [.int p1, .int p2]) (st := [.int 0, .ref q]) rfl rfl (by decide +kernel) rfl rfl rfl ⟨hg, by decide⟩ (ct_X7_key hl he) rfl rfl (fun v9 e9 => ?_) (fun cx e9 => ?_)
          · cases e9
          · cases e9
            refine ⟨[], ⟨0, 10, 13, 22⟩, [⟨0, 10, 17, 13⟩], rfl, by decide +kernel, by decide, by decide, by decide +kernel, by decide +kernel, by decide, fun n' q9 => ?_⟩
            refine X_astore rfl rfl rfl rfl ?_
            refine X_iconst (v := 1) rfl rfl (by decide) ?_
            exact X_iretW rfl rfl rfl rfl rfl rfl rfl rfl
        by_cases c1 : c = 1
        · subst c1
          refine X_callX (M' := M_X7_key) (nA := 2) (b := a0) (ci := 7) (As := [.int p1, .int p2]) (st := [.int 0, .ref q]) rfl rfl (by decide +kernel) rfl rfl rfl ⟨hg, by decide⟩ (ct_X7_key hl he) rfl rfl (fun v9 e9 => ?_) (fun cx e9 => ?_)
          · cases e9
          · cases e9
            refine ⟨[((⟨0, 10, 13, 22⟩ : ExceptionTableEntry), "java/lang/IndexOutOfBoundsException")], ⟨0, 10, 17, 13⟩, [], rfl, by decide +kernel, by decide, by decide, by decide +kernel, by decide +kernel, by decide, fun n' q9 => ?_⟩
            refine X_astore rfl rfl rfl rfl ?_
            refine X_iconst (v := 2) rfl rfl (by decide) ?_
            exact X_iretW rfl rfl rfl rfl rfl rfl rfl rfl
        split
        · rename_i q1; cases q1
        · rename_i q1; cases q1
        · rename_i q1; cases q1; exact absurd rfl c0
        · rename_i q1; cases q1; exact absurd rfl c1
        · exact X_none
def f_L_next (h : gH) (a0 : Nat) (p1 : Int32) (q : Nat) : Option (Int32 × gH) :=
  bif g_is h a0 7 then
  match f_X7_next h a0 p1 with
  | none => none
  | some (.inr v, h1) => (g_lst h1 q 0 v.toInt64).bind fun h2 => some (0, h2)
  | some (.inl 3, h1) => some (1, h1)
  | _ => none
  else none
set_option maxRecDepth 100000 in
theorem ct_L_next {l : Launch} {G : gG} (hl : l.stackTraces = false) {h : gH} {a0 : Nat} {p1 : Int32} {q : Nat} {r : Int32} {h1 : gH} (e : f_L_next h a0 p1 q = some (r, h1)) : CtH l G M_L_next [.ref a0, .int p1, .ref q] h (some (.int r)) h1.2 := by
  refine CtH_ofW (L := [some (.ref a0), some (.int p1), some (.ref q), none]) ok_L_next (by decide +kernel) rfl rfl rfl (F := f_L_next h a0 p1 q) ?_ e
  refine X_aload_n rfl rfl rfl ?_
  refine X_iconst (v := 0) rfl rfl (by decide) ?_
  refine X_aload_n rfl rfl rfl ?_
  refine X_iload_n rfl rfl rfl ?_
  unfold f_L_next
  cases hg : g_is h a0 7 with
  | false => exact X_none
  | true =>
    simp only [cond_true]
    cases he : f_X7_next h a0 p1 with
    | none => exact X_none
    | some o1 =>
      obtain ⟨o, h3⟩ := o1
      cases o with
      | inr v =>
        refine X_callX (M' := M_X7_next) (nA := 1) (b := a0) (ci := 7) (As := [.int p1]) (st := [.int 0, .ref q]) rfl rfl (by decide +kernel) rfl rfl rfl ⟨hg, by decide⟩ (ct_X7_next hl he) rfl rfl (fun v9 e9 => ?_) (fun cx e9 => ?_)
        · cases e9
          refine X_rfl (st' := .int v :: [.int 0, .ref q]) rfl ?_
          refine X_i2l rfl rfl ?_
          refine X_lst rfl rfl (fun h2 => ?_)
          refine X_goto rfl rfl ?_
          refine X_iconst (v := 0) rfl rfl (by decide) ?_
          exact X_iretW rfl rfl rfl rfl rfl rfl rfl rfl
        · cases e9
      | inl c =>
        by_cases c0 : c = 3
        · subst c0
          refine X_callX (M' := M_X7_next) (nA := 1) (b := a0) (ci := 7) (As := [.int p1]) (st := [.int 0, .ref q]) rfl rfl (by decide +kernel) rfl rfl rfl ⟨hg, by decide⟩ (ct_X7_next hl he) rfl rfl (fun v9 e9 => ?_) (fun cx e9 => ?_)
          · cases e9
          · cases e9
            refine ⟨[], ⟨0, 9, 12, 31⟩, [], rfl, by decide +kernel, by decide, by decide, by decide +kernel, by decide +kernel, by decide, fun n' q9 => ?_⟩
            refine X_astore_n rfl rfl rfl rfl ?_
            refine X_iconst (v := 1) rfl rfl (by decide) ?_
            exact X_iretW rfl rfl rfl rfl rfl rfl rfl rfl
        split
        · rename_i q1; cases q1
        · rename_i q1; cases q1
        · rename_i q1; cases q1; exact absurd rfl c0
        · exact X_none
def f_L_foretold (h : gH) (a0 : Nat) (p1 : Int32) (q : Nat) : Option (Int32 × gH) :=
  bif g_is h a0 7 then
  match f_X7_foretold h a0 p1 with
  | none => none
  | some (.inr v, h1) => (g_lst h1 q 0 v.toInt64).bind fun h2 => some (0, h2)
  | some (.inl 1, h1) => some (1, h1)
  | _ => none
  else none
set_option maxRecDepth 100000 in
theorem ct_L_foretold {l : Launch} {G : gG} (hl : l.stackTraces = false) {h : gH} {a0 : Nat} {p1 : Int32} {q : Nat} {r : Int32} {h1 : gH} (e : f_L_foretold h a0 p1 q = some (r, h1)) : CtH l G M_L_foretold [.ref a0, .int p1, .ref q] h (some (.int r)) h1.2 := by
  refine CtH_ofW (L := [some (.ref a0), some (.int p1), some (.ref q), none]) ok_L_foretold (by decide +kernel) rfl rfl rfl (F := f_L_foretold h a0 p1 q) ?_ e
  refine X_aload_n rfl rfl rfl ?_
  refine X_iconst (v := 0) rfl rfl (by decide) ?_
  refine X_aload_n rfl rfl rfl ?_
  refine X_iload_n rfl rfl rfl ?_
  unfold f_L_foretold
  cases hg : g_is h a0 7 with
  | false => exact X_none
  | true =>
    simp only [cond_true]
    cases he : f_X7_foretold h a0 p1 with
    | none => exact X_none
    | some o1 =>
      obtain ⟨o, h3⟩ := o1
      cases o with
      | inr v =>
        refine X_callX (M' := M_X7_foretold) (nA := 1) (b := a0) (ci := 7) (As := [.int p1]) (st := [.int 0, .ref q]) rfl rfl (by decide +kernel) rfl rfl rfl ⟨hg, by decide⟩ (ct_X7_foretold hl he) rfl rfl (fun v9 e9 => ?_) (fun cx e9 => ?_)
        · cases e9
          refine X_rfl (st' := .int v :: [.int 0, .ref q]) rfl ?_
          refine X_i2l rfl rfl ?_
          refine X_lst rfl rfl (fun h2 => ?_)
          refine X_goto rfl rfl ?_
          refine X_iconst (v := 0) rfl rfl (by decide) ?_
          exact X_iretW rfl rfl rfl rfl rfl rfl rfl rfl
        · cases e9
      | inl c =>
        by_cases c0 : c = 1
        · subst c0
          refine X_callX (M' := M_X7_foretold) (nA := 1) (b := a0) (ci := 7) (As := [.int p1]) (st := [.int 0, .ref q]) rfl rfl (by decide +kernel) rfl rfl rfl ⟨hg, by decide⟩ (ct_X7_foretold hl he) rfl rfl (fun v9 e9 => ?_) (fun cx e9 => ?_)
          · cases e9
          · cases e9
            refine ⟨[], ⟨0, 9, 12, 13⟩, [], rfl, by decide +kernel, by decide, by decide, by decide +kernel, by decide +kernel, by decide, fun n' q9 => ?_⟩
            refine X_astore_n rfl rfl rfl rfl ?_
            refine X_iconst (v := 1) rfl rfl (by decide) ?_
            exact X_iretW rfl rfl rfl rfl rfl rfl rfl rfl
        split
        · rename_i q1; cases q1
        · rename_i q1; cases q1
        · rename_i q1; cases q1; exact absurd rfl c0
        · exact X_none
def f_L_leastPower (h : gH) (a0 : Nat) (p1 : Int32) (q : Nat) : Option (Int32 × gH) :=
  bif g_is h a0 7 then
  match f_X7_leastPower h a0 p1 with
  | none => none
  | some (.inr v, h1) => (g_lst h1 q 0 v.toInt64).bind fun h2 => some (0, h2)
  | some (.inl 2, h1) => some (1, h1)
  | _ => none
  else none
set_option maxRecDepth 100000 in
theorem ct_L_leastPower {l : Launch} {G : gG} (hl : l.stackTraces = false) {h : gH} {a0 : Nat} {p1 : Int32} {q : Nat} {r : Int32} {h1 : gH} (e : f_L_leastPower h a0 p1 q = some (r, h1)) : CtH l G M_L_leastPower [.ref a0, .int p1, .ref q] h (some (.int r)) h1.2 := by
  refine CtH_ofW (L := [some (.ref a0), some (.int p1), some (.ref q), none]) ok_L_leastPower (by decide +kernel) rfl rfl rfl (F := f_L_leastPower h a0 p1 q) ?_ e
  refine X_aload_n rfl rfl rfl ?_
  refine X_iconst (v := 0) rfl rfl (by decide) ?_
  refine X_aload_n rfl rfl rfl ?_
  refine X_iload_n rfl rfl rfl ?_
  unfold f_L_leastPower
  cases hg : g_is h a0 7 with
  | false => exact X_none
  | true =>
    simp only [cond_true]
    cases he : f_X7_leastPower h a0 p1 with
    | none => exact X_none
    | some o1 =>
      obtain ⟨o, h3⟩ := o1
      cases o with
      | inr v =>
        refine X_callX (M' := M_X7_leastPower) (nA := 1) (b := a0) (ci := 7) (As := [.int p1]) (st := [.int 0, .ref q]) rfl rfl (by decide +kernel) rfl rfl rfl ⟨hg, by decide⟩ (ct_X7_leastPower hl he) rfl rfl (fun v9 e9 => ?_) (fun cx e9 => ?_)
        · cases e9
          refine X_rfl (st' := .int v :: [.int 0, .ref q]) rfl ?_
          refine X_i2l rfl rfl ?_
          refine X_lst rfl rfl (fun h2 => ?_)
          refine X_goto rfl rfl ?_
          refine X_iconst (v := 0) rfl rfl (by decide) ?_
          exact X_iretW rfl rfl rfl rfl rfl rfl rfl rfl
        · cases e9
      | inl c =>
        by_cases c0 : c = 2
        · subst c0
          refine X_callX (M' := M_X7_leastPower) (nA := 1) (b := a0) (ci := 7) (As := [.int p1]) (st := [.int 0, .ref q]) rfl rfl (by decide +kernel) rfl rfl rfl ⟨hg, by decide⟩ (ct_X7_leastPower hl he) rfl rfl (fun v9 e9 => ?_) (fun cx e9 => ?_)
          · cases e9
          · cases e9
            refine ⟨[], ⟨0, 9, 12, 22⟩, [], rfl, by decide +kernel, by decide, by decide, by decide +kernel, by decide +kernel, by decide, fun n' q9 => ?_⟩
            refine X_astore_n rfl rfl rfl rfl ?_
            refine X_iconst (v := 1) rfl rfl (by decide) ?_
            exact X_iretW rfl rfl rfl rfl rfl rfl rfl rfl
        split
        · rename_i q1; cases q1
        · rename_i q1; cases q1
        · rename_i q1; cases q1; exact absurd rfl c0
        · exact X_none
def f_L_pass (h : gH) (a0 : Nat) (p1 : Int32) (q : Nat) : Option (Int32 × gH) :=
  bif g_is h a0 7 then
  match f_X7_pass h a0 p1 with
  | none => none
  | some (.inr v, h1) => (g_lst h1 q 0 v.toInt64).bind fun h2 => some (0, h2)
  | some (.inl 1, h1) => some (1, h1)
  | _ => none
  else none
set_option maxRecDepth 100000 in
theorem ct_L_pass {l : Launch} {G : gG} (hl : l.stackTraces = false) {h : gH} {a0 : Nat} {p1 : Int32} {q : Nat} {r : Int32} {h1 : gH} (e : f_L_pass h a0 p1 q = some (r, h1)) : CtH l G M_L_pass [.ref a0, .int p1, .ref q] h (some (.int r)) h1.2 := by
  refine CtH_ofW (L := [some (.ref a0), some (.int p1), some (.ref q), none]) ok_L_pass (by decide +kernel) rfl rfl rfl (F := f_L_pass h a0 p1 q) ?_ e
  refine X_aload_n rfl rfl rfl ?_
  refine X_iconst (v := 0) rfl rfl (by decide) ?_
  refine X_aload_n rfl rfl rfl ?_
  refine X_iload_n rfl rfl rfl ?_
  unfold f_L_pass
  cases hg : g_is h a0 7 with
  | false => exact X_none
  | true =>
    simp only [cond_true]
    cases he : f_X7_pass h a0 p1 with
    | none => exact X_none
    | some o1 =>
      obtain ⟨o, h3⟩ := o1
      cases o with
      | inr v =>
        refine X_callX (M' := M_X7_pass) (nA := 1) (b := a0) (ci := 7) (As := [.int p1]) (st := [.int 0, .ref q]) rfl rfl (by decide +kernel) rfl rfl rfl ⟨hg, by decide⟩ (ct_X7_pass hl he) rfl rfl (fun v9 e9 => ?_) (fun cx e9 => ?_)
        · cases e9
          refine X_rfl (st' := .int v :: [.int 0, .ref q]) rfl ?_
          refine X_i2l rfl rfl ?_
          refine X_lst rfl rfl (fun h2 => ?_)
          refine X_goto rfl rfl ?_
          refine X_iconst (v := 0) rfl rfl (by decide) ?_
          exact X_iretW rfl rfl rfl rfl rfl rfl rfl rfl
        · cases e9
      | inl c =>
        by_cases c0 : c = 1
        · subst c0
          refine X_callX (M' := M_X7_pass) (nA := 1) (b := a0) (ci := 7) (As := [.int p1]) (st := [.int 0, .ref q]) rfl rfl (by decide +kernel) rfl rfl rfl ⟨hg, by decide⟩ (ct_X7_pass hl he) rfl rfl (fun v9 e9 => ?_) (fun cx e9 => ?_)
          · cases e9
          · cases e9
            refine ⟨[], ⟨0, 9, 12, 13⟩, [], rfl, by decide +kernel, by decide, by decide, by decide +kernel, by decide +kernel, by decide, fun n' q9 => ?_⟩
            refine X_astore_n rfl rfl rfl rfl ?_
            refine X_iconst (v := 1) rfl rfl (by decide) ?_
            exact X_iretW rfl rfl rfl rfl rfl rfl rfl rfl
        split
        · rename_i q1; cases q1
        · rename_i q1; cases q1
        · rename_i q1; cases q1; exact absurd rfl c0
        · exact X_none
def f_L_send (h : gH) (a0 : Nat) (p1 : Int32) (p2 : Int32) (p3 : Int32) (q : Nat) : Option (Int32 × gH) :=
  bif g_is h a0 7 then
  match f_X7_send h a0 p1 p2 p3 with
  | none => none
  | some (.inr v, h1) => (g_lst h1 q 0 v.toInt64).bind fun h2 => some (0, h2)
  | some (.inl 2, h1) => some (1, h1)
  | some (.inl 1, h1) => some (2, h1)
  | some (.inl 4, h1) => some (3, h1)
  | _ => none
  else none
set_option maxRecDepth 100000 in
theorem ct_L_send {l : Launch} {G : gG} (hl : l.stackTraces = false) {h : gH} {a0 : Nat} {p1 : Int32} {p2 : Int32} {p3 : Int32} {q : Nat} {r : Int32} {h1 : gH} (e : f_L_send h a0 p1 p2 p3 q = some (r, h1)) : CtH l G M_L_send [.ref a0, .int p1, .int p2, .int p3, .ref q] h (some (.int r)) h1.2 := by
  refine CtH_ofW (L := [some (.ref a0), some (.int p1), some (.int p2), some (.int p3), some (.ref q), none]) ok_L_send (by decide +kernel) rfl rfl rfl (F := f_L_send h a0 p1 p2 p3 q) ?_ e
  refine X_aload rfl rfl rfl ?_
  refine X_iconst (v := 0) rfl rfl (by decide) ?_
  refine X_aload_n rfl rfl rfl ?_
  refine X_iload_n rfl rfl rfl ?_
  refine X_iload_n rfl rfl rfl ?_
  refine X_iload_n rfl rfl rfl ?_
  unfold f_L_send
  cases hg : g_is h a0 7 with
  | false => exact X_none
  | true =>
    simp only [cond_true]
    cases he : f_X7_send h a0 p1 p2 p3 with
    | none => exact X_none
    | some o1 =>
      obtain ⟨o, h3⟩ := o1
      cases o with
      | inr v =>
        refine X_callX (M' := M_X7_send) (nA := 3) (b := a0) (ci := 7) (As := [.int p1, .int p2, .int p3]) (st := [.int 0, .ref q]) rfl rfl (by decide +kernel) rfl rfl rfl ⟨hg, by decide⟩ (ct_X7_send hl he) rfl rfl (fun v9 e9 => ?_) (fun cx e9 => ?_)
        · cases e9
          refine X_rfl (st' := .int v :: [.int 0, .ref q]) rfl ?_
          refine X_i2l rfl rfl ?_
          refine X_lst rfl rfl (fun h2 => ?_)
          refine X_goto rfl rfl ?_
          refine X_iconst (v := 0) rfl rfl (by decide) ?_
          exact X_iretW rfl rfl rfl rfl rfl rfl rfl rfl
        · cases e9
      | inl c =>
        by_cases c0 : c = 2
        · subst c0
          refine X_callX (M' := M_X7_send) (nA := 3) (b := a0) (ci := 7) (As := [.int p1, .int p2, .int p3]) (st := [.int 0, .ref q]) rfl rfl (by decide +kernel) rfl rfl rfl ⟨hg, by decide⟩ (ct_X7_send hl he) rfl rfl (fun v9 e9 => ?_) (fun cx e9 => ?_)
          · cases e9
          · cases e9
            refine ⟨[], ⟨0, 12, 15, 22⟩, [⟨0, 12, 19, 13⟩, ⟨0, 12, 23, 58⟩], rfl, by decide +kernel, by decide, by decide, by decide +kernel, by decide +kernel, by decide, fun n' q9 => ?_⟩
            refine X_astore rfl rfl rfl rfl ?_
            refine X_iconst (v := 1) rfl rfl (by decide) ?_
            exact X_iretW rfl rfl rfl rfl rfl rfl rfl rfl
        by_cases c1 : c = 1
        · subst c1
          refine X_callX (M' := M_X7_send) (nA := 3) (b := a0) (ci := 7) (As := [.int p1, .int p2, .int p3]) (st := [.int 0, .ref q]) rfl rfl (by decide +kernel) rfl rfl rfl ⟨hg, by decide⟩ (ct_X7_send hl he) rfl rfl (fun v9 e9 => ?_) (fun cx e9 => ?_)
          · cases e9
          · cases e9
            refine ⟨[((⟨0, 12, 15, 22⟩ : ExceptionTableEntry), "java/lang/IndexOutOfBoundsException")], ⟨0, 12, 19, 13⟩, [⟨0, 12, 23, 58⟩], rfl, by decide +kernel, by decide, by decide, by decide +kernel, by decide +kernel, by decide, fun n' q9 => ?_⟩
            refine X_astore rfl rfl rfl rfl ?_
            refine X_iconst (v := 2) rfl rfl (by decide) ?_
            exact X_iretW rfl rfl rfl rfl rfl rfl rfl rfl
        by_cases c2 : c = 4
        · subst c2
          refine X_callX (M' := M_X7_send) (nA := 3) (b := a0) (ci := 7) (As := [.int p1, .int p2, .int p3]) (st := [.int 0, .ref q]) rfl rfl (by decide +kernel) rfl rfl rfl ⟨hg, by decide⟩ (ct_X7_send hl he) rfl rfl (fun v9 e9 => ?_) (fun cx e9 => ?_)
          · cases e9
          · cases e9
            refine ⟨[((⟨0, 12, 15, 22⟩ : ExceptionTableEntry), "java/lang/IndexOutOfBoundsException"), ((⟨0, 12, 19, 13⟩ : ExceptionTableEntry), "java/lang/IllegalArgumentException")], ⟨0, 12, 23, 58⟩, [], rfl, by decide +kernel, by decide, by decide, by decide +kernel, by decide +kernel, by decide, fun n' q9 => ?_⟩
            refine X_astore rfl rfl rfl rfl ?_
            refine X_iconst (v := 3) rfl rfl (by decide) ?_
            exact X_iretW rfl rfl rfl rfl rfl rfl rfl rfl
        split
        · rename_i q1; cases q1
        · rename_i q1; cases q1
        · rename_i q1; cases q1; exact absurd rfl c0
        · rename_i q1; cases q1; exact absurd rfl c1
        · rename_i q1; cases q1; exact absurd rfl c2
        · exact X_none
def f_L_fog (h : gH) (a0 : Nat) (p1 : Int32) (p2 : Int32) (p3 : Int32) (q : Nat) : Option (Int32 × gH) :=
  bif g_is h a0 7 then
  match f_X7_fog h a0 p1 p2 p3 with
  | none => none
  | some (.inr v, h1) => (g_lst h1 q 0 v.toInt64).bind fun h2 => some (0, h2)
  | some (.inl 1, h1) => some (1, h1)
  | some (.inl 4, h1) => some (2, h1)
  | _ => none
  else none
set_option maxRecDepth 100000 in
theorem ct_L_fog {l : Launch} {G : gG} (hl : l.stackTraces = false) {h : gH} {a0 : Nat} {p1 : Int32} {p2 : Int32} {p3 : Int32} {q : Nat} {r : Int32} {h1 : gH} (e : f_L_fog h a0 p1 p2 p3 q = some (r, h1)) : CtH l G M_L_fog [.ref a0, .int p1, .int p2, .int p3, .ref q] h (some (.int r)) h1.2 := by
  refine CtH_ofW (L := [some (.ref a0), some (.int p1), some (.int p2), some (.int p3), some (.ref q), none]) ok_L_fog (by decide +kernel) rfl rfl rfl (F := f_L_fog h a0 p1 p2 p3 q) ?_ e
  refine X_aload rfl rfl rfl ?_
  refine X_iconst (v := 0) rfl rfl (by decide) ?_
  refine X_aload_n rfl rfl rfl ?_
  refine X_iload_n rfl rfl rfl ?_
  refine X_iload_n rfl rfl rfl ?_
  refine X_iload_n rfl rfl rfl ?_
  unfold f_L_fog
  cases hg : g_is h a0 7 with
  | false => exact X_none
  | true =>
    simp only [cond_true]
    cases he : f_X7_fog h a0 p1 p2 p3 with
    | none => exact X_none
    | some o1 =>
      obtain ⟨o, h3⟩ := o1
      cases o with
      | inr v =>
        refine X_callX (M' := M_X7_fog) (nA := 3) (b := a0) (ci := 7) (As := [.int p1, .int p2, .int p3]) (st := [.int 0, .ref q]) rfl rfl (by decide +kernel) rfl rfl rfl ⟨hg, by decide⟩ (ct_X7_fog hl he) rfl rfl (fun v9 e9 => ?_) (fun cx e9 => ?_)
        · cases e9
          refine X_rfl (st' := .int v :: [.int 0, .ref q]) rfl ?_
          refine X_i2l rfl rfl ?_
          refine X_lst rfl rfl (fun h2 => ?_)
          refine X_goto rfl rfl ?_
          refine X_iconst (v := 0) rfl rfl (by decide) ?_
          exact X_iretW rfl rfl rfl rfl rfl rfl rfl rfl
        · cases e9
      | inl c =>
        by_cases c0 : c = 1
        · subst c0
          refine X_callX (M' := M_X7_fog) (nA := 3) (b := a0) (ci := 7) (As := [.int p1, .int p2, .int p3]) (st := [.int 0, .ref q]) rfl rfl (by decide +kernel) rfl rfl rfl ⟨hg, by decide⟩ (ct_X7_fog hl he) rfl rfl (fun v9 e9 => ?_) (fun cx e9 => ?_)
          · cases e9
          · cases e9
            refine ⟨[], ⟨0, 12, 15, 13⟩, [⟨0, 12, 19, 58⟩], rfl, by decide +kernel, by decide, by decide, by decide +kernel, by decide +kernel, by decide, fun n' q9 => ?_⟩
            refine X_astore rfl rfl rfl rfl ?_
            refine X_iconst (v := 1) rfl rfl (by decide) ?_
            exact X_iretW rfl rfl rfl rfl rfl rfl rfl rfl
        by_cases c1 : c = 4
        · subst c1
          refine X_callX (M' := M_X7_fog) (nA := 3) (b := a0) (ci := 7) (As := [.int p1, .int p2, .int p3]) (st := [.int 0, .ref q]) rfl rfl (by decide +kernel) rfl rfl rfl ⟨hg, by decide⟩ (ct_X7_fog hl he) rfl rfl (fun v9 e9 => ?_) (fun cx e9 => ?_)
          · cases e9
          · cases e9
            refine ⟨[((⟨0, 12, 15, 13⟩ : ExceptionTableEntry), "java/lang/IllegalArgumentException")], ⟨0, 12, 19, 58⟩, [], rfl, by decide +kernel, by decide, by decide, by decide +kernel, by decide +kernel, by decide, fun n' q9 => ?_⟩
            refine X_astore rfl rfl rfl rfl ?_
            refine X_iconst (v := 2) rfl rfl (by decide) ?_
            exact X_iretW rfl rfl rfl rfl rfl rfl rfl rfl
        split
        · rename_i q1; cases q1
        · rename_i q1; cases q1
        · rename_i q1; cases q1; exact absurd rfl c0
        · rename_i q1; cases q1; exact absurd rfl c1
        · exact X_none
def f_L_relieve (h : gH) (a0 : Nat) (p1 : Int32) (p2 : Int32) (q : Nat) : Option (Int32 × gH) :=
  bif g_is h a0 7 then
  match f_X7_relieve h a0 p1 p2 with
  | none => none
  | some (.inr v, h1) => (g_lst h1 q 0 v.toInt64).bind fun h2 => some (0, h2)
  | some (.inl 2, h1) => some (1, h1)
  | some (.inl 1, h1) => some (2, h1)
  | some (.inl 4, h1) => some (3, h1)
  | _ => none
  else none
set_option maxRecDepth 100000 in
theorem ct_L_relieve {l : Launch} {G : gG} (hl : l.stackTraces = false) {h : gH} {a0 : Nat} {p1 : Int32} {p2 : Int32} {q : Nat} {r : Int32} {h1 : gH} (e : f_L_relieve h a0 p1 p2 q = some (r, h1)) : CtH l G M_L_relieve [.ref a0, .int p1, .int p2, .ref q] h (some (.int r)) h1.2 := by
  refine CtH_ofW (L := [some (.ref a0), some (.int p1), some (.int p2), some (.ref q), none]) ok_L_relieve (by decide +kernel) rfl rfl rfl (F := f_L_relieve h a0 p1 p2 q) ?_ e
  refine X_aload_n rfl rfl rfl ?_
  refine X_iconst (v := 0) rfl rfl (by decide) ?_
  refine X_aload_n rfl rfl rfl ?_
  refine X_iload_n rfl rfl rfl ?_
  refine X_iload_n rfl rfl rfl ?_
  unfold f_L_relieve
  cases hg : g_is h a0 7 with
  | false => exact X_none
  | true =>
    simp only [cond_true]
    cases he : f_X7_relieve h a0 p1 p2 with
    | none => exact X_none
    | some o1 =>
      obtain ⟨o, h3⟩ := o1
      cases o with
      | inr v =>
        refine X_callX (M' := M_X7_relieve) (nA := 2) (b := a0) (ci := 7) (As := [.int p1, .int p2]) (st := [.int 0, .ref q]) rfl rfl (by decide +kernel) rfl rfl rfl ⟨hg, by decide⟩ (ct_X7_relieve hl he) rfl rfl (fun v9 e9 => ?_) (fun cx e9 => ?_)
        · cases e9
          refine X_rfl (st' := .int v :: [.int 0, .ref q]) rfl ?_
          refine X_i2l rfl rfl ?_
          refine X_lst rfl rfl (fun h2 => ?_)
          refine X_goto rfl rfl ?_
          refine X_iconst (v := 0) rfl rfl (by decide) ?_
          exact X_iretW rfl rfl rfl rfl rfl rfl rfl rfl
        · cases e9
      | inl c =>
        by_cases c0 : c = 2
        · subst c0
          refine X_callX (M' := M_X7_relieve) (nA := 2) (b := a0) (ci := 7) (As := [.int p1, .int p2]) (st := [.int 0, .ref q]) rfl rfl (by decide +kernel) rfl rfl rfl ⟨hg, by decide⟩ (ct_X7_relieve hl he) rfl rfl (fun v9 e9 => ?_) (fun cx e9 => ?_)
          · cases e9
          · cases e9
            refine ⟨[], ⟨0, 10, 13, 22⟩, [⟨0, 10, 17, 13⟩, ⟨0, 10, 21, 58⟩], rfl, by decide +kernel, by decide, by decide, by decide +kernel, by decide +kernel, by decide, fun n' q9 => ?_⟩
            refine X_astore rfl rfl rfl rfl ?_
            refine X_iconst (v := 1) rfl rfl (by decide) ?_
            exact X_iretW rfl rfl rfl rfl rfl rfl rfl rfl
        by_cases c1 : c = 1
        · subst c1
          refine X_callX (M' := M_X7_relieve) (nA := 2) (b := a0) (ci := 7) (As := [.int p1, .int p2]) (st := [.int 0, .ref q]) rfl rfl (by decide +kernel) rfl rfl rfl ⟨hg, by decide⟩ (ct_X7_relieve hl he) rfl rfl (fun v9 e9 => ?_) (fun cx e9 => ?_)
          · cases e9
          · cases e9
            refine ⟨[((⟨0, 10, 13, 22⟩ : ExceptionTableEntry), "java/lang/IndexOutOfBoundsException")], ⟨0, 10, 17, 13⟩, [⟨0, 10, 21, 58⟩], rfl, by decide +kernel, by decide, by decide, by decide +kernel, by decide +kernel, by decide, fun n' q9 => ?_⟩
            refine X_astore rfl rfl rfl rfl ?_
            refine X_iconst (v := 2) rfl rfl (by decide) ?_
            exact X_iretW rfl rfl rfl rfl rfl rfl rfl rfl
        by_cases c2 : c = 4
        · subst c2
          refine X_callX (M' := M_X7_relieve) (nA := 2) (b := a0) (ci := 7) (As := [.int p1, .int p2]) (st := [.int 0, .ref q]) rfl rfl (by decide +kernel) rfl rfl rfl ⟨hg, by decide⟩ (ct_X7_relieve hl he) rfl rfl (fun v9 e9 => ?_) (fun cx e9 => ?_)
          · cases e9
          · cases e9
            refine ⟨[((⟨0, 10, 13, 22⟩ : ExceptionTableEntry), "java/lang/IndexOutOfBoundsException"), ((⟨0, 10, 17, 13⟩ : ExceptionTableEntry), "java/lang/IllegalArgumentException")], ⟨0, 10, 21, 58⟩, [], rfl, by decide +kernel, by decide, by decide, by decide +kernel, by decide +kernel, by decide, fun n' q9 => ?_⟩
            refine X_astore rfl rfl rfl rfl ?_
            refine X_iconst (v := 3) rfl rfl (by decide) ?_
            exact X_iretW rfl rfl rfl rfl rfl rfl rfl rfl
        split
        · rename_i q1; cases q1
        · rename_i q1; cases q1
        · rename_i q1; cases q1; exact absurd rfl c0
        · rename_i q1; cases q1; exact absurd rfl c1
        · rename_i q1; cases q1; exact absurd rfl c2
        · exact X_none
def f_L_power (h : gH) (a0 : Nat) (p1 : Int32) (p2 : Int32) (q : Nat) : Option (Int32 × gH) :=
  bif g_is h a0 7 then
  match f_X7_power h a0 p1 p2 with
  | none => none
  | some (.inr v, h1) => (g_lst h1 q 0 v.toInt64).bind fun h2 => some (0, h2)
  | some (.inl 2, h1) => some (1, h1)
  | some (.inl 1, h1) => some (2, h1)
  | _ => none
  else none
set_option maxRecDepth 100000 in
theorem ct_L_power {l : Launch} {G : gG} (hl : l.stackTraces = false) {h : gH} {a0 : Nat} {p1 : Int32} {p2 : Int32} {q : Nat} {r : Int32} {h1 : gH} (e : f_L_power h a0 p1 p2 q = some (r, h1)) : CtH l G M_L_power [.ref a0, .int p1, .int p2, .ref q] h (some (.int r)) h1.2 := by
  refine CtH_ofW (L := [some (.ref a0), some (.int p1), some (.int p2), some (.ref q), none]) ok_L_power (by decide +kernel) rfl rfl rfl (F := f_L_power h a0 p1 p2 q) ?_ e
  refine X_aload_n rfl rfl rfl ?_
  refine X_iconst (v := 0) rfl rfl (by decide) ?_
  refine X_aload_n rfl rfl rfl ?_
  refine X_iload_n rfl rfl rfl ?_
  refine X_iload_n rfl rfl rfl ?_
  unfold f_L_power
  cases hg : g_is h a0 7 with
  | false => exact X_none
  | true =>
    simp only [cond_true]
    cases he : f_X7_power h a0 p1 p2 with
    | none => exact X_none
    | some o1 =>
      obtain ⟨o, h3⟩ := o1
      cases o with
      | inr v =>
        refine X_callX (M' := M_X7_power) (nA := 2) (b := a0) (ci := 7) (As := [.int p1, .int p2]) (st := [.int 0, .ref q]) rfl rfl (by decide +kernel) rfl rfl rfl ⟨hg, by decide⟩ (ct_X7_power hl he) rfl rfl (fun v9 e9 => ?_) (fun cx e9 => ?_)
        · cases e9
          refine X_rfl (st' := .int v :: [.int 0, .ref q]) rfl ?_
          refine X_i2l rfl rfl ?_
          refine X_lst rfl rfl (fun h2 => ?_)
          refine X_goto rfl rfl ?_
          refine X_iconst (v := 0) rfl rfl (by decide) ?_
          exact X_iretW rfl rfl rfl rfl rfl rfl rfl rfl
        · cases e9
      | inl c =>
        by_cases c0 : c = 2
        · subst c0
          refine X_callX (M' := M_X7_power) (nA := 2) (b := a0) (ci := 7) (As := [.int p1, .int p2]) (st := [.int 0, .ref q]) rfl rfl (by decide +kernel) rfl rfl rfl ⟨hg, by decide⟩ (ct_X7_power hl he) rfl rfl (fun v9 e9 => ?_) (fun cx e9 => ?_)
          · cases e9
          · cases e9
            refine ⟨[], ⟨0, 10, 13, 22⟩, [⟨0, 10, 17, 13⟩], rfl, by decide +kernel, by decide, by decide, by decide +kernel, by decide +kernel, by decide, fun n' q9 => ?_⟩
            refine X_astore rfl rfl rfl rfl ?_
            refine X_iconst (v := 1) rfl rfl (by decide) ?_
            exact X_iretW rfl rfl rfl rfl rfl rfl rfl rfl
        by_cases c1 : c = 1
        · subst c1
          refine X_callX (M' := M_X7_power) (nA := 2) (b := a0) (ci := 7) (As := [.int p1, .int p2]) (st := [.int 0, .ref q]) rfl rfl (by decide +kernel) rfl rfl rfl ⟨hg, by decide⟩ (ct_X7_power hl he) rfl rfl (fun v9 e9 => ?_) (fun cx e9 => ?_)
          · cases e9
          · cases e9
            refine ⟨[((⟨0, 10, 13, 22⟩ : ExceptionTableEntry), "java/lang/IndexOutOfBoundsException")], ⟨0, 10, 17, 13⟩, [], rfl, by decide +kernel, by decide, by decide, by decide +kernel, by decide +kernel, by decide, fun n' q9 => ?_⟩
            refine X_astore rfl rfl rfl rfl ?_
            refine X_iconst (v := 2) rfl rfl (by decide) ?_
            exact X_iretW rfl rfl rfl rfl rfl rfl rfl rfl
        split
        · rename_i q1; cases q1
        · rename_i q1; cases q1
        · rename_i q1; cases q1; exact absurd rfl c0
        · rename_i q1; cases q1; exact absurd rfl c1
        · exact X_none
def f_L_cancel (h : gH) (a0 : Nat) (p1 : Int32) (q : Nat) : Option (Int32 × gH) :=
  bif g_is h a0 7 then
  match f_X7_cancel h a0 p1 with
  | none => none
  | some (.inr v, h1) => (g_lst h1 q 0 (if v = 0 then 0 else 1)).bind fun h2 => some (0, h2)
  | some (.inl 2, h1) => some (1, h1)
  | some (.inl 4, h1) => some (2, h1)
  | _ => none
  else none
set_option maxRecDepth 100000 in
theorem ct_L_cancel {l : Launch} {G : gG} (hl : l.stackTraces = false) {h : gH} {a0 : Nat} {p1 : Int32} {q : Nat} {r : Int32} {h1 : gH} (e : f_L_cancel h a0 p1 q = some (r, h1)) : CtH l G M_L_cancel [.ref a0, .int p1, .ref q] h (some (.int r)) h1.2 := by
  refine CtH_ofW (L := [some (.ref a0), some (.int p1), some (.ref q), none]) ok_L_cancel (by decide +kernel) rfl rfl rfl (F := f_L_cancel h a0 p1 q) ?_ e
  refine X_aload_n rfl rfl rfl ?_
  refine X_iconst (v := 0) rfl rfl (by decide) ?_
  refine X_aload_n rfl rfl rfl ?_
  refine X_iload_n rfl rfl rfl ?_
  unfold f_L_cancel
  cases hg : g_is h a0 7 with
  | false => exact X_none
  | true =>
    simp only [cond_true]
    cases he : f_X7_cancel h a0 p1 with
    | none => exact X_none
    | some o1 =>
      obtain ⟨o, h3⟩ := o1
      cases o with
      | inr v =>
        refine X_callX (M' := M_X7_cancel) (nA := 1) (b := a0) (ci := 7) (As := [.int p1]) (st := [.int 0, .ref q]) rfl rfl (by decide +kernel) rfl rfl rfl ⟨hg, by decide⟩ (ct_X7_cancel hl he) rfl rfl (fun v9 e9 => ?_) (fun cx e9 => ?_)
        · cases e9
          refine X_rfl (st' := .int v :: [.int 0, .ref q]) rfl ?_
          show GX l G _ _ _ _ _ _ _ h3 ((g_lst h3 q 0 (if v = 0 then 0 else 1)).bind fun h2 => some (0, h2))
          by_cases hv : v = 0
          · rw [if_pos hv]
            refine X_if_eq rfl rfl (fun _ => ?_) (fun c => absurd hv c)
            refine X_lconst (v := 0) rfl rfl (by decide) ?_
            refine X_lst rfl rfl (fun h2 => ?_)
            refine X_goto rfl rfl ?_
            refine X_iconst (v := 0) rfl rfl (by decide) ?_
            exact X_iretW rfl rfl rfl rfl rfl rfl rfl rfl
          · rw [if_neg hv]
            refine X_if_eq rfl rfl (fun c => absurd c hv) (fun _ => ?_)
            refine X_lconst (v := 1) rfl rfl (by decide) ?_
            refine X_goto rfl rfl ?_
            refine X_lst rfl rfl (fun h2 => ?_)
            refine X_goto rfl rfl ?_
            refine X_iconst (v := 0) rfl rfl (by decide) ?_
            exact X_iretW rfl rfl rfl rfl rfl rfl rfl rfl
        · cases e9
      | inl c =>
        by_cases c0 : c = 2
        · subst c0
          refine X_callX (M' := M_X7_cancel) (nA := 1) (b := a0) (ci := 7) (As := [.int p1]) (st := [.int 0, .ref q]) rfl rfl (by decide +kernel) rfl rfl rfl ⟨hg, by decide⟩ (ct_X7_cancel hl he) rfl rfl (fun v9 e9 => ?_) (fun cx e9 => ?_)
          · cases e9
          · cases e9
            refine ⟨[], ⟨0, 16, 19, 22⟩, [⟨0, 16, 22, 58⟩], rfl, by decide +kernel, by decide, by decide, by decide +kernel, by decide +kernel, by decide, fun n' q9 => ?_⟩
            refine X_astore_n rfl rfl rfl rfl ?_
            refine X_iconst (v := 1) rfl rfl (by decide) ?_
            exact X_iretW rfl rfl rfl rfl rfl rfl rfl rfl
        by_cases c1 : c = 4
        · subst c1
          refine X_callX (M' := M_X7_cancel) (nA := 1) (b := a0) (ci := 7) (As := [.int p1]) (st := [.int 0, .ref q]) rfl rfl (by decide +kernel) rfl rfl rfl ⟨hg, by decide⟩ (ct_X7_cancel hl he) rfl rfl (fun v9 e9 => ?_) (fun cx e9 => ?_)
          · cases e9
          · cases e9
            refine ⟨[((⟨0, 16, 19, 22⟩ : ExceptionTableEntry), "java/lang/IndexOutOfBoundsException")], ⟨0, 16, 22, 58⟩, [], rfl, by decide +kernel, by decide, by decide, by decide +kernel, by decide +kernel, by decide, fun n' q9 => ?_⟩
            refine X_astore_n rfl rfl rfl rfl ?_
            refine X_iconst (v := 2) rfl rfl (by decide) ?_
            exact X_iretW rfl rfl rfl rfl rfl rfl rfl rfl
        split
        · rename_i q1; cases q1
        · rename_i q1; cases q1
        · rename_i q1; cases q1; exact absurd rfl c0
        · rename_i q1; cases q1; exact absurd rfl c1
        · exact X_none
