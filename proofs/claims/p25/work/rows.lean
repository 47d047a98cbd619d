section
-- ===== PART A: goes FIRST, ahead of the names: the tables' words, and 'selects' of the private methods out of them =====
/-- a private method of a class that the tables say can be made, by its rows of tables_1 -/
def lw_okq (q : MethodName × Nat) : Prop := (q.1.cls ≠ "java/lang/invoke/MethodHandle" ∧ q.1.cls ≠ "java/lang/invoke/VarHandle") ∧ Cond.instantiable q.1.cls q.2 ∈ tables_1 ∧ Cond.privateMethod q.1 ∈ tables_1 ∧ Cond.instanceMethod q.1 ∈ tables_1
theorem lw_p0 : lw_okq (⟨"LampRelay$History", "keptAt", "(I)LLampRelay$World;"⟩, 3) := ⟨⟨by decide +kernel, by decide +kernel⟩, List.mem_of_getElem? (i := 258) (by decide +kernel), List.mem_of_getElem? (i := 309) (by decide +kernel), List.mem_of_getElem? (i := 310) (by decide +kernel)⟩
theorem lw_p1 : lw_okq (⟨"LampRelayLaw$Line", "steps", "(LLampRelayLaw$Talk;LLampRelayLaw$Lamp;)V"⟩, 12) := ⟨⟨by decide +kernel, by decide +kernel⟩, List.mem_of_getElem? (i := 349) (by decide +kernel), List.mem_of_getElem? (i := 575) (by decide +kernel), List.mem_of_getElem? (i := 576) (by decide +kernel)⟩
theorem lw_p2 : lw_okq (⟨"LampRelayLaw$Line", "letters", "(LLampRelayLaw$Talk;I)I"⟩, 12) := ⟨⟨by decide +kernel, by decide +kernel⟩, List.mem_of_getElem? (i := 349) (by decide +kernel), List.mem_of_getElem? (i := 579) (by decide +kernel), List.mem_of_getElem? (i := 580) (by decide +kernel)⟩
theorem lw_p3 : lw_okq (⟨"LampRelayLaw$Line", "air", "(LLampRelayLaw$Lamp;)I"⟩, 12) := ⟨⟨by decide +kernel, by decide +kernel⟩, List.mem_of_getElem? (i := 349) (by decide +kernel), List.mem_of_getElem? (i := 584) (by decide +kernel), List.mem_of_getElem? (i := 585) (by decide +kernel)⟩
theorem lw_p4 : lw_okq (⟨"java/lang/Throwable", "fillInStackTrace", "(I)Ljava/lang/Throwable;"⟩, 6) := ⟨⟨by decide +kernel, by decide +kernel⟩, List.mem_of_getElem? (i := 698) (by decide +kernel), List.mem_of_getElem? (i := 696) (by decide +kernel), List.mem_of_getElem? (i := 697) (by decide +kernel)⟩
theorem lw_p5 : lw_okq (⟨"LampRelay$SetupReader", "readRelay", "(LLampRelay$World;)Z"⟩, 7) := ⟨⟨by decide +kernel, by decide +kernel⟩, List.mem_of_getElem? (i := 727) (by decide +kernel), List.mem_of_getElem? (i := 761) (by decide +kernel), List.mem_of_getElem? (i := 762) (by decide +kernel)⟩
theorem lw_p6 : lw_okq (⟨"LampRelay$SetupReader", "readWord", "()V"⟩, 7) := ⟨⟨by decide +kernel, by decide +kernel⟩, List.mem_of_getElem? (i := 727) (by decide +kernel), List.mem_of_getElem? (i := 765) (by decide +kernel), List.mem_of_getElem? (i := 766) (by decide +kernel)⟩
theorem lw_p7 : lw_okq (⟨"LampRelay$SetupReader", "findToken", "()Z"⟩, 7) := ⟨⟨by decide +kernel, by decide +kernel⟩, List.mem_of_getElem? (i := 727) (by decide +kernel), List.mem_of_getElem? (i := 769) (by decide +kernel), List.mem_of_getElem? (i := 770) (by decide +kernel)⟩
theorem lw_p8 : lw_okq (⟨"LampRelay$SetupReader", "byteAt", "(I)I"⟩, 7) := ⟨⟨by decide +kernel, by decide +kernel⟩, List.mem_of_getElem? (i := 727) (by decide +kernel), List.mem_of_getElem? (i := 773) (by decide +kernel), List.mem_of_getElem? (i := 774) (by decide +kernel)⟩
theorem lw_p9 : lw_okq (⟨"LampRelay$SetupReader", "isToken", "(Ljava/lang/String;)Z"⟩, 7) := ⟨⟨by decide +kernel, by decide +kernel⟩, List.mem_of_getElem? (i := 727) (by decide +kernel), List.mem_of_getElem? (i := 781) (by decide +kernel), List.mem_of_getElem? (i := 782) (by decide +kernel)⟩
theorem lw_p10 : lw_okq (⟨"LampRelay$SetupReader", "isError", "(I)Z"⟩, 7) := ⟨⟨by decide +kernel, by decide +kernel⟩, List.mem_of_getElem? (i := 727) (by decide +kernel), List.mem_of_getElem? (i := 787) (by decide +kernel), List.mem_of_getElem? (i := 788) (by decide +kernel)⟩
theorem lw_p11 : lw_okq (⟨"LampRelay$SetupReader", "readNumber", "(II)I"⟩, 7) := ⟨⟨by decide +kernel, by decide +kernel⟩, List.mem_of_getElem? (i := 727) (by decide +kernel), List.mem_of_getElem? (i := 791) (by decide +kernel), List.mem_of_getElem? (i := 792) (by decide +kernel)⟩
theorem lw_p12 : lw_okq (⟨"LampRelay$SetupReader", "readSemicolon", "()Z"⟩, 7) := ⟨⟨by decide +kernel, by decide +kernel⟩, List.mem_of_getElem? (i := 727) (by decide +kernel), List.mem_of_getElem? (i := 798) (by decide +kernel), List.mem_of_getElem? (i := 799) (by decide +kernel)⟩
theorem lw_p13 : lw_okq (⟨"LampRelay$SetupReader", "readStatement", "(LLampRelay$World;)Z"⟩, 7) := ⟨⟨by decide +kernel, by decide +kernel⟩, List.mem_of_getElem? (i := 727) (by decide +kernel), List.mem_of_getElem? (i := 802) (by decide +kernel), List.mem_of_getElem? (i := 803) (by decide +kernel)⟩
theorem lw_p14 : lw_okq (⟨"LampRelay$SetupReader", "readChannel", "(LLampRelay$World;)Z"⟩, 7) := ⟨⟨by decide +kernel, by decide +kernel⟩, List.mem_of_getElem? (i := 727) (by decide +kernel), List.mem_of_getElem? (i := 807) (by decide +kernel), List.mem_of_getElem? (i := 808) (by decide +kernel)⟩
theorem lw_p15 : lw_okq (⟨"LampRelay$SetupReader", "readKeeper", "(LLampRelay$World;)Z"⟩, 7) := ⟨⟨by decide +kernel, by decide +kernel⟩, List.mem_of_getElem? (i := 727) (by decide +kernel), List.mem_of_getElem? (i := 816) (by decide +kernel), List.mem_of_getElem? (i := 817) (by decide +kernel)⟩
def lw_privs_1 : List (MethodName × Nat) := [(⟨"LampRelay$History", "keptAt", "(I)LLampRelay$World;"⟩, 3), (⟨"LampRelayLaw$Line", "steps", "(LLampRelayLaw$Talk;LLampRelayLaw$Lamp;)V"⟩, 12), (⟨"LampRelayLaw$Line", "letters", "(LLampRelayLaw$Talk;I)I"⟩, 12), (⟨"LampRelayLaw$Line", "air", "(LLampRelayLaw$Lamp;)I"⟩, 12), (⟨"java/lang/Throwable", "fillInStackTrace", "(I)Ljava/lang/Throwable;"⟩, 6), (⟨"LampRelay$SetupReader", "readRelay", "(LLampRelay$World;)Z"⟩, 7), (⟨"LampRelay$SetupReader", "readWord", "()V"⟩, 7), (⟨"LampRelay$SetupReader", "findToken", "()Z"⟩, 7), (⟨"LampRelay$SetupReader", "byteAt", "(I)I"⟩, 7), (⟨"LampRelay$SetupReader", "isToken", "(Ljava/lang/String;)Z"⟩, 7), (⟨"LampRelay$SetupReader", "isError", "(I)Z"⟩, 7), (⟨"LampRelay$SetupReader", "readNumber", "(II)I"⟩, 7), (⟨"LampRelay$SetupReader", "readSemicolon", "()Z"⟩, 7), (⟨"LampRelay$SetupReader", "readStatement", "(LLampRelay$World;)Z"⟩, 7), (⟨"LampRelay$SetupReader", "readChannel", "(LLampRelay$World;)Z"⟩, 7), (⟨"LampRelay$SetupReader", "readKeeper", "(LLampRelay$World;)Z"⟩, 7)]
theorem lw_r1 : ∀ q ∈ lw_privs_1, lw_okq q := List.forall_mem_cons.mpr ⟨lw_p0, List.forall_mem_cons.mpr ⟨lw_p1, List.forall_mem_cons.mpr ⟨lw_p2, List.forall_mem_cons.mpr ⟨lw_p3, List.forall_mem_cons.mpr ⟨lw_p4, List.forall_mem_cons.mpr ⟨lw_p5, List.forall_mem_cons.mpr ⟨lw_p6, List.forall_mem_cons.mpr ⟨lw_p7, List.forall_mem_cons.mpr ⟨lw_p8, List.forall_mem_cons.mpr ⟨lw_p9, List.forall_mem_cons.mpr ⟨lw_p10, List.forall_mem_cons.mpr ⟨lw_p11, List.forall_mem_cons.mpr ⟨lw_p12, List.forall_mem_cons.mpr ⟨lw_p13, List.forall_mem_cons.mpr ⟨lw_p14, List.forall_mem_cons.mpr ⟨lw_p15, fun _ h => absurd h List.not_mem_nil⟩⟩⟩⟩⟩⟩⟩⟩⟩⟩⟩⟩⟩⟩⟩⟩
theorem lw_p16 : lw_okq (⟨"LampRelay$Keepers", "placeOf", "(I)I"⟩, 3) := ⟨⟨by decide +kernel, by decide +kernel⟩, List.mem_of_getElem? (i := 149) (by decide +kernel), List.mem_of_getElem? (i := 832) (by decide +kernel), List.mem_of_getElem? (i := 833) (by decide +kernel)⟩
theorem lw_p17 : lw_okq (⟨"LampRelay$SetupReader", "readMist", "(LLampRelay$World;)Z"⟩, 7) := ⟨⟨by decide +kernel, by decide +kernel⟩, List.mem_of_getElem? (i := 727) (by decide +kernel), List.mem_of_getElem? (i := 850) (by decide +kernel), List.mem_of_getElem? (i := 851) (by decide +kernel)⟩
theorem lw_p18 : lw_okq (⟨"LampRelay$SetupReader", "readMessage", "(LLampRelay$World;)Z"⟩, 7) := ⟨⟨by decide +kernel, by decide +kernel⟩, List.mem_of_getElem? (i := 727) (by decide +kernel), List.mem_of_getElem? (i := 865) (by decide +kernel), List.mem_of_getElem? (i := 866) (by decide +kernel)⟩
theorem lw_p19 : lw_okq (⟨"LampRelay$World", "messagesIn", "(I)I"⟩, 16) := ⟨⟨by decide +kernel, by decide +kernel⟩, List.mem_of_getElem? (i := 42) (by decide +kernel), List.mem_of_getElem? (i := 1028) (by decide +kernel), List.mem_of_getElem? (i := 1029) (by decide +kernel)⟩
theorem lw_p20 : lw_okq (⟨"LampRelay$World", "startFirstWaiting", "()V"⟩, 16) := ⟨⟨by decide +kernel, by decide +kernel⟩, List.mem_of_getElem? (i := 42) (by decide +kernel), List.mem_of_getElem? (i := 1036) (by decide +kernel), List.mem_of_getElem? (i := 1037) (by decide +kernel)⟩
theorem lw_p21 : lw_okq (⟨"LampRelay$World", "servedBefore", "(I)I"⟩, 16) := ⟨⟨by decide +kernel, by decide +kernel⟩, List.mem_of_getElem? (i := 42) (by decide +kernel), List.mem_of_getElem? (i := 1044) (by decide +kernel), List.mem_of_getElem? (i := 1045) (by decide +kernel)⟩
theorem lw_p22 : lw_okq (⟨"LampRelay$World", "serve", "(LLampRelay$Channel;I)V"⟩, 16) := ⟨⟨by decide +kernel, by decide +kernel⟩, List.mem_of_getElem? (i := 42) (by decide +kernel), List.mem_of_getElem? (i := 1053) (by decide +kernel), List.mem_of_getElem? (i := 1054) (by decide +kernel)⟩
theorem lw_p23 : lw_okq (⟨"LampRelay$World", "countSymbol", "(ZZ)V"⟩, 16) := ⟨⟨by decide +kernel, by decide +kernel⟩, List.mem_of_getElem? (i := 42) (by decide +kernel), List.mem_of_getElem? (i := 1064) (by decide +kernel), List.mem_of_getElem? (i := 1065) (by decide +kernel)⟩
theorem lw_p24 : lw_okq (⟨"LampRelay$World", "makeStep", "(LLampRelay$Channel;LLampRelay$Message;ZZ)V"⟩, 16) := ⟨⟨by decide +kernel, by decide +kernel⟩, List.mem_of_getElem? (i := 42) (by decide +kernel), List.mem_of_getElem? (i := 1068) (by decide +kernel), List.mem_of_getElem? (i := 1069) (by decide +kernel)⟩
theorem lw_p25 : lw_okq (⟨"LampRelay$Message", "emptyPlaces", "()I"⟩, 13) := ⟨⟨by decide +kernel, by decide +kernel⟩, List.mem_of_getElem? (i := 49) (by decide +kernel), List.mem_of_getElem? (i := 1120) (by decide +kernel), List.mem_of_getElem? (i := 1121) (by decide +kernel)⟩
theorem lw_p26 : lw_okq (⟨"LampRelay$Message", "wrongPlaces", "()I"⟩, 13) := ⟨⟨by decide +kernel, by decide +kernel⟩, List.mem_of_getElem? (i := 49) (by decide +kernel), List.mem_of_getElem? (i := 1124) (by decide +kernel), List.mem_of_getElem? (i := 1125) (by decide +kernel)⟩
theorem lw_p27 : lw_okq (⟨"LampRelay", "buffersLetters", "(I)Z"⟩, 6) := ⟨⟨by decide +kernel, by decide +kernel⟩, List.mem_of_getElem? (i := 34) (by decide +kernel), List.mem_of_getElem? (i := 1157) (by decide +kernel), List.mem_of_getElem? (i := 1158) (by decide +kernel)⟩
theorem lw_p28 : lw_okq (⟨"LampRelay", "appendWord", "(I)V"⟩, 6) := ⟨⟨by decide +kernel, by decide +kernel⟩, List.mem_of_getElem? (i := 34) (by decide +kernel), List.mem_of_getElem? (i := 1245) (by decide +kernel), List.mem_of_getElem? (i := 1246) (by decide +kernel)⟩
theorem lw_p29 : lw_okq (⟨"LampRelay$Message", "allTries", "()I"⟩, 13) := ⟨⟨by decide +kernel, by decide +kernel⟩, List.mem_of_getElem? (i := 49) (by decide +kernel), List.mem_of_getElem? (i := 1523) (by decide +kernel), List.mem_of_getElem? (i := 1524) (by decide +kernel)⟩
def lw_privs_2 : List (MethodName × Nat) := [(⟨"LampRelay$Keepers", "placeOf", "(I)I"⟩, 3), (⟨"LampRelay$SetupReader", "readMist", "(LLampRelay$World;)Z"⟩, 7), (⟨"LampRelay$SetupReader", "readMessage", "(LLampRelay$World;)Z"⟩, 7), (⟨"LampRelay$World", "messagesIn", "(I)I"⟩, 16), (⟨"LampRelay$World", "startFirstWaiting", "()V"⟩, 16), (⟨"LampRelay$World", "servedBefore", "(I)I"⟩, 16), (⟨"LampRelay$World", "serve", "(LLampRelay$Channel;I)V"⟩, 16), (⟨"LampRelay$World", "countSymbol", "(ZZ)V"⟩, 16), (⟨"LampRelay$World", "makeStep", "(LLampRelay$Channel;LLampRelay$Message;ZZ)V"⟩, 16), (⟨"LampRelay$Message", "emptyPlaces", "()I"⟩, 13), (⟨"LampRelay$Message", "wrongPlaces", "()I"⟩, 13), (⟨"LampRelay", "buffersLetters", "(I)Z"⟩, 6), (⟨"LampRelay", "appendWord", "(I)V"⟩, 6), (⟨"LampRelay$Message", "allTries", "()I"⟩, 13)]
theorem lw_r2 : ∀ q ∈ lw_privs_2, lw_okq q := List.forall_mem_cons.mpr ⟨lw_p16, List.forall_mem_cons.mpr ⟨lw_p17, List.forall_mem_cons.mpr ⟨lw_p18, List.forall_mem_cons.mpr ⟨lw_p19, List.forall_mem_cons.mpr ⟨lw_p20, List.forall_mem_cons.mpr ⟨lw_p21, List.forall_mem_cons.mpr ⟨lw_p22, List.forall_mem_cons.mpr ⟨lw_p23, List.forall_mem_cons.mpr ⟨lw_p24, List.forall_mem_cons.mpr ⟨lw_p25, List.forall_mem_cons.mpr ⟨lw_p26, List.forall_mem_cons.mpr ⟨lw_p27, List.forall_mem_cons.mpr ⟨lw_p28, List.forall_mem_cons.mpr ⟨lw_p29, fun _ h => absurd h List.not_mem_nil⟩⟩⟩⟩⟩⟩⟩⟩⟩⟩⟩⟩⟩⟩
def lw_privs : List (MethodName × Nat) := lw_privs_1 ++ (lw_privs_2)
def lw_tb0 : List Cond := k2_sels lw_privs ++ tables_1
/-- private methods of java/lang/AbstractStringBuilder, selected for a java/lang/StringBuilder -/
def lw_sbs : List MethodName := [⟨"java/lang/AbstractStringBuilder", "ensureCapacityInternal", "(I)V"⟩, ⟨"java/lang/AbstractStringBuilder", "putStringAt", "(ILjava/lang/String;)V"⟩, ⟨"java/lang/AbstractStringBuilder", "inflateIfNeededFor", "(Ljava/lang/String;)V"⟩]
def lw_sbz : MethodName := ⟨"java/lang/AbstractStringBuilder", "isLatin1", "()Z"⟩
def lw_tbl : List Cond := (lw_sbs.map fun y => Cond.selects "java/lang/StringBuilder" y y) ++ lw_tb0
theorem lw_selP {y z : MethodName} {C : String} {s : State} {args : Array Value} {n : Nat} (hy : y.cls ≠ "java/lang/invoke/MethodHandle" ∧ y.cls ≠ "java/lang/invoke/VarHandle") (hzy : z.cls = y.cls) (hins : (Cond.instantiable C n).before args s = true) (hpriv : (Cond.privateMethod y).before args s = true) (hinst : (Cond.instanceMethod y).before args s = true) (hz : (Cond.selects C z z).before args s = true) : (Cond.selects C y y).before args s = true := by
  obtain ⟨c, k, hc, hk, -, -, -, -⟩ := Cond.instantiable_spec hins
  obtain ⟨mk, methM, hnamed, hmethM, -, -⟩ := Cond.instanceMethod_spec hinst
  have hfound : s.methodFound? y.cls y.name y.desc = some mk := State.methodFound?_of_named hnamed hy
  have hsel : selectMethod {} s.vm c mk = .method mk := selectMethod_private hmethM (Cond.privateMethod_at hpriv mk methM hnamed hmethM)
  obtain ⟨c2, r2, m2, -, -, q3, -, kP, hkP, hkPi⟩ := Cond.selects_spec hz
  have hcls : mk.cls = m2.cls := by
    have h1 := findClass_of_methodNamed hnamed
    have h2 := findClass_of_methodNamed q3
    rw [hzy] at h2
    exact Option.some.inj (h1.symm.trans h2)
  simp only [Cond.before, Cond.holds, Cond.value, hc, hfound, hnamed, hsel, hcls, hkP]
  simp; exact hkPi
theorem lw_sb_ok : Cond.instantiable "java/lang/StringBuilder" 4 ∈ tables_1 ∧ Cond.selects "java/lang/StringBuilder" lw_sbz lw_sbz ∈ tables_1 ∧ ∀ y ∈ lw_sbs, y.cls = lw_sbz.cls ∧ Cond.privateMethod y ∈ tables_1 ∧ Cond.instanceMethod y ∈ tables_1 := by decide +kernel
theorem lw_sb_hts {args : Array Value} {s : State} (hts : ∀ w ∈ lw_tb0, w.before args s = true) : ∀ w ∈ lw_tbl, w.before args s = true := by
  intro w hw
  rcases List.mem_append.mp hw with hw | hw
  · obtain ⟨y, hy, rfl⟩ := List.mem_map.mp hw
    have ht : ∀ w ∈ tables_1, w.before args s = true := fun w h => hts w (List.mem_append_right _ h)
    obtain ⟨h1, h2, h3⟩ := lw_sb_ok.2.2 y hy
    exact lw_selP (z := lw_sbz) (by rw [h1]; decide +kernel) h1.symm (ht _ lw_sb_ok.1) (ht _ h2) (ht _ h3) (ht _ lw_sb_ok.2.1)
  · exact hts w hw
theorem lw_privs_ok : ∀ q ∈ lw_privs, lw_okq q := by
  show ∀ q ∈ lw_privs_1 ++ (lw_privs_2), lw_okq q
  exact List.forall_mem_append.mpr ⟨lw_r1, lw_r2⟩
end
section
/-! rows that a program printed for this claim (NAMES.whole, its head), given for pasting; va_AOA is wanting there: said here as va_AO is -/
def va_AOA (ty : FieldType) (U : State) : Prop := (Cond.arrayOver (.array ty)).before #[] U = true
theorem va_AOA.use {ty : FieldType} {A : Array Value} {U : State} (h : va_AOA ty U) : (Cond.arrayOver (.array ty)).before A U = true := h
/-! ===== BEGIN words of one list among another's, by their places ===== -/
theorem goodIn_r {big : List Cond} (ws : List Cond) (ps : List Nat) (hp : ws = ps.filterMap (fun i => big[i]?)) (h : ws.all goodWord = true) : GoodIn big ws := by
  intro w hw
  have h1 := List.all_eq_true.mp h w hw
  rw [hp] at hw
  obtain ⟨i, -, hi⟩ := List.mem_filterMap.mp hw
  have hm : w ∈ big := by first | exact List.mem_of_getElem? hi | exact List.getElem?_mem hi
  exact ⟨hm, good_of_word h1⟩
theorem goodIn_app {big a b : List Cond} (ha : GoodIn big a) (hb : GoodIn big b) : GoodIn big (a ++ b) := fun w h => (List.mem_append.mp h).elim (ha w) (hb w)
theorem goodIn_ca {big a b : List Cond} {c : Cond} (ha : GoodIn big (c :: a)) (hb : GoodIn big b) : GoodIn big (c :: (a ++ b)) := fun w h => (List.mem_cons.mp h).elim (fun e => ha w (List.mem_cons.mpr (Or.inl e))) (fun h => (List.mem_append.mp h).elim (fun h => ha w (List.mem_cons.mpr (Or.inr h))) (hb w))
theorem goodIn_sub {big ws : List Cond} (hm : ∀ w ∈ ws, w ∈ big) (h : ws.all goodWord = true) : GoodIn big ws := fun w hw => ⟨hm w hw, good_of_word (List.all_eq_true.mp h w hw)⟩
/-! ===== END ===== -/

/-! ===== BEGIN new T[n][m]: the outer array a place, the inner ones among the pooled ===== -/
/-- f, but v at every address of l -/
def vr_up {α : Type} (f : Nat → α) (l : List Nat) (v : α) : Nat → α := fun a => if a ∈ l then v else f a
theorem vr_up_in {α : Type} {f : Nat → α} {l : List Nat} {v : α} {a : Nat} (h : a ∈ l) : vr_up f l v a = v := if_pos h
theorem vr_up_ne {α : Type} {f : Nat → α} {l : List Nat} {v : α} {a : Nat} (h : a ∉ l) : vr_up f l v a = f a := if_neg h
theorem vr_rows {L l : List Nat} {f : Nat → va_E} {e : va_E} (h : ∀ a, a ∈ l → a ∉ L) : va_pl L f ++ l.map (fun a => (a, e)) = va_pl (L ++ l) (vr_up f l e) := by
  unfold va_pl
  rw [List.map_append]
  congr 1
  · apply List.map_congr_left
    intro a ha
    rw [vr_up_ne (fun q => h a q ha)]
  · apply List.map_congr_left
    intro a ha
    rw [vr_up_in ha]
theorem vr_lay {X rows : va_W} {x : Nat × va_E} {pl : va_W} {D : va_G} {cl : List vw_C} {H : Heap} (hP : va_P D cl (((X ++ pl) ++ [x]) ++ rows) H) : va_P D cl ((X ++ [x]) ++ (pl ++ rows)) H := by
  rw [List.append_assoc (X ++ pl)] at hP
  have h := va_P.swap hP
  rw [← List.append_assoc X] at h
  have h2 := va_P.swap h
  rw [List.append_assoc (X ++ [x])] at h2
  exact h2
theorem vr_layD {X rows : va_W} {x : Nat × va_E} {pl : va_W} {A : Nat → Prop} (hD : va_D A (((X ++ pl) ++ [x]) ++ rows)) : va_D A ((X ++ [x]) ++ (pl ++ rows)) := by
  rw [List.append_assoc (X ++ pl)] at hD
  have h := va_D.swap hD
  rw [← List.append_assoc X] at h
  have h2 := va_D.swap h
  rw [List.append_assoc (X ++ [x])] at h2
  exact h2
theorem vr_outer (c : ClassId) (N h0 : Nat) : ∀ i : Nat, Jvm.Free.Multi.outerC c N h0 i = arrV c N (fun j => va_rf (if j < i then some (h0 + 1 + j) else none))
  | 0 => by
    show ({ cls := c, slots := Array.replicate N .null, vm := .none } : Cell) = _
    rw [arrV_new]
    refine congrArg (arrV c N) (funext fun j => ?_)
    simp [va_rf]
  | i + 1 => by
    show (Jvm.Free.Multi.outerC c N h0 i).setSlot i (.ref (h0 + 1 + i)) = _
    rw [vr_outer c N h0 i, arrV_store]
    refine congrArg (arrV c N) (funext fun j => ?_)
    by_cases e : j = i
    · subst e
      simp [updV, va_rf]
    · by_cases h : j < i
      · simp [updV, e, h, Nat.lt_succ_of_lt h]
      · simp [updV, e, h, show ¬ j < i + 1 by omega]
section VGM
variable {p : Program} {l : Launch} {e : Env} {R : Room} {s : State} {m : MethodId} {args : Array Value} {below : List Frame} {meth : Method} {c : Code} {H : Heap} {locs : List Loc} {cells slots : Nat} {Q : State → Prop}
variable {cc : ByteArray} {pc : Nat} {ls : Array Slot} {rest : List Value} {D : va_G} {cl : List vw_C} {A : Nat → Prop} {a : Nat} {tys : List (ClassId × FieldType)} {ws : va_W} {H0 : Heap}
theorem va_mna {X : va_W} {L : List Nat} {f : Nat → va_E} {cc : ByteArray} (hexec : p.tables.exec = Jvm.exec) (hb : c.code = cc) {own : String} {index : Nat} {ty : FieldType} {cy : ClassId} (hown : s.vm.findClass own = some m.cls) (hclink : (Cond.classLink own index ("[" ++ (FieldType.array ty).toString)).before args s = true) (hover : va_AOA ty s) (harr : (Cond.arrayClass ty).before args s = true) (hcy : s.vm.findClass (FieldType.array ty).toString = some cy)
    (hK : va_K D cl tys s) (hP : va_P D cl (X ++ va_pl L f) H) (hD : va_D A (X ++ va_pl L f)) (hS : va_S A H0 H locs) (hA : ∀ q, H0.size ≤ q → A q) {n k : Int32} {N' K' : Nat} {z : vp_A} (hn : ¬ n < 0) (hk : ¬ k < 0) (hN : n.toNatClampNeg = N') (hM : k.toNatClampNeg = K')
    (hb1 : N' * 4 ≤ 536870912) (hb2 : K' * componentBytes ty ≤ 536870912) (hb3 : K' ≤ 536870912) (hdf : fits ty (defaultValue ty) = true) (hdd : (defaultValue ty).isDefault = true) (hcells : cells + (1 + N') ≤ R.cells) (hslots : slots + (N' + N' * K') ≤ R.slots) (hz : ∀ c : ClassId, Jvm.Free.Multi.innerC c K' (defaultValue ty) = vp_cell c z) (hdg : decode cc pc = .ok (.multianewarray index 2, 4))
    (kk : ∀ (q : Nat) (r : Nat → Nat) (cA : ClassId) (H1 : Heap), (∀ i j : Nat, i < N' → j < N' → r i = r j → i = j) → (∀ i : Nat, i < N' → r i ∉ L) → va_K D cl (tys ++ [(cA, .array ty)]) s →
      va_P D cl ((X ++ [(q, .inl (cA, N', .inr (.inr (.inr (.inr (fun i => if i < N' then some (r i) else none))))))]) ++ va_pl (L ++ (List.range N').map r) (vr_up f ((List.range N').map r) (.inl (cy, z)))) H1 → va_D A ((X ++ [(q, .inl (cA, N', .inr (.inr (.inr (.inr (fun i => if i < N' then some (r i) else none))))))]) ++ va_pl (L ++ (List.range N').map r) (vr_up f ((List.range N').map r) (.inl (cy, z)))) → va_S A H0 H1 locs →
      W p l e R s m args below meth c H1 locs (cells + 1 + N') (slots + N' + N' * K') Q (F0 m (pc + 4) ls (.ref q :: rest))) : W p l e R s m args below meth c H locs cells slots Q (F0 m pc ls (.int k :: .int n :: rest)) := by
  subst hN
  subst hM
  intro T hT Xs
  obtain ⟨vm₁, cA, comp, -, fA, fC, hO, -, X', step⟩ := Xs.multianewarray2F hexec hown hclink (va_AOA.use hover) harr (g := F0 m pc ls (.int k :: .int n :: rest)) rfl (by rw [hb]; exact hdg) rfl hn hk hb1 hb2 hb3 hdf hdd hcells hslots
  have ec : some cy = some comp := hcy.symm.trans fC
  cases ec
  generalize hF : Jvm.Free.Multi.fill (T.setVm vm₁) cA cy n.toNatClampNeg k.toNatClampNeg (defaultValue ty) n.toNatClampNeg = F at X' step
  have hTh : (T.setVm vm₁).heap = H := hT
  obtain ⟨f1, f2, -, -⟩ := Jvm.Free.Multi.fill_facts (T.setVm vm₁) cA cy n.toNatClampNeg k.toNatClampNeg (defaultValue ty) n.toNatClampNeg
  rw [hF, hTh] at f1 f2
  have hold : ∀ x : Nat, x < H.size → F.heap[x]? = H[x]? := fun x hx => by
    have := Jvm.Free.Multi.fill_old (T.setVm vm₁) cA cy n.toNatClampNeg k.toNatClampNeg (defaultValue ty) (a := x) (by rw [hTh]; exact hx) n.toNatClampNeg
    rw [hF, hTh] at this
    exact this
  have hrow : ∀ j : Nat, j < n.toNatClampNeg → F.heap[H.size + 1 + j]? = some (vp_cell cy z) := fun j hj => by
    have := Jvm.Free.Multi.fill_inner (T.setVm vm₁) cA cy n.toNatClampNeg k.toNatClampNeg (defaultValue ty) n.toNatClampNeg j hj
    rw [hF, hTh, hz] at this
    exact this
  have hout : Jvm.Free.Multi.outerC cA n.toNatClampNeg H.size n.toNatClampNeg = vp_cell cA (n.toNatClampNeg, .inr (.inr (.inr (.inr (fun i => if i < n.toNatClampNeg then some (H.size + 1 + i) else none))))) := by
    rw [vp_cell_q]
    exact vr_outer cA n.toNatClampNeg H.size n.toNatClampNeg
  rw [hout] at f2
  have hlt : ∀ a, a ∈ L → a < H.size := fun a ha => by
    obtain ⟨k9, hk9⟩ := va_pl_get (X := X) (f := f) ha
    exact (hP k9 _ hk9).lt
  have hnl : ∀ i : Nat, i < n.toNatClampNeg → H.size + 1 + i ∉ L := fun i _ h => by
    have := hlt _ h
    omega
  have hnm : ∀ a, a ∈ (List.range n.toNatClampNeg).map (fun i => H.size + 1 + i) → a ∉ L := fun a ha h => by
    obtain ⟨i, -, rfl⟩ := List.mem_map.mp ha
    have := hlt _ h
    omega
  have hP0 : va_P D cl (X ++ va_pl L f) F.heap := hP.kept (fun k9 x hx => hold x.1 ((hP k9 x hx).lt))
  have hP1 : va_P D cl ((X ++ va_pl L f) ++ [(H.size, .inl (cA, n.toNatClampNeg, .inr (.inr (.inr (.inr (fun i => if i < n.toNatClampNeg then some (H.size + 1 + i) else none))))))]) F.heap := hP0.app (fun k9 x hx => by
    have h0 : k9 < 1 := (List.getElem?_eq_some_iff.mp hx).1
    rw [show k9 = 0 by omega] at hx
    cases hx
    exact f2)
  have hP2 : va_P D cl (((X ++ va_pl L f) ++ [(H.size, .inl (cA, n.toNatClampNeg, .inr (.inr (.inr (.inr (fun i => if i < n.toNatClampNeg then some (H.size + 1 + i) else none))))))]) ++ ((List.range n.toNatClampNeg).map (fun i => H.size + 1 + i)).map (fun a => (a, .inl (cy, z)))) F.heap := hP1.app (fun k9 x hx => by
    obtain ⟨a, ha, rfl⟩ := List.mem_map.mp (List.mem_of_getElem? hx)
    obtain ⟨i, hi, rfl⟩ := List.mem_map.mp ha
    exact hrow i (List.mem_range.mp hi))
  have hD2 : va_D A (((X ++ va_pl L f) ++ [(H.size, .inl (cA, n.toNatClampNeg, .inr (.inr (.inr (.inr (fun i => if i < n.toNatClampNeg then some (H.size + 1 + i) else none))))))]) ++ ((List.range n.toNatClampNeg).map (fun i => H.size + 1 + i)).map (fun a => (a, .inl (cy, z)))) := by
    have hD1 := hD.push (e := .inl (cA, n.toNatClampNeg, .inr (.inr (.inr (.inr (fun i => if i < n.toNatClampNeg then some (H.size + 1 + i) else none)))))) hP rfl (hA _ hS.1)
    generalize hW1 : (X ++ va_pl L f) ++ [(H.size, .inl (cA, n.toNatClampNeg, .inr (.inr (.inr (.inr (fun i => if i < n.toNatClampNeg then some (H.size + 1 + i) else none))))))] = W1 at hD1 hP1 ⊢
    have hle : ∀ (k9 : Nat) (x : Nat × va_E), W1[k9]? = some x → x.1 ≤ H.size := fun k9 x hx => by
      rw [← hW1] at hx
      by_cases hl : k9 < (X ++ va_pl L f).length
      · rw [List.getElem?_append_left hl] at hx
        exact Nat.le_of_lt ((hP k9 x hx).lt)
      · rw [List.getElem?_append_right (by omega)] at hx
        have h0 : k9 - (X ++ va_pl L f).length < 1 := (List.getElem?_eq_some_iff.mp hx).1
        rw [show k9 - (X ++ va_pl L f).length = 0 by omega] at hx
        cases hx
        exact Nat.le_refl _
    have hr : ∀ (k9 : Nat) (x : Nat × va_E), (((List.range n.toNatClampNeg).map (fun i => H.size + 1 + i)).map (fun a => ((a, .inl (cy, z)) : Nat × va_E)))[k9]? = some x → x.1 = H.size + 1 + k9 := fun k9 x hx => by
      rw [List.getElem?_map, List.getElem?_map] at hx
      by_cases h9 : k9 < n.toNatClampNeg
      · rw [List.getElem?_range h9] at hx
        cases hx
        rfl
      · have hn0 : (List.range n.toNatClampNeg)[k9]? = none := List.getElem?_eq_none (by rw [List.length_range]; omega)
        rw [hn0] at hx
        cases hx
    refine ⟨fun i j x y hi hj hxy => ?_, fun k9 x hx => ?_⟩
    · by_cases h1 : i < W1.length <;> by_cases h2 : j < W1.length
      · rw [List.getElem?_append_left h1] at hi
        rw [List.getElem?_append_left h2] at hj
        exact hD1.1 i j x y hi hj hxy
      · rw [List.getElem?_append_left h1] at hi
        rw [List.getElem?_append_right (by omega)] at hj
        have := hle _ _ hi
        have := hr _ _ hj
        omega
      · rw [List.getElem?_append_right (by omega)] at hi
        rw [List.getElem?_append_left h2] at hj
        have := hle _ _ hj
        have := hr _ _ hi
        omega
      · rw [List.getElem?_append_right (by omega)] at hi hj
        have := hr _ _ hi
        have := hr _ _ hj
        omega
    · by_cases h1 : k9 < W1.length
      · rw [List.getElem?_append_left h1] at hx
        exact hD1.2 k9 x hx
      · rw [List.getElem?_append_right (by omega)] at hx
        have := hr _ _ hx
        exact hA _ (by have := hS.1; omega)
  have hAr : ArrOfT s cA (.array ty) := fun N9 z9 => by
    obtain ⟨-, k9, hk9, cm9, hkk9⟩ := (hO 0 0 0).1
    exact ⟨(fun q hq => by cases hq), k9, hk9, cm9, hkk9⟩
  have hK2 : va_K D cl (tys ++ [(cA, .array ty)]) s := ⟨hK.1, fun k9 x hx => by
    by_cases hl : k9 < tys.length
    · rw [List.getElem?_append_left hl] at hx
      exact hK.2 k9 x hx
    · rw [List.getElem?_append_right (by omega)] at hx
      have h0 : k9 - tys.length < 1 := (List.getElem?_eq_some_iff.mp hx).1
      rw [show k9 - tys.length = 0 by omega] at hx
      cases hx
      exact ⟨hAr, fA⟩⟩
  obtain ⟨t, a1, b1⟩ := kk H.size (fun i => H.size + 1 + i) cA F.heap (fun i j _ _ h => by have h9 : H.size + 1 + i = H.size + 1 + j := h; omega) hnl hK2 (by rw [← vr_rows hnm]; exact vr_lay hP2) (by rw [← vr_rows hnm]; exact vr_layD hD2) ⟨by rw [f1]; have := hS.1; omega, fun x h1 h2 => (hold x (Nat.lt_of_lt_of_le h1 hS.1)).trans (hS.2.1 x h1 h2), hS.2.2⟩ F rfl X'
  refine ⟨t, step t ?_, b1⟩
  have e : T.heap.size = H.size := by rw [hT]
  rw [e]
  exact a1
end VGM
/-! ===== END ===== -/

/-! ===== BEGIN exceptions that leave a method, and their catching by the caller (launches without stack traces) ===== -/
section VXA
/-! The laws vx_back, vx_callV, vx_callS, vx_callSW, vx_throw0, vx_throwS follow proofs of the library, with one case more: JvmDerived/Free/Laws.lean (Back.of_free), Shelf42/LK1.lean (callV, callS), Shelf/KitTraced.lean (throwNew0V, throwNewS). -/
/-- where a method has thrown q: the class by its name, the cell, what was written, the world -/
def vx_T (XC : String → State → State → Prop) (st : State) (q : Addr) (t : State) (mc ms : Nat) (free : Addr → Prop) : Prop :=
  ∃ (E : String) (ce : Cell) (L : List Loc), XC E st t ∧ t.heap[q]? = some ce ∧ ce.vm = .none ∧ st.vm.findClass E = some ce.cls ∧ st.WarmedH t.vm ∧ st.sameButNew ({ t with vm := st.vm } : State) L mc ms ∧ ∀ z ∈ L, free z.base
def vx_Q (Qc : Array Value → State → Outcome → State → Prop) (XC : String → State → State → Prop) (mc ms : Nat) (free : Addr → Prop) : Array Value → State → Outcome → State → Prop := fun a st o t =>
  (Qc a st o t ∧ ∃ L, FrameEnd st o t L mc ms ∧ ∀ q ∈ L, free q.base) ∨ ∃ q, o = .threw q ∧ vx_T XC st q t mc ms free
/-- a callee that returns or throws -/
def vx_Met (l : Launch) (y : MethodName) (ws : List Cond) (rm : Room) (Pc : Array Value → State → Prop) (Qc : Array Value → State → Outcome → State → Prop) (XC : String → State → State → Prop) (mc ms : Nat) (free : Addr → Prop) : Prop :=
  MetFree l y (headSpec ws rm) Pc (fun _ _ _ _ _ => True) (vx_Q Qc XC mc ms free)
def vx_Post (XC : String → State → State → Prop) (mc ms : Nat) (free : Addr → Prop) : Pt → Array Value → Addr → Pt → Prop := fun A a q B =>
  ∃ (g : JFrame) (mk : MethodId) (t : State) (L : List Loc) (E : String) (ce : Cell), B.U.heap = t.heap ∧ B.U.vm = t.vm ∧ XC E (A.U.calling g mk a) t ∧ t.heap[q]? = some ce ∧ ce.vm = .none ∧ A.U.vm.findClass E = some ce.cls ∧ B.locs = A.locs ++ L ∧ (∀ z ∈ L, free z.base) ∧ B.cells = A.cells + mc ∧ B.slots = A.slots + ms
def vx_Back (l : Launch) (R : Room) (p : Program) (e : Env) (below : List Frame) (s : State) (sargs : Array Value) (y : MethodName) (len W9 : Nat)
    (Pre : Pt → Array Value → Prop) (Post : Pt → Array Value → Option Value → Pt → Prop) (PostX : Pt → Array Value → Addr → Pt → Prop) : Prop :=
  ∀ (m : MethodId) (meth : Method) (c : Code) (A : Pt) (g : JFrame) (ig : Instr) (mk : MethodId) (a : Array Value),
    Stand p l e R s m sargs below meth c A.U A.locs A.cells A.slots → g.method = m → g.locals.size = c.maxLocals → decode c.code g.pc = .ok (ig, len) →
    2 * g.monitorRoom + (g.stack.map fun v => v.category).sum ≤ W9 → A.U.methodNamed? y = some mk → Pre A a →
    (∃ (v : Option Value) (B : Pt), Stand p l e R s m sargs below meth c B.U B.locs B.cells B.slots ∧ Post A a v B ∧
      Steps p.tables e below (doInvoke e (A.U.setTop g) [] mk a).1 (B.U.setTop { g with pc := g.pc + len, stack := v.toList ++ g.stack })) ∨
    (∃ (q : Addr) (B : Pt), Stand p l e R s m sargs below meth c B.U B.locs B.cells B.slots ∧ PostX A a q B ∧
      Steps p.tables e below (doInvoke e (A.U.setTop g) [] mk a).1 ((B.U.setTop g).pushFrame (.throwing q)))
section Payer
variable {l : Launch} {R : Room} {p : Program} {e : Env} {below : List Frame} {s : State} {sargs : Array Value} {y : MethodName} {len W9 : Nat}
theorem vx_back {ws : List Cond} {rm : Room} {Pc : Array Value → State → Prop} {Qc : Array Value → State → Outcome → State → Prop} {XC : String → State → State → Prop} {mc ms : Nat} {free : Addr → Prop} {bytes : ByteArray} {maxL : Nat} {ret : Option FieldType}
    (hM : vx_Met l y ws rm Pc Qc XC mc ms free) (hblind : FrameBlind Pc) (hrc : rm.cells = mc) (hrs : rm.slots = ms)
    (hframes : rm.frames + 1 ≤ R.frames) (hlocals : W9 + (maxL + 11) + rm.locals ≤ R.locals)
    (hws : ∀ w ∈ ws, ∀ a' U, s.WarmedH U.vm → w.before a' U = true) (hcode : Cond.code y bytes maxL ret ∈ ws) (hinit : ∀ a' U, s.WarmedH U.vm → (Cond.initialized y.cls).before a' U = true) :
    vx_Back l R p e below s sargs y len W9 (PreOf R mc ms Pc) (PostOf Qc mc ms free) (vx_Post XC mc ms free) := by
  intro m meth c A g ig mk a X hg hsize hdg hW hn hp
  have h1 : (headSpec ws rm).pre.before a A.U = true := atoms_intro fun w hw => hws w hw _ _ X.warmed
  have h2 : (Cond.code y bytes maxL ret).before a A.U = true := hws _ hcode _ _ X.warmed
  have h3 : (Cond.initialized y.cls).before a A.U = true := hinit _ _ X.warmed
  have h4 : A.cells + (headSpec ws rm).room.cells ≤ R.cells := by rw [show (headSpec ws rm).room.cells = mc from hrc]; exact hp.1
  have h5 : A.slots + (headSpec ws rm).room.slots ≤ R.slots := by rw [show (headSpec ws rm).room.slots = ms from hrs]; exact hp.2.1
  have hPc : Pc a (A.U.calling g mk a) := hblind _ _ _ _ hp.2.2
  obtain ⟨U, Ls, c0, s0⟩ := A
  dsimp only [Pt.U, Pt.locs, Pt.cells, Pt.slots] at h1 h2 h3 h4 h5 X hn hPc ⊢
  obtain ⟨methY, cY, hmY, hcY, -, hlY, -, -, -, -⟩ := Cond.code_spec hn h2
  obtain ⟨kY, hkY, -⟩ := className_of_methodNamed hn
  have hinitY : kY.init = .initialized := Cond.initialized_spec (findClass_of_methodNamed hn) hkY h3
  have h : At U g.method c below := by rw [hg]; exact X.here
  have hlocals9 : W9 + (maxL + 11) + (headSpec ws rm).room.locals ≤ R.locals := hlocals
  have happ : (headSpec ws rm).appliesLoose y e.platform (U.calling g mk a) = true :=
    Spec.appliesLoose_calling (g := g) h hdg hn hkY hinitY
      (X.room_calling (g := g) (R' := (headSpec ws rm).room) hsize hmY hcY hframes (by rw [hlY]; omega) h4 h5) h1
  obtain ⟨mid, hmid⟩ := h.above
  have hfr : (U.setTop g).frames = (.java g :: mid) ++ below := by rw [State.frames_setTop' g h.top, hmid]; rfl
  obtain ⟨o, s₂, hsteps, -, hend, hq⟩ := Steps.callFree hM p X.admits X.cas X.clock (acts := []) hfr happ hPc trivial
  have hq' : vx_Q Qc XC mc ms free a (U.calling g mk a) o s₂ := hq
  rw [State.frames_setTop' g h.top] at hend
  obtain ⟨g₀, hg0⟩ := Option.isSome_iff_exists.mp h.top
  obtain ⟨r, hr⟩ := State.topJava?_eq_some.mp hg0
  have hr' : (({ U with heap := s₂.heap, slotsUsed := s₂.slotsUsed } : State).setVm s₂.vm).frames = .java g₀ :: r := hr
  rcases hq' with ⟨hqc, L, hfe, hL⟩ | ⟨q, rfl, E, ce, L, hx, hce, hcv, hcl, hW₂, hsm, hL⟩
  · obtain ⟨⟨v, rfl⟩, hW₂, e2, q2, q3, q4, q5, q6⟩ := id hfe
    have e3 : s₂ = ({ (U.calling g mk a).setFrames s₂.frames with heap := s₂.heap, slotsUsed := s₂.slotsUsed } : State).setVm s₂.vm := by
      have : s₂ = ({ s₂ with vm := (U.calling g mk a).vm } : State).setVm s₂.vm := rfl
      rw [e2] at this
      exact this
    obtain ⟨c₂, i₂, len₂, hc₂, hd₂, hf₂⟩ := hend
    have hW' : U.WarmedH s₂.vm := hW₂
    have hcc : c₂ = c := by
      have h1 : s₂.code? g.method = U.code? g.method := by
        rw [State.code?_eq, State.code?_eq, hW'.alike.method?]
      exact Option.some.inj (hc₂.symm.trans (h1.trans h.code))
    subst hcc
    have hlen : len₂ = len := by rw [hdg] at hd₂; cases hd₂; rfl
    subst hlen
    have hs₂ : s₂ = (({ U with heap := s₂.heap, slotsUsed := s₂.slotsUsed } : State).setVm s₂.vm).setTop { g with pc := g.pc + len₂, stack := v.toList ++ g.stack } := by
      refine e3.trans ?_
      rw [hf₂, State.calling_eq h.top, State.setFrames_setFrames, State.setTop_of_frames _ hr', hr]
      rfl
    have hsame : U.sameButNew ({ U with heap := s₂.heap, slotsUsed := s₂.slotsUsed } : State) L mc ms := by
      refine ⟨?_, q2, q3, q4, q5, q6⟩
      obtain ⟨t, ht, -⟩ := State.frames_cons hr
      show ({ U with heap := s₂.heap, slotsUsed := s₂.slotsUsed } : State) = { U.setFrames U.frames with heap := s₂.heap, slotsUsed := s₂.slotsUsed }
      rw [State.setFrames_self ht]
    subst hg
    refine Or.inl ⟨v, ⟨(({ U with heap := s₂.heap, slotsUsed := s₂.slotsUsed } : State).setVm s₂.vm), Ls ++ L, c0 + mc, s0 + ms⟩,
      ⟨X.admits, X.cas, X.clock, X.frames, X.room, X.hears, X.method, X.code, (X.here.setHeapUsed s₂.heap s₂.slotsUsed).setVm hW'.alike, X.tail, State.WarmedH.trans X.warmed hW', X.limits, X.bytes, X.same.trans (hsame.setVm s.vm)⟩,
      ⟨g, mk, s₂, L, rfl, rfl, hqc, rfl, hL, rfl, rfl⟩, ?_⟩
    show Steps p.tables e below _ ((({ U with heap := s₂.heap, slotsUsed := s₂.slotsUsed } : State).setVm s₂.vm).setTop { g with pc := g.pc + len₂, stack := v.toList ++ g.stack })
    rw [← hs₂]
    exact hsteps
  · obtain ⟨e2, q2, q3, q4, q5, q6⟩ := id hsm
    have e3 : s₂ = ({ (U.calling g mk a).setFrames s₂.frames with heap := s₂.heap, slotsUsed := s₂.slotsUsed } : State).setVm s₂.vm := by
      have : s₂ = ({ s₂ with vm := (U.calling g mk a).vm } : State).setVm s₂.vm := rfl
      rw [e2] at this
      exact this
    have hf₂ : s₂.frames = .throwing q :: .java g :: U.frames.tail := hend
    have hW' : U.WarmedH s₂.vm := hW₂
    have hs₂ : s₂ = ((({ U with heap := s₂.heap, slotsUsed := s₂.slotsUsed } : State).setVm s₂.vm).setTop g).pushFrame (.throwing q) := by
      refine e3.trans ?_
      rw [hf₂, State.calling_eq h.top, State.setFrames_setFrames, State.pushFrame, State.frames_setTop _ hr', State.setTop_of_frames _ hr', State.setFrames_setFrames, hr]
      rfl
    have hsame : U.sameButNew ({ U with heap := s₂.heap, slotsUsed := s₂.slotsUsed } : State) L mc ms := by
      refine ⟨?_, q2, q3, q4, q5, q6⟩
      obtain ⟨t, ht, -⟩ := State.frames_cons hr
      show ({ U with heap := s₂.heap, slotsUsed := s₂.slotsUsed } : State) = { U.setFrames U.frames with heap := s₂.heap, slotsUsed := s₂.slotsUsed }
      rw [State.setFrames_self ht]
    subst hg
    refine Or.inr ⟨q, ⟨(({ U with heap := s₂.heap, slotsUsed := s₂.slotsUsed } : State).setVm s₂.vm), Ls ++ L, c0 + mc, s0 + ms⟩,
      ⟨X.admits, X.cas, X.clock, X.frames, X.room, X.hears, X.method, X.code, (X.here.setHeapUsed s₂.heap s₂.slotsUsed).setVm hW'.alike, X.tail, State.WarmedH.trans X.warmed hW', X.limits, X.bytes, X.same.trans (hsame.setVm s.vm)⟩,
      ⟨g, mk, s₂, L, E, ce, rfl, rfl, hx, hce, hcv, hcl, rfl, hL, rfl, rfl⟩, ?_⟩
    show Steps p.tables e below _ (((({ U with heap := s₂.heap, slotsUsed := s₂.slotsUsed } : State).setVm s₂.vm).setTop g).pushFrame (.throwing q))
    rw [← hs₂]
    exact hsteps
end Payer
section Calls
variable {p : Program} {l : Launch} {e : Env} {R : Room} {s : State} {m : MethodId} {args : Array Value} {below : List Frame} {meth : Method} {c : Code} {T : State} {locs : List Loc} {cells slots : Nat}
theorem vx_callV (X : Stand p l e R s m args below meth c T locs cells slots) (hexec : p.tables.exec = Jvm.exec) {own C : String} {index : Nat} {y : MethodName} {bytes : ByteArray} {maxL : Nat} {ret : Option FieldType}
    (hown : s.vm.findClass own = some m.cls) (hlink : (Cond.methodLink own index y).before args s = true) (hinst : (Cond.instanceMethod y).before args s = true) (hsel : (Cond.selects C y y).before args s = true)
    (hcode : (Cond.code y bytes maxL ret).before args s = true) (hy : y.cls ≠ "java/lang/invoke/MethodHandle" ∧ y.cls ≠ "java/lang/invoke/VarHandle")
    {W9 : Nat} {Pre : Pt → Array Value → Prop} {Post : Pt → Array Value → Option Value → Pt → Prop} {PostX : Pt → Array Value → Addr → Pt → Prop} (hK : vx_Back l R p e below s args y 3 W9 Pre Post PostX)
    {b : Addr} {cellB : Cell} (hcell : T.heap[b]? = some cellB) (hobj : cellB.vm.isStatics = false) (hcls : s.vm.findClass C = some cellB.cls)
    {g : JFrame} (hg : g.method = m) (hsize : g.locals.size = c.maxLocals) {argsL rest : List Value} (hlen : ∀ sig, parseMethodDescriptor y.desc = some sig → argsL.length = sig.parameters.length)
    (hstack : g.stack = argsL.reverse ++ .ref b :: rest) (hW : 2 * g.monitorRoom + (rest.map fun v => v.category).sum ≤ W9) (hdg : decode c.code g.pc = .ok (.invokevirtual index, 3))
    (hpre : ∀ vm₁, s.WarmedH vm₁ → Pre ⟨T.setVm vm₁, locs, cells, slots⟩ (Value.ref b :: argsL).toArray) :
    (∃ (v : Option Value) (vm₁ : Vm) (B : Pt), s.WarmedH vm₁ ∧ Stand p l e R s m args below meth c B.U B.locs B.cells B.slots ∧ Post ⟨T.setVm vm₁, locs, cells, slots⟩ (Value.ref b :: argsL).toArray v B ∧
      ∀ target, Steps p.tables e below (B.U.setTop { g with pc := g.pc + 3, stack := v.toList ++ rest }) target → Steps p.tables e below (T.setTop g) target) ∨
    (∃ (q : Addr) (vm₁ : Vm) (B : Pt), s.WarmedH vm₁ ∧ Stand p l e R s m args below meth c B.U B.locs B.cells B.slots ∧ PostX ⟨T.setVm vm₁, locs, cells, slots⟩ (Value.ref b :: argsL).toArray q B ∧
      Steps p.tables e below (T.setTop g) ((B.U.setTop { g with stack := rest }).pushFrame (.throwing q))) := by
  obtain ⟨mk, methM, hnamed, hmethM, hstM, habM⟩ := Cond.instanceMethod_spec hinst
  obtain ⟨methM', cM, hmethM', -, -, -, -, -, -, hsigM⟩ := Cond.code_spec hnamed hcode
  cases hmethM.symm.trans hmethM'
  obtain ⟨c2, r2, m2, q1, q2, q3, q4, kP, hkP, hkPi⟩ := Cond.selects_spec hsel
  cases hcls.symm.trans q1
  cases (State.methodFound?_of_named hnamed hy).symm.trans q2
  cases hnamed.symm.trans q3
  have hselP : selectMethod e.platform s.vm cellB.cls mk = .method mk := by rw [Launch.admits_selectMethod X.admits]; exact q4
  obtain ⟨vm₁, X₁, hstep₁⟩ := X.invokevirtual hexec hown hlink hnamed hmethM hstM hkP hkPi hy (a := b) (cell := cellB) hcell
    (fun z h => by rw [h] at hobj; cases hobj) hselP hmethM habM hkP hkPi (g := g) hg (argsL := argsL) (rest := rest) (hlen _ hsigM) hstack hdg
  rcases hK m meth c ⟨T.setVm vm₁, locs, cells, slots⟩ { g with stack := rest } (.invokevirtual index) mk (Value.ref b :: argsL).toArray X₁ hg hsize hdg hW (X₁.named hnamed) (hpre vm₁ X₁.warmed) with ⟨v, B, X', hpost, hsteps⟩ | ⟨q, B, X', hpost, hsteps⟩
  · exact Or.inl ⟨v, vm₁, B, X₁.warmed, X', hpost, fun target h => hstep₁ _ fun acts => by rw [doInvoke_state]; exact hsteps.trans h⟩
  · exact Or.inr ⟨q, vm₁, B, X₁.warmed, X', hpost, hstep₁ _ fun acts => by rw [doInvoke_state]; exact hsteps⟩
theorem vx_callS (X : Stand p l e R s m args below meth c T locs cells slots) (hexec : p.tables.exec = Jvm.exec) {own : String} {index : Nat} {y : MethodName} {bytes : ByteArray} {maxL : Nat} {ret : Option FieldType}
    (hown : s.vm.findClass own = some m.cls) (hlink : (Cond.methodLink own index y).before args s = true) (hstat : (Cond.static y).before args s = true) (hinit : (Cond.initialized y.cls).before args s = true)
    (hcode : (Cond.code y bytes maxL ret).before args s = true) (hy : y.cls ≠ "java/lang/invoke/MethodHandle" ∧ y.cls ≠ "java/lang/invoke/VarHandle")
    {W9 : Nat} {Pre : Pt → Array Value → Prop} {Post : Pt → Array Value → Option Value → Pt → Prop} {PostX : Pt → Array Value → Addr → Pt → Prop} (hK : vx_Back l R p e below s args y 3 W9 Pre Post PostX)
    {g : JFrame} (hg : g.method = m) (hsize : g.locals.size = c.maxLocals) {argsL rest : List Value} (hlen : ∀ sig, parseMethodDescriptor y.desc = some sig → argsL.length = sig.parameters.length)
    (hstack : g.stack = argsL.reverse ++ rest) (hW : 2 * g.monitorRoom + (rest.map fun v => v.category).sum ≤ W9) (hdg : decode c.code g.pc = .ok (.invokestatic index, 3))
    (hpre : ∀ vm₁, s.WarmedH vm₁ → Pre ⟨T.setVm vm₁, locs, cells, slots⟩ argsL.toArray) :
    (∃ (v : Option Value) (vm₁ : Vm) (B : Pt), s.WarmedH vm₁ ∧ Stand p l e R s m args below meth c B.U B.locs B.cells B.slots ∧ Post ⟨T.setVm vm₁, locs, cells, slots⟩ argsL.toArray v B ∧
      ∀ target, Steps p.tables e below (B.U.setTop { g with pc := g.pc + 3, stack := v.toList ++ rest }) target → Steps p.tables e below (T.setTop g) target) ∨
    (∃ (q : Addr) (vm₁ : Vm) (B : Pt), s.WarmedH vm₁ ∧ Stand p l e R s m args below meth c B.U B.locs B.cells B.slots ∧ PostX ⟨T.setVm vm₁, locs, cells, slots⟩ argsL.toArray q B ∧
      Steps p.tables e below (T.setTop g) ((B.U.setTop { g with stack := rest }).pushFrame (.throwing q))) := by
  obtain ⟨mk, hnamed⟩ := Cond.code_named hcode
  obtain ⟨methM, cM, hmethM, -, -, -, -, -, -, hsigM⟩ := Cond.code_spec hnamed hcode
  have hstatic : methM.isStatic = true := Cond.static_spec hnamed hmethM hstat
  obtain ⟨kP, hkP, -⟩ := className_of_methodNamed hnamed
  have hinitP : kP.init = .initialized := Cond.initialized_spec (findClass_of_methodNamed hnamed) hkP hinit
  obtain ⟨vm₁, X₁, hstep₁⟩ := X.invokestatic hexec hown hlink hnamed hmethM hstatic hkP hinitP hy (g := g) hg (argsL := argsL) (rest := rest) (hlen _ hsigM) hstack hdg
  rcases hK m meth c ⟨T.setVm vm₁, locs, cells, slots⟩ { g with stack := rest } (.invokestatic index) mk argsL.toArray X₁ hg hsize hdg hW (X₁.named hnamed) (hpre vm₁ X₁.warmed) with ⟨v, B, X', hpost, hsteps⟩ | ⟨q, B, X', hpost, hsteps⟩
  · exact Or.inl ⟨v, vm₁, B, X₁.warmed, X', hpost, fun target h => hstep₁ _ fun acts => by rw [doInvoke_state]; exact hsteps.trans h⟩
  · exact Or.inr ⟨q, vm₁, B, X₁.warmed, X', hpost, hstep₁ _ fun acts => by rw [doInvoke_state]; exact hsteps⟩
end Calls
theorem vx_cls {s : State} {T : State} {vm₁ : Vm} {E : String} {k : ClassId} (hW : s.WarmedH vm₁) (h : (T.setVm vm₁).vm.findClass E = some k) : s.vm.findClass E = some k := by
  have h1 : vm₁.findClass E = some k := h
  rw [hW.alike.findClass] at h1
  exact h1
/-- the method's frame g, with q thrown over it -/
def vx_W (p : Program) (l : Launch) (e : Env) (R : Room) (s : State) (m : MethodId) (args : Array Value) (below : List Frame) (meth : Method) (c : Code) (H : Heap) (locs : List Loc) (cells slots : Nat) (Q : State → Prop) (g : JFrame) (q : Addr) : Prop :=
  ∀ T : State, T.heap = H → Stand p l e R s m args below meth c T locs cells slots → ∃ t, Steps p.tables e below ((T.setTop g).pushFrame (.throwing q)) t ∧ Q t
def vx_Run (p : Program) (l : Launch) (e : Env) (R : Room) (s : State) (m : MethodId) (args : Array Value) (below : List Frame) (meth : Method) (c : Code) (H : Heap) (locs : List Loc) (cells slots mc ms : Nat) (g : JFrame) (rest : List Value) (Qa : State → Outcome → State → Prop) (XC : String → State → State → Prop) (free : Addr → Prop) : Prop :=
  ∀ T : State, T.heap = H → Stand p l e R s m args below meth c T locs cells slots →
    (∃ (v : Option Value) (st₀ t T' : State) (L : List Loc), st₀.heap = H ∧ Stand p l e R s m args below meth c T' (locs ++ L) (cells + mc) (slots + ms) ∧ (∀ q ∈ L, free q.base) ∧ T'.heap = t.heap ∧ T'.vm = t.vm ∧ Qa st₀ (.returned v) t ∧
      Goes p e below T g T' { g with pc := g.pc + 3, stack := v.toList ++ rest }) ∨
    (∃ (q : Addr) (st₀ t T' : State) (L : List Loc) (E : String) (ce : Cell), st₀.heap = H ∧ Stand p l e R s m args below meth c T' (locs ++ L) (cells + mc) (slots + ms) ∧ (∀ z ∈ L, free z.base) ∧ T'.heap = t.heap ∧ T'.vm = t.vm ∧ XC E st₀ t ∧ t.heap[q]? = some ce ∧ ce.vm = .none ∧ s.vm.findClass E = some ce.cls ∧
      Steps p.tables e below (T.setTop g) ((T'.setTop { g with stack := rest }).pushFrame (.throwing q)))
def vx_X {S : Type} (px : S → Prop) (B : String → S → State → Prop) (A : Nat → Prop) : String → State → State → Prop := fun E st t => ∃ u : S, px u ∧ B E u t ∧ va_F A st t
section Runs
variable {p : Program} {l : Launch} {e : Env} {R : Room} {s : State} {m : MethodId} {args : Array Value} {below : List Frame} {meth : Method} {c : Code} {H : Heap} {locs : List Loc} {cells slots : Nat}
variable {y : MethodName} {bytes cc : ByteArray} {maxL nL mc ms n index : Nat} {ret : Option FieldType} {ws : List Cond} {rm : Room} {Pc : Array Value → State → Prop} {Qc : Array Value → State → Outcome → State → Prop} {XC : String → State → State → Prop} {free : Addr → Prop} {Ts : List Cond} {own C : String} {b : Addr} {As rest : List Value} {g : JFrame}
theorem vx_callBack (cb : CallB R s args own index y bytes maxL ret ws rm mc ms n) (hM : vx_Met l y ws rm Pc Qc XC mc ms free) (hbl : FrameBlind Pc) : vx_Back l R p e below s args y 3 8 (PreOf R mc ms Pc) (PostOf Qc mc ms free) (vx_Post XC mc ms free) := by
  obtain ⟨hrc, hrs, hfr, hlo, hws, hcw, -, hini, -⟩ := cb
  exact vx_back (bytes := bytes) (maxL := maxL) (ret := ret) hM hbl hrc hrs hfr hlo hws hcw (fun a' U hW => word_at hW (Or.inl (by first | rfl | simp [Cond.onTables, Cond.keeps, Cond.steady])) hini)
theorem vx_runV (S : CallFix p m c cc nL s args Ts own) (hM : vx_Met l y ws rm Pc Qc XC mc ms free) (cw : CallW R s args own C index y bytes maxL ret ws rm mc ms n) (hp : PreV s H C b Pc As)
    (hg : g.method = m) (hn : As.length = n) (hsize : g.locals.size = nL) (hstack : g.stack = As.reverse ++ .ref b :: rest) (hW : 2 * g.monitorRoom + (rest.map fun v => v.category).sum ≤ 8) (hdg : decode cc g.pc = .ok (.invokevirtual index, 3)) (hf : cells + mc ≤ R.cells ∧ slots + ms ≤ R.slots) :
    vx_Run p l e R s m args below meth c H locs cells slots mc ms g rest (Qc (Value.ref b :: As).toArray) XC free := by
  have hK : vx_Back l R p e below s args y 3 8 (PreOf R mc ms Pc) (PostOf Qc mc ms free) (vx_Post XC mc ms free) := vx_callBack cw.1 hM hp.1
  obtain ⟨⟨-, -, -, -, -, -, hcode, -, hy, hlen, hl⟩, hin, hse⟩ := cw
  obtain ⟨hx, hb, hml, ho, -⟩ := S
  obtain ⟨-, ⟨cellB, hcB, hoB, hclB⟩, hPc⟩ := hp
  intro T hT X
  rcases vx_callV X hx (C := C) (bytes := bytes) (maxL := maxL) (ret := ret) ho hl hin hse hcode hy hK (by rw [hT]; exact hcB) hoB hclB hg (hsize.trans hml.symm) (argsL := As) (rest := rest) (fun sig h => hn.trans (hlen sig h)) hstack hW (by rw [hb]; exact hdg)
    (fun vm₁ hW₁ => ⟨hf.1, hf.2, hPc (T.setVm vm₁) hT hW₁⟩) with ⟨v, vm₁, ⟨U', l2, c2, s2⟩, hW₁, X', ⟨g', mk, t, L, e1, e2, hq, h1, hL, h2, h3⟩, st⟩ | ⟨q, vm₁, ⟨U', l2, c2, s2⟩, hW₁, X', ⟨g', mk, t, L, E, ce, e1, e2, hq, hce, hcv, hcl, h1, hL, h2, h3⟩, st⟩
  · dsimp only [Pt.U, Pt.locs, Pt.cells, Pt.slots] at X' e1 e2 h1 h2 h3 st
    subst h1; subst h2; subst h3
    exact Or.inl ⟨v, (T.setVm vm₁).calling g' mk (Value.ref b :: As).toArray, t, U', L, hT, X', hL, e1, e2, hq, st⟩
  · dsimp only [Pt.U, Pt.locs, Pt.cells, Pt.slots] at X' e1 e2 h1 h2 h3 st hcl
    subst h1; subst h2; subst h3
    exact Or.inr ⟨q, (T.setVm vm₁).calling g' mk (Value.ref b :: As).toArray, t, U', L, E, ce, hT, X', hL, e1, e2, hq, hce, hcv, vx_cls hW₁ hcl, st⟩
theorem vx_runS (S : CallFix p m c cc nL s args Ts own) (hM : vx_Met l y ws rm Pc Qc XC mc ms free) (cw : CallB R s args own index y bytes maxL ret ws rm mc ms n ∧ (Cond.static y).before args s = true) (hp : PreS s H Pc As)
    (hg : g.method = m) (hn : As.length = n) (hsize : g.locals.size = nL) (hstack : g.stack = As.reverse ++ rest) (hW : 2 * g.monitorRoom + (rest.map fun v => v.category).sum ≤ 8) (hdg : decode cc g.pc = .ok (.invokestatic index, 3)) (hf : cells + mc ≤ R.cells ∧ slots + ms ≤ R.slots) :
    vx_Run p l e R s m args below meth c H locs cells slots mc ms g rest (Qc As.toArray) XC free := by
  have hK : vx_Back l R p e below s args y 3 8 (PreOf R mc ms Pc) (PostOf Qc mc ms free) (vx_Post XC mc ms free) := vx_callBack cw.1 hM hp.1
  obtain ⟨⟨-, -, -, -, -, -, hcode, hini, hy, hlen, hl⟩, hstt⟩ := cw
  obtain ⟨hx, hb, hml, ho, -⟩ := S
  intro T hT X
  rcases vx_callS X hx (bytes := bytes) (maxL := maxL) (ret := ret) ho hl hstt hini hcode hy hK hg (hsize.trans hml.symm) (argsL := As) (rest := rest) (fun sig h => hn.trans (hlen sig h)) hstack hW (by rw [hb]; exact hdg)
    (fun vm₁ hW₁ => ⟨hf.1, hf.2, hp.2 (T.setVm vm₁) hT hW₁⟩) with ⟨v, vm₁, ⟨U', l2, c2, s2⟩, hW₁, X', ⟨g', mk, t, L, e1, e2, hq, h1, hL, h2, h3⟩, st⟩ | ⟨q, vm₁, ⟨U', l2, c2, s2⟩, hW₁, X', ⟨g', mk, t, L, E, ce, e1, e2, hq, hce, hcv, hcl, h1, hL, h2, h3⟩, st⟩
  · dsimp only [Pt.U, Pt.locs, Pt.cells, Pt.slots] at X' e1 e2 h1 h2 h3 st
    subst h1; subst h2; subst h3
    exact Or.inl ⟨v, (T.setVm vm₁).calling g' mk As.toArray, t, U', L, hT, X', hL, e1, e2, hq, st⟩
  · dsimp only [Pt.U, Pt.locs, Pt.cells, Pt.slots] at X' e1 e2 h1 h2 h3 st hcl
    subst h1; subst h2; subst h3
    exact Or.inr ⟨q, (T.setVm vm₁).calling g' mk As.toArray, t, U', L, E, ce, hT, X', hL, e1, e2, hq, hce, hcv, vx_cls hW₁ hcl, st⟩
end Runs
section Rows
variable {p : Program} {l : Launch} {e : Env} {R : Room} {s : State} {m : MethodId} {args : Array Value} {below : List Frame} {meth : Method} {c : Code} {H : Heap} {locs : List Loc} {cells slots : Nat} {Q : State → Prop}
variable {mc ms : Nat} {free : Addr → Prop} {A0 A1 : Nat → Prop} {H0 : Heap} {a : Array Value} {pc : Nat} {ls : Array Slot} {st0 rest : List Value}
theorem vx_keep {st₀ t T' : State} {L : List Loc} (h0 : st₀.heap = H) (e1 : T'.heap = t.heap) (hS : va_S A0 H0 H locs) (hA : ∀ q, q < H.size → A1 q → A0 q) (hf : ∀ q, free q → A0 q) (hL : ∀ q ∈ L, free q.base) (hF : va_F A1 st₀ t) :
    H.size ≤ T'.heap.size ∧ (∀ q : Nat, q < H.size → ¬ A1 q → T'.heap[q]? = H[q]?) ∧ va_S A0 H0 T'.heap (locs ++ L) := by
  obtain ⟨hz, hk⟩ := hF
  rw [h0] at hz hk
  exact ⟨by rw [e1]; exact hz, fun q h1 h2 => by rw [e1]; exact hk q h1 h2,
    ⟨Nat.le_trans hS.1 (by rw [e1]; exact hz), fun q h1 h2 => by rw [e1, hk q (Nat.lt_of_lt_of_le h1 hS.1) (fun z => h2 (hA q (Nat.lt_of_lt_of_le h1 hS.1) z))]; exact hS.2.1 q h1 h2, fun q hq => by
      rcases List.mem_append.mp hq with h | h
      · exact hS.2.2 q h
      · exact hf _ (hL q h)⟩⟩
theorem vx_calli {S SX : Type} {post : Int32 → S → Prop} {px : SX → Prop} {B : S → State → Prop} {BX : String → SX → State → Prop} {AX : Nat → Prop} (hr : vx_Run p l e R s m args below meth c H locs cells slots mc ms (F0 m pc ls st0) rest (va_Qi post B A1 a) (vx_X px BX AX) free) (hS : va_S A0 H0 H locs) (hA : ∀ q, q < H.size → A1 q → A0 q) (hf : ∀ q, free q → A0 q) (hAX : ∀ q, q < H.size → AX q → A0 q)
    (kx : ∀ (E : String) (ce : Cell) (q9 : Addr) (u : SX) (t : State) (H1 : Heap) (locs1 : List Loc), t.heap = H1 → s.vm.Alike t.vm → px u → BX E u t → H.size ≤ H1.size → (∀ q : Nat, q < H.size → ¬ AX q → H1[q]? = H[q]?) → va_S A0 H0 H1 locs1 → H1[q9]? = some ce → ce.vm = .none → s.vm.findClass E = some ce.cls → vx_W p l e R s m args below meth c H1 locs1 (cells + mc) (slots + ms) Q (F0 m pc ls rest) q9)
    (kk : ∀ (r : Int32) (u : S) (t : State) (H1 : Heap) (locs1 : List Loc), t.heap = H1 → s.vm.Alike t.vm → post r u → B u t → H.size ≤ H1.size → (∀ q : Nat, q < H.size → ¬ A1 q → H1[q]? = H[q]?) → va_S A0 H0 H1 locs1 → W p l e R s m args below meth c H1 locs1 (cells + mc) (slots + ms) Q (F0 m (pc + 3) ls (.int r :: rest))) : W p l e R s m args below meth c H locs cells slots Q (F0 m pc ls st0) := by
  intro T hT X
  rcases hr T hT X with ⟨v, st₀, t, T', L, h0, X', hL, e1, e2, ⟨⟨r, u, hv, hp, hb⟩, hF⟩, st⟩ | ⟨q, st₀, t, T', L, E, ce, h0, X', hL, e1, e2, ⟨u, hp, hb, hF⟩, hce, hcv, hcl, st⟩
  · cases hv
    obtain ⟨k1, k2, k3⟩ := vx_keep h0 e1 hS hA hf hL hF
    obtain ⟨t2, a1, b1⟩ := kk r u t T'.heap (locs ++ L) e1.symm (by rw [← e2]; exact X'.warmed.alike) hp hb k1 k2 k3 T' rfl X'
    exact ⟨t2, st t2 a1, b1⟩
  · obtain ⟨k1, k2, k3⟩ := vx_keep h0 e1 hS hAX hf hL hF
    obtain ⟨t2, a1, b1⟩ := kx E ce q u t T'.heap (locs ++ L) e1.symm (by rw [← e2]; exact X'.warmed.alike) hp hb k1 k2 k3 (by rw [e1]; exact hce) hcv hcl T' rfl X'
    exact ⟨t2, st.trans a1, b1⟩
theorem vx_calll {S SX : Type} {post : Int64 → S → Prop} {px : SX → Prop} {B : S → State → Prop} {BX : String → SX → State → Prop} {AX : Nat → Prop} (hr : vx_Run p l e R s m args below meth c H locs cells slots mc ms (F0 m pc ls st0) rest (va_Ql post B A1 a) (vx_X px BX AX) free) (hS : va_S A0 H0 H locs) (hA : ∀ q, q < H.size → A1 q → A0 q) (hf : ∀ q, free q → A0 q) (hAX : ∀ q, q < H.size → AX q → A0 q)
    (kx : ∀ (E : String) (ce : Cell) (q9 : Addr) (u : SX) (t : State) (H1 : Heap) (locs1 : List Loc), t.heap = H1 → s.vm.Alike t.vm → px u → BX E u t → H.size ≤ H1.size → (∀ q : Nat, q < H.size → ¬ AX q → H1[q]? = H[q]?) → va_S A0 H0 H1 locs1 → H1[q9]? = some ce → ce.vm = .none → s.vm.findClass E = some ce.cls → vx_W p l e R s m args below meth c H1 locs1 (cells + mc) (slots + ms) Q (F0 m pc ls rest) q9)
    (kk : ∀ (r : Int64) (u : S) (t : State) (H1 : Heap) (locs1 : List Loc), t.heap = H1 → s.vm.Alike t.vm → post r u → B u t → H.size ≤ H1.size → (∀ q : Nat, q < H.size → ¬ A1 q → H1[q]? = H[q]?) → va_S A0 H0 H1 locs1 → W p l e R s m args below meth c H1 locs1 (cells + mc) (slots + ms) Q (F0 m (pc + 3) ls (.long r :: rest))) : W p l e R s m args below meth c H locs cells slots Q (F0 m pc ls st0) := by
  intro T hT X
  rcases hr T hT X with ⟨v, st₀, t, T', L, h0, X', hL, e1, e2, ⟨⟨r, u, hv, hp, hb⟩, hF⟩, st⟩ | ⟨q, st₀, t, T', L, E, ce, h0, X', hL, e1, e2, ⟨u, hp, hb, hF⟩, hce, hcv, hcl, st⟩
  · cases hv
    obtain ⟨k1, k2, k3⟩ := vx_keep h0 e1 hS hA hf hL hF
    obtain ⟨t2, a1, b1⟩ := kk r u t T'.heap (locs ++ L) e1.symm (by rw [← e2]; exact X'.warmed.alike) hp hb k1 k2 k3 T' rfl X'
    exact ⟨t2, st t2 a1, b1⟩
  · obtain ⟨k1, k2, k3⟩ := vx_keep h0 e1 hS hAX hf hL hF
    obtain ⟨t2, a1, b1⟩ := kx E ce q u t T'.heap (locs ++ L) e1.symm (by rw [← e2]; exact X'.warmed.alike) hp hb k1 k2 k3 (by rw [e1]; exact hce) hcv hcl T' rfl X'
    exact ⟨t2, st.trans a1, b1⟩
theorem vx_callf {S SX : Type} {post : UInt32 → S → Prop} {px : SX → Prop} {B : S → State → Prop} {BX : String → SX → State → Prop} {AX : Nat → Prop} (hr : vx_Run p l e R s m args below meth c H locs cells slots mc ms (F0 m pc ls st0) rest (va_Qf post B A1 a) (vx_X px BX AX) free) (hS : va_S A0 H0 H locs) (hA : ∀ q, q < H.size → A1 q → A0 q) (hf : ∀ q, free q → A0 q) (hAX : ∀ q, q < H.size → AX q → A0 q)
    (kx : ∀ (E : String) (ce : Cell) (q9 : Addr) (u : SX) (t : State) (H1 : Heap) (locs1 : List Loc), t.heap = H1 → s.vm.Alike t.vm → px u → BX E u t → H.size ≤ H1.size → (∀ q : Nat, q < H.size → ¬ AX q → H1[q]? = H[q]?) → va_S A0 H0 H1 locs1 → H1[q9]? = some ce → ce.vm = .none → s.vm.findClass E = some ce.cls → vx_W p l e R s m args below meth c H1 locs1 (cells + mc) (slots + ms) Q (F0 m pc ls rest) q9)
    (kk : ∀ (r : UInt32) (u : S) (t : State) (H1 : Heap) (locs1 : List Loc), t.heap = H1 → s.vm.Alike t.vm → post r u → B u t → H.size ≤ H1.size → (∀ q : Nat, q < H.size → ¬ A1 q → H1[q]? = H[q]?) → va_S A0 H0 H1 locs1 → W p l e R s m args below meth c H1 locs1 (cells + mc) (slots + ms) Q (F0 m (pc + 3) ls (.float r :: rest))) : W p l e R s m args below meth c H locs cells slots Q (F0 m pc ls st0) := by
  intro T hT X
  rcases hr T hT X with ⟨v, st₀, t, T', L, h0, X', hL, e1, e2, ⟨⟨r, u, hv, hp, hb⟩, hF⟩, st⟩ | ⟨q, st₀, t, T', L, E, ce, h0, X', hL, e1, e2, ⟨u, hp, hb, hF⟩, hce, hcv, hcl, st⟩
  · cases hv
    obtain ⟨k1, k2, k3⟩ := vx_keep h0 e1 hS hA hf hL hF
    obtain ⟨t2, a1, b1⟩ := kk r u t T'.heap (locs ++ L) e1.symm (by rw [← e2]; exact X'.warmed.alike) hp hb k1 k2 k3 T' rfl X'
    exact ⟨t2, st t2 a1, b1⟩
  · obtain ⟨k1, k2, k3⟩ := vx_keep h0 e1 hS hAX hf hL hF
    obtain ⟨t2, a1, b1⟩ := kx E ce q u t T'.heap (locs ++ L) e1.symm (by rw [← e2]; exact X'.warmed.alike) hp hb k1 k2 k3 (by rw [e1]; exact hce) hcv hcl T' rfl X'
    exact ⟨t2, st.trans a1, b1⟩
theorem vx_calld {S SX : Type} {post : UInt64 → S → Prop} {px : SX → Prop} {B : S → State → Prop} {BX : String → SX → State → Prop} {AX : Nat → Prop} (hr : vx_Run p l e R s m args below meth c H locs cells slots mc ms (F0 m pc ls st0) rest (va_Qd post B A1 a) (vx_X px BX AX) free) (hS : va_S A0 H0 H locs) (hA : ∀ q, q < H.size → A1 q → A0 q) (hf : ∀ q, free q → A0 q) (hAX : ∀ q, q < H.size → AX q → A0 q)
    (kx : ∀ (E : String) (ce : Cell) (q9 : Addr) (u : SX) (t : State) (H1 : Heap) (locs1 : List Loc), t.heap = H1 → s.vm.Alike t.vm → px u → BX E u t → H.size ≤ H1.size → (∀ q : Nat, q < H.size → ¬ AX q → H1[q]? = H[q]?) → va_S A0 H0 H1 locs1 → H1[q9]? = some ce → ce.vm = .none → s.vm.findClass E = some ce.cls → vx_W p l e R s m args below meth c H1 locs1 (cells + mc) (slots + ms) Q (F0 m pc ls rest) q9)
    (kk : ∀ (r : UInt64) (u : S) (t : State) (H1 : Heap) (locs1 : List Loc), t.heap = H1 → s.vm.Alike t.vm → post r u → B u t → H.size ≤ H1.size → (∀ q : Nat, q < H.size → ¬ A1 q → H1[q]? = H[q]?) → va_S A0 H0 H1 locs1 → W p l e R s m args below meth c H1 locs1 (cells + mc) (slots + ms) Q (F0 m (pc + 3) ls (.double r :: rest))) : W p l e R s m args below meth c H locs cells slots Q (F0 m pc ls st0) := by
  intro T hT X
  rcases hr T hT X with ⟨v, st₀, t, T', L, h0, X', hL, e1, e2, ⟨⟨r, u, hv, hp, hb⟩, hF⟩, st⟩ | ⟨q, st₀, t, T', L, E, ce, h0, X', hL, e1, e2, ⟨u, hp, hb, hF⟩, hce, hcv, hcl, st⟩
  · cases hv
    obtain ⟨k1, k2, k3⟩ := vx_keep h0 e1 hS hA hf hL hF
    obtain ⟨t2, a1, b1⟩ := kk r u t T'.heap (locs ++ L) e1.symm (by rw [← e2]; exact X'.warmed.alike) hp hb k1 k2 k3 T' rfl X'
    exact ⟨t2, st t2 a1, b1⟩
  · obtain ⟨k1, k2, k3⟩ := vx_keep h0 e1 hS hAX hf hL hF
    obtain ⟨t2, a1, b1⟩ := kx E ce q u t T'.heap (locs ++ L) e1.symm (by rw [← e2]; exact X'.warmed.alike) hp hb k1 k2 k3 (by rw [e1]; exact hce) hcv hcl T' rfl X'
    exact ⟨t2, st.trans a1, b1⟩
theorem vx_callv {S SX : Type} {post : S → Prop} {px : SX → Prop} {B : S → State → Prop} {BX : String → SX → State → Prop} {AX : Nat → Prop} (hr : vx_Run p l e R s m args below meth c H locs cells slots mc ms (F0 m pc ls st0) rest (va_Qv post B A1 a) (vx_X px BX AX) free) (hS : va_S A0 H0 H locs) (hA : ∀ q, q < H.size → A1 q → A0 q) (hf : ∀ q, free q → A0 q) (hAX : ∀ q, q < H.size → AX q → A0 q)
    (kx : ∀ (E : String) (ce : Cell) (q9 : Addr) (u : SX) (t : State) (H1 : Heap) (locs1 : List Loc), t.heap = H1 → s.vm.Alike t.vm → px u → BX E u t → H.size ≤ H1.size → (∀ q : Nat, q < H.size → ¬ AX q → H1[q]? = H[q]?) → va_S A0 H0 H1 locs1 → H1[q9]? = some ce → ce.vm = .none → s.vm.findClass E = some ce.cls → vx_W p l e R s m args below meth c H1 locs1 (cells + mc) (slots + ms) Q (F0 m pc ls rest) q9)
    (kk : ∀ (u : S) (t : State) (H1 : Heap) (locs1 : List Loc), t.heap = H1 → s.vm.Alike t.vm → post u → B u t → H.size ≤ H1.size → (∀ q : Nat, q < H.size → ¬ A1 q → H1[q]? = H[q]?) → va_S A0 H0 H1 locs1 → W p l e R s m args below meth c H1 locs1 (cells + mc) (slots + ms) Q (F0 m (pc + 3) ls (rest))) : W p l e R s m args below meth c H locs cells slots Q (F0 m pc ls st0) := by
  intro T hT X
  rcases hr T hT X with ⟨v, st₀, t, T', L, h0, X', hL, e1, e2, ⟨⟨u, hv, hp, hb⟩, hF⟩, st⟩ | ⟨q, st₀, t, T', L, E, ce, h0, X', hL, e1, e2, ⟨u, hp, hb, hF⟩, hce, hcv, hcl, st⟩
  · cases hv
    obtain ⟨k1, k2, k3⟩ := vx_keep h0 e1 hS hA hf hL hF
    obtain ⟨t2, a1, b1⟩ := kk u t T'.heap (locs ++ L) e1.symm (by rw [← e2]; exact X'.warmed.alike) hp hb k1 k2 k3 T' rfl X'
    exact ⟨t2, st t2 a1, b1⟩
  · obtain ⟨k1, k2, k3⟩ := vx_keep h0 e1 hS hAX hf hL hF
    obtain ⟨t2, a1, b1⟩ := kx E ce q u t T'.heap (locs ++ L) e1.symm (by rw [← e2]; exact X'.warmed.alike) hp hb k1 k2 k3 (by rw [e1]; exact hce) hcv hcl T' rfl X'
    exact ⟨t2, st.trans a1, b1⟩
/-- caught by the row x of this method's table; the rows ahead don't take it -/
theorem vx_catch {own name : String} {E : String} {ce : Cell} {q : Addr} (hown : s.vm.findClass own = some m.cls) (pre : List ExceptionTableEntry) (x : ExceptionTableEntry) (suf : List ExceptionTableEntry) (hsplit : c.exceptionTable.toList = pre ++ x :: suf)
    (hpass : ∀ z ∈ pre, covers z pc = false ∨ (z.catchType ≠ 0 ∧ ∃ nm : String, (Cond.classLink own z.catchType nm).before args s = true ∧ va_Nc E nm s)) (hx : covers x pc = true) (h0 : x.catchType ≠ 0)
    (hlink : (Cond.classLink own x.catchType name).before args s = true) (hcast : (Cond.castable E name).before args s = true) (hcell : H[q]? = some ce) (hv : ce.vm = .none) (hcl : s.vm.findClass E = some ce.cls)
    (kk : W p l e R s m args below meth c H locs cells slots Q (F0 m x.handlerPc ls [.ref q])) : vx_W p l e R s m args below meth c H locs cells slots Q (F0 m pc ls rest) q := by
  intro T hT X
  have hpl : e.platform.magicAccessors = ({} : Platform).magicAccessors := by rw [X.admits.platform]
  obtain ⟨c3, c4, hc3, hc4, hasg⟩ := Cond.castable_spec hcast
  cases Option.some.inj (hc3.symm.trans hcl)
  obtain ⟨c5, hc5, hcl5⟩ := Cond.classLink_spec hown hlink e.platform hpl
  cases Option.some.inj (hc4.symm.trans hc5)
  obtain ⟨vm', X', st⟩ := X.thenCaughtThrough q (g := F0 m pc ls rest) rfl (Steps.refl _) (by rw [hT]; exact hcell) (by rw [hv]; rfl) (by obtain ⟨k9, h9, -⟩ := Vm.findClass_spec hcl; exact ⟨k9, h9⟩) pre x suf hsplit
    (fun z hz => by
      rcases hpass z hz with h | ⟨hz0, nm, hl1, hn1⟩
      · exact Or.inl h
      · obtain ⟨c6, hc6, hcl6⟩ := Cond.classLink_spec hown hl1 e.platform hpl
        obtain ⟨a8, b8, h1, h2, h3⟩ := hn1
        cases Option.some.inj (h1.symm.trans hcl)
        cases Option.some.inj (h2.symm.trans hc6)
        exact Or.inr ⟨hz0, _, hcl6, h3⟩) hx (Or.inr ⟨h0, c4, hcl5, hasg⟩)
  obtain ⟨t, a1, b1⟩ := kk (T.setVm vm') hT X'
  exact ⟨t, st.trans a1, b1⟩
end Rows
section Ends
variable {p : Program} {l : Launch} {e : Env} {R : Room} {s : State} {m : MethodId} {args : Array Value} {below : List Frame} {meth : Method} {c : Code} {H : Heap} {locs : List Loc} {cells slots : Nat} {Q : State → Prop}
variable {mc ms : Nat} {free : Addr → Prop} {A0 A1 : Nat → Prop} {H0 : Heap} {a : Array Value} {ls : Array Slot} {st0 rest : List Value}
variable {Qc : Array Value → State → Outcome → State → Prop} {XC : String → State → State → Prop}
/-- what a body that may throw owes at its end -/
def vx_MQ (below : List Frame) (Qc : Array Value → State → Outcome → State → Prop) (XC : String → State → State → Prop) (a : Array Value) (s : State) (mc ms : Nat) (free : Addr → Prop) : State → Prop := fun t =>
  ∃ o, t.status = .running ∧ Ended t below o ∧ vx_Q Qc XC mc ms free a s o t
theorem vx_ret {g : JFrame} {mc ms : Nat} (k : W p l e R s m args below meth c H locs cells slots (MQ below Qc args s mc ms free) g) : W p l e R s m args below meth c H locs cells slots (vx_MQ below Qc XC args s mc ms free) g := by
  intro T hT X
  obtain ⟨t, a1, o, b1, b2, b3, b4⟩ := k T hT X
  exact ⟨t, a1, o, b1, b2, Or.inl ⟨b3, b4⟩⟩
/-- not caught here: it goes on to the caller -/
theorem vx_widen {g : JFrame} {q : Addr} {k n : Nat} (h1 : cells ≤ k) (h2 : slots ≤ n) (kk : vx_W p l e R s m args below meth c H locs k n Q g q) : vx_W p l e R s m args below meth c H locs cells slots Q g q := fun T hT X => kk T hT (stand_widen X h1 h2)
theorem vx_out {pc : Nat} {E : String} {ce : Cell} {q : Addr} {mc ms : Nat} (hout : ∀ x ∈ c.exceptionTable.toList, covers x pc = false) (hlocks : meth.locks = false) (hcell : H[q]? = some ce) (hv : ce.vm = .none) (hcl : s.vm.findClass E = some ce.cls)
    (hx : ∀ t : State, t.heap = H → s.vm.Alike t.vm → XC E s t) (hf : ∀ z ∈ locs, free z.base) (hc : cells ≤ mc) (hs : slots ≤ ms) :
    vx_W p l e R s m args below meth c H locs cells slots (vx_MQ below Qc XC args s mc ms free) (F0 m pc ls rest) q := by
  intro T hT X
  obtain ⟨st1, hrun, hend, hW, hsm⟩ := X.leaveThrown q (g := F0 m pc ls rest) rfl rfl rfl hout hlocks
  have hcell9 : (T.setFrames (.throwing q :: below)).heap[q]? = some ce := by
    show T.heap[q]? = some ce
    rw [hT]; exact hcell
  exact ⟨_, st1, .threw q, hrun, hend, Or.inr ⟨q, rfl, E, ce, locs, hx _ hT hW.alike, hcell9, hv, hcl, hW, hsm.mono hc hs, hf⟩⟩
theorem vx_frame {U : State} {k n : Nat} (h : s.sameButNew ({ U with vm := s.vm } : State) locs k n) : s.heap.size ≤ U.heap.size ∧ ∀ q : Nat, q < s.heap.size → (∀ z ∈ locs, z.base ≠ q) → U.heap[q]? = s.heap[q]? := by
  obtain ⟨-, h2, -, -, -, h6⟩ := h
  refine ⟨h2, fun q hq hz => ?_⟩
  obtain ⟨c9, e1, e2, e3, e4⟩ := h6 q _ (Array.getElem?_eq_getElem hq)
  have hs : c9.slots = (s.heap[q]).slots := Array.ext_getElem? fun i => e4 i fun hm => hz _ hm rfl
  have h9 : c9 = s.heap[q] := by
    rw [hs] at e2
    exact e2
  have e5 : U.heap[q]? = some c9 := e1
  rw [e5, h9, Array.getElem?_eq_getElem hq]
/-- the words of a throw but the four that speak of the heap -/
def vx_no (w : Cond) : Bool := decide (w ≠ .isRef (.static Bundle.tN "UNASSIGNED_STACK" Bundle.steD)) && decide (w ≠ .isRef (.static Bundle.tN "SUPPRESSED_SENTINEL" Bundle.listD)) && decide (w ≠ .laysStatic Bundle.tN "UNASSIGNED_STACK" Bundle.steD) && decide (w ≠ .laysStatic Bundle.tN "SUPPRESSED_SENTINEL" Bundle.listD)
def vx_at0 (own : String) (ic : Nat) (X : String) (names : List String) : List Cond := (Bundle.ownAtoms0 own ic X names).filter vx_no
def vx_atS (own : String) (ic : Nat) (X : String) (names : List String) : List Cond := (Bundle.ownAtoms own ic X names).filter vx_no
/-- a word that the tables alone decide, or a good one -/
def vx_ot (w : Cond) : Bool := w.onTables || goodWord w
theorem vx_ot_at {args a' : Array Value} {s U : State} {w : Cond} (hW : s.WarmedH U.vm) (hvm : s.vm = U.vm) (hg : vx_ot w = true) (h : w.before args s = true) : w.before a' U = true := by
  simp only [vx_ot, Bool.or_eq_true] at hg
  rcases hg with hg | hg
  · exact va_tabs hg hvm h
  · exact word_at hW (good_of_word hg) h
/-- a list's words: the good ones out of the method's own list, the others by premises of their own -/
theorem vx_hat {args : Array Value} {s : State} {L B : List Cond} (h1 : ∀ w ∈ L.filter goodWord, w.before args s = true) (h2 : ∀ w ∈ L.filter (fun w => !goodWord w), w ∈ B) (h3 : ∀ w ∈ B, w.before args s = true) : ∀ w ∈ L, w.before args s = true := by
  intro w hw
  by_cases g : goodWord w = true
  · exact h1 w (List.mem_filter.mpr ⟨hw, g⟩)
  · refine h3 w (h2 w (List.mem_filter.mpr ⟨hw, ?_⟩))
    show (!goodWord w) = true
    cases hgw : goodWord w
    · rfl
    · exact absurd hgw g
theorem vx_c {args : Array Value} {s : State} {w : Cond} {B : List Cond} (h : w.before args s = true) (t : ∀ w ∈ B, w.before args s = true) : ∀ w' ∈ w :: B, w'.before args s = true := fun w' h' => (List.mem_cons.mp h').elim (fun e => by rw [e]; exact h) (t w')
theorem vx_n {args : Array Value} {s : State} : ∀ w ∈ ([] : List Cond), w.before args s = true := fun _ h => nomatch h
theorem vx_own {args : Array Value} {s : State} {L : List Cond} (h1 : ∀ w ∈ L.filter vx_no, w.before args s = true)
    (hU : (Cond.isRef (.static Bundle.tN "UNASSIGNED_STACK" Bundle.steD)).before args s = true) (hN : (Cond.isRef (.static Bundle.tN "SUPPRESSED_SENTINEL" Bundle.listD)).before args s = true)
    (lU : (Cond.laysStatic Bundle.tN "UNASSIGNED_STACK" Bundle.steD).before args s = true) (lN : (Cond.laysStatic Bundle.tN "SUPPRESSED_SENTINEL" Bundle.listD).before args s = true) : ∀ w ∈ L, w.before args s = true := by
  intro w hw
  by_cases e1 : w = .isRef (.static Bundle.tN "UNASSIGNED_STACK" Bundle.steD)
  · rw [e1]; exact hU
  · by_cases e2 : w = .isRef (.static Bundle.tN "SUPPRESSED_SENTINEL" Bundle.listD)
    · rw [e2]; exact hN
    · by_cases e3 : w = .laysStatic Bundle.tN "UNASSIGNED_STACK" Bundle.steD
      · rw [e3]; exact lU
      · by_cases e4 : w = .laysStatic Bundle.tN "SUPPRESSED_SENTINEL" Bundle.listD
        · rw [e4]; exact lN
        · exact h1 w (List.mem_filter.mpr ⟨hw, by unfold vx_no; rw [decide_eq_true e1, decide_eq_true e2, decide_eq_true e3, decide_eq_true e4]; rfl⟩)
/-- where a static field lies, its class's statics cell in H -/
def vx_L (C n d : String) (A : Nat → Prop) (U : State) (H : Heap) : Prop := ∃ (c : ClassId) (k : Class) (i : Nat) (f : Field) (a : Nat) (cell : Cell), U.vm.findClass C = some c ∧ U.fieldFound? C n d = some (c, k, i, f) ∧ f.isStatic = true ∧ k.statics = some a ∧ H[a]? = some cell ∧ cell.vm.isStatics = true ∧ cell.cls = c ∧ f.slot < cell.slots.size ∧ k.staticTypes[f.slot]? = some f.type ∧ ¬ A a
theorem vx_L.moved {C n d : String} {A : Nat → Prop} {u U : State} {H : Heap} (hvm : u.vm.Alike U.vm) (h : vx_L C n d A u H) : vx_L C n d A U H := by
  obtain ⟨c, k, i, f, a, cell, h1, h2, h3, h4, h5, h6, h7, h8, h9, h10⟩ := h
  obtain ⟨k', hi', he⟩ := State.fieldFound?_setVm hvm h2
  exact ⟨c, k', i, f, a, cell, by rw [hvm.findClass]; exact h1, hi', h3, by rw [he]; exact h4, h5, h6, h7, h8, by rw [he]; exact h9, h10⟩
theorem vx_L.kept {C n d : String} {A : Nat → Prop} {U : State} {H H1 : Heap} (h : vx_L C n d A U H) (hq : ∀ a : Nat, a < H.size → ¬ A a → H1[a]? = H[a]?) : vx_L C n d A U H1 := by
  obtain ⟨c, k, i, f, a, cell, h1, h2, h3, h4, h5, h6, h7, h8, h9, h10⟩ := h
  exact ⟨c, k, i, f, a, cell, h1, h2, h3, h4, by rw [hq a (Array.getElem?_eq_some_iff.mp h5).1 h10]; exact h5, h6, h7, h8, h9, h10⟩
theorem vx_L.narrow {C n d : String} {A B : Nat → Prop} {U : State} {H : Heap} (h : vx_L C n d A U H) (hAB : ∀ q, B q → A q) : vx_L C n d B U H := by
  obtain ⟨c, k, i, f, a, cell, h1, h2, h3, h4, h5, h6, h7, h8, h9, h10⟩ := h
  exact ⟨c, k, i, f, a, cell, h1, h2, h3, h4, h5, h6, h7, h8, h9, fun z => h10 (hAB _ z)⟩
theorem vx_L.word {C n d : String} {A : Nat → Prop} {s : State} {args : Array Value} (h : vx_L C n d A s s.heap) : (Cond.laysStatic C n d).before args s = true := by
  obtain ⟨c, k, i, f, a, cell, h1, h2, h3, h4, h5, h6, h7, h8, h9, -⟩ := h
  show (Cond.laysStatic C n d).holds args s none s [] = true
  exact Cond.laysStatic_of h1 h2 h3 h4 h5 h6 h7 h8 h9
/-- .. and what it holds: null or some reference -/
def vx_Zq (C n d : String) (A : Nat → Prop) (U : State) (H : Heap) : Prop := va_Zq C n d A U H ∧ vx_L C n d A U H
theorem vx_Zq.moved {C n d : String} {A : Nat → Prop} {u U : State} {H : Heap} (hvm : u.vm.Alike U.vm) (h : vx_Zq C n d A u H) : vx_Zq C n d A U H := ⟨va_Zq.moved hvm h.1, vx_L.moved hvm h.2⟩
theorem vx_Zq.kept {C n d : String} {A : Nat → Prop} {U : State} {H H1 : Heap} (h : vx_Zq C n d A U H) (hq : ∀ a : Nat, a < H.size → ¬ A a → H1[a]? = H[a]?) : vx_Zq C n d A U H1 := ⟨va_Zq.kept h.1 hq, vx_L.kept h.2 hq⟩
theorem vx_Zq.narrow {C n d : String} {A B : Nat → Prop} {U : State} {H : Heap} (h : vx_Zq C n d A U H) (hAB : ∀ q, B q → A q) : vx_Zq C n d B U H := ⟨va_Zq.narrow h.1 hAB, vx_L.narrow h.2 hAB⟩
theorem vx_Zqof {args : Array Value} {s : State} {C n d : String} {A : Nat → Prop} (hl : (Cond.laysStatic C n d).before args s = true) (hini : (Cond.initialized C).before args s = true) (h : (Cond.isRef (.static C n d)).before args s = true) (hA : ∀ a : Nat, a < s.heap.size → ¬ A a) : vx_Zq C n d A s s.heap := by
  refine ⟨va_Zqof hl hini h hA, ?_⟩
  obtain ⟨c, k, i, f, a, cell, h1, h2, h3, h4, h5, h6, h7, h8, h9⟩ := Cond.laysStatic_spec hl
  exact ⟨c, k, i, f, a, cell, h1, h2, h3, h4, h5, h6, h7, h8, h9, hA a (Array.getElem?_eq_some_iff.mp h5).1⟩
theorem vx_isRef {C n d : String} {v : Value} {A : Nat → Prop} {s : State} {args : Array Value} (h : va_Z C n d v A s s.heap) (hv : v.isRef = true) : (Cond.isRef (.static C n d)).before args s = true := by
  obtain ⟨cf, kf, fi, f, a, cell, h1, h2, h3, h4, h5, h6, h7, -⟩ := h
  have he : (Term.static C n d).eval args s none [] s = some v := by
    simp [Term.eval, State.fieldNamed?, h1, h2, h4, h5, h6, h7]
  simp only [Cond.before, Cond.holds, Cond.value, he]
  cases v <;> simp_all [Value.isRef]
theorem vx_isRefq {C n d : String} {A : Nat → Prop} {s : State} {args : Array Value} (h : va_Zq C n d A s s.heap) : (Cond.isRef (.static C n d)).before args s = true := by
  rcases h with h | ⟨t, h⟩
  · exact vx_isRef h rfl
  · exact vx_isRef h rfl
/-- the same frame, seen from here: as if the method were called anew in this heap -/
theorem vx_rebase {T : State} (X : Stand p l e R s m args below meth c T locs cells slots) {R' : Room} (hf : R'.frames ≤ R.frames) (hl : R'.locals ≤ R.locals) (hc : cells + R'.cells ≤ R.cells) (hs : slots + R'.slots ≤ R.slots) :
    Stand p l e R' ((T.setVm s.vm).setFrames (.invoking m args :: below)) m args below meth c T [] 0 0 := by
  have htop : (T.setVm s.vm).topJava?.isSome := X.here.top
  have hF : ((T.setVm s.vm).setFrames (.invoking m args :: below)).frames = .invoking m args :: below := State.frames_setFrames _ (State.cur_lt_of_top htop)
  obtain ⟨g₀, hg0⟩ := Option.isSome_iff_exists.mp htop
  obtain ⟨r, hr⟩ := State.topJava?_eq_some.mp hg0
  have hl9 : e.platform.stackLimits (T.setVm s.vm).me = e.platform.stackLimits s.me := X.limits
  have hb9 : (T.setVm s.vm).me.stackBytes = s.me.stackBytes := X.bytes
  refine ⟨X.admits, X.cas, X.clock, hF, ?_, X.hears, X.method, X.code, X.here, X.tail, X.warmed, ?_, ?_, ?_⟩
  · have h := X.room
    have hU : ((T.setVm s.vm).setFrames (.invoking m args :: below)).localsInUse = s.localsInUse := by
      rw [State.localsInUse_invoking hF (meth := meth) (c := c) X.method X.code, State.localsInUse_invoking X.frames X.method X.code]
    simp only [State.hasRoom, Bool.and_eq_true, decide_eq_true_eq] at h ⊢
    obtain ⟨⟨⟨⟨h1, h2, h3, h4, h5, h6⟩, h7⟩, h8⟩, h9⟩ := h
    rw [X.frames, List.length_cons] at h2 h3
    have q1 := X.heapSize
    have q2 := X.used
    simp only [hF, hU, List.length_cons, State.stackLimits_setFrames, State.stackBytes_setFrames, hl9, hb9]
    refine ⟨⟨⟨⟨by omega, by omega, by omega, by omega, by omega, h6⟩, ?_⟩, ?_⟩, X.book⟩
    · show T.heap.size + R'.cells ≤ e.platform.maxCells
      omega
    · show T.slotsUsed + R'.slots ≤ e.platform.maxSlots
      omega
  · rw [State.stackLimits_setFrames]; rfl
  · rw [State.stackBytes_setFrames]; rfl
  · refine ⟨?_, Nat.le_refl _, Nat.le_refl _, ?_, ?_, fun a c9 h9 => ⟨c9, h9, rfl, rfl, fun _ _ => rfl⟩⟩
    · obtain ⟨t, ht, -⟩ := State.frames_cons hr
      show T.setVm s.vm = { ((T.setVm s.vm).setFrames (.invoking m args :: below)).setFrames (T.setVm s.vm).frames with heap := T.heap, slotsUsed := T.slotsUsed }
      rw [State.setFrames_setFrames, State.setFrames_self ht]
      rfl
    · show T.slotsUsed = T.slotsUsed + ((T.heap.toList.drop T.heap.size).map (·.slots.size)).sum
      rw [List.drop_eq_nil_of_le (Nat.le_of_eq Array.length_toList)]
      rfl
    · show ((T.heap.toList.drop T.heap.size).map (·.slots.size)).sum ≤ 0
      rw [List.drop_eq_nil_of_le (Nat.le_of_eq Array.length_toList)]
      exact Nat.le_refl _
/-- 'throw new E()': new; dup; invokespecial; athrow -/
theorem vx_throw0 {cc : ByteArray} {pc : Nat} (hexec : p.tables.exec = Jvm.exec) (hb : c.code = cc) (hl : l.stackTraces = false) {own cls : String} {names : List String} {ik ic mc ms : Nat} {A : Nat → Prop}
    (hown : s.vm.findClass own = some m.cls) (hcls : Bundle.fit cls = true) (hnames : ∀ n ∈ names, Bundle.fit n = true)
    (hk : (Cond.classLink own ik cls).before args s = true) (hini : (Cond.initialized cls).before args s = true) (hat : ∀ w ∈ vx_at0 own ic cls names, w.before args s = true)
    (hgood : ∀ w ∈ Cond.classLink own ik cls :: Cond.initialized cls :: vx_at0 own ic cls names, vx_ot w = true)
    (hU : vx_Zq Bundle.tN "UNASSIGNED_STACK" Bundle.steD A s s.heap) (hN : vx_Zq Bundle.tN "SUPPRESSED_SENTINEL" Bundle.listD A s s.heap) (hS : va_S A s.heap H locs) (hsize : ls.size = c.maxLocals)
    (d0 : decode cc pc = .ok (.new ik, 3)) (d3 : decode cc (pc + 3) = .ok (.dup, 1)) (d4 : decode cc (pc + 4) = .ok (.invokespecial ic, 3)) (d7 : decode cc (pc + 7) = .ok (.athrow, 1))
    (hout : ∀ x ∈ c.exceptionTable.toList, covers x (pc + 7) = false)
    (hRframes : names.length + 3 < R.frames) (hRlocals : (rest.map fun v => v.category).sum + (13 * (names.length + 1) + 42) ≤ R.locals) (hRcells : cells + 1 ≤ R.cells) (hRslots : slots + 6 ≤ R.slots) (hlocks : meth.locks = false)
    (hx : ∀ t : State, s.vm.Alike t.vm → H.size < t.heap.size → t.heap.size ≤ s.heap.size + mc → (∀ q : Nat, q < H.size → t.heap[q]? = H[q]?) → XC cls s t)
    (hf : ∀ z ∈ locs, free z.base) (hc : cells + 1 ≤ mc) (hs : slots + 6 ≤ ms) :
    W p l e R s m args below meth c H locs cells slots (vx_MQ below Qc XC args s mc ms free) (F0 m pc ls rest) := by
  intro T hT X
  have htr : e.platform.stackTraces = false := (show e.platform.stackTraces = l.stackTraces by rw [X.admits.platform]).trans hl
  have Y := vx_rebase X (R' := { frames := R.frames, locals := R.locals, cells := 1, slots := 6 }) (Nat.le_refl _) (Nat.le_refl _) hRcells hRslots
  obtain ⟨s', hA⟩ : ∃ z, z = (T.setVm s.vm).setFrames (.invoking m args :: below) := ⟨_, rfl⟩
  rw [← hA] at Y
  have hvm : s'.vm = s.vm := by rw [hA]; rfl
  have hhp : s'.heap = H := by rw [hA]; exact hT
  have hW0 : s.WarmedH s'.vm := by rw [hvm]; exact State.WarmedH.refl s
  have hat' : ∀ w ∈ vx_at0 own ic cls names, w.before args s' = true := fun w hw => vx_ot_at hW0 hvm.symm (hgood w (List.mem_cons_of_mem _ (List.mem_cons_of_mem _ hw))) (hat w hw)
  have hk' : (Cond.classLink own ik cls).before args s' = true := vx_ot_at hW0 hvm.symm (hgood _ List.mem_cons_self) hk
  have hini' : (Cond.initialized cls).before args s' = true := vx_ot_at hW0 hvm.symm (hgood _ (List.mem_cons_of_mem _ List.mem_cons_self)) hini
  have hU' : vx_Zq Bundle.tN "UNASSIGNED_STACK" Bundle.steD A s' s'.heap := by rw [hhp]; exact vx_Zq.moved hW0.alike (hU.kept hS.2.1)
  have hN' : vx_Zq Bundle.tN "SUPPRESSED_SENTINEL" Bundle.listD A s' s'.heap := by rw [hhp]; exact vx_Zq.moved hW0.alike (hN.kept hS.2.1)
  have h : ∀ w ∈ Bundle.ownAtoms0 own ic cls names, w.before args s' = true := vx_own hat' (vx_isRefq hU'.1) (vx_isRefq hN'.1) hU'.2.word hN'.2.word
  have hown' : s'.vm.findClass own = some m.cls := by rw [hvm]; exact hown
  have hins : (Cond.instantiable cls 6).before args s' = true := h _ (by simp [Bundle.ownAtoms0])
  obtain ⟨vm₁, cX, kX, hfX, hkX, -, -, X₁, st1⟩ := Y.newCold hexec (own := own) (C := cls) (index := ik) (n := 6) hown' hk' hins hini'
    (g := F0 m pc ls rest) rfl (by rw [hb]; exact d0) (Nat.le_refl _) (Nat.le_refl _)
  generalize hT1 : (T.setVm vm₁).pushCell { cls := cX, slots := kX.instanceTypes.map defaultValue, vm := .none } = T1 at X₁ st1
  have hcat : (Value.ref T.heap.size).category = 1 := rfl
  have hcellA : T1.heap[T.heap.size]? = some (freshCell cX kX) := by rw [← hT1]; exact State.heap_pushCell_size _ _
  have d3' : decode c.code (pc + 3) = .ok (.dup, 1) := by rw [hb]; exact d3
  obtain ⟨U, hsteps, hrun, hend, hW, hsame, ce, hce, hO⟩ := X₁.ctorThrow0 hexec htr (own := own) (cls := cls) (names := names) (ic := ic) hown' hcls hnames h (fun x hx => nomatch hx) hfX hkX hcellA (by rw [hhp, hT]; exact Nat.le_refl _)
    (g := { method := m, pc := pc + 4, locals := ls, stack := .ref T.heap.size :: .ref T.heap.size :: rest, locked := none }) rfl hsize rfl rfl (rest := rest) rfl
    (by rw [hb]; exact d4) (by rw [hb]; exact d7) hout hRframes (by simp only [List.map_cons, List.sum_cons, hcat]; omega) hlocks
  obtain ⟨f1, f2⟩ := vx_frame hsame
  rw [hhp] at f1 f2
  have hWs : s.WarmedH U.vm := State.WarmedH.trans hW0 hW
  have hcl : s.vm.findClass cls = some ce.cls := by
    have h9 := hO.cls
    rw [hvm] at h9
    exact h9
  have hall : s.sameButNew ({ U with vm := s.vm } : State) locs mc ms := by
    subst hA
    obtain ⟨e1, e2⟩ := hsame
    rw [State.setFrames_setFrames] at e1
    have h2 : (T.setVm s.vm).sameButNew ({ U with vm := s.vm } : State) [] (0 + 1) (0 + 6) := ⟨e1, e2⟩
    have h3 := X.same.trans h2
    rw [List.append_nil] at h3
    exact h3.mono hc hs
  refine ⟨U, ?_, .threw T.heap.size, hrun, hend, Or.inr ⟨T.heap.size, rfl, cls, ce, locs, hx U hWs.alike (by rw [← hT]; exact (Array.getElem?_eq_some_iff.mp hce).1) hall.2.2.1 (fun q hq => f2 q hq (fun z hz => nomatch hz)), hce, hO.vm, hcl, hWs, hall, hf⟩⟩
  refine st1 _ ?_
  show Steps p.tables e below (T1.setTop { method := m, pc := pc + 3, locals := ls, stack := .ref T.heap.size :: rest, locked := none }) _
  jvm_step X₁.here [X₁.here.top, hexec, d3', Value.category]
  exact hsteps
/-- 'throw new E("text")': new; dup; ldc; invokespecial; athrow -/
theorem vx_throwS {cc : ByteArray} {pc : Nat} (hexec : p.tables.exec = Jvm.exec) (hb : c.code = cc) (hl : l.stackTraces = false) {own cls text : String} {names : List String} {ik is ic mc ms sa : Nat} {A : Nat → Prop}
    (hown : s.vm.findClass own = some m.cls) (hcls : Bundle.fit cls = true) (hnames : ∀ n ∈ names, Bundle.fit n = true)
    (hk : (Cond.classLink own ik cls).before args s = true) (hini : (Cond.initialized cls).before args s = true) (hstr : vk_R own is text sa s) (hat : ∀ w ∈ vx_atS own ic cls names, w.before args s = true)
    (hgood : ∀ w ∈ Cond.classLink own ik cls :: Cond.initialized cls :: vx_atS own ic cls names, vx_ot w = true)
    (hU : vx_Zq Bundle.tN "UNASSIGNED_STACK" Bundle.steD A s s.heap) (hN : vx_Zq Bundle.tN "SUPPRESSED_SENTINEL" Bundle.listD A s s.heap) (hS : va_S A s.heap H locs) (hsize : ls.size = c.maxLocals)
    (d0 : decode cc pc = .ok (.new ik, 3)) (d3 : decode cc (pc + 3) = .ok (.dup, 1)) (d4 : decode cc (pc + 4) = .ok (.ldc is, 2)) (d6 : decode cc (pc + 6) = .ok (.invokespecial ic, 3)) (d9 : decode cc (pc + 9) = .ok (.athrow, 1))
    (hout : ∀ x ∈ c.exceptionTable.toList, covers x (pc + 9) = false)
    (hRframes : names.length + 3 < R.frames) (hRlocals : (rest.map fun v => v.category).sum + (13 * (names.length + 1) + 43) ≤ R.locals) (hRcells : cells + 1 ≤ R.cells) (hRslots : slots + 6 ≤ R.slots) (hlocks : meth.locks = false)
    (hx : ∀ t : State, s.vm.Alike t.vm → H.size < t.heap.size → t.heap.size ≤ s.heap.size + mc → (∀ q : Nat, q < H.size → t.heap[q]? = H[q]?) → XC cls s t)
    (hf : ∀ z ∈ locs, free z.base) (hc : cells + 1 ≤ mc) (hs : slots + 6 ≤ ms) :
    W p l e R s m args below meth c H locs cells slots (vx_MQ below Qc XC args s mc ms free) (F0 m pc ls rest) := by
  intro T hT X
  have htr : e.platform.stackTraces = false := (show e.platform.stackTraces = l.stackTraces by rw [X.admits.platform]).trans hl
  have Y := vx_rebase X (R' := { frames := R.frames, locals := R.locals, cells := 1, slots := 6 }) (Nat.le_refl _) (Nat.le_refl _) hRcells hRslots
  obtain ⟨s', hA⟩ : ∃ z, z = (T.setVm s.vm).setFrames (.invoking m args :: below) := ⟨_, rfl⟩
  rw [← hA] at Y
  have hvm : s'.vm = s.vm := by rw [hA]; rfl
  have hhp : s'.heap = H := by rw [hA]; exact hT
  have hW0 : s.WarmedH s'.vm := by rw [hvm]; exact State.WarmedH.refl s
  have hat' : ∀ w ∈ vx_atS own ic cls names, w.before args s' = true := fun w hw => vx_ot_at hW0 hvm.symm (hgood w (List.mem_cons_of_mem _ (List.mem_cons_of_mem _ hw))) (hat w hw)
  have hk' : (Cond.classLink own ik cls).before args s' = true := vx_ot_at hW0 hvm.symm (hgood _ List.mem_cons_self) hk
  have hini' : (Cond.initialized cls).before args s' = true := vx_ot_at hW0 hvm.symm (hgood _ (List.mem_cons_of_mem _ List.mem_cons_self)) hini
  have hU' : vx_Zq Bundle.tN "UNASSIGNED_STACK" Bundle.steD A s' s'.heap := by rw [hhp]; exact vx_Zq.moved hW0.alike (hU.kept hS.2.1)
  have hN' : vx_Zq Bundle.tN "SUPPRESSED_SENTINEL" Bundle.listD A s' s'.heap := by rw [hhp]; exact vx_Zq.moved hW0.alike (hN.kept hS.2.1)
  have h : ∀ w ∈ Bundle.ownAtoms own ic cls names, w.before args s' = true := vx_own hat' (vx_isRefq hU'.1) (vx_isRefq hN'.1) hU'.2.word hN'.2.word
  have hown' : s'.vm.findClass own = some m.cls := by rw [hvm]; exact hown
  have hins : (Cond.instantiable cls 6).before args s' = true := h _ (by simp [Bundle.ownAtoms])
  obtain ⟨vm₁, cX, kX, hfX, hkX, -, -, X₁, st1⟩ := Y.newCold hexec (own := own) (C := cls) (index := ik) (n := 6) hown' hk' hins hini'
    (g := F0 m pc ls rest) rfl (by rw [hb]; exact d0) (Nat.le_refl _) (Nat.le_refl _)
  generalize hT1 : (T.setVm vm₁).pushCell { cls := cX, slots := kX.instanceTypes.map defaultValue, vm := .none } = T1 at X₁ st1
  have hcat : (Value.ref T.heap.size).category = 1 := rfl
  have hcellA : T1.heap[T.heap.size]? = some (freshCell cX kX) := by rw [← hT1]; exact State.heap_pushCell_size _ _
  have d3' : decode c.code (pc + 3) = .ok (.dup, 1) := by rw [hb]; exact d3
  have d4' : decode c.code (pc + 4) = .ok (.ldc is, 2) := by rw [hb]; exact d4
  have hstr' : vk_R own is text sa s' := vk_R.warm hW0 hstr
  obtain ⟨U, hsteps, hrun, hend, hW, hsame, ce, hce, hO⟩ := X₁.ctorThrowS hexec htr (own := own) (cls := cls) (names := names) (ic := ic) hown' hcls hnames h (fun x hx => nomatch hx) hfX hkX hcellA (by rw [hhp, hT]; exact Nat.le_refl _) (msg := .ref sa) rfl
    (g := { method := m, pc := pc + 6, locals := ls, stack := .ref sa :: .ref T.heap.size :: .ref T.heap.size :: rest, locked := none }) rfl hsize rfl rfl (rest := rest) rfl
    (by rw [hb]; exact d6) (by rw [hb]; exact d9) hout hRframes (by simp only [List.map_cons, List.sum_cons, hcat]; omega) hlocks
  obtain ⟨f1, f2⟩ := vx_frame hsame
  rw [hhp] at f1 f2
  have hWs : s.WarmedH U.vm := State.WarmedH.trans hW0 hW
  have hcl : s.vm.findClass cls = some ce.cls := by
    have h9 := hO.cls
    rw [hvm] at h9
    exact h9
  have hall : s.sameButNew ({ U with vm := s.vm } : State) locs mc ms := by
    subst hA
    obtain ⟨e1, e2⟩ := hsame
    rw [State.setFrames_setFrames] at e1
    have h2 : (T.setVm s.vm).sameButNew ({ U with vm := s.vm } : State) [] (0 + 1) (0 + 6) := ⟨e1, e2⟩
    have h3 := X.same.trans h2
    rw [List.append_nil] at h3
    exact h3.mono hc hs
  refine ⟨U, ?_, .threw T.heap.size, hrun, hend, Or.inr ⟨T.heap.size, rfl, cls, ce, locs, hx U hWs.alike (by rw [← hT]; exact (Array.getElem?_eq_some_iff.mp hce).1) hall.2.2.1 (fun q hq => f2 q hq (fun z hz => nomatch hz)), hce, hO.vm, hcl, hWs, hall, hf⟩⟩
  refine st1 _ ?_
  show Steps p.tables e below (T1.setTop { method := m, pc := pc + 3, locals := ls, stack := .ref T.heap.size :: rest, locked := none }) _
  jvm_step X₁.here [X₁.here.top, hexec, d3', Value.category]
  exact X₁.ldcString hexec (own := own) (text := text) (index := is) (a := sa) hown' hstr'.1 hstr'.2
    (g := { method := m, pc := pc + 4, locals := ls, stack := .ref T.heap.size :: .ref T.heap.size :: rest, locked := none }) rfl d4' _ hsteps
/-- 'throw new E("text")', the text by a wide index -/
theorem vx_throwSW {cc : ByteArray} {pc : Nat} (hexec : p.tables.exec = Jvm.exec) (hb : c.code = cc) (hl : l.stackTraces = false) {own cls text : String} {names : List String} {ik is ic mc ms sa : Nat} {A : Nat → Prop}
    (hown : s.vm.findClass own = some m.cls) (hcls : Bundle.fit cls = true) (hnames : ∀ n ∈ names, Bundle.fit n = true)
    (hk : (Cond.classLink own ik cls).before args s = true) (hini : (Cond.initialized cls).before args s = true) (hstr : vk_R own is text sa s) (hat : ∀ w ∈ vx_atS own ic cls names, w.before args s = true)
    (hgood : ∀ w ∈ Cond.classLink own ik cls :: Cond.initialized cls :: vx_atS own ic cls names, vx_ot w = true)
    (hU : vx_Zq Bundle.tN "UNASSIGNED_STACK" Bundle.steD A s s.heap) (hN : vx_Zq Bundle.tN "SUPPRESSED_SENTINEL" Bundle.listD A s s.heap) (hS : va_S A s.heap H locs) (hsize : ls.size = c.maxLocals)
    (d0 : decode cc pc = .ok (.new ik, 3)) (d3 : decode cc (pc + 3) = .ok (.dup, 1)) (d4 : decode cc (pc + 4) = .ok (.ldc_w is, 3)) (d7 : decode cc (pc + 7) = .ok (.invokespecial ic, 3)) (d10 : decode cc (pc + 10) = .ok (.athrow, 1))
    (hout : ∀ x ∈ c.exceptionTable.toList, covers x (pc + 10) = false)
    (hRframes : names.length + 3 < R.frames) (hRlocals : (rest.map fun v => v.category).sum + (13 * (names.length + 1) + 43) ≤ R.locals) (hRcells : cells + 1 ≤ R.cells) (hRslots : slots + 6 ≤ R.slots) (hlocks : meth.locks = false)
    (hx : ∀ t : State, s.vm.Alike t.vm → H.size < t.heap.size → t.heap.size ≤ s.heap.size + mc → (∀ q : Nat, q < H.size → t.heap[q]? = H[q]?) → XC cls s t)
    (hf : ∀ z ∈ locs, free z.base) (hc : cells + 1 ≤ mc) (hs : slots + 6 ≤ ms) :
    W p l e R s m args below meth c H locs cells slots (vx_MQ below Qc XC args s mc ms free) (F0 m pc ls rest) := by
  intro T hT X
  have htr : e.platform.stackTraces = false := (show e.platform.stackTraces = l.stackTraces by rw [X.admits.platform]).trans hl
  have Y := vx_rebase X (R' := { frames := R.frames, locals := R.locals, cells := 1, slots := 6 }) (Nat.le_refl _) (Nat.le_refl _) hRcells hRslots
  obtain ⟨s', hA⟩ : ∃ z, z = (T.setVm s.vm).setFrames (.invoking m args :: below) := ⟨_, rfl⟩
  rw [← hA] at Y
  have hvm : s'.vm = s.vm := by rw [hA]; rfl
  have hhp : s'.heap = H := by rw [hA]; exact hT
  have hW0 : s.WarmedH s'.vm := by rw [hvm]; exact State.WarmedH.refl s
  have hat' : ∀ w ∈ vx_atS own ic cls names, w.before args s' = true := fun w hw => vx_ot_at hW0 hvm.symm (hgood w (List.mem_cons_of_mem _ (List.mem_cons_of_mem _ hw))) (hat w hw)
  have hk' : (Cond.classLink own ik cls).before args s' = true := vx_ot_at hW0 hvm.symm (hgood _ List.mem_cons_self) hk
  have hini' : (Cond.initialized cls).before args s' = true := vx_ot_at hW0 hvm.symm (hgood _ (List.mem_cons_of_mem _ List.mem_cons_self)) hini
  have hU' : vx_Zq Bundle.tN "UNASSIGNED_STACK" Bundle.steD A s' s'.heap := by rw [hhp]; exact vx_Zq.moved hW0.alike (hU.kept hS.2.1)
  have hN' : vx_Zq Bundle.tN "SUPPRESSED_SENTINEL" Bundle.listD A s' s'.heap := by rw [hhp]; exact vx_Zq.moved hW0.alike (hN.kept hS.2.1)
  have h : ∀ w ∈ Bundle.ownAtoms own ic cls names, w.before args s' = true := vx_own hat' (vx_isRefq hU'.1) (vx_isRefq hN'.1) hU'.2.word hN'.2.word
  have hown' : s'.vm.findClass own = some m.cls := by rw [hvm]; exact hown
  have hins : (Cond.instantiable cls 6).before args s' = true := h _ (by simp [Bundle.ownAtoms])
  obtain ⟨vm₁, cX, kX, hfX, hkX, -, -, X₁, st1⟩ := Y.newCold hexec (own := own) (C := cls) (index := ik) (n := 6) hown' hk' hins hini'
    (g := F0 m pc ls rest) rfl (by rw [hb]; exact d0) (Nat.le_refl _) (Nat.le_refl _)
  generalize hT1 : (T.setVm vm₁).pushCell { cls := cX, slots := kX.instanceTypes.map defaultValue, vm := .none } = T1 at X₁ st1
  have hcat : (Value.ref T.heap.size).category = 1 := rfl
  have hcellA : T1.heap[T.heap.size]? = some (freshCell cX kX) := by rw [← hT1]; exact State.heap_pushCell_size _ _
  have d3' : decode c.code (pc + 3) = .ok (.dup, 1) := by rw [hb]; exact d3
  have d4' : decode c.code (pc + 4) = .ok (.ldc_w is, 3) := by rw [hb]; exact d4
  have hstr' : vk_R own is text sa s' := vk_R.warm hW0 hstr
  obtain ⟨U, hsteps, hrun, hend, hW, hsame, ce, hce, hO⟩ := X₁.ctorThrowS hexec htr (own := own) (cls := cls) (names := names) (ic := ic) hown' hcls hnames h (fun x hx => nomatch hx) hfX hkX hcellA (by rw [hhp, hT]; exact Nat.le_refl _) (msg := .ref sa) rfl
    (g := { method := m, pc := pc + 7, locals := ls, stack := .ref sa :: .ref T.heap.size :: .ref T.heap.size :: rest, locked := none }) rfl hsize rfl rfl (rest := rest) rfl
    (by rw [hb]; exact d7) (by rw [hb]; exact d10) hout hRframes (by simp only [List.map_cons, List.sum_cons, hcat]; omega) hlocks
  obtain ⟨f1, f2⟩ := vx_frame hsame
  rw [hhp] at f1 f2
  have hWs : s.WarmedH U.vm := State.WarmedH.trans hW0 hW
  have hcl : s.vm.findClass cls = some ce.cls := by
    have h9 := hO.cls
    rw [hvm] at h9
    exact h9
  have hall : s.sameButNew ({ U with vm := s.vm } : State) locs mc ms := by
    subst hA
    obtain ⟨e1, e2⟩ := hsame
    rw [State.setFrames_setFrames] at e1
    have h2 : (T.setVm s.vm).sameButNew ({ U with vm := s.vm } : State) [] (0 + 1) (0 + 6) := ⟨e1, e2⟩
    have h3 := X.same.trans h2
    rw [List.append_nil] at h3
    exact h3.mono hc hs
  refine ⟨U, ?_, .threw T.heap.size, hrun, hend, Or.inr ⟨T.heap.size, rfl, cls, ce, locs, hx U hWs.alike (by rw [← hT]; exact (Array.getElem?_eq_some_iff.mp hce).1) hall.2.2.1 (fun q hq => f2 q hq (fun z hz => nomatch hz)), hce, hO.vm, hcl, hWs, hall, hf⟩⟩
  refine st1 _ ?_
  show Steps p.tables e below (T1.setTop { method := m, pc := pc + 3, locals := ls, stack := .ref T.heap.size :: rest, locked := none }) _
  jvm_step X₁.here [X₁.here.top, hexec, d3', Value.category]
  exact X₁.ldcStringW hexec (own := own) (text := text) (index := is) (a := sa) hown' hstr'.1 hstr'.2
    (g := { method := m, pc := pc + 4, locals := ls, stack := .ref T.heap.size :: .ref T.heap.size :: rest, locked := none }) rfl d4' _ hsteps
end Ends
section Bodies
variable {l : Launch}
theorem vx_ofW {y : MethodName} {ws ws' : List Cond} {rm : Room} {Pc : Array Value → State → Prop} {Qc : Array Value → State → Outcome → State → Prop} {XC : String → State → State → Prop} {mc ms : Nat} {free : Addr → Prop} {cc : ByteArray} {maxL : Nat} {ret : Option FieldType}
    (hy : plainName y.cls = true) (hw : ws = Cond.code y cc maxL ret :: ws')
    (body : ∀ p e s m args below meth c s₁, BodyLoose p l y (headSpec ws rm) cc maxL ret e s m args below meth c s₁ → c.maxLocals = maxL → (∀ x ∈ c.exceptionTable.toList, False) → Pc args s →
      W p l e (headSpec ws rm).room s m args below meth c s.heap [] 0 0 (vx_MQ below Qc XC args s mc ms free) (entryFrame m args maxL)) : vx_Met l y ws rm Pc Qc XC mc ms free := by
  refine MetFree.of_bodyS (code := cc) (maxLocals := maxL) (ret := ret) hy ?_ ?_
  · intro args s m h hn
    obtain ⟨meth, c, h1, h2, h3, h4, h5, h6, -, -⟩ := Cond.code_spec hn (atoms_spec (ws := ws) h _ (by rw [hw]; exact List.mem_cons_self))
    exact ⟨meth, c, h1, h2, h3, h4, h5, h6⟩
  · intro p e s m args below meth c s₁ B hml hP _
    have hh0 : s₁.heap = s.heap := by rw [B.state]; rfl
    have ht : ∀ x ∈ c.exceptionTable.toList, False := by
      obtain ⟨meth9, c9, h1, h2, -, -, -, -, h7, -⟩ := Cond.code_spec B.named (atoms_spec (ws := ws) B.pre _ (by rw [hw]; exact List.mem_cons_self))
      cases Option.some.inj (h1.symm.trans B.method)
      cases Option.some.inj (h2.symm.trans (Stand.of_body B).code)
      intro x hx
      rw [Array.isEmpty_iff.mp h7] at hx
      cases hx
    obtain ⟨t, a1, o, b1, b2, b3⟩ := body p e s m args below meth c s₁ B hml ht hP s₁ hh0 (Stand.of_body B)
    exact ⟨t, o, a1, b1, b2, b3⟩
/-- the table of a body with handlers -/
theorem vx_table {p : Program} {x y : MethodName} {S : Spec} {cc bytes : ByteArray} {maxL maxL' : Nat} {ret ret' : Option FieldType} {e : Env} {s s₁ : State} {m : MethodId} {args : Array Value} {below : List Frame} {meth : Method} {c : Code} {hh : List (Nat × Nat × Nat × Nat)}
    (B : BodyLoose p l y S cc maxL ret e s m args below meth c s₁) (h : (Cond.codeWith y bytes maxL' ret' hh).before args s = true) : c.exceptionTable.toList = tableOf hh := by
  obtain ⟨m9, meth9, c9, hn9, h1, h2, -, -, h6, -⟩ := Cond.codeWith_spec h
  cases Option.some.inj (hn9.symm.trans B.named)
  cases Option.some.inj (h1.symm.trans B.method)
  cases Option.some.inj (h2.symm.trans (Stand.of_body B).code)
  rw [← h6, table_eq]
end Bodies
end VXA
/-! ===== END ===== -/
/-! ===== BEGIN a static call of a method with an exception table ===== -/
section VXS
variable {p : Program} {l : Launch} {e : Env} {R : Room} {s : State} {m : MethodId} {args : Array Value} {below : List Frame} {meth : Method} {c : Code} {T : State} {H : Heap} {locs : List Loc} {cells slots : Nat}
abbrev vx_CSW (R : Room) (s : State) (args : Array Value) (own : String) (index : Nat) (y : MethodName) (bytes : ByteArray) (maxL : Nat) (ret : Option FieldType) (hh : List (Nat × Nat × Nat × Nat)) (ws : List Cond) (rm : Room) (mc ms n : Nat) : Prop :=
  (rm.cells = mc ∧ rm.slots = ms ∧ rm.frames + 1 ≤ R.frames ∧ 8 + (maxL + 11) + rm.locals ≤ R.locals ∧ (∀ w ∈ ws, ∀ (a' : Array Value) (U : State), s.WarmedH U.vm → w.before a' U = true) ∧ Cond.codeWith y bytes maxL ret hh ∈ ws) ∧
  (Cond.codeWith y bytes maxL ret hh).before args s = true ∧ (Cond.initialized y.cls).before args s = true ∧ (y.cls ≠ "java/lang/invoke/MethodHandle" ∧ y.cls ≠ "java/lang/invoke/VarHandle") ∧
  (∀ sig, parseMethodDescriptor y.desc = some sig → n = sig.parameters.length) ∧ (Cond.methodLink own index y).before args s = true ∧ (Cond.static y).before args s = true
theorem vx_cwSW {own : String} {index maxL mc ms : Nat} {y : MethodName} {bytes : ByteArray} {ret : Option FieldType} {hh : List (Nat × Nat × Nat × Nat)} {Ts ws ws' : List Cond} {rm : Room} (n : Nat) (ht : ∀ w ∈ Ts, w.before args s = true) (hT : GoodIn Ts (va_wsS own index y ws)) (hw : ws = Cond.codeWith y bytes maxL ret hh :: ws') (hrc : rm.cells = mc) (hrs : rm.slots = ms)
    (hd : y.cls ≠ "java/lang/invoke/MethodHandle" ∧ y.cls ≠ "java/lang/invoke/VarHandle" ∧ (parseMethodDescriptor y.desc).map (fun d => d.parameters.length) = some n) (hR : rm.frames + 1 ≤ R.frames ∧ 8 + (maxL + 11) + rm.locals ≤ R.locals) :
    vx_CSW R s args own index y bytes maxL ret hh ws rm mc ms n := by
  have ok : ∀ w ∈ va_wsS own index y ws, w.before args s = true := fun w h => ht w (hT w h).1
  have hG : GoodIn Ts ws := fun w h => hT w (by unfold va_wsS; exact List.mem_append_right _ h)
  have hc : Cond.codeWith y bytes maxL ret hh ∈ ws := by rw [hw]; exact List.mem_cons_self
  refine ⟨⟨hrc, hrs, hR.1, hR.2, pay_in ht hG, hc⟩, ht _ (hG _ hc).1, ok _ (by simp [va_wsS]), ⟨hd.1, hd.2.1⟩, fun sig h => ?_, ok _ (by simp [va_wsS]), ok _ (by simp [va_wsS])⟩
  have h2 := hd.2.2
  rw [h] at h2
  exact (Option.some.inj h2).symm
theorem vx_callSW (X : Stand p l e R s m args below meth c T locs cells slots) (hexec : p.tables.exec = Jvm.exec) {own : String} {index : Nat} {y : MethodName} {bytes : ByteArray} {maxL : Nat} {ret : Option FieldType} {hh : List (Nat × Nat × Nat × Nat)}
    (hown : s.vm.findClass own = some m.cls) (hlink : (Cond.methodLink own index y).before args s = true) (hstat : (Cond.static y).before args s = true) (hinit : (Cond.initialized y.cls).before args s = true)
    (hcode : (Cond.codeWith y bytes maxL ret hh).before args s = true) (hy : y.cls ≠ "java/lang/invoke/MethodHandle" ∧ y.cls ≠ "java/lang/invoke/VarHandle")
    {W9 : Nat} {Pre : Pt → Array Value → Prop} {Post : Pt → Array Value → Option Value → Pt → Prop} (hK : Back l R p e below s args y 3 W9 Pre Post)
    {g : JFrame} (hg : g.method = m) (hsize : g.locals.size = c.maxLocals) {argsL rest : List Value} (hlen : ∀ sig, parseMethodDescriptor y.desc = some sig → argsL.length = sig.parameters.length)
    (hstack : g.stack = argsL.reverse ++ rest) (hW : 2 * g.monitorRoom + (rest.map fun v => v.category).sum ≤ W9) (hdg : decode c.code g.pc = .ok (.invokestatic index, 3))
    (hpre : ∀ vm₁, s.WarmedH vm₁ → Pre ⟨T.setVm vm₁, locs, cells, slots⟩ argsL.toArray) :
    ∃ (v : Option Value) (vm₁ : Vm) (B : Pt), s.WarmedH vm₁ ∧ Stand p l e R s m args below meth c B.U B.locs B.cells B.slots ∧ Post ⟨T.setVm vm₁, locs, cells, slots⟩ argsL.toArray v B ∧
      ∀ target, Steps p.tables e below (B.U.setTop { g with pc := g.pc + 3, stack := v.toList ++ rest }) target → Steps p.tables e below (T.setTop g) target := by
  obtain ⟨mk, methM, cM, hnamed, hmethM, -, -, -, -, -, -, hsigM⟩ := Cond.codeWith_spec hcode
  have hstatic : methM.isStatic = true := Cond.static_spec hnamed hmethM hstat
  obtain ⟨kP, hkP, -⟩ := className_of_methodNamed hnamed
  have hinitP : kP.init = .initialized := Cond.initialized_spec (findClass_of_methodNamed hnamed) hkP hinit
  obtain ⟨vm₁, X₁, hstep₁⟩ := X.invokestatic hexec hown hlink hnamed hmethM hstatic hkP hinitP hy (g := g) hg (argsL := argsL) (rest := rest) (hlen _ hsigM) hstack hdg
  obtain ⟨v, B, X', hpost, hsteps⟩ := hK m meth c ⟨T.setVm vm₁, locs, cells, slots⟩ { g with stack := rest } (.invokestatic index) mk argsL.toArray X₁ hg hsize hdg hW (X₁.named hnamed) (hpre vm₁ X₁.warmed)
  exact ⟨v, vm₁, B, X₁.warmed, X', hpost, fun target h => hstep₁ _ fun acts => by rw [doInvoke_state]; exact hsteps.trans h⟩
theorem vx_runSW {y : MethodName} {bytes cc : ByteArray} {maxL nL mc ms n index : Nat} {ret : Option FieldType} {hh : List (Nat × Nat × Nat × Nat)} {ws : List Cond} {rm : Room} {Pc : Array Value → State → Prop} {Qc : Array Value → State → Outcome → State → Prop} {free : Addr → Prop} {Ts : List Cond} {own : String} {As rest : List Value} {g : JFrame}
    (S : CallFix p m c cc nL s args Ts own) (hM : Met l y ws rm Pc Qc mc ms free) (cw : vx_CSW R s args own index y bytes maxL ret hh ws rm mc ms n) (hp : PreS s H Pc As)
    (hg : g.method = m) (hn : As.length = n) (hsize : g.locals.size = nL) (hstack : g.stack = As.reverse ++ rest) (hW : 2 * g.monitorRoom + (rest.map fun v => v.category).sum ≤ 8) (hdg : decode cc g.pc = .ok (.invokestatic index, 3)) (hf : cells + mc ≤ R.cells ∧ slots + ms ≤ R.slots) :
    va_Run p l e R s m args below meth c H locs cells slots mc ms g rest (Qc As.toArray) (free) := by
  obtain ⟨⟨hrc, hrs, hfr, hlo, hws, hcw⟩, hcode, hini, hy, hlen, hl, hstt⟩ := cw
  have hK : Back l R p e below s args y 3 8 (PreOf R mc ms Pc) (PostOf Qc mc ms free) := va_backW (hh := hh) (bytes := bytes) (maxL := maxL) (ret := ret) hM hp.1 hrc hrs hfr hlo hws hcw (fun a' U hW => word_at hW (Or.inl (by first | rfl | simp [Cond.onTables, Cond.keeps, Cond.steady])) hini)
  obtain ⟨hx, hb, hml, ho, -⟩ := S
  intro T hT X
  obtain ⟨v, vm₁, ⟨U', l2, c2, s2⟩, hW₁, X', ⟨g', mk, t, L, e1, e2, hq, h1, hL, h2, h3⟩, st⟩ := vx_callSW X hx (hh := hh) (bytes := bytes) (maxL := maxL) (ret := ret) ho hl hstt hini hcode hy hK hg (hsize.trans hml.symm) (argsL := As) (rest := rest) (fun sig h => hn.trans (hlen sig h)) hstack hW (by rw [hb]; exact hdg)
    (fun vm₁ hW₁ => ⟨hf.1, hf.2, hp.2 (T.setVm vm₁) hT hW₁⟩)
  dsimp only [Pt.U, Pt.locs, Pt.cells, Pt.slots] at X' e1 e2 h1 h2 h3 st
  subst h1; subst h2; subst h3
  exact ⟨v, (T.setVm vm₁).calling g' mk As.toArray, t, U', L, hT, X', hL, e1, e2, hq, st⟩
/-- not caught here, past rows that name other classes: it goes on to the caller -/
theorem vx_outP {p : Program} {l : Launch} {e : Env} {R : Room} {s : State} {m : MethodId} {args : Array Value} {below : List Frame} {meth : Method} {c : Code} {H : Heap} {locs : List Loc} {cells slots : Nat} {free : Addr → Prop} {ls : Array Slot} {rest : List Value} {Qc : Array Value → State → Outcome → State → Prop} {XC : String → State → State → Prop}
    {pc : Nat} {own E : String} {ce : Cell} {q : Addr} {mc ms : Nat} (hown : s.vm.findClass own = some m.cls) (hlocks : meth.locks = false)
    (hpass : ∀ z ∈ c.exceptionTable.toList, covers z pc = false ∨ (z.catchType ≠ 0 ∧ ∃ nm : String, (Cond.classLink own z.catchType nm).before args s = true ∧ va_Nc E nm s)) (hcell : H[q]? = some ce) (hv : ce.vm = .none) (hcl : s.vm.findClass E = some ce.cls)
    (hx : ∀ t : State, t.heap = H → s.vm.Alike t.vm → XC E s t) (hf : ∀ z ∈ locs, free z.base) (hc : cells ≤ mc) (hs : slots ≤ ms) :
    vx_W p l e R s m args below meth c H locs cells slots (vx_MQ below Qc XC args s mc ms free) (F0 m pc ls rest) q := by
  intro T hT X
  have hpl : e.platform.magicAccessors = ({} : Platform).magicAccessors := by rw [X.admits.platform]
  obtain ⟨vm', hW', X', st⟩ := X.outThrough hlocks q (g := F0 m pc ls rest) rfl rfl rfl (cell := ce) (by rw [hT]; exact hcell) (by rw [hv]; rfl)
    (by obtain ⟨k9, h9, -⟩ := Vm.findClass_spec hcl; exact ⟨k9, h9⟩) (fun z hz => by
      rcases hpass z hz with h | ⟨hz0, nm, hl1, hn1⟩
      · exact Or.inl h
      · obtain ⟨c6, hc6, hcl6⟩ := Cond.classLink_spec hown hl1 e.platform hpl
        obtain ⟨a8, b8, h1, h2, h3⟩ := hn1
        cases Option.some.inj (h1.symm.trans hcl)
        cases Option.some.inj (h2.symm.trans hc6)
        exact Or.inr ⟨hz0, _, hcl6, h3⟩)
  obtain ⟨g₀, hfr⟩ := X'.frames_eq
  have hcell9 : ((T.setVm vm').setFrames (.throwing q :: below)).heap[q]? = some ce := by
    show T.heap[q]? = some ce
    rw [hT]; exact hcell
  have hend : Ended ((T.setVm vm').setFrames (.throwing q :: below)) below (.threw q) := State.frames_setFrames _ (State.cur_lt_of_frames hfr)
  refine ⟨(T.setVm vm').setFrames (.throwing q :: below), ?_, .threw q, X'.here.running, hend, Or.inr ⟨q, rfl, E, ce, locs, hx _ hT (X'.ends _).1.alike, hcell9, hv, hcl, (X'.ends _).1, (X'.ends _).2.mono hc hs, hf⟩⟩
  rw [X.pushThrowing_eq]
  exact st
/-- a thing of a world lies in the heap -/
theorem vx_lt {D : va_G} {cl : List vw_C} {ws : va_W} {H1 : Heap} (h : va_P D cl ws H1) {k : Nat} {q : Nat × va_E} (hk : ws[k]? = some q) : q.1 < H1.size := (h k q hk).lt
end VXS
/-! ===== END ===== -/
/-! ===== BEGIN methods with a table of their own: called by a name, returning or throwing ===== -/
section VXH
/-! vx_backW, vx_callVX, vx_callSX, vx_callVW, vx_runVW, vx_runVX, vx_runSX, vx_ofWH follow the same proofs as their sisters above (Free/Laws.lean, Shelf42/LK1.lean); vx_outP calls Shelf42/NT130.lean (outThrough). -/
section
variable {l : Launch} {R : Room} {p : Program} {e : Env} {below : List Frame} {s : State} {sargs : Array Value} {y : MethodName} {len W9 : Nat}
theorem vx_backW {ws : List Cond} {rm : Room} {Pc : Array Value → State → Prop} {Qc : Array Value → State → Outcome → State → Prop} {XC : String → State → State → Prop} {mc ms : Nat} {free : Addr → Prop} {bytes : ByteArray} {maxL : Nat} {ret : Option FieldType} {hh : List (Nat × Nat × Nat × Nat)}
    (hM : vx_Met l y ws rm Pc Qc XC mc ms free) (hblind : FrameBlind Pc) (hrc : rm.cells = mc) (hrs : rm.slots = ms)
    (hframes : rm.frames + 1 ≤ R.frames) (hlocals : W9 + (maxL + 11) + rm.locals ≤ R.locals)
    (hws : ∀ w ∈ ws, ∀ a' U, s.WarmedH U.vm → w.before a' U = true) (hcode : Cond.codeWith y bytes maxL ret hh ∈ ws) (hinit : ∀ a' U, s.WarmedH U.vm → (Cond.initialized y.cls).before a' U = true) :
    vx_Back l R p e below s sargs y len W9 (PreOf R mc ms Pc) (PostOf Qc mc ms free) (vx_Post XC mc ms free) := by
  intro m meth c A g ig mk a X hg hsize hdg hW hn hp
  have h1 : (headSpec ws rm).pre.before a A.U = true := atoms_intro fun w hw => hws w hw _ _ X.warmed
  have h2 : (Cond.codeWith y bytes maxL ret hh).before a A.U = true := hws _ hcode _ _ X.warmed
  have h3 : (Cond.initialized y.cls).before a A.U = true := hinit _ _ X.warmed
  have h4 : A.cells + (headSpec ws rm).room.cells ≤ R.cells := by rw [show (headSpec ws rm).room.cells = mc from hrc]; exact hp.1
  have h5 : A.slots + (headSpec ws rm).room.slots ≤ R.slots := by rw [show (headSpec ws rm).room.slots = ms from hrs]; exact hp.2.1
  have hPc : Pc a (A.U.calling g mk a) := hblind _ _ _ _ hp.2.2
  obtain ⟨U, Ls, c0, s0⟩ := A
  dsimp only [Pt.U, Pt.locs, Pt.cells, Pt.slots] at h1 h2 h3 h4 h5 X hn hPc ⊢
  obtain ⟨m9, methY, cY, hn9, hmY, hcY, -, hlY, -⟩ := Cond.codeWith_spec h2
  cases Option.some.inj (hn9.symm.trans hn)
  obtain ⟨kY, hkY, -⟩ := className_of_methodNamed hn
  have hinitY : kY.init = .initialized := Cond.initialized_spec (findClass_of_methodNamed hn) hkY h3
  have h : At U g.method c below := by rw [hg]; exact X.here
  have hlocals9 : W9 + (maxL + 11) + (headSpec ws rm).room.locals ≤ R.locals := hlocals
  have happ : (headSpec ws rm).appliesLoose y e.platform (U.calling g mk a) = true :=
    Spec.appliesLoose_calling (g := g) h hdg hn hkY hinitY
      (X.room_calling (g := g) (R' := (headSpec ws rm).room) hsize hmY hcY hframes (by rw [hlY]; omega) h4 h5) h1
  obtain ⟨mid, hmid⟩ := h.above
  have hfr : (U.setTop g).frames = (.java g :: mid) ++ below := by rw [State.frames_setTop' g h.top, hmid]; rfl
  obtain ⟨o, s₂, hsteps, -, hend, hq⟩ := Steps.callFree hM p X.admits X.cas X.clock (acts := []) hfr happ hPc trivial
  have hq' : vx_Q Qc XC mc ms free a (U.calling g mk a) o s₂ := hq
  rw [State.frames_setTop' g h.top] at hend
  obtain ⟨g₀, hg0⟩ := Option.isSome_iff_exists.mp h.top
  obtain ⟨r, hr⟩ := State.topJava?_eq_some.mp hg0
  have hr' : (({ U with heap := s₂.heap, slotsUsed := s₂.slotsUsed } : State).setVm s₂.vm).frames = .java g₀ :: r := hr
  rcases hq' with ⟨hqc, L, hfe, hL⟩ | ⟨q, rfl, E, ce, L, hx, hce, hcv, hcl, hW₂, hsm, hL⟩
  · obtain ⟨⟨v, rfl⟩, hW₂, e2, q2, q3, q4, q5, q6⟩ := id hfe
    have e3 : s₂ = ({ (U.calling g mk a).setFrames s₂.frames with heap := s₂.heap, slotsUsed := s₂.slotsUsed } : State).setVm s₂.vm := by
      have : s₂ = ({ s₂ with vm := (U.calling g mk a).vm } : State).setVm s₂.vm := rfl
      rw [e2] at this
      exact this
    obtain ⟨c₂, i₂, len₂, hc₂, hd₂, hf₂⟩ := hend
    have hW' : U.WarmedH s₂.vm := hW₂
    have hcc : c₂ = c := by
      have h1 : s₂.code? g.method = U.code? g.method := by
        rw [State.code?_eq, State.code?_eq, hW'.alike.method?]
      exact Option.some.inj (hc₂.symm.trans (h1.trans h.code))
    subst hcc
    have hlen : len₂ = len := by rw [hdg] at hd₂; cases hd₂; rfl
    subst hlen
    have hs₂ : s₂ = (({ U with heap := s₂.heap, slotsUsed := s₂.slotsUsed } : State).setVm s₂.vm).setTop { g with pc := g.pc + len₂, stack := v.toList ++ g.stack } := by
      refine e3.trans ?_
      rw [hf₂, State.calling_eq h.top, State.setFrames_setFrames, State.setTop_of_frames _ hr', hr]
      rfl
    have hsame : U.sameButNew ({ U with heap := s₂.heap, slotsUsed := s₂.slotsUsed } : State) L mc ms := by
      refine ⟨?_, q2, q3, q4, q5, q6⟩
      obtain ⟨t, ht, -⟩ := State.frames_cons hr
      show ({ U with heap := s₂.heap, slotsUsed := s₂.slotsUsed } : State) = { U.setFrames U.frames with heap := s₂.heap, slotsUsed := s₂.slotsUsed }
      rw [State.setFrames_self ht]
    subst hg
    refine Or.inl ⟨v, ⟨(({ U with heap := s₂.heap, slotsUsed := s₂.slotsUsed } : State).setVm s₂.vm), Ls ++ L, c0 + mc, s0 + ms⟩,
      ⟨X.admits, X.cas, X.clock, X.frames, X.room, X.hears, X.method, X.code, (X.here.setHeapUsed s₂.heap s₂.slotsUsed).setVm hW'.alike, X.tail, State.WarmedH.trans X.warmed hW', X.limits, X.bytes, X.same.trans (hsame.setVm s.vm)⟩,
      ⟨g, mk, s₂, L, rfl, rfl, hqc, rfl, hL, rfl, rfl⟩, ?_⟩
    show Steps p.tables e below _ ((({ U with heap := s₂.heap, slotsUsed := s₂.slotsUsed } : State).setVm s₂.vm).setTop { g with pc := g.pc + len₂, stack := v.toList ++ g.stack })
    rw [← hs₂]
    exact hsteps
  · obtain ⟨e2, q2, q3, q4, q5, q6⟩ := id hsm
    have e3 : s₂ = ({ (U.calling g mk a).setFrames s₂.frames with heap := s₂.heap, slotsUsed := s₂.slotsUsed } : State).setVm s₂.vm := by
      have : s₂ = ({ s₂ with vm := (U.calling g mk a).vm } : State).setVm s₂.vm := rfl
      rw [e2] at this
      exact this
    have hf₂ : s₂.frames = .throwing q :: .java g :: U.frames.tail := hend
    have hW' : U.WarmedH s₂.vm := hW₂
    have hs₂ : s₂ = ((({ U with heap := s₂.heap, slotsUsed := s₂.slotsUsed } : State).setVm s₂.vm).setTop g).pushFrame (.throwing q) := by
      refine e3.trans ?_
      rw [hf₂, State.calling_eq h.top, State.setFrames_setFrames, State.pushFrame, State.frames_setTop _ hr', State.setTop_of_frames _ hr', State.setFrames_setFrames, hr]
      rfl
    have hsame : U.sameButNew ({ U with heap := s₂.heap, slotsUsed := s₂.slotsUsed } : State) L mc ms := by
      refine ⟨?_, q2, q3, q4, q5, q6⟩
      obtain ⟨t, ht, -⟩ := State.frames_cons hr
      show ({ U with heap := s₂.heap, slotsUsed := s₂.slotsUsed } : State) = { U.setFrames U.frames with heap := s₂.heap, slotsUsed := s₂.slotsUsed }
      rw [State.setFrames_self ht]
    subst hg
    refine Or.inr ⟨q, ⟨(({ U with heap := s₂.heap, slotsUsed := s₂.slotsUsed } : State).setVm s₂.vm), Ls ++ L, c0 + mc, s0 + ms⟩,
      ⟨X.admits, X.cas, X.clock, X.frames, X.room, X.hears, X.method, X.code, (X.here.setHeapUsed s₂.heap s₂.slotsUsed).setVm hW'.alike, X.tail, State.WarmedH.trans X.warmed hW', X.limits, X.bytes, X.same.trans (hsame.setVm s.vm)⟩,
      ⟨g, mk, s₂, L, E, ce, rfl, rfl, hx, hce, hcv, hcl, rfl, hL, rfl, rfl⟩, ?_⟩
    show Steps p.tables e below _ (((({ U with heap := s₂.heap, slotsUsed := s₂.slotsUsed } : State).setVm s₂.vm).setTop g).pushFrame (.throwing q))
    rw [← hs₂]
    exact hsteps
end
variable {p : Program} {l : Launch} {e : Env} {R : Room} {s : State} {m : MethodId} {args : Array Value} {below : List Frame} {meth : Method} {c : Code} {T : State} {H : Heap} {locs : List Loc} {cells slots : Nat}
theorem vx_callVX (X : Stand p l e R s m args below meth c T locs cells slots) (hexec : p.tables.exec = Jvm.exec) {own C : String} {index : Nat} {y : MethodName} {bytes : ByteArray} {maxL : Nat} {ret : Option FieldType} {hh : List (Nat × Nat × Nat × Nat)}
    (hown : s.vm.findClass own = some m.cls) (hlink : (Cond.methodLink own index y).before args s = true) (hinst : (Cond.instanceMethod y).before args s = true) (hsel : (Cond.selects C y y).before args s = true)
    (hcode : (Cond.codeWith y bytes maxL ret hh).before args s = true) (hy : y.cls ≠ "java/lang/invoke/MethodHandle" ∧ y.cls ≠ "java/lang/invoke/VarHandle")
    {W9 : Nat} {Pre : Pt → Array Value → Prop} {Post : Pt → Array Value → Option Value → Pt → Prop} {PostX : Pt → Array Value → Addr → Pt → Prop} (hK : vx_Back l R p e below s args y 3 W9 Pre Post PostX)
    {b : Addr} {cellB : Cell} (hcell : T.heap[b]? = some cellB) (hobj : cellB.vm.isStatics = false) (hcls : s.vm.findClass C = some cellB.cls)
    {g : JFrame} (hg : g.method = m) (hsize : g.locals.size = c.maxLocals) {argsL rest : List Value} (hlen : ∀ sig, parseMethodDescriptor y.desc = some sig → argsL.length = sig.parameters.length)
    (hstack : g.stack = argsL.reverse ++ .ref b :: rest) (hW : 2 * g.monitorRoom + (rest.map fun v => v.category).sum ≤ W9) (hdg : decode c.code g.pc = .ok (.invokevirtual index, 3))
    (hpre : ∀ vm₁, s.WarmedH vm₁ → Pre ⟨T.setVm vm₁, locs, cells, slots⟩ (Value.ref b :: argsL).toArray) :
    (∃ (v : Option Value) (vm₁ : Vm) (B : Pt), s.WarmedH vm₁ ∧ Stand p l e R s m args below meth c B.U B.locs B.cells B.slots ∧ Post ⟨T.setVm vm₁, locs, cells, slots⟩ (Value.ref b :: argsL).toArray v B ∧
      ∀ target, Steps p.tables e below (B.U.setTop { g with pc := g.pc + 3, stack := v.toList ++ rest }) target → Steps p.tables e below (T.setTop g) target) ∨
    (∃ (q : Addr) (vm₁ : Vm) (B : Pt), s.WarmedH vm₁ ∧ Stand p l e R s m args below meth c B.U B.locs B.cells B.slots ∧ PostX ⟨T.setVm vm₁, locs, cells, slots⟩ (Value.ref b :: argsL).toArray q B ∧
      Steps p.tables e below (T.setTop g) ((B.U.setTop { g with stack := rest }).pushFrame (.throwing q))) := by
  obtain ⟨mk, methM, hnamed, hmethM, hstM, habM⟩ := Cond.instanceMethod_spec hinst
  obtain ⟨m8, methM', cM, hn8, hmethM', -, -, -, -, -, -, hsigM⟩ := Cond.codeWith_spec hcode
  cases Option.some.inj (hn8.symm.trans hnamed)
  cases hmethM.symm.trans hmethM'
  obtain ⟨c2, r2, m2, q1, q2, q3, q4, kP, hkP, hkPi⟩ := Cond.selects_spec hsel
  cases hcls.symm.trans q1
  cases (State.methodFound?_of_named hnamed hy).symm.trans q2
  cases hnamed.symm.trans q3
  have hselP : selectMethod e.platform s.vm cellB.cls mk = .method mk := by rw [Launch.admits_selectMethod X.admits]; exact q4
  obtain ⟨vm₁, X₁, hstep₁⟩ := X.invokevirtual hexec hown hlink hnamed hmethM hstM hkP hkPi hy (a := b) (cell := cellB) hcell
    (fun z h => by rw [h] at hobj; cases hobj) hselP hmethM habM hkP hkPi (g := g) hg (argsL := argsL) (rest := rest) (hlen _ hsigM) hstack hdg
  rcases hK m meth c ⟨T.setVm vm₁, locs, cells, slots⟩ { g with stack := rest } (.invokevirtual index) mk (Value.ref b :: argsL).toArray X₁ hg hsize hdg hW (X₁.named hnamed) (hpre vm₁ X₁.warmed) with ⟨v, B, X', hpost, hsteps⟩ | ⟨q, B, X', hpost, hsteps⟩
  · exact Or.inl ⟨v, vm₁, B, X₁.warmed, X', hpost, fun target h => hstep₁ _ fun acts => by rw [doInvoke_state]; exact hsteps.trans h⟩
  · exact Or.inr ⟨q, vm₁, B, X₁.warmed, X', hpost, hstep₁ _ fun acts => by rw [doInvoke_state]; exact hsteps⟩
theorem vx_callSX (X : Stand p l e R s m args below meth c T locs cells slots) (hexec : p.tables.exec = Jvm.exec) {own : String} {index : Nat} {y : MethodName} {bytes : ByteArray} {maxL : Nat} {ret : Option FieldType} {hh : List (Nat × Nat × Nat × Nat)}
    (hown : s.vm.findClass own = some m.cls) (hlink : (Cond.methodLink own index y).before args s = true) (hstat : (Cond.static y).before args s = true) (hinit : (Cond.initialized y.cls).before args s = true)
    (hcode : (Cond.codeWith y bytes maxL ret hh).before args s = true) (hy : y.cls ≠ "java/lang/invoke/MethodHandle" ∧ y.cls ≠ "java/lang/invoke/VarHandle")
    {W9 : Nat} {Pre : Pt → Array Value → Prop} {Post : Pt → Array Value → Option Value → Pt → Prop} {PostX : Pt → Array Value → Addr → Pt → Prop} (hK : vx_Back l R p e below s args y 3 W9 Pre Post PostX)
    {g : JFrame} (hg : g.method = m) (hsize : g.locals.size = c.maxLocals) {argsL rest : List Value} (hlen : ∀ sig, parseMethodDescriptor y.desc = some sig → argsL.length = sig.parameters.length)
    (hstack : g.stack = argsL.reverse ++ rest) (hW : 2 * g.monitorRoom + (rest.map fun v => v.category).sum ≤ W9) (hdg : decode c.code g.pc = .ok (.invokestatic index, 3))
    (hpre : ∀ vm₁, s.WarmedH vm₁ → Pre ⟨T.setVm vm₁, locs, cells, slots⟩ argsL.toArray) :
    (∃ (v : Option Value) (vm₁ : Vm) (B : Pt), s.WarmedH vm₁ ∧ Stand p l e R s m args below meth c B.U B.locs B.cells B.slots ∧ Post ⟨T.setVm vm₁, locs, cells, slots⟩ argsL.toArray v B ∧
      ∀ target, Steps p.tables e below (B.U.setTop { g with pc := g.pc + 3, stack := v.toList ++ rest }) target → Steps p.tables e below (T.setTop g) target) ∨
    (∃ (q : Addr) (vm₁ : Vm) (B : Pt), s.WarmedH vm₁ ∧ Stand p l e R s m args below meth c B.U B.locs B.cells B.slots ∧ PostX ⟨T.setVm vm₁, locs, cells, slots⟩ argsL.toArray q B ∧
      Steps p.tables e below (T.setTop g) ((B.U.setTop { g with stack := rest }).pushFrame (.throwing q))) := by
  obtain ⟨mk, methM, cM, hnamed, hmethM, -, -, -, -, -, -, hsigM⟩ := Cond.codeWith_spec hcode
  have hstatic : methM.isStatic = true := Cond.static_spec hnamed hmethM hstat
  obtain ⟨kP, hkP, -⟩ := className_of_methodNamed hnamed
  have hinitP : kP.init = .initialized := Cond.initialized_spec (findClass_of_methodNamed hnamed) hkP hinit
  obtain ⟨vm₁, X₁, hstep₁⟩ := X.invokestatic hexec hown hlink hnamed hmethM hstatic hkP hinitP hy (g := g) hg (argsL := argsL) (rest := rest) (hlen _ hsigM) hstack hdg
  rcases hK m meth c ⟨T.setVm vm₁, locs, cells, slots⟩ { g with stack := rest } (.invokestatic index) mk argsL.toArray X₁ hg hsize hdg hW (X₁.named hnamed) (hpre vm₁ X₁.warmed) with ⟨v, B, X', hpost, hsteps⟩ | ⟨q, B, X', hpost, hsteps⟩
  · exact Or.inl ⟨v, vm₁, B, X₁.warmed, X', hpost, fun target h => hstep₁ _ fun acts => by rw [doInvoke_state]; exact hsteps.trans h⟩
  · exact Or.inr ⟨q, vm₁, B, X₁.warmed, X', hpost, hstep₁ _ fun acts => by rw [doInvoke_state]; exact hsteps⟩
theorem vx_callVW (X : Stand p l e R s m args below meth c T locs cells slots) (hexec : p.tables.exec = Jvm.exec) {own C : String} {index : Nat} {y : MethodName} {bytes : ByteArray} {maxL : Nat} {ret : Option FieldType} {hh : List (Nat × Nat × Nat × Nat)}
    (hown : s.vm.findClass own = some m.cls) (hlink : (Cond.methodLink own index y).before args s = true) (hinst : (Cond.instanceMethod y).before args s = true) (hsel : (Cond.selects C y y).before args s = true)
    (hcode : (Cond.codeWith y bytes maxL ret hh).before args s = true) (hy : y.cls ≠ "java/lang/invoke/MethodHandle" ∧ y.cls ≠ "java/lang/invoke/VarHandle")
    {W9 : Nat} {Pre : Pt → Array Value → Prop} {Post : Pt → Array Value → Option Value → Pt → Prop} (hK : Back l R p e below s args y 3 W9 Pre Post)
    {b : Addr} {cellB : Cell} (hcell : T.heap[b]? = some cellB) (hobj : cellB.vm.isStatics = false) (hcls : s.vm.findClass C = some cellB.cls)
    {g : JFrame} (hg : g.method = m) (hsize : g.locals.size = c.maxLocals) {argsL rest : List Value} (hlen : ∀ sig, parseMethodDescriptor y.desc = some sig → argsL.length = sig.parameters.length)
    (hstack : g.stack = argsL.reverse ++ .ref b :: rest) (hW : 2 * g.monitorRoom + (rest.map fun v => v.category).sum ≤ W9) (hdg : decode c.code g.pc = .ok (.invokevirtual index, 3))
    (hpre : ∀ vm₁, s.WarmedH vm₁ → Pre ⟨T.setVm vm₁, locs, cells, slots⟩ (Value.ref b :: argsL).toArray) :
    ∃ (v : Option Value) (vm₁ : Vm) (B : Pt), s.WarmedH vm₁ ∧ Stand p l e R s m args below meth c B.U B.locs B.cells B.slots ∧ Post ⟨T.setVm vm₁, locs, cells, slots⟩ (Value.ref b :: argsL).toArray v B ∧
      ∀ target, Steps p.tables e below (B.U.setTop { g with pc := g.pc + 3, stack := v.toList ++ rest }) target → Steps p.tables e below (T.setTop g) target := by
  obtain ⟨mk, methM, hnamed, hmethM, hstM, habM⟩ := Cond.instanceMethod_spec hinst
  obtain ⟨m8, methM', cM, hn8, hmethM', -, -, -, -, -, -, hsigM⟩ := Cond.codeWith_spec hcode
  cases Option.some.inj (hn8.symm.trans hnamed)
  cases hmethM.symm.trans hmethM'
  obtain ⟨c2, r2, m2, q1, q2, q3, q4, kP, hkP, hkPi⟩ := Cond.selects_spec hsel
  cases hcls.symm.trans q1
  cases (State.methodFound?_of_named hnamed hy).symm.trans q2
  cases hnamed.symm.trans q3
  have hselP : selectMethod e.platform s.vm cellB.cls mk = .method mk := by rw [Launch.admits_selectMethod X.admits]; exact q4
  obtain ⟨vm₁, X₁, hstep₁⟩ := X.invokevirtual hexec hown hlink hnamed hmethM hstM hkP hkPi hy (a := b) (cell := cellB) hcell
    (fun z h => by rw [h] at hobj; cases hobj) hselP hmethM habM hkP hkPi (g := g) hg (argsL := argsL) (rest := rest) (hlen _ hsigM) hstack hdg
  obtain ⟨v, B, X', hpost, hsteps⟩ := hK m meth c ⟨T.setVm vm₁, locs, cells, slots⟩ { g with stack := rest } (.invokevirtual index) mk (Value.ref b :: argsL).toArray X₁ hg hsize hdg hW (X₁.named hnamed) (hpre vm₁ X₁.warmed)
  exact ⟨v, vm₁, B, X₁.warmed, X', hpost, fun target h => hstep₁ _ fun acts => by rw [doInvoke_state]; exact hsteps.trans h⟩
abbrev vx_CVW (R : Room) (s : State) (args : Array Value) (own C : String) (index : Nat) (y : MethodName) (bytes : ByteArray) (maxL : Nat) (ret : Option FieldType) (hh : List (Nat × Nat × Nat × Nat)) (ws : List Cond) (rm : Room) (mc ms n : Nat) : Prop :=
  (rm.cells = mc ∧ rm.slots = ms ∧ rm.frames + 1 ≤ R.frames ∧ 8 + (maxL + 11) + rm.locals ≤ R.locals ∧ (∀ w ∈ ws, ∀ (a' : Array Value) (U : State), s.WarmedH U.vm → w.before a' U = true) ∧ Cond.codeWith y bytes maxL ret hh ∈ ws) ∧
  (Cond.codeWith y bytes maxL ret hh).before args s = true ∧ (Cond.initialized y.cls).before args s = true ∧ (y.cls ≠ "java/lang/invoke/MethodHandle" ∧ y.cls ≠ "java/lang/invoke/VarHandle") ∧
  (∀ sig, parseMethodDescriptor y.desc = some sig → n = sig.parameters.length) ∧ (Cond.methodLink own index y).before args s = true ∧ (Cond.instanceMethod y).before args s = true ∧ (Cond.selects C y y).before args s = true
theorem vx_cwVW {own C : String} {index maxL mc ms : Nat} {y : MethodName} {bytes : ByteArray} {ret : Option FieldType} {hh : List (Nat × Nat × Nat × Nat)} {Ts ws ws' : List Cond} {rm : Room} (n : Nat) (ht : ∀ w ∈ Ts, w.before args s = true) (hT : GoodIn Ts (wsV own index C y ws)) (hw : ws = Cond.codeWith y bytes maxL ret hh :: ws') (hrc : rm.cells = mc) (hrs : rm.slots = ms)
    (hd : y.cls = C ∧ y.cls ≠ "java/lang/invoke/MethodHandle" ∧ y.cls ≠ "java/lang/invoke/VarHandle" ∧ (parseMethodDescriptor y.desc).map (fun d => d.parameters.length) = some n) (hR : rm.frames + 1 ≤ R.frames ∧ 8 + (maxL + 11) + rm.locals ≤ R.locals) :
    vx_CVW R s args own C index y bytes maxL ret hh ws rm mc ms n := by
  obtain ⟨hC, hd⟩ := hd
  subst hC
  have ok : ∀ w ∈ wsV own index y.cls y ws, w.before args s = true := fun w h => ht w (hT w h).1
  have hG : GoodIn Ts ws := fun w h => hT w (by unfold wsV; exact List.mem_append_right _ h)
  have hc : Cond.codeWith y bytes maxL ret hh ∈ ws := by rw [hw]; exact List.mem_cons_self
  refine ⟨⟨hrc, hrs, hR.1, hR.2, pay_in ht hG, hc⟩, ht _ (hG _ hc).1, ok _ (by simp [wsV]), ⟨hd.1, hd.2.1⟩, fun sig h => ?_, ok _ (by simp [wsV]), ok _ (by simp [wsV]), ok _ (by simp [wsV])⟩
  have h2 := hd.2.2
  rw [h] at h2
  exact (Option.some.inj h2).symm
theorem vx_runVW {y : MethodName} {bytes cc : ByteArray} {maxL nL mc ms n index : Nat} {ret : Option FieldType} {hh : List (Nat × Nat × Nat × Nat)} {ws : List Cond} {rm : Room} {Pc : Array Value → State → Prop} {Qc : Array Value → State → Outcome → State → Prop} {free : Addr → Prop} {Ts : List Cond} {own C : String} {b : Addr} {As rest : List Value} {g : JFrame}
    (S : CallFix p m c cc nL s args Ts own) (hM : Met l y ws rm Pc Qc mc ms free) (cw : vx_CVW R s args own C index y bytes maxL ret hh ws rm mc ms n) (hp : PreV s H C b Pc As)
    (hg : g.method = m) (hn : As.length = n) (hsize : g.locals.size = nL) (hstack : g.stack = As.reverse ++ .ref b :: rest) (hW : 2 * g.monitorRoom + (rest.map fun v => v.category).sum ≤ 8) (hdg : decode cc g.pc = .ok (.invokevirtual index, 3)) (hf : cells + mc ≤ R.cells ∧ slots + ms ≤ R.slots) :
    va_Run p l e R s m args below meth c H locs cells slots mc ms g rest (Qc (Value.ref b :: As).toArray) free := by
  obtain ⟨⟨hrc, hrs, hfr, hlo, hws, hcw⟩, hcode, hini, hy, hlen, hl, hin, hse⟩ := cw
  have hK : Back l R p e below s args y 3 8 (PreOf R mc ms Pc) (PostOf Qc mc ms free) := va_backW (hh := hh) (bytes := bytes) (maxL := maxL) (ret := ret) hM hp.1 hrc hrs hfr hlo hws hcw (fun a' U hW => word_at hW (Or.inl (by first | rfl | simp [Cond.onTables, Cond.keeps, Cond.steady])) hini)
  obtain ⟨hx, hb, hml, ho, -⟩ := S
  obtain ⟨-, ⟨cellB, hcB, hoB, hclB⟩, hPc⟩ := hp
  intro T hT X
  obtain ⟨v, vm₁, ⟨U', l2, c2, s2⟩, hW₁, X', ⟨g', mk, t, L, e1, e2, hq, h1, hL, h2, h3⟩, st⟩ := vx_callVW X hx (C := C) (hh := hh) (bytes := bytes) (maxL := maxL) (ret := ret) ho hl hin hse hcode hy hK (by rw [hT]; exact hcB) hoB hclB hg (hsize.trans hml.symm) (argsL := As) (rest := rest) (fun sig h => hn.trans (hlen sig h)) hstack hW (by rw [hb]; exact hdg)
    (fun vm₁ hW₁ => ⟨hf.1, hf.2, hPc (T.setVm vm₁) hT hW₁⟩)
  dsimp only [Pt.U, Pt.locs, Pt.cells, Pt.slots] at X' e1 e2 h1 h2 h3 st
  subst h1; subst h2; subst h3
  exact ⟨v, (T.setVm vm₁).calling g' mk (Value.ref b :: As).toArray, t, U', L, hT, X', hL, e1, e2, hq, st⟩
section
variable {y : MethodName} {bytes cc : ByteArray} {maxL nL mc ms n index : Nat} {ret : Option FieldType} {ws : List Cond} {rm : Room} {Pc : Array Value → State → Prop} {Qc : Array Value → State → Outcome → State → Prop} {XC : String → State → State → Prop} {free : Addr → Prop} {Ts : List Cond} {own C : String} {b : Addr} {As rest : List Value} {g : JFrame}
theorem vx_runVX {hh : List (Nat × Nat × Nat × Nat)} (S : CallFix p m c cc nL s args Ts own) (hM : vx_Met l y ws rm Pc Qc XC mc ms free) (cw : vx_CVW R s args own C index y bytes maxL ret hh ws rm mc ms n) (hp : PreV s H C b Pc As)
    (hg : g.method = m) (hn : As.length = n) (hsize : g.locals.size = nL) (hstack : g.stack = As.reverse ++ .ref b :: rest) (hW : 2 * g.monitorRoom + (rest.map fun v => v.category).sum ≤ 8) (hdg : decode cc g.pc = .ok (.invokevirtual index, 3)) (hf : cells + mc ≤ R.cells ∧ slots + ms ≤ R.slots) :
    vx_Run p l e R s m args below meth c H locs cells slots mc ms g rest (Qc (Value.ref b :: As).toArray) XC free := by
  obtain ⟨⟨hrc, hrs, hfr, hlo, hws, hcw⟩, hcode, hini, hy, hlen, hl, hin, hse⟩ := cw
  have hK : vx_Back l R p e below s args y 3 8 (PreOf R mc ms Pc) (PostOf Qc mc ms free) (vx_Post XC mc ms free) := vx_backW (hh := hh) (bytes := bytes) (maxL := maxL) (ret := ret) hM hp.1 hrc hrs hfr hlo hws hcw (fun a' U hW => word_at hW (Or.inl (by first | rfl | simp [Cond.onTables, Cond.keeps, Cond.steady])) hini)
  obtain ⟨hx, hb, hml, ho, -⟩ := S
  obtain ⟨-, ⟨cellB, hcB, hoB, hclB⟩, hPc⟩ := hp
  intro T hT X
  rcases vx_callVX X hx (C := C) (hh := hh) (bytes := bytes) (maxL := maxL) (ret := ret) ho hl hin hse hcode hy hK (by rw [hT]; exact hcB) hoB hclB hg (hsize.trans hml.symm) (argsL := As) (rest := rest) (fun sig h => hn.trans (hlen sig h)) hstack hW (by rw [hb]; exact hdg)
    (fun vm₁ hW₁ => ⟨hf.1, hf.2, hPc (T.setVm vm₁) hT hW₁⟩) with ⟨v, vm₁, ⟨U', l2, c2, s2⟩, hW₁, X', ⟨g', mk, t, L, e1, e2, hq, h1, hL, h2, h3⟩, st⟩ | ⟨q, vm₁, ⟨U', l2, c2, s2⟩, hW₁, X', ⟨g', mk, t, L, E, ce, e1, e2, hq, hce, hcv, hcl, h1, hL, h2, h3⟩, st⟩
  · dsimp only [Pt.U, Pt.locs, Pt.cells, Pt.slots] at X' e1 e2 h1 h2 h3 st
    subst h1; subst h2; subst h3
    exact Or.inl ⟨v, (T.setVm vm₁).calling g' mk (Value.ref b :: As).toArray, t, U', L, hT, X', hL, e1, e2, hq, st⟩
  · dsimp only [Pt.U, Pt.locs, Pt.cells, Pt.slots] at X' e1 e2 h1 h2 h3 st hcl
    subst h1; subst h2; subst h3
    exact Or.inr ⟨q, (T.setVm vm₁).calling g' mk (Value.ref b :: As).toArray, t, U', L, E, ce, hT, X', hL, e1, e2, hq, hce, hcv, vx_cls hW₁ hcl, st⟩
theorem vx_runSX {hh : List (Nat × Nat × Nat × Nat)} (S : CallFix p m c cc nL s args Ts own) (hM : vx_Met l y ws rm Pc Qc XC mc ms free) (cw : vx_CSW R s args own index y bytes maxL ret hh ws rm mc ms n) (hp : PreS s H Pc As)
    (hg : g.method = m) (hn : As.length = n) (hsize : g.locals.size = nL) (hstack : g.stack = As.reverse ++ rest) (hW : 2 * g.monitorRoom + (rest.map fun v => v.category).sum ≤ 8) (hdg : decode cc g.pc = .ok (.invokestatic index, 3)) (hf : cells + mc ≤ R.cells ∧ slots + ms ≤ R.slots) :
    vx_Run p l e R s m args below meth c H locs cells slots mc ms g rest (Qc As.toArray) XC free := by
  obtain ⟨⟨hrc, hrs, hfr, hlo, hws, hcw⟩, hcode, hini, hy, hlen, hl, hstt⟩ := cw
  have hK : vx_Back l R p e below s args y 3 8 (PreOf R mc ms Pc) (PostOf Qc mc ms free) (vx_Post XC mc ms free) := vx_backW (hh := hh) (bytes := bytes) (maxL := maxL) (ret := ret) hM hp.1 hrc hrs hfr hlo hws hcw (fun a' U hW => word_at hW (Or.inl (by first | rfl | simp [Cond.onTables, Cond.keeps, Cond.steady])) hini)
  obtain ⟨hx, hb, hml, ho, -⟩ := S
  intro T hT X
  rcases vx_callSX X hx (hh := hh) (bytes := bytes) (maxL := maxL) (ret := ret) ho hl hstt hini hcode hy hK hg (hsize.trans hml.symm) (argsL := As) (rest := rest) (fun sig h => hn.trans (hlen sig h)) hstack hW (by rw [hb]; exact hdg)
    (fun vm₁ hW₁ => ⟨hf.1, hf.2, hp.2 (T.setVm vm₁) hT hW₁⟩) with ⟨v, vm₁, ⟨U', l2, c2, s2⟩, hW₁, X', ⟨g', mk, t, L, e1, e2, hq, h1, hL, h2, h3⟩, st⟩ | ⟨q, vm₁, ⟨U', l2, c2, s2⟩, hW₁, X', ⟨g', mk, t, L, E, ce, e1, e2, hq, hce, hcv, hcl, h1, hL, h2, h3⟩, st⟩
  · dsimp only [Pt.U, Pt.locs, Pt.cells, Pt.slots] at X' e1 e2 h1 h2 h3 st
    subst h1; subst h2; subst h3
    exact Or.inl ⟨v, (T.setVm vm₁).calling g' mk As.toArray, t, U', L, hT, X', hL, e1, e2, hq, st⟩
  · dsimp only [Pt.U, Pt.locs, Pt.cells, Pt.slots] at X' e1 e2 h1 h2 h3 st hcl
    subst h1; subst h2; subst h3
    exact Or.inr ⟨q, (T.setVm vm₁).calling g' mk As.toArray, t, U', L, E, ce, hT, X', hL, e1, e2, hq, hce, hcv, vx_cls hW₁ hcl, st⟩
end
end VXH
theorem vx_ofWH {l : Launch} {y : MethodName} {ws ws' : List Cond} {rm : Room} {Pc : Array Value → State → Prop} {Qc : Array Value → State → Outcome → State → Prop} {XC : String → State → State → Prop} {mc ms : Nat} {free : Addr → Prop} {cc : ByteArray} {maxL : Nat} {ret : Option FieldType} {hh : List (Nat × Nat × Nat × Nat)}
    (hy : plainName y.cls = true) (hw : ws = Cond.codeWith y cc maxL ret hh :: ws')
    (body : ∀ p e s m args below meth c s₁, BodyLoose p l y (headSpec ws rm) cc maxL ret e s m args below meth c s₁ → c.maxLocals = maxL → Pc args s →
      W p l e (headSpec ws rm).room s m args below meth c s.heap [] 0 0 (vx_MQ below Qc XC args s mc ms free) (entryFrame m args maxL)) : vx_Met l y ws rm Pc Qc XC mc ms free := by
  refine MetFree.of_bodyS (code := cc) (maxLocals := maxL) (ret := ret) hy ?_ ?_
  · intro args s m h hn
    obtain ⟨m9, meth, c, hn9, h1, h2, h3, h4, -, h5, h6, -⟩ := Cond.codeWith_spec (atoms_spec (ws := ws) h _ (by rw [hw]; exact List.mem_cons_self))
    cases hn.symm.trans hn9
    exact ⟨meth, c, h1, h2, h3, h4, h5, h6⟩
  · intro p e s m args below meth c s₁ B hml hP _
    have hh0 : s₁.heap = s.heap := by rw [B.state]; rfl
    obtain ⟨t, a1, o, b1, b2, b3⟩ := body p e s m args below meth c s₁ B hml hP s₁ hh0 (Stand.of_body B)
    exact ⟨t, o, a1, b1, b2, b3⟩
/-! ===== END ===== -/
end
section
/-! names that a program printed for this claim, given for pasting: classes, fields, codes, methods -/
def RX0 : String := "LampRelay$Channel"
def TX0 : u_T := fun k => match k with
  | 0 => ("LampRelay$Channel", "power", "I", false)
  | 1 => ("LampRelay$Channel", "opening", "I", false)
  | 2 => ("LampRelay$Channel", "closing", "I", false)
  | 3 => ("LampRelay$Channel", "frame", "I", false)
  | 4 => ("LampRelay$Channel", "step", "I", false)
  | 5 => ("LampRelay$Channel", "number", "I", false)
  | 6 => ("LampRelay$Channel", "heardLetters", "I", false)
  | 7 => ("LampRelay$Channel", "heard", "[I", true)
  | 8 => ("LampRelay$Channel", "hasLost", "Z", false)
  | _ => ("LampRelay$Channel", "isGood", "Z", false)
def tyX0 : Nat → FieldType := fun k => match k with
  | 0 => .int
  | 1 => .int
  | 2 => .int
  | 3 => .int
  | 4 => .int
  | 5 => .int
  | 6 => .int
  | 7 => .array .int
  | 8 => .boolean
  | _ => .boolean
abbrev wsX00 : List Cond := u_ws RX0 TX0 10
theorem nmX0 : ∀ a, a < 10 → ∀ b, b < 10 → a ≠ b → (TX0 a).2.1 ≠ (TX0 b).2.1 := by decide +kernel
theorem tyX0_ok : ∀ k, k < 10 → parseFieldDescriptor (TX0 k).2.2.1 = some (tyX0 k) := by decide +kernel
abbrev cX0_init : ByteArray := prog_2_method_1_code
def yX0_init : MethodName := ⟨RX0, "<init>", "()V"⟩
abbrev cX0_clear : ByteArray := prog_2_method_2_code
def yX0_clear : MethodName := ⟨RX0, "clear", "()V"⟩
abbrev cX0_becomeIdle : ByteArray := prog_2_method_3_code
def yX0_becomeIdle : MethodName := ⟨RX0, "becomeIdle", "()V"⟩
abbrev cX0_take : ByteArray := prog_2_method_4_code
def yX0_take : MethodName := ⟨RX0, "take", "(I)V"⟩
abbrev cX0_copyFrom : ByteArray := prog_2_method_5_code
def yX0_copyFrom : MethodName := ⟨RX0, "copyFrom", "(LLampRelay$Channel;)V"⟩
abbrev cX0_figure : ByteArray := prog_2_method_6_code
def yX0_figure : MethodName := ⟨RX0, "figure", "(II)I"⟩
abbrev cX0_isIdle : ByteArray := prog_2_method_7_code
def yX0_isIdle : MethodName := ⟨RX0, "isIdle", "()Z"⟩
abbrev cX0_isOpenAt : ByteArray := prog_2_method_8_code
def yX0_isOpenAt : MethodName := ⟨RX0, "isOpenAt", "(I)Z"⟩
abbrev cX0_hear : ByteArray := prog_2_method_9_code
def yX0_hear : MethodName := ⟨RX0, "hear", "(I)V"⟩
abbrev cX0_judge : ByteArray := prog_2_method_10_code
def yX0_judge : MethodName := ⟨RX0, "judge", "(II)V"⟩
def RX1 : String := "LampRelay$History"
def TX1 : u_T := fun k => match k with
  | 0 => ("LampRelay$History", "ring", "[LLampRelay$World;", true)
  | 1 => ("LampRelay$History", "place", "I", false)
  | _ => ("LampRelay$History", "count", "I", false)
def tyX1 : Nat → FieldType := fun k => match k with
  | 0 => .array (.object "LampRelay$World")
  | 1 => .int
  | _ => .int
abbrev wsX10 : List Cond := u_ws RX1 TX1 3
theorem nmX1 : ∀ a, a < 3 → ∀ b, b < 3 → a ≠ b → (TX1 a).2.1 ≠ (TX1 b).2.1 := by decide +kernel
theorem tyX1_ok : ∀ k, k < 3 → parseFieldDescriptor (TX1 k).2.2.1 = some (tyX1 k) := by decide +kernel
abbrev cX1_init : ByteArray := prog_3_method_1_code
def yX1_init : MethodName := ⟨RX1, "<init>", "()V"⟩
abbrev cX1_keep : ByteArray := prog_3_method_2_code
def yX1_keep : MethodName := ⟨RX1, "keep", "(LLampRelay$World;)V"⟩
abbrev cX1_restore : ByteArray := prog_3_method_3_code
def yX1_restore : MethodName := ⟨RX1, "restore", "(LLampRelay$World;)Z"⟩
abbrev cX1_keptAt : ByteArray := prog_3_method_4_code
def yX1_keptAt : MethodName := ⟨RX1, "keptAt", "(I)LLampRelay$World;"⟩
def RX2 : String := "LampRelay$Keepers"
def TX2 : u_T := fun k => match k with
  | 0 => ("LampRelay$Keepers", "told", "I", false)
  | 1 => ("LampRelay$Keepers", "ticks", "[I", true)
  | _ => ("LampRelay$Keepers", "keys", "[I", true)
def tyX2 : Nat → FieldType := fun k => match k with
  | 0 => .int
  | 1 => .array .int
  | _ => .array .int
abbrev wsX20 : List Cond := u_ws RX2 TX2 3
theorem nmX2 : ∀ a, a < 3 → ∀ b, b < 3 → a ≠ b → (TX2 a).2.1 ≠ (TX2 b).2.1 := by decide +kernel
theorem tyX2_ok : ∀ k, k < 3 → parseFieldDescriptor (TX2 k).2.2.1 = some (tyX2 k) := by decide +kernel
abbrev cX2_init : ByteArray := prog_4_method_1_code
def yX2_init : MethodName := ⟨RX2, "<init>", "()V"⟩
abbrev cX2_copyFrom : ByteArray := prog_4_method_2_code
def yX2_copyFrom : MethodName := ⟨RX2, "copyFrom", "(LLampRelay$Keepers;)V"⟩
abbrev cX2_isFull : ByteArray := prog_4_method_3_code
def yX2_isFull : MethodName := ⟨RX2, "isFull", "()Z"⟩
abbrev cX2_hasOneAt : ByteArray := prog_4_method_4_code
def yX2_hasOneAt : MethodName := ⟨RX2, "hasOneAt", "(I)Z"⟩
abbrev cX2_placeOf : ByteArray := prog_4_method_5_code
def yX2_placeOf : MethodName := ⟨RX2, "placeOf", "(I)I"⟩
abbrev cX2_come : ByteArray := prog_4_method_6_code
def yX2_come : MethodName := ⟨RX2, "come", "(II)V"⟩
abbrev cX2_keyAt : ByteArray := prog_4_method_7_code
def yX2_keyAt : MethodName := ⟨RX2, "keyAt", "(I)I"⟩
def RX3 : String := "LampRelay$Message"
def TX3 : u_T := fun k => match k with
  | 0 => ("LampRelay$Message", "sender", "I", false)
  | 1 => ("LampRelay$Message", "urgency", "I", false)
  | 2 => ("LampRelay$Message", "length", "I", false)
  | 3 => ("LampRelay$Message", "frameSize", "I", false)
  | 4 => ("LampRelay$Message", "frames", "I", false)
  | 5 => ("LampRelay$Message", "phase", "I", false)
  | 6 => ("LampRelay$Message", "startTime", "I", false)
  | 7 => ("LampRelay$Message", "endTime", "I", false)
  | 8 => ("LampRelay$Message", "unfinished", "I", false)
  | 9 => ("LampRelay$Message", "letters", "[I", true)
  | 10 => ("LampRelay$Message", "log", "[I", true)
  | 11 => ("LampRelay$Message", "frameStates", "[I", true)
  | _ => ("LampRelay$Message", "tries", "[I", true)
def tyX3 : Nat → FieldType := fun k => match k with
  | 0 => .int
  | 1 => .int
  | 2 => .int
  | 3 => .int
  | 4 => .int
  | 5 => .int
  | 6 => .int
  | 7 => .int
  | 8 => .int
  | 9 => .array .int
  | 10 => .array .int
  | 11 => .array .int
  | _ => .array .int
abbrev wsX30 : List Cond := u_ws RX3 TX3 13
theorem nmX3 : ∀ a, a < 13 → ∀ b, b < 13 → a ≠ b → (TX3 a).2.1 ≠ (TX3 b).2.1 := by decide +kernel
theorem tyX3_ok : ∀ k, k < 13 → parseFieldDescriptor (TX3 k).2.2.1 = some (tyX3 k) := by decide +kernel
abbrev cX3_init : ByteArray := prog_5_method_1_code
def yX3_init : MethodName := ⟨RX3, "<init>", "()V"⟩
abbrev cX3_become : ByteArray := prog_5_method_2_code
def yX3_become : MethodName := ⟨RX3, "become", "(III)V"⟩
abbrev cX3_takeLetters : ByteArray := prog_5_method_3_code
def yX3_takeLetters : MethodName := ⟨RX3, "takeLetters", "([BII)V"⟩
abbrev cX3_copyFrom : ByteArray := prog_5_method_4_code
def yX3_copyFrom : MethodName := ⟨RX3, "copyFrom", "(LLampRelay$Message;)V"⟩
abbrev cX3_figure : ByteArray := prog_5_method_5_code
def yX3_figure : MethodName := ⟨RX3, "figure", "(I)I"⟩
abbrev cX3_emptyPlaces : ByteArray := prog_5_method_6_code
def yX3_emptyPlaces : MethodName := ⟨RX3, "emptyPlaces", "()I"⟩
abbrev cX3_wrongPlaces : ByteArray := prog_5_method_7_code
def yX3_wrongPlaces : MethodName := ⟨RX3, "wrongPlaces", "()I"⟩
abbrev cX3_allTries : ByteArray := prog_5_method_8_code
def yX3_allTries : MethodName := ⟨RX3, "allTries", "()I"⟩
abbrev cX3_agrees : ByteArray := prog_5_method_9_code
def yX3_agrees : MethodName := ⟨RX3, "agrees", "()Z"⟩
abbrev cX3_canBeCancelled : ByteArray := prog_5_method_10_code
def yX3_canBeCancelled : MethodName := ⟨RX3, "canBeCancelled", "()Z"⟩
abbrev cX3_hasPlace : ByteArray := prog_5_method_11_code
def yX3_hasPlace : MethodName := ⟨RX3, "hasPlace", "(I)Z"⟩
abbrev cX3_letterAt : ByteArray := prog_5_method_12_code
def yX3_letterAt : MethodName := ⟨RX3, "letterAt", "(I)I"⟩
abbrev cX3_loggedAt : ByteArray := prog_5_method_13_code
def yX3_loggedAt : MethodName := ⟨RX3, "loggedAt", "(I)I"⟩
abbrev cX3_reasonAt : ByteArray := prog_5_method_14_code
def yX3_reasonAt : MethodName := ⟨RX3, "reasonAt", "(I)I"⟩
abbrev cX3_addedTo : ByteArray := prog_5_method_15_code
def yX3_addedTo : MethodName := ⟨RX3, "addedTo", "(J)J"⟩
abbrev cX3_start : ByteArray := prog_5_method_16_code
def yX3_start : MethodName := ⟨RX3, "start", "(I)V"⟩
abbrev cX3_end : ByteArray := prog_5_method_17_code
def yX3_end : MethodName := ⟨RX3, "end", "(II)V"⟩
abbrev cX3_takeOpenFrame : ByteArray := prog_5_method_18_code
def yX3_takeOpenFrame : MethodName := ⟨RX3, "takeOpenFrame", "()I"⟩
abbrev cX3_firstPlaceOf : ByteArray := prog_5_method_19_code
def yX3_firstPlaceOf : MethodName := ⟨RX3, "firstPlaceOf", "(I)I"⟩
abbrev cX3_lettersIn : ByteArray := prog_5_method_20_code
def yX3_lettersIn : MethodName := ⟨RX3, "lettersIn", "(I)I"⟩
abbrev cX3_checkOf : ByteArray := prog_5_method_21_code
def yX3_checkOf : MethodName := ⟨RX3, "checkOf", "(I)I"⟩
abbrev cX3_writeDown : ByteArray := prog_5_method_22_code
def yX3_writeDown : MethodName := ⟨RX3, "writeDown", "(I[II)V"⟩
abbrev cX3_endTry : ByteArray := prog_5_method_23_code
def yX3_endTry : MethodName := ⟨RX3, "endTry", "(IZI)Z"⟩
def RX4 : String := "LampRelay$Mists"
def TX4 : u_T := fun k => match k with
  | 0 => ("LampRelay$Mists", "told", "I", false)
  | 1 => ("LampRelay$Mists", "firsts", "[I", true)
  | 2 => ("LampRelay$Mists", "lasts", "[I", true)
  | _ => ("LampRelay$Mists", "levels", "[I", true)
def tyX4 : Nat → FieldType := fun k => match k with
  | 0 => .int
  | 1 => .array .int
  | 2 => .array .int
  | _ => .array .int
abbrev wsX40 : List Cond := u_ws RX4 TX4 4
theorem nmX4 : ∀ a, a < 4 → ∀ b, b < 4 → a ≠ b → (TX4 a).2.1 ≠ (TX4 b).2.1 := by decide +kernel
theorem tyX4_ok : ∀ k, k < 4 → parseFieldDescriptor (TX4 k).2.2.1 = some (tyX4 k) := by decide +kernel
abbrev cX4_init : ByteArray := prog_6_method_1_code
def yX4_init : MethodName := ⟨RX4, "<init>", "()V"⟩
abbrev cX4_copyFrom : ByteArray := prog_6_method_2_code
def yX4_copyFrom : MethodName := ⟨RX4, "copyFrom", "(LLampRelay$Mists;)V"⟩
abbrev cX4_isFull : ByteArray := prog_6_method_3_code
def yX4_isFull : MethodName := ⟨RX4, "isFull", "()Z"⟩
abbrev cX4_add : ByteArray := prog_6_method_4_code
def yX4_add : MethodName := ⟨RX4, "add", "(III)V"⟩
abbrev cX4_levelAt : ByteArray := prog_6_method_5_code
def yX4_levelAt : MethodName := ⟨RX4, "levelAt", "(I)I"⟩
def RX5 : String := "LampRelay$SetupReader"
def TX5 : u_T := fun k => match k with
  | 0 => ("LampRelay$SetupReader", "text", "[B", true)
  | 1 => ("LampRelay$SetupReader", "length", "I", true)
  | 2 => ("LampRelay$SetupReader", "at", "I", false)
  | 3 => ("LampRelay$SetupReader", "tokenAt", "I", false)
  | 4 => ("LampRelay$SetupReader", "channelsTold", "I", false)
  | 5 => ("LampRelay$SetupReader", "errorCode", "I", false)
  | _ => ("LampRelay$SetupReader", "errorAt", "I", false)
def tyX5 : Nat → FieldType := fun k => match k with
  | 0 => .array .byte
  | 1 => .int
  | 2 => .int
  | 3 => .int
  | 4 => .int
  | 5 => .int
  | _ => .int
abbrev wsX50 : List Cond := u_ws RX5 TX5 7
theorem nmX5 : ∀ a, a < 7 → ∀ b, b < 7 → a ≠ b → (TX5 a).2.1 ≠ (TX5 b).2.1 := by decide +kernel
theorem tyX5_ok : ∀ k, k < 7 → parseFieldDescriptor (TX5 k).2.2.1 = some (tyX5 k) := by decide +kernel
abbrev cX5_init : ByteArray := prog_7_method_1_code
def yX5_init : MethodName := ⟨RX5, "<init>", "([BI)V"⟩
abbrev cX5_readInto : ByteArray := prog_7_method_2_code
def yX5_readInto : MethodName := ⟨RX5, "readInto", "(LLampRelay$World;)Z"⟩
abbrev cX5_readRelay : ByteArray := prog_7_method_3_code
def yX5_readRelay : MethodName := ⟨RX5, "readRelay", "(LLampRelay$World;)Z"⟩
abbrev cX5_readStatement : ByteArray := prog_7_method_4_code
def yX5_readStatement : MethodName := ⟨RX5, "readStatement", "(LLampRelay$World;)Z"⟩
abbrev cX5_readChannel : ByteArray := prog_7_method_5_code
def yX5_readChannel : MethodName := ⟨RX5, "readChannel", "(LLampRelay$World;)Z"⟩
abbrev cX5_readKeeper : ByteArray := prog_7_method_6_code
def yX5_readKeeper : MethodName := ⟨RX5, "readKeeper", "(LLampRelay$World;)Z"⟩
abbrev cX5_readMist : ByteArray := prog_7_method_7_code
def yX5_readMist : MethodName := ⟨RX5, "readMist", "(LLampRelay$World;)Z"⟩
abbrev cX5_readMessage : ByteArray := prog_7_method_8_code
def yX5_readMessage : MethodName := ⟨RX5, "readMessage", "(LLampRelay$World;)Z"⟩
abbrev cX5_isError : ByteArray := prog_7_method_9_code
def yX5_isError : MethodName := ⟨RX5, "isError", "(I)Z"⟩
abbrev cX5_findToken : ByteArray := prog_7_method_10_code
def yX5_findToken : MethodName := ⟨RX5, "findToken", "()Z"⟩
abbrev cX5_readWord : ByteArray := prog_7_method_11_code
def yX5_readWord : MethodName := ⟨RX5, "readWord", "()V"⟩
abbrev cX5_readNumber : ByteArray := prog_7_method_12_code
def yX5_readNumber : MethodName := ⟨RX5, "readNumber", "(II)I"⟩
abbrev cX5_readSemicolon : ByteArray := prog_7_method_13_code
def yX5_readSemicolon : MethodName := ⟨RX5, "readSemicolon", "()Z"⟩
abbrev cX5_isToken : ByteArray := prog_7_method_14_code
def yX5_isToken : MethodName := ⟨RX5, "isToken", "(Ljava/lang/String;)Z"⟩
abbrev cX5_byteAt : ByteArray := prog_7_method_15_code
def yX5_byteAt : MethodName := ⟨RX5, "byteAt", "(I)I"⟩
def RX6 : String := "LampRelay$World"
def TX6 : u_T := fun k => match k with
  | 0 => ("LampRelay$World", "time", "I", false)
  | 1 => ("LampRelay$World", "told", "I", false)
  | 2 => ("LampRelay$World", "onTheWay", "I", false)
  | 3 => ("LampRelay$World", "frameSize", "I", false)
  | 4 => ("LampRelay$World", "limit", "I", false)
  | 5 => ("LampRelay$World", "sent", "I", false)
  | 6 => ("LampRelay$World", "lost", "I", false)
  | 7 => ("LampRelay$World", "garbled", "I", false)
  | 8 => ("LampRelay$World", "givenUp", "I", false)
  | 9 => ("LampRelay$World", "messages", "[LLampRelay$Message;", true)
  | 10 => ("LampRelay$World", "noMessage", "LLampRelay$Message;", true)
  | 11 => ("LampRelay$World", "channel0", "LLampRelay$Channel;", true)
  | 12 => ("LampRelay$World", "channel1", "LLampRelay$Channel;", true)
  | 13 => ("LampRelay$World", "keepers0", "LLampRelay$Keepers;", true)
  | 14 => ("LampRelay$World", "keepers1", "LLampRelay$Keepers;", true)
  | _ => ("LampRelay$World", "mists", "LLampRelay$Mists;", true)
def tyX6 : Nat → FieldType := fun k => match k with
  | 0 => .int
  | 1 => .int
  | 2 => .int
  | 3 => .int
  | 4 => .int
  | 5 => .int
  | 6 => .int
  | 7 => .int
  | 8 => .int
  | 9 => .array (.object "LampRelay$Message")
  | 10 => .object "LampRelay$Message"
  | 11 => .object "LampRelay$Channel"
  | 12 => .object "LampRelay$Channel"
  | 13 => .object "LampRelay$Keepers"
  | 14 => .object "LampRelay$Keepers"
  | _ => .object "LampRelay$Mists"
abbrev wsX60 : List Cond := u_ws RX6 TX6 16
theorem nmX6 : ∀ a, a < 16 → ∀ b, b < 16 → a ≠ b → (TX6 a).2.1 ≠ (TX6 b).2.1 := by decide +kernel
theorem tyX6_ok : ∀ k, k < 16 → parseFieldDescriptor (TX6 k).2.2.1 = some (tyX6 k) := by decide +kernel
abbrev cX6_init : ByteArray := prog_8_method_1_code
def yX6_init : MethodName := ⟨RX6, "<init>", "()V"⟩
abbrev cX6_clear : ByteArray := prog_8_method_2_code
def yX6_clear : MethodName := ⟨RX6, "clear", "(II)V"⟩
abbrev cX6_copyFrom : ByteArray := prog_8_method_3_code
def yX6_copyFrom : MethodName := ⟨RX6, "copyFrom", "(LLampRelay$World;)V"⟩
abbrev cX6_hasMessage : ByteArray := prog_8_method_4_code
def yX6_hasMessage : MethodName := ⟨RX6, "hasMessage", "(I)Z"⟩
abbrev cX6_messageNumbered : ByteArray := prog_8_method_5_code
def yX6_messageNumbered : MethodName := ⟨RX6, "messageNumbered", "(I)LLampRelay$Message;"⟩
abbrev cX6_channelNumbered : ByteArray := prog_8_method_6_code
def yX6_channelNumbered : MethodName := ⟨RX6, "channelNumbered", "(I)LLampRelay$Channel;"⟩
abbrev cX6_keepersOf : ByteArray := prog_8_method_7_code
def yX6_keepersOf : MethodName := ⟨RX6, "keepersOf", "(I)LLampRelay$Keepers;"⟩
abbrev cX6_addMessage : ByteArray := prog_8_method_8_code
def yX6_addMessage : MethodName := ⟨RX6, "addMessage", "(II[BII)V"⟩
abbrev cX6_figure : ByteArray := prog_8_method_9_code
def yX6_figure : MethodName := ⟨RX6, "figure", "(I)I"⟩
abbrev cX6_messagesIn : ByteArray := prog_8_method_10_code
def yX6_messagesIn : MethodName := ⟨RX6, "messagesIn", "(I)I"⟩
abbrev cX6_agreeing : ByteArray := prog_8_method_11_code
def yX6_agreeing : MethodName := ⟨RX6, "agreeing", "()I"⟩
abbrev cX6_isBusy : ByteArray := prog_8_method_12_code
def yX6_isBusy : MethodName := ⟨RX6, "isBusy", "()Z"⟩
abbrev cX6_servedAs : ByteArray := prog_8_method_13_code
def yX6_servedAs : MethodName := ⟨RX6, "servedAs", "(I)I"⟩
abbrev cX6_servedBefore : ByteArray := prog_8_method_14_code
def yX6_servedBefore : MethodName := ⟨RX6, "servedBefore", "(I)I"⟩
abbrev cX6_takeBack : ByteArray := prog_8_method_15_code
def yX6_takeBack : MethodName := ⟨RX6, "takeBack", "(I)Z"⟩
abbrev cX6_letForetoldTicksPass : ByteArray := prog_8_method_16_code
def yX6_letForetoldTicksPass : MethodName := ⟨RX6, "letForetoldTicksPass", "(Z)Z"⟩
abbrev cX6_letTickPass : ByteArray := prog_8_method_17_code
def yX6_letTickPass : MethodName := ⟨RX6, "letTickPass", "()I"⟩
abbrev cX6_startFirstWaiting : ByteArray := prog_8_method_18_code
def yX6_startFirstWaiting : MethodName := ⟨RX6, "startFirstWaiting", "()V"⟩
abbrev cX6_serve : ByteArray := prog_8_method_19_code
def yX6_serve : MethodName := ⟨RX6, "serve", "(LLampRelay$Channel;I)V"⟩
abbrev cX6_countSymbol : ByteArray := prog_8_method_20_code
def yX6_countSymbol : MethodName := ⟨RX6, "countSymbol", "(ZZ)V"⟩
abbrev cX6_makeStep : ByteArray := prog_8_method_21_code
def yX6_makeStep : MethodName := ⟨RX6, "makeStep", "(LLampRelay$Channel;LLampRelay$Message;ZZ)V"⟩
def RX7 : String := "LampRelay"
def TX7 : u_T := fun k => match k with
  | 0 => ("LampRelay", "buffer", "[B", true)
  | 1 => ("LampRelay", "bufferLength", "I", false)
  | 2 => ("LampRelay", "foundErrorOffset", "I", false)
  | 3 => ("LampRelay", "now", "LLampRelay$World;", true)
  | 4 => ("LampRelay", "trial", "LLampRelay$World;", true)
  | _ => ("LampRelay", "history", "LLampRelay$History;", true)
def tyX7 : Nat → FieldType := fun k => match k with
  | 0 => .array .byte
  | 1 => .int
  | 2 => .int
  | 3 => .object "LampRelay$World"
  | 4 => .object "LampRelay$World"
  | _ => .object "LampRelay$History"
abbrev wsX70 : List Cond := u_ws RX7 TX7 6
theorem nmX7 : ∀ a, a < 6 → ∀ b, b < 6 → a ≠ b → (TX7 a).2.1 ≠ (TX7 b).2.1 := by decide +kernel
theorem tyX7_ok : ∀ k, k < 6 → parseFieldDescriptor (TX7 k).2.2.1 = some (tyX7 k) := by decide +kernel
abbrev cX7_init : ByteArray := prog_1_method_1_code
def yX7_init : MethodName := ⟨RX7, "<init>", "()V"⟩
abbrev cX7_append : ByteArray := prog_1_method_2_code
def yX7_append : MethodName := ⟨RX7, "append", "(IIIII)I"⟩
abbrev cX7_load : ByteArray := prog_1_method_3_code
def yX7_load : MethodName := ⟨RX7, "load", "(I)I"⟩
abbrev cX7_errorOffset : ByteArray := prog_1_method_4_code
def yX7_errorOffset : MethodName := ⟨RX7, "errorOffset", "()I"⟩
abbrev cX7_state : ByteArray := prog_1_method_5_code
def yX7_state : MethodName := ⟨RX7, "state", "(I)I"⟩
abbrev cX7_channel : ByteArray := prog_1_method_6_code
def yX7_channel : MethodName := ⟨RX7, "channel", "(II)I"⟩
abbrev cX7_message : ByteArray := prog_1_method_7_code
def yX7_message : MethodName := ⟨RX7, "message", "(II)I"⟩
abbrev cX7_letter : ByteArray := prog_1_method_8_code
def yX7_letter : MethodName := ⟨RX7, "letter", "(IIZ)I"⟩
abbrev cX7_why : ByteArray := prog_1_method_9_code
def yX7_why : MethodName := ⟨RX7, "why", "(II)I"⟩
abbrev cX7_mist : ByteArray := prog_1_method_10_code
def yX7_mist : MethodName := ⟨RX7, "mist", "(I)I"⟩
abbrev cX7_key : ByteArray := prog_1_method_11_code
def yX7_key : MethodName := ⟨RX7, "key", "(II)I"⟩
abbrev cX7_next : ByteArray := prog_1_method_12_code
def yX7_next : MethodName := ⟨RX7, "next", "(I)I"⟩
abbrev cX7_foretold : ByteArray := prog_1_method_13_code
def yX7_foretold : MethodName := ⟨RX7, "foretold", "(I)I"⟩
abbrev cX7_leastPower : ByteArray := prog_1_method_14_code
def yX7_leastPower : MethodName := ⟨RX7, "leastPower", "(I)I"⟩
abbrev cX7_pass : ByteArray := prog_1_method_16_code
def yX7_pass : MethodName := ⟨RX7, "pass", "(I)I"⟩
abbrev cX7_send : ByteArray := prog_1_method_17_code
def yX7_send : MethodName := ⟨RX7, "send", "(III)I"⟩
abbrev cX7_fog : ByteArray := prog_1_method_18_code
def yX7_fog : MethodName := ⟨RX7, "fog", "(III)I"⟩
abbrev cX7_relieve : ByteArray := prog_1_method_19_code
def yX7_relieve : MethodName := ⟨RX7, "relieve", "(II)I"⟩
abbrev cX7_power : ByteArray := prog_1_method_20_code
def yX7_power : MethodName := ⟨RX7, "power", "(II)I"⟩
abbrev cX7_cancel : ByteArray := prog_1_method_21_code
def yX7_cancel : MethodName := ⟨RX7, "cancel", "(I)Z"⟩
abbrev cX7_undo : ByteArray := prog_1_method_22_code
def yX7_undo : MethodName := ⟨RX7, "undo", "()I"⟩
abbrev cX7_checksum : ByteArray := prog_1_method_23_code
def yX7_checksum : MethodName := ⟨RX7, "checksum", "()J"⟩
abbrev cX7_appendWord : ByteArray := prog_1_method_24_code
def yX7_appendWord : MethodName := ⟨RX7, "appendWord", "(I)V"⟩
abbrev cX7_buffersLetters : ByteArray := prog_1_method_25_code
def yX7_buffersLetters : MethodName := ⟨RX7, "buffersLetters", "(I)Z"⟩
abbrev cX7_isWithin : ByteArray := prog_1_method_26_code
def yX7_isWithin : MethodName := ⟨RX7, "isWithin", "(III)Z"⟩
abbrev cX7_valueAt : ByteArray := prog_1_method_27_code
def yX7_valueAt : MethodName := ⟨RX7, "valueAt", "([II)I"⟩
abbrev cX7_setAt : ByteArray := prog_1_method_28_code
def yX7_setAt : MethodName := ⟨RX7, "setAt", "([III)V"⟩
abbrev cX7_copyRow : ByteArray := prog_1_method_29_code
def yX7_copyRow : MethodName := ⟨RX7, "copyRow", "([I[I)V"⟩
def RX8 : String := "LampRelayLaw$Frame"
def TX8 : u_T := fun k => match k with
  | 0 => ("LampRelayLaw$Frame", "state", "I", false)
  | _ => ("LampRelayLaw$Frame", "tries", "I", false)
def tyX8 : Nat → FieldType := fun k => match k with
  | 0 => .int
  | _ => .int
abbrev wsX80 : List Cond := u_ws RX8 TX8 2
theorem nmX8 : ∀ a, a < 2 → ∀ b, b < 2 → a ≠ b → (TX8 a).2.1 ≠ (TX8 b).2.1 := by decide +kernel
theorem tyX8_ok : ∀ k, k < 2 → parseFieldDescriptor (TX8 k).2.2.1 = some (tyX8 k) := by decide +kernel
abbrev cX8_init : ByteArray := prog_10_method_1_code
def yX8_init : MethodName := ⟨RX8, "<init>", "()V"⟩
abbrev cX8_copy : ByteArray := prog_10_method_2_code
def yX8_copy : MethodName := ⟨RX8, "copy", "()LLampRelayLaw$Frame;"⟩
def RX9 : String := "LampRelayLaw$Lamp"
def TX9 : u_T := fun k => match k with
  | 0 => ("LampRelayLaw$Lamp", "power", "I", false)
  | 1 => ("LampRelayLaw$Lamp", "opens", "I", false)
  | 2 => ("LampRelayLaw$Lamp", "closes", "I", false)
  | 3 => ("LampRelayLaw$Lamp", "work", "I", false)
  | 4 => ("LampRelayLaw$Lamp", "step", "I", false)
  | 5 => ("LampRelayLaw$Lamp", "isLost", "Z", false)
  | 6 => ("LampRelayLaw$Lamp", "number", "I", false)
  | 7 => ("LampRelayLaw$Lamp", "came", "[I", false)
  | _ => ("LampRelayLaw$Lamp", "isGood", "Z", false)
def tyX9 : Nat → FieldType := fun k => match k with
  | 0 => .int
  | 1 => .int
  | 2 => .int
  | 3 => .int
  | 4 => .int
  | 5 => .boolean
  | 6 => .int
  | 7 => .array .int
  | _ => .boolean
abbrev wsX90 : List Cond := u_ws RX9 TX9 9
theorem nmX9 : ∀ a, a < 9 → ∀ b, b < 9 → a ≠ b → (TX9 a).2.1 ≠ (TX9 b).2.1 := by decide +kernel
theorem tyX9_ok : ∀ k, k < 9 → parseFieldDescriptor (TX9 k).2.2.1 = some (tyX9 k) := by decide +kernel
abbrev cX9_init : ByteArray := prog_11_method_1_code
def yX9_init : MethodName := ⟨RX9, "<init>", "()V"⟩
abbrev cX9_copy : ByteArray := prog_11_method_2_code
def yX9_copy : MethodName := ⟨RX9, "copy", "()LLampRelayLaw$Lamp;"⟩
abbrev cX9_isOpen : ByteArray := prog_11_method_3_code
def yX9_isOpen : MethodName := ⟨RX9, "isOpen", "(I)Z"⟩
def RX10 : String := "LampRelayLaw$Line"
def TX10 : u_T := fun k => match k with
  | 0 => ("LampRelayLaw$Line", "lamps", "[LLampRelayLaw$Lamp;", false)
  | 1 => ("LampRelayLaw$Line", "talks", "[LLampRelayLaw$Talk;", false)
  | 2 => ("LampRelayLaw$Line", "keepers", "[[I", false)
  | 3 => ("LampRelayLaw$Line", "mists", "[[I", false)
  | 4 => ("LampRelayLaw$Line", "size", "I", false)
  | 5 => ("LampRelayLaw$Line", "limit", "I", false)
  | 6 => ("LampRelayLaw$Line", "time", "I", false)
  | 7 => ("LampRelayLaw$Line", "onWay", "I", false)
  | 8 => ("LampRelayLaw$Line", "sent", "I", false)
  | 9 => ("LampRelayLaw$Line", "lost", "I", false)
  | 10 => ("LampRelayLaw$Line", "garbled", "I", false)
  | _ => ("LampRelayLaw$Line", "given", "I", false)
def tyX10 : Nat → FieldType := fun k => match k with
  | 0 => .array (.object "LampRelayLaw$Lamp")
  | 1 => .array (.object "LampRelayLaw$Talk")
  | 2 => .array (.array .int)
  | 3 => .array (.array .int)
  | 4 => .int
  | 5 => .int
  | 6 => .int
  | 7 => .int
  | 8 => .int
  | 9 => .int
  | 10 => .int
  | _ => .int
abbrev wsX100 : List Cond := u_ws RX10 TX10 12
theorem nmX10 : ∀ a, a < 12 → ∀ b, b < 12 → a ≠ b → (TX10 a).2.1 ≠ (TX10 b).2.1 := by decide +kernel
theorem tyX10_ok : ∀ k, k < 12 → parseFieldDescriptor (TX10 k).2.2.1 = some (tyX10 k) := by decide +kernel
abbrev cX10_init : ByteArray := prog_12_method_1_code
def yX10_init : MethodName := ⟨RX10, "<init>", "()V"⟩
abbrev cX10_copy : ByteArray := prog_12_method_2_code
def yX10_copy : MethodName := ⟨RX10, "copy", "()LLampRelayLaw$Line;"⟩
abbrev cX10_adds : ByteArray := prog_12_method_3_code
def yX10_adds : MethodName := ⟨RX10, "adds", "(IILjava/lang/String;)V"⟩
abbrev cX10_mist : ByteArray := prog_12_method_4_code
def yX10_mist : MethodName := ⟨RX10, "mist", "(I)I"⟩
abbrev cX10_key : ByteArray := prog_12_method_5_code
def yX10_key : MethodName := ⟨RX10, "key", "(II)I"⟩
abbrev cX10_air : ByteArray := prog_12_method_6_code
def yX10_air : MethodName := ⟨RX10, "air", "(LLampRelayLaw$Lamp;)I"⟩
abbrev cX10_letters : ByteArray := prog_12_method_7_code
def yX10_letters : MethodName := ⟨RX10, "letters", "(LLampRelayLaw$Talk;I)I"⟩
abbrev cX10_steps : ByteArray := prog_12_method_8_code
def yX10_steps : MethodName := ⟨RX10, "steps", "(LLampRelayLaw$Talk;LLampRelayLaw$Lamp;)V"⟩
abbrev cX10_next : ByteArray := prog_12_method_9_code
def yX10_next : MethodName := ⟨RX10, "next", "(I)I"⟩
abbrev cX10_ticks : ByteArray := prog_12_method_10_code
def yX10_ticks : MethodName := ⟨RX10, "ticks", "()I"⟩
abbrev cX10_inState : ByteArray := prog_12_method_11_code
def yX10_inState : MethodName := ⟨RX10, "inState", "(I)I"⟩
abbrev cX10_agreeing : ByteArray := prog_12_method_12_code
def yX10_agreeing : MethodName := ⟨RX10, "agreeing", "()I"⟩
abbrev cX10_cancels : ByteArray := prog_12_method_15_code
def yX10_cancels : MethodName := ⟨RX10, "cancels", "(I)Z"⟩
abbrev cX10_why : ByteArray := prog_12_method_16_code
def yX10_why : MethodName := ⟨RX10, "why", "(II)I"⟩
abbrev cX10_told : ByteArray := prog_12_method_17_code
def yX10_told : MethodName := ⟨RX10, "told", "(I)I"⟩
abbrev cX10_ofLamp : ByteArray := prog_12_method_18_code
def yX10_ofLamp : MethodName := ⟨RX10, "ofLamp", "(II)I"⟩
abbrev cX10_ofTalk : ByteArray := prog_12_method_19_code
def yX10_ofTalk : MethodName := ⟨RX10, "ofTalk", "(II)I"⟩
abbrev cX10_checksum : ByteArray := prog_12_method_20_code
def yX10_checksum : MethodName := ⟨RX10, "checksum", "()J"⟩
def RX11 : String := "LampRelayLaw$Random"
def TX11 : u_T := fun k => match k with
  | _ => ("LampRelayLaw$Random", "seed", "I", false)
def tyX11 : Nat → FieldType := fun k => match k with
  | _ => .int
abbrev wsX110 : List Cond := u_ws RX11 TX11 1
theorem nmX11 : ∀ a, a < 1 → ∀ b, b < 1 → a ≠ b → (TX11 a).2.1 ≠ (TX11 b).2.1 := by decide +kernel
theorem tyX11_ok : ∀ k, k < 1 → parseFieldDescriptor (TX11 k).2.2.1 = some (tyX11 k) := by decide +kernel
abbrev cX11_init : ByteArray := prog_13_method_1_code
def yX11_init : MethodName := ⟨RX11, "<init>", "(I)V"⟩
abbrev cX11_below : ByteArray := prog_13_method_2_code
def yX11_below : MethodName := ⟨RX11, "below", "(I)I"⟩
def RX12 : String := "LampRelayLaw$Talk"
def TX12 : u_T := fun k => match k with
  | 0 => ("LampRelayLaw$Talk", "sender", "I", false)
  | 1 => ("LampRelayLaw$Talk", "urgency", "I", false)
  | 2 => ("LampRelayLaw$Talk", "word", "Ljava/lang/String;", false)
  | 3 => ("LampRelayLaw$Talk", "log", "[I", false)
  | 4 => ("LampRelayLaw$Talk", "frames", "[LLampRelayLaw$Frame;", false)
  | 5 => ("LampRelayLaw$Talk", "state", "I", false)
  | 6 => ("LampRelayLaw$Talk", "began", "I", false)
  | _ => ("LampRelayLaw$Talk", "ended", "I", false)
def tyX12 : Nat → FieldType := fun k => match k with
  | 0 => .int
  | 1 => .int
  | 2 => .object "java/lang/String"
  | 3 => .array .int
  | 4 => .array (.object "LampRelayLaw$Frame")
  | 5 => .int
  | 6 => .int
  | _ => .int
abbrev wsX120 : List Cond := u_ws RX12 TX12 8
theorem nmX12 : ∀ a, a < 8 → ∀ b, b < 8 → a ≠ b → (TX12 a).2.1 ≠ (TX12 b).2.1 := by decide +kernel
theorem tyX12_ok : ∀ k, k < 8 → parseFieldDescriptor (TX12 k).2.2.1 = some (tyX12 k) := by decide +kernel
abbrev cX12_init : ByteArray := prog_14_method_1_code
def yX12_init : MethodName := ⟨RX12, "<init>", "()V"⟩
abbrev cX12_copy : ByteArray := prog_14_method_2_code
def yX12_copy : MethodName := ⟨RX12, "copy", "()LLampRelayLaw$Talk;"⟩
abbrev cX12_letter : ByteArray := prog_14_method_3_code
def yX12_letter : MethodName := ⟨RX12, "letter", "(I)I"⟩
abbrev cX12_empty : ByteArray := prog_14_method_4_code
def yX12_empty : MethodName := ⟨RX12, "empty", "()I"⟩
abbrev cX12_wrong : ByteArray := prog_14_method_5_code
def yX12_wrong : MethodName := ⟨RX12, "wrong", "()I"⟩
abbrev cX12_agrees : ByteArray := prog_14_method_6_code
def yX12_agrees : MethodName := ⟨RX12, "agrees", "()Z"⟩
abbrev cX12_tries : ByteArray := prog_14_method_7_code
def yX12_tries : MethodName := ⟨RX12, "tries", "()I"⟩
def RX13 : String := "LampRelayModel"
def TX13 : u_T := fun k => match k with
  | _ => ("", "", "", false)
def tyX13 : Nat → FieldType := fun k => match k with
  | _ => .int
abbrev wsX130 : List Cond := u_ws RX13 TX13 0
theorem nmX13 : ∀ a, a < 0 → ∀ b, b < 0 → a ≠ b → (TX13 a).2.1 ≠ (TX13 b).2.1 := by decide +kernel
theorem tyX13_ok : ∀ k, k < 0 → parseFieldDescriptor (TX13 k).2.2.1 = some (tyX13 k) := by decide +kernel
def RJx145de : String := "java/io/Serializable"
def RJ5 : String := "java/lang/AbstractStringBuilder"
abbrev cJ5_init_d00df : ByteArray := prog_17_method_2_code
def yJ5_init_d00df : MethodName := ⟨RJ5, "<init>", "(I)V"⟩
abbrev cJ5_length_8abf5 : ByteArray := prog_17_method_6_code
def yJ5_length_8abf5 : MethodName := ⟨RJ5, "length", "()I"⟩
abbrev cJ5_ensureCapacityInternal_d00df : ByteArray := prog_17_method_9_code
def yJ5_ensureCapacityInternal_d00df : MethodName := ⟨RJ5, "ensureCapacityInternal", "(I)V"⟩
abbrev cJ5_newCapacity_0f7a4 : ByteArray := prog_17_method_10_code
def yJ5_newCapacity_0f7a4 : MethodName := ⟨RJ5, "newCapacity", "(I)I"⟩
abbrev cJ5_inflate_da8c8 : ByteArray := prog_17_method_11_code
def yJ5_inflate_da8c8 : MethodName := ⟨RJ5, "inflate", "()V"⟩
abbrev cJ5_append_cf1ce : ByteArray := prog_17_method_22_code
def yJ5_append_cf1ce : MethodName := ⟨RJ5, "append", "(Ljava/lang/String;)Ljava/lang/AbstractStringBuilder;"⟩
abbrev cJ5_appendNull_278bc : ByteArray := prog_17_method_26_code
def yJ5_appendNull_278bc : MethodName := ⟨RJ5, "appendNull", "()Ljava/lang/AbstractStringBuilder;"⟩
abbrev cJ5_append_3fe6f : ByteArray := prog_17_method_31_code
def yJ5_append_3fe6f : MethodName := ⟨RJ5, "append", "(C)Ljava/lang/AbstractStringBuilder;"⟩
abbrev cJ5_append_c97b9 : ByteArray := prog_17_method_32_code
def yJ5_append_c97b9 : MethodName := ⟨RJ5, "append", "(I)Ljava/lang/AbstractStringBuilder;"⟩
abbrev cJ5_getValue_6d5f1 : ByteArray := prog_17_method_64_code
def yJ5_getValue_6d5f1 : MethodName := ⟨RJ5, "getValue", "()[B"⟩
abbrev cJ5_isLatin1_aae02 : ByteArray := prog_17_method_68_code
def yJ5_isLatin1_aae02 : MethodName := ⟨RJ5, "isLatin1", "()Z"⟩
abbrev cJ5_inflateIfNeededFor_a7421 : ByteArray := prog_17_method_71_code
def yJ5_inflateIfNeededFor_a7421 : MethodName := ⟨RJ5, "inflateIfNeededFor", "(Ljava/lang/String;)V"⟩
abbrev cJ5_putStringAt_47b60 : ByteArray := prog_17_method_73_code
def yJ5_putStringAt_47b60 : MethodName := ⟨RJ5, "putStringAt", "(ILjava/lang/String;)V"⟩
def RJx2cfe8 : String := "java/lang/Appendable"
def RJx9f9b0 : String := "java/lang/CharSequence"
def RJx8e188 : String := "java/lang/Cloneable"
def RJxb160c : String := "java/lang/Comparable"
def RJ6 : String := "java/lang/Integer"
abbrev cJ6_getChars_ba4f3 : ByteArray := prog_26_method_12_code
def yJ6_getChars_ba4f3 : MethodName := ⟨RJ6, "getChars", "(II[B)I"⟩
abbrev cJ6_stringSize_0f7a4 : ByteArray := prog_26_method_13_code
def yJ6_stringSize_0f7a4 : MethodName := ⟨RJ6, "stringSize", "(I)I"⟩
def RJ9 : String := "java/lang/Math"
abbrev cJ9_floorMod_7cf53 : ByteArray := prog_27_method_50_code
def yJ9_floorMod_7cf53 : MethodName := ⟨RJ9, "floorMod", "(II)I"⟩
abbrev cJ9_max_7cf53 : ByteArray := prog_27_method_65_code
def yJ9_max_7cf53 : MethodName := ⟨RJ9, "max", "(II)I"⟩
abbrev cJ9_min_7cf53 : ByteArray := prog_27_method_69_code
def yJ9_min_7cf53 : MethodName := ⟨RJ9, "min", "(II)I"⟩
def RJxd2413 : String := "java/lang/Number"
def RJ0 : String := "java/lang/String"
def TJ0 : u_T := fun k => match k with
  | 0 => ("java/lang/String", "value", "[B", true)
  | 1 => ("java/lang/String", "coder", "B", true)
  | 2 => ("java/lang/String", "hash", "I", false)
  | _ => ("java/lang/String", "hashIsZero", "Z", false)
def tyJ0 : Nat → FieldType := fun k => match k with
  | 0 => .array .byte
  | 1 => .byte
  | 2 => .int
  | _ => .boolean
abbrev wsJ00 : List Cond := u_ws RJ0 TJ0 4
theorem nmJ0 : ∀ a, a < 4 → ∀ b, b < 4 → a ≠ b → (TJ0 a).2.1 ≠ (TJ0 b).2.1 := by decide +kernel
theorem tyJ0_ok : ∀ k, k < 4 → parseFieldDescriptor (TJ0 k).2.2.1 = some (tyJ0 k) := by decide +kernel
abbrev cJ0_init_81219 : ByteArray := prog_30_method_53_code
def yJ0_init_81219 : MethodName := ⟨RJ0, "<init>", "(Ljava/lang/StringBuilder;)V"⟩
abbrev cJ0_length_8abf5 : ByteArray := prog_30_method_54_code
def yJ0_length_8abf5 : MethodName := ⟨RJ0, "length", "()I"⟩
abbrev cJ0_charAt_5068e : ByteArray := prog_30_method_56_code
def yJ0_charAt_5068e : MethodName := ⟨RJ0, "charAt", "(I)C"⟩
abbrev cJ0_getBytes_840e7 : ByteArray := prog_30_method_147_code
def yJ0_getBytes_840e7 : MethodName := ⟨RJ0, "getBytes", "([BIB)V"⟩
abbrev cJ0_init_db425 : ByteArray := prog_30_method_150_code
def yJ0_init_db425 : MethodName := ⟨RJ0, "<init>", "(Ljava/lang/AbstractStringBuilder;Ljava/lang/Void;)V"⟩
abbrev cJ0_coder_7d493 : ByteArray := prog_30_method_152_code
def yJ0_coder_7d493 : MethodName := ⟨RJ0, "coder", "()B"⟩
abbrev cJ0_isLatin1_aae02 : ByteArray := prog_30_method_154_code
def yJ0_isLatin1_aae02 : MethodName := ⟨RJ0, "isLatin1", "()Z"⟩
abbrev cJ0_checkIndex_df160 : ByteArray := prog_30_method_155_code
def yJ0_checkIndex_df160 : MethodName := ⟨RJ0, "checkIndex", "(II)V"⟩
abbrev cJ0_checkBoundsOffCount_cabcc : ByteArray := prog_30_method_157_code
def yJ0_checkBoundsOffCount_cabcc : MethodName := ⟨RJ0, "checkBoundsOffCount", "(III)I"⟩
abbrev cJ0_checkBoundsBeginEnd_23922 : ByteArray := prog_30_method_158_code
def yJ0_checkBoundsBeginEnd_23922 : MethodName := ⟨RJ0, "checkBoundsBeginEnd", "(III)V"⟩
def RJ4 : String := "java/lang/StringBuilder"
def TJ4 : u_T := fun k => match k with
  | 0 => ("java/lang/AbstractStringBuilder", "value", "[B", false)
  | 1 => ("java/lang/AbstractStringBuilder", "coder", "B", false)
  | 2 => ("java/lang/AbstractStringBuilder", "maybeLatin1", "Z", false)
  | _ => ("java/lang/AbstractStringBuilder", "count", "I", false)
def tyJ4 : Nat → FieldType := fun k => match k with
  | 0 => .array .byte
  | 1 => .byte
  | 2 => .boolean
  | _ => .int
abbrev wsJ40 : List Cond := u_ws RJ4 TJ4 4
theorem nmJ4 : ∀ a, a < 4 → ∀ b, b < 4 → a ≠ b → (TJ4 a).2.1 ≠ (TJ4 b).2.1 := by decide +kernel
theorem tyJ4_ok : ∀ k, k < 4 → parseFieldDescriptor (TJ4 k).2.2.1 = some (tyJ4 k) := by decide +kernel
abbrev cJ4_init_da8c8 : ByteArray := prog_31_method_1_code
def yJ4_init_da8c8 : MethodName := ⟨RJ4, "<init>", "()V"⟩
abbrev cJ4_append_15ec4 : ByteArray := prog_31_method_7_code
def yJ4_append_15ec4 : MethodName := ⟨RJ4, "append", "(Ljava/lang/String;)Ljava/lang/StringBuilder;"⟩
abbrev cJ4_append_cf468 : ByteArray := prog_31_method_14_code
def yJ4_append_cf468 : MethodName := ⟨RJ4, "append", "(C)Ljava/lang/StringBuilder;"⟩
abbrev cJ4_append_bf812 : ByteArray := prog_31_method_15_code
def yJ4_append_bf812 : MethodName := ⟨RJ4, "append", "(I)Ljava/lang/StringBuilder;"⟩
abbrev cJ4_toString_0e30d : ByteArray := prog_31_method_42_code
def yJ4_toString_0e30d : MethodName := ⟨RJ4, "toString", "()Ljava/lang/String;"⟩
abbrev cJ4_length_8abf5 : ByteArray := prog_31_method_93_code
def yJ4_length_8abf5 : MethodName := ⟨RJ4, "length", "()I"⟩
def RJ1 : String := "java/lang/StringLatin1"
abbrev cJ1_charAt_3b067 : ByteArray := prog_32_method_2_code
def yJ1_charAt_3b067 : MethodName := ⟨RJ1, "charAt", "([BI)C"⟩
abbrev cJ1_canEncode_fc78d : ByteArray := prog_32_method_3_code
def yJ1_canEncode_fc78d : MethodName := ⟨RJ1, "canEncode", "(C)Z"⟩
abbrev cJ1_inflate_0e8fd : ByteArray := prog_32_method_50_code
def yJ1_inflate_0e8fd : MethodName := ⟨RJ1, "inflate", "([BI[BII)V"⟩
def RJ2 : String := "java/lang/StringUTF16"
abbrev cJ2_newBytesFor_77867 : ByteArray := prog_33_method_2_code
def yJ2_newBytesFor_77867 : MethodName := ⟨RJ2, "newBytesFor", "(I)[B"⟩
abbrev cJ2_newBytesLength_0f7a4 : ByteArray := prog_33_method_3_code
def yJ2_newBytesLength_0f7a4 : MethodName := ⟨RJ2, "newBytesLength", "(I)I"⟩
abbrev cJ2_putChar_b72d1 : ByteArray := prog_33_method_4_code
def yJ2_putChar_b72d1 : MethodName := ⟨RJ2, "putChar", "([BII)V"⟩
abbrev cJ2_getChar_3b067 : ByteArray := prog_33_method_5_code
def yJ2_getChar_3b067 : MethodName := ⟨RJ2, "getChar", "([BI)C"⟩
abbrev cJ2_length_9d52b : ByteArray := prog_33_method_6_code
def yJ2_length_9d52b : MethodName := ⟨RJ2, "length", "([B)I"⟩
abbrev cJ2_coderFromArrayLen_85cad : ByteArray := prog_33_method_15_code
def yJ2_coderFromArrayLen_85cad : MethodName := ⟨RJ2, "coderFromArrayLen", "([BI)B"⟩
abbrev cJ2_compress_39247 : ByteArray := prog_33_method_17_code
def yJ2_compress_39247 : MethodName := ⟨RJ2, "compress", "([BII)[B"⟩
abbrev cJ2_compress_5af95 : ByteArray := prog_33_method_22_code
def yJ2_compress_5af95 : MethodName := ⟨RJ2, "compress", "([BI[BII)I"⟩
abbrev cJ2_putCharSB_b72d1 : ByteArray := prog_33_method_71_code
def yJ2_putCharSB_b72d1 : MethodName := ⟨RJ2, "putCharSB", "([BII)V"⟩
abbrev cJ2_getChars_46870 : ByteArray := prog_33_method_77_code
def yJ2_getChars_46870 : MethodName := ⟨RJ2, "getChars", "(III[B)I"⟩
abbrev cJ2_putCharsAt_cd4e5 : ByteArray := prog_33_method_81_code
def yJ2_putCharsAt_cd4e5 : MethodName := ⟨RJ2, "putCharsAt", "([BICCCC)I"⟩
abbrev cJ2_charAt_3b067 : ByteArray := prog_33_method_83_code
def yJ2_charAt_3b067 : MethodName := ⟨RJ2, "charAt", "([BI)C"⟩
abbrev cJ2_inflate_0e8fd : ByteArray := prog_33_method_86_code
def yJ2_inflate_0e8fd : MethodName := ⟨RJ2, "inflate", "([BI[BII)V"⟩
abbrev cJ2_getChars_ba4f3 : ByteArray := prog_33_method_89_code
def yJ2_getChars_ba4f3 : MethodName := ⟨RJ2, "getChars", "(II[B)I"⟩
abbrev cJ2_checkIndex_2214a : ByteArray := prog_33_method_91_code
def yJ2_checkIndex_2214a : MethodName := ⟨RJ2, "checkIndex", "(I[B)V"⟩
abbrev cJ2_checkBoundsBeginEnd_d044e : ByteArray := prog_33_method_93_code
def yJ2_checkBoundsBeginEnd_d044e : MethodName := ⟨RJ2, "checkBoundsBeginEnd", "(II[B)V"⟩
abbrev cJ2_checkBoundsOffCount_d044e : ByteArray := prog_33_method_94_code
def yJ2_checkBoundsOffCount_d044e : MethodName := ⟨RJ2, "checkBoundsOffCount", "(II[B)V"⟩
def RJ10 : String := "java/lang/System"
def RJxfd54e : String := "java/lang/constant/Constable"
def RJx3cf43 : String := "java/lang/constant/ConstantDesc"
def RJ7 : String := "java/util/Arrays"
abbrev cJ7_copyOf_9075b : ByteArray := prog_38_method_121_code
def yJ7_copyOf_9075b : MethodName := ⟨RJ7, "copyOf", "([BI)[B"⟩
abbrev cJ7_checkLength_df160 : ByteArray := prog_38_method_131_code
def yJ7_checkLength_df160 : MethodName := ⟨RJ7, "checkLength", "(II)V"⟩
abbrev cJ7_copyOfRange_39247 : ByteArray := prog_38_method_132_code
def yJ7_copyOfRange_39247 : MethodName := ⟨RJ7, "copyOfRange", "([BII)[B"⟩
abbrev cJ7_copyOfRangeByte_39247 : ByteArray := prog_38_method_133_code
def yJ7_copyOfRangeByte_39247 : MethodName := ⟨RJ7, "copyOfRangeByte", "([BII)[B"⟩
def RJ8 : String := "jdk/internal/util/ArraysSupport"
abbrev cJ8_newLength_cabcc : ByteArray := prog_40_method_27_code
def yJ8_newLength_cabcc : MethodName := ⟨RJ8, "newLength", "(III)I"⟩
abbrev cJ8_hugeLength_7cf53 : ByteArray := prog_40_method_28_code
def yJ8_hugeLength_7cf53 : MethodName := ⟨RJ8, "hugeLength", "(II)I"⟩
def RJ3 : String := "jdk/internal/util/Preconditions"
abbrev cJ3_checkIndex_8e157 : ByteArray := prog_41_method_11_code
def yJ3_checkIndex_8e157 : MethodName := ⟨RJ3, "checkIndex", "(IILjava/util/function/BiFunction;)I"⟩
abbrev cJ3_checkFromToIndex_8c36e : ByteArray := prog_41_method_12_code
def yJ3_checkFromToIndex_8c36e : MethodName := ⟨RJ3, "checkFromToIndex", "(IIILjava/util/function/BiFunction;)I"⟩
abbrev cJ3_checkFromIndexSize_8c36e : ByteArray := prog_41_method_13_code
def yJ3_checkFromIndexSize_8c36e : MethodName := ⟨RJ3, "checkFromIndexSize", "(IIILjava/util/function/BiFunction;)I"⟩
def RL : String := "LampRelayLaw"
abbrev cL_put : ByteArray := method_2_code
def yL_put : MethodName := ⟨RL, "put", "(LLampRelay;[II)V"⟩
abbrev cL_flush : ByteArray := method_3_code
def yL_flush : MethodName := ⟨RL, "flush", "(LLampRelay;[I)V"⟩
abbrev cL_loadText : ByteArray := method_4_code
def yL_loadText : MethodName := ⟨RL, "loadText", "(LLampRelay;[I)I"⟩
abbrev cL_write : ByteArray := method_5_code
def yL_write : MethodName := ⟨RL, "write", "(LLampRelay;[ILjava/lang/String;)V"⟩
abbrev cL_writeNumber : ByteArray := method_6_code
def yL_writeNumber : MethodName := ⟨RL, "writeNumber", "(LLampRelay;[II)V"⟩
abbrev cL_load : ByteArray := method_7_code
def yL_load : MethodName := ⟨RL, "load", "(LLampRelay;I)I"⟩
abbrev cL_state : ByteArray := method_8_code
def yL_state : MethodName := ⟨RL, "state", "(LLampRelay;I)I"⟩
abbrev cL_channel : ByteArray := method_9_code
def yL_channel : MethodName := ⟨RL, "channel", "(LLampRelay;II)I"⟩
abbrev cL_message : ByteArray := method_10_code
def yL_message : MethodName := ⟨RL, "message", "(LLampRelay;II)I"⟩
abbrev cL_letter : ByteArray := method_11_code
def yL_letter : MethodName := ⟨RL, "letter", "(LLampRelay;IIZ)I"⟩
abbrev cL_why : ByteArray := method_12_code
def yL_why : MethodName := ⟨RL, "why", "(LLampRelay;II)I"⟩
abbrev cL_mist : ByteArray := method_13_code
def yL_mist : MethodName := ⟨RL, "mist", "(LLampRelay;I)I"⟩
abbrev cL_key : ByteArray := method_14_code
def yL_key : MethodName := ⟨RL, "key", "(LLampRelay;II)I"⟩
abbrev cL_next : ByteArray := method_15_code
def yL_next : MethodName := ⟨RL, "next", "(LLampRelay;I)I"⟩
abbrev cL_foretold : ByteArray := method_16_code
def yL_foretold : MethodName := ⟨RL, "foretold", "(LLampRelay;I)I"⟩
abbrev cL_leastPower : ByteArray := method_17_code
def yL_leastPower : MethodName := ⟨RL, "leastPower", "(LLampRelay;I)I"⟩
abbrev cL_pass : ByteArray := method_18_code
def yL_pass : MethodName := ⟨RL, "pass", "(LLampRelay;I)I"⟩
abbrev cL_send : ByteArray := method_19_code
def yL_send : MethodName := ⟨RL, "send", "(LLampRelay;III)I"⟩
abbrev cL_fog : ByteArray := method_20_code
def yL_fog : MethodName := ⟨RL, "fog", "(LLampRelay;III)I"⟩
abbrev cL_relieve : ByteArray := method_21_code
def yL_relieve : MethodName := ⟨RL, "relieve", "(LLampRelay;II)I"⟩
abbrev cL_power : ByteArray := method_22_code
def yL_power : MethodName := ⟨RL, "power", "(LLampRelay;II)I"⟩
abbrev cL_cancel : ByteArray := method_23_code
def yL_cancel : MethodName := ⟨RL, "cancel", "(LLampRelay;I)I"⟩
abbrev cL_sendText : ByteArray := method_24_code
def yL_sendText : MethodName := ⟨RL, "sendText", "(LLampRelay;[ILjava/lang/String;II)I"⟩
abbrev cL_with : ByteArray := method_25_code
def yL_with : MethodName := ⟨RL, "with", "([[I[I)[[I"⟩
abbrev cL_writeAll : ByteArray := method_26_code
def yL_writeAll : MethodName := ⟨RL, "writeAll", "(LLampRelay;[ILjava/lang/String;[I)V"⟩
abbrev cL_randomWord : ByteArray := method_27_code
def yL_randomWord : MethodName := ⟨RL, "randomWord", "(LLampRelayLaw$Random;)Ljava/lang/String;"⟩
abbrev cL_randomLine : ByteArray := method_28_code
def yL_randomLine : MethodName := ⟨RL, "randomLine", "(LLampRelay;[ILLampRelayLaw$Random;)LLampRelayLaw$Line;"⟩
abbrev cL_agrees : ByteArray := method_29_code
def yL_agrees : MethodName := ⟨RL, "agrees", "(LLampRelay;LLampRelayLaw$Line;)Z"⟩
abbrev cL_law : ByteArray := code
def yL_law : MethodName := ⟨RL, "law", "([I)Z"⟩
abbrev vwCl : List vw_C := [(RX0, TX0, 10), (RX1, TX1, 3), (RX2, TX2, 3), (RX3, TX3, 13), (RX4, TX4, 4), (RX5, TX5, 7), (RX6, TX6, 16), (RX7, TX7, 6), (RX8, TX8, 2), (RX9, TX9, 9), (RX10, TX10, 12), (RX11, TX11, 1), (RX12, TX12, 8), (RJ4, TJ4, 4), (RJ0, TJ0, 4)]
theorem inJ0 : ∀ w ∈ wsJ00, w ∈ lw_tbl := by decide +kernel
theorem inJ4 : ∀ w ∈ wsJ40, w ∈ lw_tbl := by decide +kernel
theorem inX0 : ∀ w ∈ wsX00, w ∈ lw_tbl := by decide +kernel
theorem inX1 : ∀ w ∈ wsX10, w ∈ lw_tbl := by decide +kernel
theorem inX2 : ∀ w ∈ wsX20, w ∈ lw_tbl := by decide +kernel
theorem inX3 : ∀ w ∈ wsX30, w ∈ lw_tbl := by decide +kernel
theorem inX4 : ∀ w ∈ wsX40, w ∈ lw_tbl := by decide +kernel
theorem inX5 : ∀ w ∈ wsX50, w ∈ lw_tbl := by decide +kernel
theorem inX6 : ∀ w ∈ wsX60, w ∈ lw_tbl := by decide +kernel
theorem inX7 : ∀ w ∈ wsX70, w ∈ lw_tbl := by decide +kernel
theorem inX8 : ∀ w ∈ wsX80, w ∈ lw_tbl := by decide +kernel
theorem inX9 : ∀ w ∈ wsX90, w ∈ lw_tbl := by decide +kernel
theorem inX10 : ∀ w ∈ wsX100, w ∈ lw_tbl := by decide +kernel
theorem inX11 : ∀ w ∈ wsX110, w ∈ lw_tbl := by decide +kernel
theorem inX12 : ∀ w ∈ wsX120, w ∈ lw_tbl := by decide +kernel
end
section
/-! THE OWN LAYER: an abstract heap (a function from addresses to cells), a method as a tuple, and a judgement GX: 'from this pc the machine comes to the end that F tells' -/
/-- a cell: an array (the number of its class, its contents) or an object (the number of its class, its fields) -/
abbrev gC : Type := (Nat × vp_A) ⊕ (Nat × List Value)
/-- an abstract heap: the number of cells, and what is known of them -/
abbrev gH : Type := Nat × (Nat → Option gC)
/-- what a run fixes: classes and slots, the array classes, the first address of the law's own cells, where the String constants and their bytes lie -/
abbrev gG : Type := va_G × (Nat → ClassId) × Nat × (Nat → Nat) × (Nat → Nat)
def g_D (G : gG) : va_G := G.1
def g_c (G : gG) : Nat → ClassId := G.2.1
def g_b (G : gG) : Nat := G.2.2.1
def g_aK (G : gG) : Nat → Nat := G.2.2.2.1
def g_aV (G : gG) : Nat → Nat := G.2.2.2.2
def g_tl (c : Nat → ClassId) : List (ClassId × FieldType) := [(c 0, .int), (c 1, .byte), (c 2, .long), (c 3, .array .int), (c 4, .object "LampRelay$Message"), (c 5, .object "LampRelay$World"), (c 6, .object "LampRelayLaw$Frame"), (c 7, .object "LampRelayLaw$Lamp"), (c 8, .object "LampRelayLaw$Talk"), (c 9, .object "LampRelayLaw$Line")]
def g_A (G : gG) : Nat → Prop := fun q => g_b G ≤ q
def g_at (G : gG) (q : Nat) (x : gC) (H : Heap) : Prop := match x with
  | .inl y => H[q]? = some (vp_cell (g_c G y.1) y.2)
  | .inr o => va_at (g_D G) vwCl (q, .inr o) H
/-- the heap H is as h says -/
def g_M (G : gG) (h : gH) (H : Heap) : Prop := H.size = h.1 ∧ g_b G ≤ h.1 ∧ ∀ (q : Nat) (x : gC), h.2 q = some x → g_b G ≤ q ∧ g_at G q x H
theorem g_at.kept {G : gG} {q : Nat} {x : gC} {H H1 : Heap} (h : g_at G q x H) (hq : H1[q]? = H[q]?) : g_at G q x H1 := by
  cases x with
  | inl y => exact hq.trans h
  | inr o => exact va_at.kept (q := (q, .inr o)) h hq
theorem g_at.lt {G : gG} {q : Nat} {x : gC} {H : Heap} (h : g_at G q x H) : q < H.size := by
  cases x with
  | inl y => exact (Array.getElem?_eq_some_iff.mp h).1
  | inr o => exact va_at.lt (q := (q, .inr o)) h
/-- one cell is written -/
def g_set (h : gH) (a : Nat) (x : gC) : gH := (h.1, fun q => if q = a then some x else h.2 q)
/-- a cell is made -/
def g_add (h : gH) (x : gC) : gH := (h.1 + 1, fun q => if q = h.1 then some x else h.2 q)
theorem g_M.set {G : gG} {h : gH} {a : Nat} {x0 x : gC} {H H1 : Heap} (hM : g_M G h H) (ha : h.2 a = some x0) (e : g_at G a x H1) (z : H1.size = H.size) (o : ∀ q : Nat, q ≠ a → H1[q]? = H[q]?) : g_M G (g_set h a x) H1 := by
  refine ⟨z.trans hM.1, hM.2.1, fun q y hq => ?_⟩
  by_cases hqa : q = a
  · subst hqa
    simp only [g_set, if_true] at hq
    cases hq
    exact ⟨(hM.2.2 q x0 ha).1, e⟩
  · simp only [g_set, if_neg hqa] at hq
    exact ⟨(hM.2.2 q y hq).1, (hM.2.2 q y hq).2.kept (o q hqa)⟩
theorem g_M.add {G : gG} {h : gH} {x : gC} {H H1 : Heap} (hM : g_M G h H) (e : g_at G h.1 x H1) (z : H1.size = h.1 + 1) (o : ∀ q : Nat, q < h.1 → H1[q]? = H[q]?) : g_M G (g_add h x) H1 := by
  refine ⟨z, Nat.le_succ_of_le hM.2.1, fun q y hq => ?_⟩
  by_cases hqa : q = h.1
  · subst hqa
    simp only [g_add, if_true] at hq
    cases hq
    exact ⟨hM.2.1, e⟩
  · simp only [g_add, if_neg hqa] at hq
    have h2 := hM.2.2 q y hq
    have hl := h2.2.lt
    rw [hM.1] at hl
    exact ⟨h2.1, h2.2.kept (o q hl)⟩
theorem g_S.put {G : gG} {H0 H H1 : Heap} {locs : List Loc} {a k : Nat} (h : va_S (g_A G) H0 H locs) (z : H1.size = H.size) (o : ∀ q : Nat, q ≠ a → H1[q]? = H[q]?) (ha : g_b G ≤ a) : va_S (g_A G) H0 H1 (locs ++ [⟨a, k⟩]) := va_S.put h z o ha
theorem g_S.add {G : gG} {H0 H H1 : Heap} {locs : List Loc} {n : Nat} (h : va_S (g_A G) H0 H locs) (hn : H.size = n) (z : H1.size = n + 1) (o : ∀ q : Nat, q < n → H1[q]? = H[q]?) : va_S (g_A G) H0 H1 locs :=
  ⟨Nat.le_trans h.1 (by omega), fun q h1 h2 => (o q (by have := h.1; omega)).trans (h.2.1 q h1 h2), h.2.2⟩
/-- a row of a method's code: pc, instruction, next pc, two numbers (a target; a class and a field) -/
abbrev gE : Type := Nat × Instr × Nat × Nat × Nat
/-- a method: name, bytes, locals, return type, room, rows, handlers -/
abbrev gMt : Type := MethodName × ByteArray × Nat × Option FieldType × Room × List gE × List (Nat × Nat × Nat × Nat)
def m_y (M : gMt) : MethodName := M.1
def m_cc (M : gMt) : ByteArray := M.2.1
def m_nL (M : gMt) : Nat := M.2.2.1
def m_ret (M : gMt) : Option FieldType := M.2.2.2.1
def m_R (M : gMt) : Room := M.2.2.2.2.1
def m_code (M : gMt) : List gE := M.2.2.2.2.2.1
def m_h (M : gMt) : List (Nat × Nat × Nat × Nat) := M.2.2.2.2.2.2
def g_lk : List gE → Nat → Option (Instr × Nat × Nat × Nat)
  | [], _ => none
  | e :: t, pc => bif Nat.beq e.1 pc then some e.2 else g_lk t pc
def g_fldOk (own : String) (idx ci j : Nat) : Bool := match vwCl[ci]? with
  | none => false
  | some (_, T, N) => decide (j < N) && decide (Cond.fieldLink own idx (T j).1 (T j).2.1 (T j).2.2.1 ∈ lw_tbl)
def g_newOk (own : String) (idx ci : Nat) : Bool := match vwCl[ci]? with
  | none => false
  | some (C, _, N) => decide (Cond.classLink own idx C ∈ lw_tbl) && decide (Cond.instantiable C N ∈ lw_tbl) && decide (Cond.initialized C ∈ lw_tbl)
def g_ent (M : gMt) (e : gE) : Bool := decide (decode (m_cc M) e.1 = .ok (e.2.1, e.2.2.1 - e.1)) && decide (e.1 < e.2.2.1) && (match e.2.1 with
  | .goto off => decide ((e.1 : Int) + off = (e.2.2.2.1 : Int))
  | .ifCond _ off => decide ((e.1 : Int) + off = (e.2.2.2.1 : Int))
  | .if_icmp _ off => decide ((e.1 : Int) + off = (e.2.2.2.1 : Int))
  | .ifnull off => decide ((e.1 : Int) + off = (e.2.2.2.1 : Int))
  | .ifnonnull off => decide ((e.1 : Int) + off = (e.2.2.2.1 : Int))
  | .getfield idx => g_fldOk (m_y M).cls idx e.2.2.2.1 e.2.2.2.2
  | .putfield idx => g_fldOk (m_y M).cls idx e.2.2.2.1 e.2.2.2.2
  | .new idx => g_newOk (m_y M).cls idx e.2.2.2.1
  | _ => true)
def g_ok (M : gMt) : Prop := (m_code M).all (g_ent M) = true
theorem g_lk_ent {M : gMt} : ∀ (t : List gE), t.all (g_ent M) = true → ∀ {pc : Nat} {x : Instr × Nat × Nat × Nat}, g_lk t pc = some x → g_ent M (pc, x) = true
  | [], _, _, _, h => by cases h
  | e :: t, ha, pc, x, h => by
    rw [List.all_cons, Bool.and_eq_true] at ha
    unfold g_lk at h
    cases hb : Nat.beq e.1 pc with
    | true =>
      rw [hb] at h
      simp only [cond_true] at h
      cases h
      have : e.1 = pc := Nat.eq_of_beq_eq_true hb
      subst this
      exact ha.1
    | false =>
      rw [hb] at h
      simp only [cond_false] at h
      exact g_lk_ent t ha.2 h
theorem g_dec {M : gMt} (hok : g_ok M) {pc nx x1 x2 : Nat} {I : Instr} (hd : g_lk (m_code M) pc = some (I, nx, x1, x2)) {d : Nat} (hn : nx = pc + d) : decode (m_cc M) pc = .ok (I, d) := by
  have h := g_lk_ent _ hok hd
  unfold g_ent at h
  simp only [Bool.and_eq_true, decide_eq_true_eq] at h
  have h1 := h.1.1
  rw [hn, show pc + d - pc = d by omega] at h1
  exact h1
/-- the words that aren't good ones but go with the machine all the same -/
def g_face (w : Cond) : Bool := w.faceAtom || (match w with | .methodLinkNest .. => true | .arrayOver (.object _) => true | .arrayOver (.array _) => true | _ => false)
def g_fw : List Cond := lw_tbl.filter g_face
/-- String constants: class, place, text, number of the text -/
def g_strs : List (String × Nat × String × Nat) := [("LampRelay", 43, "length", 5), ("LampRelay", 77, "what", 6), ("LampRelay", 85, "channel", 7), ("LampRelay", 104, "message", 8), ("LampRelay", 118, "k", 9), ("LampRelay", 130, "tick", 10), ("LampRelay", 141, "station", 11), ("LampRelay", 182, "ticks", 12), ("LampRelay", 190, "urgency, length or letters", 13), ("LampRelay", 194, "messages", 14), ("LampRelay", 201, "first, last or level", 15), ("LampRelay", 206, "mists", 16), ("LampRelay", 212, "key", 17), ("LampRelay", 218, "keepers or time", 18), ("LampRelay", 224, "power", 19), ("LampRelay", 228, "over or cancelled", 20), ("LampRelay$SetupReader", 48, "relay", 0), ("LampRelay$SetupReader", 71, "channel", 1), ("LampRelay$SetupReader", 76, "keeper", 2), ("LampRelay$SetupReader", 81, "mist", 3), ("LampRelay$SetupReader", 86, "message", 4), ("LampRelayLaw", 148, "relay", 0), ("LampRelayLaw", 170, "channel", 1), ("LampRelayLaw", 179, "keeper", 2), ("LampRelayLaw", 184, "mist", 3), ("LampRelayLaw", 193, "message", 4), ("LampRelayLaw", 113, " ", 21), ("LampRelayLaw", 154, ";", 22), ("LampRelayLaw", 121, "", 23), ("LampRelayLaw$Talk", 7, "", 23)]
def g_len : List Nat := [5, 7, 6, 4, 7, 6, 4, 7, 7, 1, 4, 7, 5, 26, 8, 20, 5, 3, 15, 5, 17, 1, 1, 0]
def g_byt : List (List Int32) := [[114, 101, 108, 97, 121], [99, 104, 97, 110, 110, 101, 108], [107, 101, 101, 112, 101, 114], [109, 105, 115, 116], [109, 101, 115, 115, 97, 103, 101], [108, 101, 110, 103, 116, 104], [119, 104, 97, 116], [99, 104, 97, 110, 110, 101, 108], [109, 101, 115, 115, 97, 103, 101], [107], [116, 105, 99, 107], [115, 116, 97, 116, 105, 111, 110], [116, 105, 99, 107, 115], [117, 114, 103, 101, 110, 99, 121, 44, 32, 108, 101, 110, 103, 116, 104, 32, 111, 114, 32, 108, 101, 116, 116, 101, 114, 115], [109, 101, 115, 115, 97, 103, 101, 115], [102, 105, 114, 115, 116, 44, 32, 108, 97, 115, 116, 32, 111, 114, 32, 108, 101, 118, 101, 108], [109, 105, 115, 116, 115], [107, 101, 121], [107, 101, 101, 112, 101, 114, 115, 32, 111, 114, 32, 116, 105, 109, 101], [112, 111, 119, 101, 114], [111, 118, 101, 114, 32, 111, 114, 32, 99, 97, 110, 99, 101, 108, 108, 101, 100], [32], [59], []]
/-- pairs of classes, the first no kind of the second -/
def g_nc : List (String × String) := [("java/lang/IllegalArgumentException", "java/lang/IndexOutOfBoundsException"), ("java/lang/IllegalStateException", "java/lang/IndexOutOfBoundsException"), ("java/lang/IllegalStateException", "java/lang/IllegalArgumentException"), ("java/util/NoSuchElementException", "java/lang/IndexOutOfBoundsException")]
/-- what a run fixes, at the state U with the heap H -/
def g_K (G : gG) (U : State) (H : Heap) : Prop := va_K (g_D G) vwCl (g_tl (g_c G)) U ∧ (∀ w ∈ g_fw, w.before #[] U = true) ∧ (∀ r ∈ g_strs, vk_R r.1 r.2.1 r.2.2.1 (g_aK G r.2.2.2) U) ∧ vk_S 24 g_len g_byt (g_aK G) (g_aV G) (g_A G) U H ∧ vx_Zq Bundle.tN "UNASSIGNED_STACK" Bundle.steD (g_A G) U H ∧ vx_Zq Bundle.tN "SUPPRESSED_SENTINEL" Bundle.listD (g_A G) U H ∧ va_Z "java/lang/String" "COMPACT_STRINGS" "Z" (.int 1) (g_A G) U H ∧ va_Zq "jdk/internal/util/Preconditions" "SIOOBE_FORMATTER" "Ljava/util/function/BiFunction;" (g_A G) U H ∧ ∀ q ∈ g_nc, va_Nc q.1 q.2 U
theorem g_AO_moved {t : FieldType} {u U : State} (hvm : u.vm.Alike U.vm) (h : (Cond.arrayOver (.array t)).before #[] u = true) : (Cond.arrayOver (.array t)).before #[] U = true := by
  have h0 : (Cond.arrayOver (.array t)).holds #[] u none u [] = true := h
  simp only [Cond.holds, Cond.value, beq_iff_eq] at h0
  cases hc : u.vm.findClass (FieldType.array t).toString with
  | none => rw [hc] at h0; simp at h0
  | some comp =>
    simp only [hc, Option.bind_some, Option.bind_eq_some_iff, Option.map_eq_some_iff] at h0
    obtain ⟨c, hi0, k, hk, hb⟩ := h0
    have hi1 : (u.vm.classes.findIdx? fun (x : Class) => match x.kind with | .array component _ => component == comp | _ => false) = some c := hi0
    obtain ⟨k', hk', he⟩ := hvm.2.2 _ _ hk
    have hi : (U.vm.classes.findIdx? fun (x : Class) => match x.kind with | .array component _ => component == comp | _ => false) = some c := by
      refine ((va_idx_bare U.vm comp).symm.trans ?_)
      refine Eq.trans ?_ ((va_idx_bare u.vm comp).trans hi1)
      first | rw [hvm.bare_eq] | rw [← hvm.bare_eq]
    have hkind : k'.kind = k.kind := by rw [he]
    have f1 : U.vm.findClass (FieldType.array t).toString = some comp := by rw [hvm.findClass]; exact hc
    show (Cond.arrayOver (.array t)).holds #[] U none U [] = true
    simp only [Cond.holds, Cond.value, beq_iff_eq, f1, Option.bind_some, Option.bind_eq_some_iff, Option.map_eq_some_iff]
    refine ⟨c, hi, k', hk', ?_⟩
    rw [hkind, hvm.findClass]
    exact hb
theorem g_face_warm {w : Cond} {s U : State} (hw : g_face w = true) (hW : s.WarmedH U.vm) (h : w.before #[] s = true) : w.before #[] U = true := by
  unfold g_face at hw
  cases hf : w.faceAtom with
  | true =>
    have h1 := Cond.faceAtom_setVm (args := #[]) hW.alike w hf h
    have ht : w.onTables = true := by cases w <;> first | rfl | (simp [Cond.faceAtom] at hf)
    exact va_tabs ht (rfl : (s.setVm U.vm).vm = U.vm) h1
  | false =>
    rw [hf, Bool.false_or] at hw
    cases w with
    | methodLinkNest a i x hh => exact va_Nw.warmM hW h
    | arrayOver t =>
      cases t with
      | object C => exact va_AO.moved hW.alike h
      | array t => exact g_AO_moved hW.alike h
      | _ => simp at hw
    | _ => simp at hw
theorem g_K.warm {G : gG} {s U : State} {H H1 : Heap} (hW : s.WarmedH U.vm) (hq : ∀ a : Nat, a < H.size → ¬ g_A G a → H1[a]? = H[a]?) (h : g_K G s H) : g_K G U H1 := by
  obtain ⟨h1, h2, h3, h4, h5, h6, h7, h8, h9⟩ := h
  have hA := hW.alike
  refine ⟨h1.moved hA, fun w hw => ?_, fun r hr => (h3 r hr).warm hW, (h4.moved hA).kept hq, (h5.moved hA).kept hq, (h6.moved hA).kept hq, (h7.moved hA).kept hq, (h8.moved hA).kept hq, fun q hq9 => (h9 q hq9).moved hA⟩
  exact g_face_warm (List.mem_filter.mp hw).2 hW (h2 w hw)
/-- the locals of a frame, by their places -/
def g_ls (A : Array Slot) (nL : Nat) (L : List (Option Value)) : Prop := A.size = nL ∧ lv_wf A ∧ L.length = nL ∧ ∀ (i : Nat) (v : Value), L[i]? = some (some v) → A[i]? = some (.val v)
def g_al : Nat → List (Option Value) → List (Nat × Value)
  | _, [] => []
  | i, none :: t => g_al (i + 1) t
  | i, some v :: t => (i, v) :: g_al (i + 1) t
theorem g_al_mem : ∀ (L : List (Option Value)) (i j : Nat) (v : Value), (j, v) ∈ g_al i L ↔ ∃ k, j = i + k ∧ L[k]? = some (some v)
  | [], i, j, v => by simp [g_al]
  | none :: t, i, j, v => by
    rw [g_al, g_al_mem t]
    constructor
    · rintro ⟨k, h1, h2⟩
      exact ⟨k + 1, by omega, by simpa using h2⟩
    · rintro ⟨k, h1, h2⟩
      cases k with
      | zero => simp at h2
      | succ k => exact ⟨k, by omega, by simpa using h2⟩
  | some w :: t, i, j, v => by
    rw [g_al, List.mem_cons, g_al_mem t]
    constructor
    · rintro (h | ⟨k, h1, h2⟩)
      · cases h
        exact ⟨0, by omega, by simp⟩
      · exact ⟨k + 1, by omega, by simpa using h2⟩
    · rintro ⟨k, h1, h2⟩
      cases k with
      | zero =>
        simp at h2
        subst h2
        exact Or.inl (by simp [h1])
      | succ k => exact Or.inr ⟨k, by omega, by simpa using h2⟩
theorem g_ls.has {A : Array Slot} {nL : Nat} {L : List (Option Value)} (h : g_ls A nL L) : lv_has A nL (g_al 0 L) := by
  refine ⟨h.1, h.2.1, fun q hq => ?_⟩
  obtain ⟨j, v⟩ := q
  obtain ⟨k, h1, h2⟩ := (g_al_mem L 0 j v).mp hq
  rw [Nat.zero_add] at h1
  subst h1
  exact h.2.2.2 _ _ h2
theorem g_ls.at {A : Array Slot} {nL : Nat} {L : List (Option Value)} (h : g_ls A nL L) {i : Nat} {v : Value} (hl : L[i]? = some (some v)) : A[i]? = some (.val v) := h.2.2.2 i v hl
/-- no value of two places stands just ahead of i -/
def g_pl (L : List (Option Value)) : Nat → Bool
  | 0 => true
  | i + 1 => match L[i]? with
    | some (some v) => Nat.beq v.category 1
    | _ => true
theorem g_ls.put1 {A A' : Array Slot} {nL i : Nat} {v : Value} {L : List (Option Value)} (h : g_ls A nL L) (hp : g_pl L i = true) (h' : lv_has A' nL ((i, v) :: (g_al 0 L).filter (fun q => !(q.1 == i) && !(q.1 + 1 == i && q.2.category == 2)))) : g_ls A' nL (L.set i (some v)) := by
  refine ⟨h'.1, h'.2.1, by simpa using h.2.2.1, fun j w hj => ?_⟩
  by_cases hji : j = i
  · subst hji
    rw [List.getElem?_set_self'] at hj
    cases hL : L[j]? with
    | none => rw [hL] at hj; simp at hj
    | some x =>
      rw [hL] at hj
      simp at hj
      subst hj
      exact h'.2.2 _ List.mem_cons_self
  · rw [List.getElem?_set_ne (Ne.symm hji)] at hj
    refine h'.2.2 (j, w) (List.mem_cons_of_mem _ (List.mem_filter.mpr ⟨(g_al_mem L 0 j w).mpr ⟨j, by omega, hj⟩, ?_⟩))
    simp only [Bool.and_eq_true, Bool.not_eq_true', beq_eq_false_iff_ne, ne_eq]
    refine ⟨hji, ?_⟩
    cases i with
    | zero => simp
    | succ i =>
      by_cases e : j = i
      · subst e
        simp only [g_pl, hj] at hp
        have := Nat.eq_of_beq_eq_true hp
        simp [this]
      · simp [e]
theorem g_ls.put2 {A A' : Array Slot} {nL i : Nat} {v : Value} {L : List (Option Value)} (h : g_ls A nL L) (hp : g_pl L i = true) (h' : lv_has A' nL ((i, v) :: (g_al 0 L).filter (fun q => !(q.1 == i) && (!(q.1 == i + 1) && !(q.1 + 1 == i && q.2.category == 2))))) : g_ls A' nL ((L.set i (some v)).set (i + 1) none) := by
  refine ⟨h'.1, h'.2.1, by simpa using h.2.2.1, fun j w hj => ?_⟩
  by_cases hj1 : j = i + 1
  · subst hj1
    rw [List.getElem?_set_self'] at hj
    cases hL : (L.set i (some v))[i + 1]? with
    | none => rw [hL] at hj; simp at hj
    | some x => rw [hL] at hj; simp at hj
  rw [List.getElem?_set_ne (Ne.symm hj1)] at hj
  by_cases hji : j = i
  · subst hji
    rw [List.getElem?_set_self'] at hj
    cases hL : L[j]? with
    | none => rw [hL] at hj; simp at hj
    | some x =>
      rw [hL] at hj
      simp at hj
      subst hj
      exact h'.2.2 _ List.mem_cons_self
  · rw [List.getElem?_set_ne (Ne.symm hji)] at hj
    refine h'.2.2 (j, w) (List.mem_cons_of_mem _ (List.mem_filter.mpr ⟨(g_al_mem L 0 j w).mpr ⟨j, by omega, hj⟩, ?_⟩))
    simp only [Bool.and_eq_true, Bool.not_eq_true', beq_eq_false_iff_ne, ne_eq]
    refine ⟨hji, hj1, ?_⟩
    cases i with
    | zero => simp
    | succ i =>
      by_cases e : j = i
      · subst e
        simp only [g_pl, hj] at hp
        have := Nat.eq_of_beq_eq_true hp
        simp [this]
      · simp [e]
/-- fewer locals are known -/
def g_sub : List (Option Value) → List (Option Value) → Prop
  | [], [] => True
  | _ :: t, none :: u => g_sub t u
  | x :: t, some v :: u => x = some v ∧ g_sub t u
  | _, _ => False
theorem g_sub_at : ∀ {L L' : List (Option Value)}, g_sub L L' → L.length = L'.length ∧ ∀ (i : Nat) (v : Value), L'[i]? = some (some v) → L[i]? = some (some v)
  | [], [], _ => ⟨rfl, fun i v h => h⟩
  | x :: t, none :: u, h => by
    obtain ⟨h1, h2⟩ := g_sub_at (L := t) (L' := u) h
    refine ⟨by simp [h1], fun i v hi => ?_⟩
    cases i with
    | zero => simp at hi
    | succ i => simpa using h2 i v (by simpa using hi)
  | x :: t, some w :: u, h => by
    obtain ⟨e, h⟩ := h
    obtain ⟨h1, h2⟩ := g_sub_at (L := t) (L' := u) h
    refine ⟨by simp [h1], fun i v hi => ?_⟩
    cases i with
    | zero => simp at hi; simp [e, hi]
    | succ i => simpa using h2 i v (by simpa using hi)
  | [], _ :: _, h => by simp [g_sub] at h
  | _ :: _, [], h => by simp [g_sub] at h
theorem g_ls.sub {A : Array Slot} {nL : Nat} {L L' : List (Option Value)} (h : g_ls A nL L) (hs : g_sub L L') : g_ls A nL L' := by
  obtain ⟨h1, h2⟩ := g_sub_at hs
  exact ⟨h.1, h.2.1, by rw [← h1]; exact h.2.2.1, fun i v hi => h.2.2.2 i v (h2 i v hi)⟩
/-- what stands still while a body runs -/
def g_bx (G : gG) (M : gMt) (p : Program) (s : State) (m : MethodId) (args : Array Value) (meth : Method) (c : Code) : Prop := p.tables.exec = Jvm.exec ∧ c.code = m_cc M ∧ c.maxLocals = m_nL M ∧ meth.sig.returnType = m_ret M ∧ meth.locks = false ∧ s.vm.findClass (m_y M).cls = some m.cls ∧ (∀ w ∈ lw_tbl, goodWord w = true → w.before args s = true) ∧ g_K G s s.heap ∧ (((m_y M).name = "<init>" → meth.name = "<init>") ∧ g_b G ≤ s.heap.size ∧ ((m_y M).name ≠ "law" → c.exceptionTable.toList = tableOf (m_h M))) ∧ g_ok M
/-- THE JUDGEMENT: whatever F answers, the machine, at pc with the locals L and the stack st over the heap h, comes to the end that Φ tells of it; k cells and n slots are new so far -/
def GX {α : Type} (l : Launch) (G : gG) (M : gMt) (Φ : α → Method → Code → State → Array Value → List Frame → State → Prop) (k n pc : Nat) (L : List (Option Value)) (st : List Value) (h : gH) (F : Option α) : Prop :=
  ∀ r, F = some r → ∀ (p : Program) (e : Env) (s : State) (m : MethodId) (args : Array Value) (below : List Frame) (meth : Method) (c : Code) (H : Heap) (locs : List Loc) (A : Array Slot), g_bx G M p s m args meth c → g_ls A (m_nL M) L → g_M G h H → va_S (g_A G) s.heap H locs → W p l e (m_R M) s m args below meth c H locs k n (Φ r meth c s args below) (F0 m pc A st)
section GXR
variable {α : Type} {l : Launch} {G : gG} {M : gMt} {Φ : α → Method → Code → State → Array Value → List Frame → State → Prop} {k n pc nx x1 x2 : Nat} {L : List (Option Value)} {st : List Value} {h : gH} {F : Option α}
theorem X_sub {L' : List (Option Value)} (hs : g_sub L L') (kk : GX l G M Φ k n pc L' st h F) : GX l G M Φ k n pc L st h F :=
  fun r hr p e s m args below meth c H locs A B hl hM hS => kk r hr p e s m args below meth c H locs A B (hl.sub hs) hM hS
theorem X_eqF {F' : Option α} (hF : F = F') (kk : GX l G M Φ k n pc L st h F') : GX l G M Φ k n pc L st h F := hF ▸ kk
theorem X_none : GX l G M Φ k n pc L st h none := fun r hr => by cases hr
theorem X_if {c : Prop} [Decidable c] {F1 F2 : Option α} (k1 : c → GX l G M Φ k n pc L st h F1) (k2 : ¬ c → GX l G M Φ k n pc L st h F2) : GX l G M Φ k n pc L st h (if c then F1 else F2) := by
  by_cases hc : c
  · rw [if_pos hc]; exact k1 hc
  · rw [if_neg hc]; exact k2 hc
theorem X_bind {β : Type} {o : Option β} {K : β → Option α} (kk : ∀ x, o = some x → GX l G M Φ k n pc L st h (K x)) : GX l G M Φ k n pc L st h (o.bind K) := by
  cases o with
  | none => exact X_none
  | some x => exact kk x rfl
theorem X_iconst {i : Int} {v : Int32} (hd : g_lk (m_code M) pc = some (.iconst i, nx, x1, x2)) (hn : nx = pc + 1) (hv : Int32.ofInt i = v) (kk : GX l G M Φ k n nx L (.int v :: st) h F) : GX l G M Φ k n pc L (st) h F := by
  intro r hr p e s m args below meth c H locs A B hl hM hS
  have hg := g_dec B.2.2.2.2.2.2.2.2.2 hd hn
  have q := kk r hr p e s m args below meth c H locs A B hl hM hS
  rw [hn] at q
  exact lv_iconst B.1 B.2.1 hg hv q
theorem X_bipush {i : Int} {v : Int32} (hd : g_lk (m_code M) pc = some (.bipush i, nx, x1, x2)) (hn : nx = pc + 2) (hv : (Int8.ofInt i).toInt32 = v) (kk : GX l G M Φ k n nx L (.int v :: st) h F) : GX l G M Φ k n pc L (st) h F := by
  intro r hr p e s m args below meth c H locs A B hl hM hS
  have hg := g_dec B.2.2.2.2.2.2.2.2.2 hd hn
  have q := kk r hr p e s m args below meth c H locs A B hl hM hS
  rw [hn] at q
  exact lv_bipush B.1 B.2.1 hg hv q
theorem X_sipush {i : Int} {v : Int32} (hd : g_lk (m_code M) pc = some (.sipush i, nx, x1, x2)) (hn : nx = pc + 3) (hv : (Int16.ofInt i).toInt32 = v) (kk : GX l G M Φ k n nx L (.int v :: st) h F) : GX l G M Φ k n pc L (st) h F := by
  intro r hr p e s m args below meth c H locs A B hl hM hS
  have hg := g_dec B.2.2.2.2.2.2.2.2.2 hd hn
  have q := kk r hr p e s m args below meth c H locs A B hl hM hS
  rw [hn] at q
  exact lv_sipush B.1 B.2.1 hg hv q
theorem X_lconst {i : Fin 2} {v : Int64} (hd : g_lk (m_code M) pc = some (.lconst i, nx, x1, x2)) (hn : nx = pc + 1) (hv : Int64.ofNat (i : Nat) = v) (kk : GX l G M Φ k n nx L (.long v :: st) h F) : GX l G M Φ k n pc L (st) h F := by
  intro r hr p e s m args below meth c H locs A B hl hM hS
  have hg := g_dec B.2.2.2.2.2.2.2.2.2 hd hn
  have q := kk r hr p e s m args below meth c H locs A B hl hM hS
  rw [hn] at q
  exact lv_lconst B.1 B.2.1 hg hv q
theorem X_dconst0  (hd : g_lk (m_code M) pc = some (.dconst 0, nx, x1, x2)) (hn : nx = pc + 1)  (kk : GX l G M Φ k n nx L (.double 0 :: st) h F) : GX l G M Φ k n pc L (st) h F := by
  intro r hr p e s m args below meth c H locs A B hl hM hS
  have hg := g_dec B.2.2.2.2.2.2.2.2.2 hd hn
  have q := kk r hr p e s m args below meth c H locs A B hl hM hS
  rw [hn] at q
  exact lv_dconst0 B.1 B.2.1 hg q
theorem X_null  (hd : g_lk (m_code M) pc = some (.aconst_null, nx, x1, x2)) (hn : nx = pc + 1)  (kk : GX l G M Φ k n nx L (.null :: st) h F) : GX l G M Φ k n pc L (st) h F := by
  intro r hr p e s m args below meth c H locs A B hl hM hS
  have hg := g_dec B.2.2.2.2.2.2.2.2.2 hd hn
  have q := kk r hr p e s m args below meth c H locs A B hl hM hS
  rw [hn] at q
  exact lv_null B.1 B.2.1 hg q
theorem X_iload_n {j : Fin 4} {x : Int32} (hd : g_lk (m_code M) pc = some (.iload_n j, nx, x1, x2)) (hn : nx = pc + 1) (hx : L[(j : Nat)]? = some (some (.int x))) (kk : GX l G M Φ k n nx L (.int x :: st) h F) : GX l G M Φ k n pc L (st) h F := by
  intro r hr p e s m args below meth c H locs A B hl hM hS
  have hg := g_dec B.2.2.2.2.2.2.2.2.2 hd hn
  have q := kk r hr p e s m args below meth c H locs A B hl hM hS
  rw [hn] at q
  exact lv_iload_n B.1 B.2.1 hg rfl (hl.at hx) q
theorem X_iload {j : Nat} {x : Int32} (hd : g_lk (m_code M) pc = some (.iload j, nx, x1, x2)) (hn : nx = pc + 2) (hx : L[j]? = some (some (.int x))) (kk : GX l G M Φ k n nx L (.int x :: st) h F) : GX l G M Φ k n pc L (st) h F := by
  intro r hr p e s m args below meth c H locs A B hl hM hS
  have hg := g_dec B.2.2.2.2.2.2.2.2.2 hd hn
  have q := kk r hr p e s m args below meth c H locs A B hl hM hS
  rw [hn] at q
  exact lv_iload B.1 B.2.1 hg (hl.at hx) q
theorem X_lload_n {j : Fin 4} {x : Int64} (hd : g_lk (m_code M) pc = some (.lload_n j, nx, x1, x2)) (hn : nx = pc + 1) (hx : L[(j : Nat)]? = some (some (.long x))) (kk : GX l G M Φ k n nx L (.long x :: st) h F) : GX l G M Φ k n pc L (st) h F := by
  intro r hr p e s m args below meth c H locs A B hl hM hS
  have hg := g_dec B.2.2.2.2.2.2.2.2.2 hd hn
  have q := kk r hr p e s m args below meth c H locs A B hl hM hS
  rw [hn] at q
  exact lv_lload_n B.1 B.2.1 hg rfl (hl.at hx) q
theorem X_lload {j : Nat} {x : Int64} (hd : g_lk (m_code M) pc = some (.lload j, nx, x1, x2)) (hn : nx = pc + 2) (hx : L[j]? = some (some (.long x))) (kk : GX l G M Φ k n nx L (.long x :: st) h F) : GX l G M Φ k n pc L (st) h F := by
  intro r hr p e s m args below meth c H locs A B hl hM hS
  have hg := g_dec B.2.2.2.2.2.2.2.2.2 hd hn
  have q := kk r hr p e s m args below meth c H locs A B hl hM hS
  rw [hn] at q
  exact lv_lload B.1 B.2.1 hg (hl.at hx) q
theorem X_aload_n {j : Fin 4} {x : Nat} (hd : g_lk (m_code M) pc = some (.aload_n j, nx, x1, x2)) (hn : nx = pc + 1) (hx : L[(j : Nat)]? = some (some (.ref x))) (kk : GX l G M Φ k n nx L (.ref x :: st) h F) : GX l G M Φ k n pc L (st) h F := by
  intro r hr p e s m args below meth c H locs A B hl hM hS
  have hg := g_dec B.2.2.2.2.2.2.2.2.2 hd hn
  have q := kk r hr p e s m args below meth c H locs A B hl hM hS
  rw [hn] at q
  exact lv_aload_n B.1 B.2.1 hg rfl (hl.at hx) q
theorem X_aload {j : Nat} {x : Nat} (hd : g_lk (m_code M) pc = some (.aload j, nx, x1, x2)) (hn : nx = pc + 2) (hx : L[j]? = some (some (.ref x))) (kk : GX l G M Φ k n nx L (.ref x :: st) h F) : GX l G M Φ k n pc L (st) h F := by
  intro r hr p e s m args below meth c H locs A B hl hM hS
  have hg := g_dec B.2.2.2.2.2.2.2.2.2 hd hn
  have q := kk r hr p e s m args below meth c H locs A B hl hM hS
  rw [hn] at q
  exact lv_aload B.1 B.2.1 hg (hl.at hx) q
theorem X_dload_n {j : Fin 4} {x : UInt64} (hd : g_lk (m_code M) pc = some (.dload_n j, nx, x1, x2)) (hn : nx = pc + 1) (hx : L[(j : Nat)]? = some (some (.double x))) (kk : GX l G M Φ k n nx L (.double x :: st) h F) : GX l G M Φ k n pc L (st) h F := by
  intro r hr p e s m args below meth c H locs A B hl hM hS
  have hg := g_dec B.2.2.2.2.2.2.2.2.2 hd hn
  have q := kk r hr p e s m args below meth c H locs A B hl hM hS
  rw [hn] at q
  exact lv_dload_n B.1 B.2.1 hg rfl (hl.at hx) q
theorem X_dload {j : Nat} {x : UInt64} (hd : g_lk (m_code M) pc = some (.dload j, nx, x1, x2)) (hn : nx = pc + 2) (hx : L[j]? = some (some (.double x))) (kk : GX l G M Φ k n nx L (.double x :: st) h F) : GX l G M Φ k n pc L (st) h F := by
  intro r hr p e s m args below meth c H locs A B hl hM hS
  have hg := g_dec B.2.2.2.2.2.2.2.2.2 hd hn
  have q := kk r hr p e s m args below meth c H locs A B hl hM hS
  rw [hn] at q
  exact lv_dload B.1 B.2.1 hg (hl.at hx) q
theorem X_iadd {x y : Int32} (hd : g_lk (m_code M) pc = some (.iadd, nx, x1, x2)) (hn : nx = pc + 1)  (kk : GX l G M Φ k n nx L (.int (x + y) :: st) h F) : GX l G M Φ k n pc L (.int y :: .int x :: st) h F := by
  intro r hr p e s m args below meth c H locs A B hl hM hS
  have hg := g_dec B.2.2.2.2.2.2.2.2.2 hd hn
  have q := kk r hr p e s m args below meth c H locs A B hl hM hS
  rw [hn] at q
  exact lv_iadd B.1 B.2.1 hg q
theorem X_isub {x y : Int32} (hd : g_lk (m_code M) pc = some (.isub, nx, x1, x2)) (hn : nx = pc + 1)  (kk : GX l G M Φ k n nx L (.int (x - y) :: st) h F) : GX l G M Φ k n pc L (.int y :: .int x :: st) h F := by
  intro r hr p e s m args below meth c H locs A B hl hM hS
  have hg := g_dec B.2.2.2.2.2.2.2.2.2 hd hn
  have q := kk r hr p e s m args below meth c H locs A B hl hM hS
  rw [hn] at q
  exact lv_isub B.1 B.2.1 hg q
theorem X_imul {x y : Int32} (hd : g_lk (m_code M) pc = some (.imul, nx, x1, x2)) (hn : nx = pc + 1)  (kk : GX l G M Φ k n nx L (.int (x * y) :: st) h F) : GX l G M Φ k n pc L (.int y :: .int x :: st) h F := by
  intro r hr p e s m args below meth c H locs A B hl hM hS
  have hg := g_dec B.2.2.2.2.2.2.2.2.2 hd hn
  have q := kk r hr p e s m args below meth c H locs A B hl hM hS
  rw [hn] at q
  exact lv_imul B.1 B.2.1 hg q
theorem X_iand {x y : Int32} (hd : g_lk (m_code M) pc = some (.iand, nx, x1, x2)) (hn : nx = pc + 1)  (kk : GX l G M Φ k n nx L (.int (x &&& y) :: st) h F) : GX l G M Φ k n pc L (.int y :: .int x :: st) h F := by
  intro r hr p e s m args below meth c H locs A B hl hM hS
  have hg := g_dec B.2.2.2.2.2.2.2.2.2 hd hn
  have q := kk r hr p e s m args below meth c H locs A B hl hM hS
  rw [hn] at q
  exact lv_iand B.1 B.2.1 hg q
theorem X_ior {x y : Int32} (hd : g_lk (m_code M) pc = some (.ior, nx, x1, x2)) (hn : nx = pc + 1)  (kk : GX l G M Φ k n nx L (.int (x ||| y) :: st) h F) : GX l G M Φ k n pc L (.int y :: .int x :: st) h F := by
  intro r hr p e s m args below meth c H locs A B hl hM hS
  have hg := g_dec B.2.2.2.2.2.2.2.2.2 hd hn
  have q := kk r hr p e s m args below meth c H locs A B hl hM hS
  rw [hn] at q
  exact lv_ior B.1 B.2.1 hg q
theorem X_ixor {x y : Int32} (hd : g_lk (m_code M) pc = some (.ixor, nx, x1, x2)) (hn : nx = pc + 1)  (kk : GX l G M Φ k n nx L (.int (x ^^^ y) :: st) h F) : GX l G M Φ k n pc L (.int y :: .int x :: st) h F := by
  intro r hr p e s m args below meth c H locs A B hl hM hS
  have hg := g_dec B.2.2.2.2.2.2.2.2.2 hd hn
  have q := kk r hr p e s m args below meth c H locs A B hl hM hS
  rw [hn] at q
  exact lv_ixor B.1 B.2.1 hg q
theorem X_ladd {x y : Int64} (hd : g_lk (m_code M) pc = some (.ladd, nx, x1, x2)) (hn : nx = pc + 1)  (kk : GX l G M Φ k n nx L (.long (x + y) :: st) h F) : GX l G M Φ k n pc L (.long y :: .long x :: st) h F := by
  intro r hr p e s m args below meth c H locs A B hl hM hS
  have hg := g_dec B.2.2.2.2.2.2.2.2.2 hd hn
  have q := kk r hr p e s m args below meth c H locs A B hl hM hS
  rw [hn] at q
  exact lv_ladd B.1 B.2.1 hg q
theorem X_lsub {x y : Int64} (hd : g_lk (m_code M) pc = some (.lsub, nx, x1, x2)) (hn : nx = pc + 1)  (kk : GX l G M Φ k n nx L (.long (x - y) :: st) h F) : GX l G M Φ k n pc L (.long y :: .long x :: st) h F := by
  intro r hr p e s m args below meth c H locs A B hl hM hS
  have hg := g_dec B.2.2.2.2.2.2.2.2.2 hd hn
  have q := kk r hr p e s m args below meth c H locs A B hl hM hS
  rw [hn] at q
  exact lv_lsub B.1 B.2.1 hg q
theorem X_lmul {x y : Int64} (hd : g_lk (m_code M) pc = some (.lmul, nx, x1, x2)) (hn : nx = pc + 1)  (kk : GX l G M Φ k n nx L (.long (x * y) :: st) h F) : GX l G M Φ k n pc L (.long y :: .long x :: st) h F := by
  intro r hr p e s m args below meth c H locs A B hl hM hS
  have hg := g_dec B.2.2.2.2.2.2.2.2.2 hd hn
  have q := kk r hr p e s m args below meth c H locs A B hl hM hS
  rw [hn] at q
  exact lv_lmul B.1 B.2.1 hg q
theorem X_ishl {x y v : Int32} (hd : g_lk (m_code M) pc = some (.ishl, nx, x1, x2)) (hn : nx = pc + 1) (hv : x <<< (y &&& 31) = v) (kk : GX l G M Φ k n nx L (.int v :: st) h F) : GX l G M Φ k n pc L (.int y :: .int x :: st) h F := by
  intro r hr p e s m args below meth c H locs A B hl hM hS
  have hg := g_dec B.2.2.2.2.2.2.2.2.2 hd hn
  have q := kk r hr p e s m args below meth c H locs A B hl hM hS
  rw [hn] at q
  rw [← hv] at q
  exact lv_ishl B.1 B.2.1 hg q
theorem X_ishr {x y v : Int32} (hd : g_lk (m_code M) pc = some (.ishr, nx, x1, x2)) (hn : nx = pc + 1) (hv : x >>> (y &&& 31) = v) (kk : GX l G M Φ k n nx L (.int v :: st) h F) : GX l G M Φ k n pc L (.int y :: .int x :: st) h F := by
  intro r hr p e s m args below meth c H locs A B hl hM hS
  have hg := g_dec B.2.2.2.2.2.2.2.2.2 hd hn
  have q := kk r hr p e s m args below meth c H locs A B hl hM hS
  rw [hn] at q
  rw [← hv] at q
  exact lv_ishr B.1 B.2.1 hg q
theorem X_iushr {x y : Int32} (hd : g_lk (m_code M) pc = some (.iushr, nx, x1, x2)) (hn : nx = pc + 1)  (kk : GX l G M Φ k n nx L (.int (x.toUInt32 >>> (y.toUInt32 &&& Int32.toUInt32 31)).toInt32 :: st) h F) : GX l G M Φ k n pc L (.int y :: .int x :: st) h F := by
  intro r hr p e s m args below meth c H locs A B hl hM hS
  have hg := g_dec B.2.2.2.2.2.2.2.2.2 hd hn
  have q := kk r hr p e s m args below meth c H locs A B hl hM hS
  rw [hn] at q
  exact lv_iushr B.1 B.2.1 hg rfl q
theorem X_i2l {x : Int32} (hd : g_lk (m_code M) pc = some (.i2l, nx, x1, x2)) (hn : nx = pc + 1)  (kk : GX l G M Φ k n nx L (.long x.toInt64 :: st) h F) : GX l G M Φ k n pc L (.int x :: st) h F := by
  intro r hr p e s m args below meth c H locs A B hl hM hS
  have hg := g_dec B.2.2.2.2.2.2.2.2.2 hd hn
  have q := kk r hr p e s m args below meth c H locs A B hl hM hS
  rw [hn] at q
  exact lv_i2l B.1 B.2.1 hg rfl q
theorem X_i2b {x : Int32} (hd : g_lk (m_code M) pc = some (.i2b, nx, x1, x2)) (hn : nx = pc + 1)  (kk : GX l G M Φ k n nx L (.int x.toInt8.toInt32 :: st) h F) : GX l G M Φ k n pc L (.int x :: st) h F := by
  intro r hr p e s m args below meth c H locs A B hl hM hS
  have hg := g_dec B.2.2.2.2.2.2.2.2.2 hd hn
  have q := kk r hr p e s m args below meth c H locs A B hl hM hS
  rw [hn] at q
  exact lv_i2b B.1 B.2.1 hg rfl q
theorem X_i2d {x : Int32} (hd : g_lk (m_code M) pc = some (.i2d, nx, x1, x2)) (hn : nx = pc + 1)  (kk : GX l G M Φ k n nx L (.double (FP.i2d x) :: st) h F) : GX l G M Φ k n pc L (.int x :: st) h F := by
  intro r hr p e s m args below meth c H locs A B hl hM hS
  have hg := g_dec B.2.2.2.2.2.2.2.2.2 hd hn
  have q := kk r hr p e s m args below meth c H locs A B hl hM hS
  rw [hn] at q
  exact lv_i2d B.1 B.2.1 hg q
theorem X_lcmp {x y : Int64} (hd : g_lk (m_code M) pc = some (.lcmp, nx, x1, x2)) (hn : nx = pc + 1)  (kk : GX l G M Φ k n nx L (.int (lg_cmp x y) :: st) h F) : GX l G M Φ k n pc L (.long y :: .long x :: st) h F := by
  intro r hr p e s m args below meth c H locs A B hl hM hS
  have hg := g_dec B.2.2.2.2.2.2.2.2.2 hd hn
  have q := kk r hr p e s m args below meth c H locs A B hl hM hS
  rw [hn] at q
  exact W.lcmp B.1 B.2.1 hg q
theorem X_dcmp {x y : UInt64} {op : CmpOp} (hd : g_lk (m_code M) pc = some (.dcmp op, nx, x1, x2)) (hn : nx = pc + 1)  (kk : GX l G M Φ k n nx L (.int (Op.cmpValue (FP.dcmp x y) op) :: st) h F) : GX l G M Φ k n pc L (.double y :: .double x :: st) h F := by
  intro r hr p e s m args below meth c H locs A B hl hM hS
  have hg := g_dec B.2.2.2.2.2.2.2.2.2 hd hn
  have q := kk r hr p e s m args below meth c H locs A B hl hM hS
  rw [hn] at q
  exact lv_dcmp B.1 B.2.1 hg q
theorem X_dup {v : Value} (hd : g_lk (m_code M) pc = some (.dup, nx, x1, x2)) (hn : nx = pc + 1) (hc : v.category = 1) (kk : GX l G M Φ k n nx L (v :: v :: st) h F) : GX l G M Φ k n pc L (v :: st) h F := by
  intro r hr p e s m args below meth c H locs A B hl hM hS
  have hg := g_dec B.2.2.2.2.2.2.2.2.2 hd hn
  have q := kk r hr p e s m args below meth c H locs A B hl hM hS
  rw [hn] at q
  exact lv_dup B.1 B.2.1 hg hc q
theorem X_pop {v : Value} (hd : g_lk (m_code M) pc = some (.pop, nx, x1, x2)) (hn : nx = pc + 1) (hc : v.category = 1) (kk : GX l G M Φ k n nx L (st) h F) : GX l G M Φ k n pc L (v :: st) h F := by
  intro r hr p e s m args below meth c H locs A B hl hM hS
  have hg := g_dec B.2.2.2.2.2.2.2.2.2 hd hn
  have q := kk r hr p e s m args below meth c H locs A B hl hM hS
  rw [hn] at q
  exact lv_pop B.1 B.2.1 hg hc q
theorem X_dup2 {v w : Value} (hd : g_lk (m_code M) pc = some (.dup2, nx, x1, x2)) (hn : nx = pc + 1) (hc : v.category = 1) (hc2 : w.category = 1) (kk : GX l G M Φ k n nx L (v :: w :: v :: w :: st) h F) : GX l G M Φ k n pc L (v :: w :: st) h F := by
  intro r hr p e s m args below meth c H locs A B hl hM hS
  have hg := g_dec B.2.2.2.2.2.2.2.2.2 hd hn
  have q := kk r hr p e s m args below meth c H locs A B hl hM hS
  rw [hn] at q
  exact lv_dup2_11 B.1 B.2.1 hg hc hc2 q
theorem X_idiv {x y v : Int32} {F : Option α} (hd : g_lk (m_code M) pc = some (.idiv, nx, x1, x2)) (hn : nx = pc + 1) (hv : x / y = v) (hne : ¬ y = 0) (kk : GX l G M Φ k n nx L (.int v :: st) h F) : GX l G M Φ k n pc L (.int y :: .int x :: st) h F := by
  intro r hr p e s m args below meth c H locs A B hl hM hS
  have hg := g_dec B.2.2.2.2.2.2.2.2.2 hd hn
  have q := kk r hr p e s m args below meth c H locs A B hl hM hS
  rw [hn, ← hv] at q
  exact lv_idiv B.1 B.2.1 hg hne q
theorem X_irem {x y v : Int32} {F : Option α} (hd : g_lk (m_code M) pc = some (.irem, nx, x1, x2)) (hn : nx = pc + 1) (hv : x - x / y * y = v) (hne : ¬ y = 0) (kk : GX l G M Φ k n nx L (.int v :: st) h F) : GX l G M Φ k n pc L (.int y :: .int x :: st) h F := by
  intro r hr p e s m args below meth c H locs A B hl hM hS
  have hg := g_dec B.2.2.2.2.2.2.2.2.2 hd hn
  have q := kk r hr p e s m args below meth c H locs A B hl hM hS
  rw [hn, ← hv] at q
  exact lv_irem B.1 B.2.1 hg hne q
theorem X_ddiv {x y : UInt64} (hd : g_lk (m_code M) pc = some (.ddiv, nx, x1, x2)) (hn : nx = pc + 1) (hne : vf_n64 (FP.ddiv x y)) (kk : GX l G M Φ k n nx L (.double (FP.ddiv x y) :: st) h F) : GX l G M Φ k n pc L (.double y :: .double x :: st) h F := by
  intro r hr p e s m args below meth c H locs A B hl hM hS
  have hg := g_dec B.2.2.2.2.2.2.2.2.2 hd hn
  have q := kk r hr p e s m args below meth c H locs A B hl hM hS
  rw [hn] at q
  exact lv_ddiv B.1 B.2.1 hg hne q
theorem X_istore_n {j : Fin 4} {x : Int32} (hd : g_lk (m_code M) pc = some (.istore_n j, nx, x1, x2)) (hn : nx = pc + 1) (hj : Nat.blt (j : Nat) L.length = true) (hp : g_pl L (j : Nat) = true) (kk : GX l G M Φ k n nx (L.set (j : Nat) (some (.int x))) st h F) : GX l G M Φ k n pc L (.int x :: st) h F := by
  intro r hr p e s m args below meth c H locs A B hl hM hS
  have hg := g_dec B.2.2.2.2.2.2.2.2.2 hd hn
  have hj1 : (j : Nat) < m_nL M := by rw [← hl.2.2.1]; exact Nat.blt_eq.mp hj
  refine lv_istore_n B.1 B.2.1 hg rfl hl.has hj1 rfl (fun A' h' => ?_)
  have q := kk r hr p e s m args below meth c H locs A' B (hl.put1 hp h') hM hS
  rw [hn] at q
  exact q
theorem X_istore {j : Nat} {x : Int32} (hd : g_lk (m_code M) pc = some (.istore j, nx, x1, x2)) (hn : nx = pc + 2) (hj : Nat.blt j L.length = true) (hp : g_pl L j = true) (kk : GX l G M Φ k n nx (L.set j (some (.int x))) st h F) : GX l G M Φ k n pc L (.int x :: st) h F := by
  intro r hr p e s m args below meth c H locs A B hl hM hS
  have hg := g_dec B.2.2.2.2.2.2.2.2.2 hd hn
  have hj1 : j < m_nL M := by rw [← hl.2.2.1]; exact Nat.blt_eq.mp hj
  refine lv_istore B.1 B.2.1 hg hl.has hj1 rfl (fun A' h' => ?_)
  have q := kk r hr p e s m args below meth c H locs A' B (hl.put1 hp h') hM hS
  rw [hn] at q
  exact q
theorem X_astore_n {j : Fin 4} {x : Nat} (hd : g_lk (m_code M) pc = some (.astore_n j, nx, x1, x2)) (hn : nx = pc + 1) (hj : Nat.blt (j : Nat) L.length = true) (hp : g_pl L (j : Nat) = true) (kk : GX l G M Φ k n nx (L.set (j : Nat) (some (.ref x))) st h F) : GX l G M Φ k n pc L (.ref x :: st) h F := by
  intro r hr p e s m args below meth c H locs A B hl hM hS
  have hg := g_dec B.2.2.2.2.2.2.2.2.2 hd hn
  have hj1 : (j : Nat) < m_nL M := by rw [← hl.2.2.1]; exact Nat.blt_eq.mp hj
  refine lv_astore_n B.1 B.2.1 hg rfl hl.has hj1 rfl (fun A' h' => ?_)
  have q := kk r hr p e s m args below meth c H locs A' B (hl.put1 hp h') hM hS
  rw [hn] at q
  exact q
theorem X_astore {j : Nat} {x : Nat} (hd : g_lk (m_code M) pc = some (.astore j, nx, x1, x2)) (hn : nx = pc + 2) (hj : Nat.blt j L.length = true) (hp : g_pl L j = true) (kk : GX l G M Φ k n nx (L.set j (some (.ref x))) st h F) : GX l G M Φ k n pc L (.ref x :: st) h F := by
  intro r hr p e s m args below meth c H locs A B hl hM hS
  have hg := g_dec B.2.2.2.2.2.2.2.2.2 hd hn
  have hj1 : j < m_nL M := by rw [← hl.2.2.1]; exact Nat.blt_eq.mp hj
  refine lv_astore B.1 B.2.1 hg hl.has hj1 rfl (fun A' h' => ?_)
  have q := kk r hr p e s m args below meth c H locs A' B (hl.put1 hp h') hM hS
  rw [hn] at q
  exact q
theorem X_lstore_n {j : Fin 4} {x : Int64} (hd : g_lk (m_code M) pc = some (.lstore_n j, nx, x1, x2)) (hn : nx = pc + 1) (hj : Nat.blt ((j : Nat) + 1) L.length = true) (hp : g_pl L (j : Nat) = true) (kk : GX l G M Φ k n nx ((L.set (j : Nat) (some (.long x))).set ((j : Nat) + 1) none) st h F) : GX l G M Φ k n pc L (.long x :: st) h F := by
  intro r hr p e s m args below meth c H locs A B hl hM hS
  have hg := g_dec B.2.2.2.2.2.2.2.2.2 hd hn
  have hj1 : (j : Nat) + 1 < m_nL M := by rw [← hl.2.2.1]; exact Nat.blt_eq.mp hj
  refine lv_lstore_n B.1 B.2.1 hg rfl hl.has hj1 rfl (fun A' h' => ?_)
  have q := kk r hr p e s m args below meth c H locs A' B (hl.put2 hp h') hM hS
  rw [hn] at q
  exact q
theorem X_lstore {j : Nat} {x : Int64} (hd : g_lk (m_code M) pc = some (.lstore j, nx, x1, x2)) (hn : nx = pc + 2) (hj : Nat.blt (j + 1) L.length = true) (hp : g_pl L j = true) (kk : GX l G M Φ k n nx ((L.set j (some (.long x))).set (j + 1) none) st h F) : GX l G M Φ k n pc L (.long x :: st) h F := by
  intro r hr p e s m args below meth c H locs A B hl hM hS
  have hg := g_dec B.2.2.2.2.2.2.2.2.2 hd hn
  have hj1 : j + 1 < m_nL M := by rw [← hl.2.2.1]; exact Nat.blt_eq.mp hj
  refine lv_lstore B.1 B.2.1 hg hl.has hj1 rfl (fun A' h' => ?_)
  have q := kk r hr p e s m args below meth c H locs A' B (hl.put2 hp h') hM hS
  rw [hn] at q
  exact q
theorem X_dstore_n {j : Fin 4} {x : UInt64} (hd : g_lk (m_code M) pc = some (.dstore_n j, nx, x1, x2)) (hn : nx = pc + 1) (hj : Nat.blt ((j : Nat) + 1) L.length = true) (hp : g_pl L (j : Nat) = true) (kk : GX l G M Φ k n nx ((L.set (j : Nat) (some (.double x))).set ((j : Nat) + 1) none) st h F) : GX l G M Φ k n pc L (.double x :: st) h F := by
  intro r hr p e s m args below meth c H locs A B hl hM hS
  have hg := g_dec B.2.2.2.2.2.2.2.2.2 hd hn
  have hj1 : (j : Nat) + 1 < m_nL M := by rw [← hl.2.2.1]; exact Nat.blt_eq.mp hj
  refine lv_dstore_n B.1 B.2.1 hg rfl hl.has hj1 rfl (fun A' h' => ?_)
  have q := kk r hr p e s m args below meth c H locs A' B (hl.put2 hp h') hM hS
  rw [hn] at q
  exact q
theorem X_dstore {j : Nat} {x : UInt64} (hd : g_lk (m_code M) pc = some (.dstore j, nx, x1, x2)) (hn : nx = pc + 2) (hj : Nat.blt (j + 1) L.length = true) (hp : g_pl L j = true) (kk : GX l G M Φ k n nx ((L.set j (some (.double x))).set (j + 1) none) st h F) : GX l G M Φ k n pc L (.double x :: st) h F := by
  intro r hr p e s m args below meth c H locs A B hl hM hS
  have hg := g_dec B.2.2.2.2.2.2.2.2.2 hd hn
  have hj1 : j + 1 < m_nL M := by rw [← hl.2.2.1]; exact Nat.blt_eq.mp hj
  refine lv_dstore B.1 B.2.1 hg hl.has hj1 rfl (fun A' h' => ?_)
  have q := kk r hr p e s m args below meth c H locs A' B (hl.put2 hp h') hM hS
  rw [hn] at q
  exact q
theorem X_iinc {j : Nat} {i : Int} {x v : Int32} (hd : g_lk (m_code M) pc = some (.iinc j i, nx, x1, x2)) (hn : nx = pc + 3) (hx : L[j]? = some (some (.int x))) (hv : x + Int32.ofInt i = v) (hp : g_pl L j = true) (kk : GX l G M Φ k n nx (L.set j (some (.int v))) st h F) : GX l G M Φ k n pc L st h F := by
  intro r hr p e s m args below meth c H locs A B hl hM hS
  have hg := g_dec B.2.2.2.2.2.2.2.2.2 hd hn
  have hj1 : j < m_nL M := by rw [← hl.2.2.1]; exact (List.getElem?_eq_some_iff.mp hx).1
  have hmem : (j, Value.int x) ∈ g_al 0 L := (g_al_mem L 0 j _).mpr ⟨j, by omega, hx⟩
  obtain ⟨kq, hkq⟩ := List.getElem?_of_mem hmem
  refine lv_iinc B.1 B.2.1 hg hl.has hkq hv hj1 rfl (fun A' h' => ?_)
  have q := kk r hr p e s m args below meth c H locs A' B (hl.put1 hp h') hM hS
  rw [hn] at q
  exact q
theorem X_if_eq {x : Int32} {off : Int} (hd : g_lk (m_code M) pc = some (.ifCond .eq off, nx, x1, x2)) (hn : nx = pc + 3) (kt : (x = 0) → GX l G M Φ k n x1 L st h F) (kf : ¬ (x = 0) → GX l G M Φ k n nx L st h F) : GX l G M Φ k n pc L (.int x :: st) h F := by
  intro r hr p e s m args below meth c H locs A B hl hM hS
  have hg := g_dec B.2.2.2.2.2.2.2.2.2 hd hn
  have ht := g_lk_ent _ B.2.2.2.2.2.2.2.2.2 hd
  unfold g_ent at ht
  simp only [Bool.and_eq_true, decide_eq_true_eq] at ht
  refine lv_if_eq B.1 B.2.1 hg ht.2 (fun hc => kt (by first | exact hc | exact Int32.not_lt.mp hc | exact Int32.not_le.mp hc | (simpa using hc)) r hr p e s m args below meth c H locs A B hl hM hS) (fun hc => ?_)
  have q := kf (by first | exact hc | exact Int32.not_lt.mp hc | exact Int32.not_le.mp hc | (simpa using hc)) r hr p e s m args below meth c H locs A B hl hM hS
  rw [hn] at q
  exact q
theorem X_icmp_eq {x y : Int32} {off : Int} (hd : g_lk (m_code M) pc = some (.if_icmp .eq off, nx, x1, x2)) (hn : nx = pc + 3) (kt : (x = y) → GX l G M Φ k n x1 L st h F) (kf : ¬ (x = y) → GX l G M Φ k n nx L st h F) : GX l G M Φ k n pc L (.int y :: .int x :: st) h F := by
  intro r hr p e s m args below meth c H locs A B hl hM hS
  have hg := g_dec B.2.2.2.2.2.2.2.2.2 hd hn
  have ht := g_lk_ent _ B.2.2.2.2.2.2.2.2.2 hd
  unfold g_ent at ht
  simp only [Bool.and_eq_true, decide_eq_true_eq] at ht
  refine lv_icmp_eq B.1 B.2.1 hg ht.2 (fun hc => kt (by first | exact hc | exact Int32.not_lt.mp hc | exact Int32.not_le.mp hc | (simpa using hc)) r hr p e s m args below meth c H locs A B hl hM hS) (fun hc => ?_)
  have q := kf (by first | exact hc | exact Int32.not_lt.mp hc | exact Int32.not_le.mp hc | (simpa using hc)) r hr p e s m args below meth c H locs A B hl hM hS
  rw [hn] at q
  exact q
theorem X_if_ne {x : Int32} {off : Int} (hd : g_lk (m_code M) pc = some (.ifCond .ne off, nx, x1, x2)) (hn : nx = pc + 3) (kt : (¬ x = 0) → GX l G M Φ k n x1 L st h F) (kf : ¬ (¬ x = 0) → GX l G M Φ k n nx L st h F) : GX l G M Φ k n pc L (.int x :: st) h F := by
  intro r hr p e s m args below meth c H locs A B hl hM hS
  have hg := g_dec B.2.2.2.2.2.2.2.2.2 hd hn
  have ht := g_lk_ent _ B.2.2.2.2.2.2.2.2.2 hd
  unfold g_ent at ht
  simp only [Bool.and_eq_true, decide_eq_true_eq] at ht
  refine lv_if_ne B.1 B.2.1 hg ht.2 (fun hc => kt (by first | exact hc | exact Int32.not_lt.mp hc | exact Int32.not_le.mp hc | (simpa using hc)) r hr p e s m args below meth c H locs A B hl hM hS) (fun hc => ?_)
  have q := kf (by first | exact hc | exact Int32.not_lt.mp hc | exact Int32.not_le.mp hc | (simpa using hc)) r hr p e s m args below meth c H locs A B hl hM hS
  rw [hn] at q
  exact q
theorem X_icmp_ne {x y : Int32} {off : Int} (hd : g_lk (m_code M) pc = some (.if_icmp .ne off, nx, x1, x2)) (hn : nx = pc + 3) (kt : (¬ x = y) → GX l G M Φ k n x1 L st h F) (kf : ¬ (¬ x = y) → GX l G M Φ k n nx L st h F) : GX l G M Φ k n pc L (.int y :: .int x :: st) h F := by
  intro r hr p e s m args below meth c H locs A B hl hM hS
  have hg := g_dec B.2.2.2.2.2.2.2.2.2 hd hn
  have ht := g_lk_ent _ B.2.2.2.2.2.2.2.2.2 hd
  unfold g_ent at ht
  simp only [Bool.and_eq_true, decide_eq_true_eq] at ht
  refine lv_icmp_ne B.1 B.2.1 hg ht.2 (fun hc => kt (by first | exact hc | exact Int32.not_lt.mp hc | exact Int32.not_le.mp hc | (simpa using hc)) r hr p e s m args below meth c H locs A B hl hM hS) (fun hc => ?_)
  have q := kf (by first | exact hc | exact Int32.not_lt.mp hc | exact Int32.not_le.mp hc | (simpa using hc)) r hr p e s m args below meth c H locs A B hl hM hS
  rw [hn] at q
  exact q
theorem X_if_lt {x : Int32} {off : Int} (hd : g_lk (m_code M) pc = some (.ifCond .lt off, nx, x1, x2)) (hn : nx = pc + 3) (kt : (x < 0) → GX l G M Φ k n x1 L st h F) (kf : ¬ (x < 0) → GX l G M Φ k n nx L st h F) : GX l G M Φ k n pc L (.int x :: st) h F := by
  intro r hr p e s m args below meth c H locs A B hl hM hS
  have hg := g_dec B.2.2.2.2.2.2.2.2.2 hd hn
  have ht := g_lk_ent _ B.2.2.2.2.2.2.2.2.2 hd
  unfold g_ent at ht
  simp only [Bool.and_eq_true, decide_eq_true_eq] at ht
  refine lv_if_lt B.1 B.2.1 hg ht.2 (fun hc => kt (by first | exact hc | exact Int32.not_lt.mp hc | exact Int32.not_le.mp hc | (simpa using hc)) r hr p e s m args below meth c H locs A B hl hM hS) (fun hc => ?_)
  have q := kf (by first | exact hc | exact Int32.not_lt.mp hc | exact Int32.not_le.mp hc | (simpa using hc)) r hr p e s m args below meth c H locs A B hl hM hS
  rw [hn] at q
  exact q
theorem X_icmp_lt {x y : Int32} {off : Int} (hd : g_lk (m_code M) pc = some (.if_icmp .lt off, nx, x1, x2)) (hn : nx = pc + 3) (kt : (x < y) → GX l G M Φ k n x1 L st h F) (kf : ¬ (x < y) → GX l G M Φ k n nx L st h F) : GX l G M Φ k n pc L (.int y :: .int x :: st) h F := by
  intro r hr p e s m args below meth c H locs A B hl hM hS
  have hg := g_dec B.2.2.2.2.2.2.2.2.2 hd hn
  have ht := g_lk_ent _ B.2.2.2.2.2.2.2.2.2 hd
  unfold g_ent at ht
  simp only [Bool.and_eq_true, decide_eq_true_eq] at ht
  refine lv_icmp_lt B.1 B.2.1 hg ht.2 (fun hc => kt (by first | exact hc | exact Int32.not_lt.mp hc | exact Int32.not_le.mp hc | (simpa using hc)) r hr p e s m args below meth c H locs A B hl hM hS) (fun hc => ?_)
  have q := kf (by first | exact hc | exact Int32.not_lt.mp hc | exact Int32.not_le.mp hc | (simpa using hc)) r hr p e s m args below meth c H locs A B hl hM hS
  rw [hn] at q
  exact q
theorem X_if_ge {x : Int32} {off : Int} (hd : g_lk (m_code M) pc = some (.ifCond .ge off, nx, x1, x2)) (hn : nx = pc + 3) (kt : (0 ≤ x) → GX l G M Φ k n x1 L st h F) (kf : ¬ (0 ≤ x) → GX l G M Φ k n nx L st h F) : GX l G M Φ k n pc L (.int x :: st) h F := by
  intro r hr p e s m args below meth c H locs A B hl hM hS
  have hg := g_dec B.2.2.2.2.2.2.2.2.2 hd hn
  have ht := g_lk_ent _ B.2.2.2.2.2.2.2.2.2 hd
  unfold g_ent at ht
  simp only [Bool.and_eq_true, decide_eq_true_eq] at ht
  refine lv_if_ge B.1 B.2.1 hg ht.2 (fun hc => kt (by first | exact hc | exact Int32.not_lt.mp hc | exact Int32.not_le.mp hc | (simpa using hc)) r hr p e s m args below meth c H locs A B hl hM hS) (fun hc => ?_)
  have q := kf (by first | exact hc | exact Int32.not_lt.mp hc | exact Int32.not_le.mp hc | (simpa using hc)) r hr p e s m args below meth c H locs A B hl hM hS
  rw [hn] at q
  exact q
theorem X_icmp_ge {x y : Int32} {off : Int} (hd : g_lk (m_code M) pc = some (.if_icmp .ge off, nx, x1, x2)) (hn : nx = pc + 3) (kt : (y ≤ x) → GX l G M Φ k n x1 L st h F) (kf : ¬ (y ≤ x) → GX l G M Φ k n nx L st h F) : GX l G M Φ k n pc L (.int y :: .int x :: st) h F := by
  intro r hr p e s m args below meth c H locs A B hl hM hS
  have hg := g_dec B.2.2.2.2.2.2.2.2.2 hd hn
  have ht := g_lk_ent _ B.2.2.2.2.2.2.2.2.2 hd
  unfold g_ent at ht
  simp only [Bool.and_eq_true, decide_eq_true_eq] at ht
  refine lv_icmp_ge B.1 B.2.1 hg ht.2 (fun hc => kt (by first | exact hc | exact Int32.not_lt.mp hc | exact Int32.not_le.mp hc | (simpa using hc)) r hr p e s m args below meth c H locs A B hl hM hS) (fun hc => ?_)
  have q := kf (by first | exact hc | exact Int32.not_lt.mp hc | exact Int32.not_le.mp hc | (simpa using hc)) r hr p e s m args below meth c H locs A B hl hM hS
  rw [hn] at q
  exact q
theorem X_if_gt {x : Int32} {off : Int} (hd : g_lk (m_code M) pc = some (.ifCond .gt off, nx, x1, x2)) (hn : nx = pc + 3) (kt : (0 < x) → GX l G M Φ k n x1 L st h F) (kf : ¬ (0 < x) → GX l G M Φ k n nx L st h F) : GX l G M Φ k n pc L (.int x :: st) h F := by
  intro r hr p e s m args below meth c H locs A B hl hM hS
  have hg := g_dec B.2.2.2.2.2.2.2.2.2 hd hn
  have ht := g_lk_ent _ B.2.2.2.2.2.2.2.2.2 hd
  unfold g_ent at ht
  simp only [Bool.and_eq_true, decide_eq_true_eq] at ht
  refine lv_if_gt B.1 B.2.1 hg ht.2 (fun hc => kt (by first | exact hc | exact Int32.not_lt.mp hc | exact Int32.not_le.mp hc | (simpa using hc)) r hr p e s m args below meth c H locs A B hl hM hS) (fun hc => ?_)
  have q := kf (by first | exact hc | exact Int32.not_lt.mp hc | exact Int32.not_le.mp hc | (simpa using hc)) r hr p e s m args below meth c H locs A B hl hM hS
  rw [hn] at q
  exact q
theorem X_icmp_gt {x y : Int32} {off : Int} (hd : g_lk (m_code M) pc = some (.if_icmp .gt off, nx, x1, x2)) (hn : nx = pc + 3) (kt : (y < x) → GX l G M Φ k n x1 L st h F) (kf : ¬ (y < x) → GX l G M Φ k n nx L st h F) : GX l G M Φ k n pc L (.int y :: .int x :: st) h F := by
  intro r hr p e s m args below meth c H locs A B hl hM hS
  have hg := g_dec B.2.2.2.2.2.2.2.2.2 hd hn
  have ht := g_lk_ent _ B.2.2.2.2.2.2.2.2.2 hd
  unfold g_ent at ht
  simp only [Bool.and_eq_true, decide_eq_true_eq] at ht
  refine lv_icmp_gt B.1 B.2.1 hg ht.2 (fun hc => kt (by first | exact hc | exact Int32.not_lt.mp hc | exact Int32.not_le.mp hc | (simpa using hc)) r hr p e s m args below meth c H locs A B hl hM hS) (fun hc => ?_)
  have q := kf (by first | exact hc | exact Int32.not_lt.mp hc | exact Int32.not_le.mp hc | (simpa using hc)) r hr p e s m args below meth c H locs A B hl hM hS
  rw [hn] at q
  exact q
theorem X_if_le {x : Int32} {off : Int} (hd : g_lk (m_code M) pc = some (.ifCond .le off, nx, x1, x2)) (hn : nx = pc + 3) (kt : (x ≤ 0) → GX l G M Φ k n x1 L st h F) (kf : ¬ (x ≤ 0) → GX l G M Φ k n nx L st h F) : GX l G M Φ k n pc L (.int x :: st) h F := by
  intro r hr p e s m args below meth c H locs A B hl hM hS
  have hg := g_dec B.2.2.2.2.2.2.2.2.2 hd hn
  have ht := g_lk_ent _ B.2.2.2.2.2.2.2.2.2 hd
  unfold g_ent at ht
  simp only [Bool.and_eq_true, decide_eq_true_eq] at ht
  refine lv_if_le B.1 B.2.1 hg ht.2 (fun hc => kt (by first | exact hc | exact Int32.not_lt.mp hc | exact Int32.not_le.mp hc | (simpa using hc)) r hr p e s m args below meth c H locs A B hl hM hS) (fun hc => ?_)
  have q := kf (by first | exact hc | exact Int32.not_lt.mp hc | exact Int32.not_le.mp hc | (simpa using hc)) r hr p e s m args below meth c H locs A B hl hM hS
  rw [hn] at q
  exact q
theorem X_icmp_le {x y : Int32} {off : Int} (hd : g_lk (m_code M) pc = some (.if_icmp .le off, nx, x1, x2)) (hn : nx = pc + 3) (kt : (x ≤ y) → GX l G M Φ k n x1 L st h F) (kf : ¬ (x ≤ y) → GX l G M Φ k n nx L st h F) : GX l G M Φ k n pc L (.int y :: .int x :: st) h F := by
  intro r hr p e s m args below meth c H locs A B hl hM hS
  have hg := g_dec B.2.2.2.2.2.2.2.2.2 hd hn
  have ht := g_lk_ent _ B.2.2.2.2.2.2.2.2.2 hd
  unfold g_ent at ht
  simp only [Bool.and_eq_true, decide_eq_true_eq] at ht
  refine lv_icmp_le B.1 B.2.1 hg ht.2 (fun hc => kt (by first | exact hc | exact Int32.not_lt.mp hc | exact Int32.not_le.mp hc | (simpa using hc)) r hr p e s m args below meth c H locs A B hl hM hS) (fun hc => ?_)
  have q := kf (by first | exact hc | exact Int32.not_lt.mp hc | exact Int32.not_le.mp hc | (simpa using hc)) r hr p e s m args below meth c H locs A B hl hM hS
  rw [hn] at q
  exact q
theorem X_goto {off : Int} (hd : g_lk (m_code M) pc = some (.goto off, nx, x1, x2)) (hn : nx = pc + 3) (kk : GX l G M Φ k n x1 L st h F) : GX l G M Φ k n pc L st h F := by
  intro r hr p e s m args below meth c H locs A B hl hM hS
  have hg := g_dec B.2.2.2.2.2.2.2.2.2 hd hn
  have ht := g_lk_ent _ B.2.2.2.2.2.2.2.2.2 hd
  unfold g_ent at ht
  simp only [Bool.and_eq_true, decide_eq_true_eq] at ht
  exact lv_goto B.1 B.2.1 hg ht.2 (kk r hr p e s m args below meth c H locs A B hl hM hS)
theorem X_ifnonnull {x : Option Nat} {off : Int} (hd : g_lk (m_code M) pc = some (.ifnonnull off, nx, x1, x2)) (hn : nx = pc + 3) (kt : ∀ a, x = some a → GX l G M Φ k n x1 L st h F) (kf : x = none → GX l G M Φ k n nx L st h F) : GX l G M Φ k n pc L (va_rf x :: st) h F := by
  intro r hr p e s m args below meth c H locs A B hl hM hS
  have hg := g_dec B.2.2.2.2.2.2.2.2.2 hd hn
  have ht := g_lk_ent _ B.2.2.2.2.2.2.2.2.2 hd
  unfold g_ent at ht
  simp only [Bool.and_eq_true, decide_eq_true_eq] at ht
  cases x with
  | none =>
    have q := kf rfl r hr p e s m args below meth c H locs A B hl hM hS
    rw [hn] at q
    exact lv_ifnonnullN B.1 B.2.1 hg q
  | some a => exact lv_ifnonnull B.1 B.2.1 hg ht.2 (kt a rfl r hr p e s m args below meth c H locs A B hl hM hS)
theorem X_ifnull {x : Option Nat} {off : Int} (hd : g_lk (m_code M) pc = some (.ifnull off, nx, x1, x2)) (hn : nx = pc + 3) (kt : x = none → GX l G M Φ k n x1 L st h F) (kf : ∀ a, x = some a → GX l G M Φ k n nx L st h F) : GX l G M Φ k n pc L (va_rf x :: st) h F := by
  intro r hr p e s m args below meth c H locs A B hl hM hS
  have hg := g_dec B.2.2.2.2.2.2.2.2.2 hd hn
  have ht := g_lk_ent _ B.2.2.2.2.2.2.2.2.2 hd
  unfold g_ent at ht
  simp only [Bool.and_eq_true, decide_eq_true_eq] at ht
  cases x with
  | none => exact lv_ifnullN B.1 B.2.1 hg ht.2 (kt rfl r hr p e s m args below meth c H locs A B hl hM hS)
  | some a =>
    have q := kf a rfl r hr p e s m args below meth c H locs A B hl hM hS
    rw [hn] at q
    exact lv_ifnull B.1 B.2.1 hg q
end GXR
end
section
/-! the heap's rows of GX -/
def g_ty (ci : Nat) : Nat → FieldType := match ci with
  | 0 => tyX0 | 1 => tyX1 | 2 => tyX2 | 3 => tyX3 | 4 => tyX4 | 5 => tyX5 | 6 => tyX6 | 7 => tyX7 | 8 => tyX8 | 9 => tyX9 | 10 => tyX10 | 11 => tyX11 | 12 => tyX12 | 13 => tyJ4 | _ => tyJ0
def g_cn (ci : Nat) : String := match vwCl[ci]? with
  | some q => q.1
  | none => ""
def g_dc (ci j : Nat) : Bool := match vwCl[ci]? with
  | some q => decide ((q.2.1 j).1 = q.1)
  | none => false
def g_fin (ci j : Nat) : Bool := match vwCl[ci]? with
  | some q => (q.2.1 j).2.2.2
  | none => true
theorem g_good0 : ∀ w ∈ wsX00, goodWord w = true := List.all_eq_true.mp (by decide +kernel)
theorem g_good1 : ∀ w ∈ wsX10, goodWord w = true := List.all_eq_true.mp (by decide +kernel)
theorem g_good2 : ∀ w ∈ wsX20, goodWord w = true := List.all_eq_true.mp (by decide +kernel)
theorem g_good3 : ∀ w ∈ wsX30, goodWord w = true := List.all_eq_true.mp (by decide +kernel)
theorem g_good4 : ∀ w ∈ wsX40, goodWord w = true := List.all_eq_true.mp (by decide +kernel)
theorem g_good5 : ∀ w ∈ wsX50, goodWord w = true := List.all_eq_true.mp (by decide +kernel)
theorem g_good6 : ∀ w ∈ wsX60, goodWord w = true := List.all_eq_true.mp (by decide +kernel)
theorem g_good7 : ∀ w ∈ wsX70, goodWord w = true := List.all_eq_true.mp (by decide +kernel)
theorem g_good8 : ∀ w ∈ wsX80, goodWord w = true := List.all_eq_true.mp (by decide +kernel)
theorem g_good9 : ∀ w ∈ wsX90, goodWord w = true := List.all_eq_true.mp (by decide +kernel)
theorem g_good10 : ∀ w ∈ wsX100, goodWord w = true := List.all_eq_true.mp (by decide +kernel)
theorem g_good11 : ∀ w ∈ wsX110, goodWord w = true := List.all_eq_true.mp (by decide +kernel)
theorem g_good12 : ∀ w ∈ wsX120, goodWord w = true := List.all_eq_true.mp (by decide +kernel)
theorem g_goodJ4 : ∀ w ∈ wsJ40, goodWord w = true := List.all_eq_true.mp (by decide +kernel)
theorem g_goodJ0 : ∀ w ∈ wsJ00, goodWord w = true := List.all_eq_true.mp (by decide +kernel)
theorem g_cls {ci : Nat} {C : String} {T : u_T} {N : Nat} (h : vwCl[ci]? = some (C, T, N)) : (∀ w ∈ u_ws C T N, w ∈ lw_tbl ∧ goodWord w = true) ∧ (∀ k, k < N → parseFieldDescriptor (T k).2.2.1 = some (g_ty ci k)) ∧ (∀ a, a < N → ∀ b, b < N → a ≠ b → (T a).2.1 ≠ (T b).2.1) := by
  match ci, h with
  | 0, h => cases h; exact ⟨fun w hw => ⟨inX0 w hw, g_good0 w hw⟩, tyX0_ok, nmX0⟩
  | 1, h => cases h; exact ⟨fun w hw => ⟨inX1 w hw, g_good1 w hw⟩, tyX1_ok, nmX1⟩
  | 2, h => cases h; exact ⟨fun w hw => ⟨inX2 w hw, g_good2 w hw⟩, tyX2_ok, nmX2⟩
  | 3, h => cases h; exact ⟨fun w hw => ⟨inX3 w hw, g_good3 w hw⟩, tyX3_ok, nmX3⟩
  | 4, h => cases h; exact ⟨fun w hw => ⟨inX4 w hw, g_good4 w hw⟩, tyX4_ok, nmX4⟩
  | 5, h => cases h; exact ⟨fun w hw => ⟨inX5 w hw, g_good5 w hw⟩, tyX5_ok, nmX5⟩
  | 6, h => cases h; exact ⟨fun w hw => ⟨inX6 w hw, g_good6 w hw⟩, tyX6_ok, nmX6⟩
  | 7, h => cases h; exact ⟨fun w hw => ⟨inX7 w hw, g_good7 w hw⟩, tyX7_ok, nmX7⟩
  | 8, h => cases h; exact ⟨fun w hw => ⟨inX8 w hw, g_good8 w hw⟩, tyX8_ok, nmX8⟩
  | 9, h => cases h; exact ⟨fun w hw => ⟨inX9 w hw, g_good9 w hw⟩, tyX9_ok, nmX9⟩
  | 10, h => cases h; exact ⟨fun w hw => ⟨inX10 w hw, g_good10 w hw⟩, tyX10_ok, nmX10⟩
  | 11, h => cases h; exact ⟨fun w hw => ⟨inX11 w hw, g_good11 w hw⟩, tyX11_ok, nmX11⟩
  | 12, h => cases h; exact ⟨fun w hw => ⟨inX12 w hw, g_good12 w hw⟩, tyX12_ok, nmX12⟩
  | 13, h => cases h; exact ⟨fun w hw => ⟨inJ4 w hw, g_goodJ4 w hw⟩, tyJ4_ok, nmJ4⟩
  | 14, h => cases h; exact ⟨fun w hw => ⟨inJ0 w hw, g_goodJ0 w hw⟩, tyJ0_ok, nmJ0⟩
  | k + 15, h => simp [vwCl] at h
theorem g_fld {own : String} {idx ci j : Nat} (h : g_fldOk own idx ci j = true) : ∃ (C : String) (T : u_T) (N : Nat), vwCl[ci]? = some (C, T, N) ∧ j < N ∧ Cond.fieldLink own idx (T j).1 (T j).2.1 (T j).2.2.1 ∈ lw_tbl := by
  unfold g_fldOk at h
  cases hc : vwCl[ci]? with
  | none => rw [hc] at h; cases h
  | some q =>
    obtain ⟨C, T, N⟩ := q
    rw [hc] at h
    simp only [Bool.and_eq_true, decide_eq_true_eq] at h
    exact ⟨C, T, N, rfl, h.1, h.2⟩
/-- the object at a, of the class ci: its field j -/
def g_fd (h : gH) (a ci j : Nat) : Option Value := match h.2 a with
  | some (.inr (c, fs)) => bif Nat.beq c ci then fs[j]? else none
  | _ => none
def g_gI (h : gH) (a ci j : Nat) : Option Int32 := match g_fd h a ci j with
  | some (.int v) => some v
  | _ => none
def g_gA (h : gH) (a ci j : Nat) : Option Nat := match g_fd h a ci j with
  | some (.ref v) => some v
  | _ => none
def g_is (h : gH) (a ci : Nat) : Bool := match h.2 a with
  | some (.inr (c, _)) => Nat.beq c ci
  | _ => false
def g_put (h : gH) (a ci j : Nat) (v : Value) : Option gH := match h.2 a with
  | some (.inr (c, fs)) => bif Nat.beq c ci && Nat.blt j fs.length then some (g_set h a (.inr (ci, fs.set j v))) else none
  | _ => none
/-- a boolean is 0 or 1 -/
def g_z (v : Int32) : Option Int32 := if v = 0 ∨ v = 1 then some v else none
def g_aI (h : gH) (a t : Nat) : Option (Nat × (Nat → Int32)) := match h.2 a with
  | some (.inl (t', n, .inl f)) => bif Nat.beq t' t then some (n, f) else none
  | _ => none
def g_aL (h : gH) (a : Nat) : Option (Nat × (Nat → Int64)) := match h.2 a with
  | some (.inl (t', n, .inr (.inl f))) => bif Nat.beq t' 2 then some (n, f) else none
  | _ => none
def g_aQ (h : gH) (a t : Nat) : Option (Nat × (Nat → Option Nat)) := match h.2 a with
  | some (.inl (t', n, .inr (.inr (.inr (.inr f))))) => bif Nat.beq t' t then some (n, f) else none
  | _ => none
def g_ix (i : Int32) (n : Nat) : Option Nat := if i < 0 ∨ n ≤ i.toNatClampNeg then none else some i.toNatClampNeg
def g_ald (h : gH) (a : Nat) (i : Int32) : Option Int32 := (g_aI h a 0).bind fun x => (g_ix i x.1).map x.2
def g_bld (h : gH) (a : Nat) (i : Int32) : Option Int32 := (g_aI h a 1).bind fun x => (g_ix i x.1).map x.2
def g_lld (h : gH) (a : Nat) (i : Int32) : Option Int64 := (g_aL h a).bind fun x => (g_ix i x.1).map x.2
def g_qld (h : gH) (a t : Nat) (i : Int32) : Option (Option Nat) := (g_aQ h a t).bind fun x => (g_ix i x.1).map x.2
def g_ast (h : gH) (a : Nat) (i x : Int32) : Option gH := (g_aI h a 0).bind fun y => (g_ix i y.1).map fun j => g_set h a (.inl (0, y.1, .inl (upd y.2 j x)))
def g_bst (h : gH) (a : Nat) (i x : Int32) : Option gH := (g_aI h a 1).bind fun y => (g_ix i y.1).map fun j => g_set h a (.inl (1, y.1, .inl (upd y.2 j x.toInt8.toInt32)))
def g_lst (h : gH) (a : Nat) (i : Int32) (x : Int64) : Option gH := (g_aL h a).bind fun y => (g_ix i y.1).map fun j => g_set h a (.inl (2, y.1, .inr (.inl (vp_updL y.2 j x))))
def g_qst (h : gH) (a t : Nat) (i : Int32) (v : Nat) : Option gH := (g_aQ h a t).bind fun y => (g_ix i y.1).map fun j => g_set h a (.inl (t, y.1, .inr (.inr (.inr (.inr (va_up y.2 j (some v)))))))
def g_aln (h : gH) (a : Nat) : Option Int32 := match h.2 a with
  | some (.inl (t, n, _)) => bif Nat.blt t 10 then some (Int32.ofNat n) else none
  | _ => none
theorem g_fd_some {h : gH} {a ci j : Nat} {v : Value} (e : g_fd h a ci j = some v) : ∃ fs, h.2 a = some (.inr (ci, fs)) ∧ fs[j]? = some v := by
  unfold g_fd at e
  split at e
  · next c fs hc =>
    cases hb : Nat.beq c ci with
    | false => rw [hb] at e; cases e
    | true =>
      rw [hb] at e
      cases Nat.eq_of_beq_eq_true hb
      exact ⟨fs, hc, e⟩
  · cases e
theorem g_gI_some {h : gH} {a ci j : Nat} {v : Int32} (e : g_gI h a ci j = some v) : ∃ fs, h.2 a = some (.inr (ci, fs)) ∧ fs[j]? = some (.int v) := by
  unfold g_gI at e
  split at e
  · next x hx => cases e; exact g_fd_some hx
  · cases e
theorem g_gA_some {h : gH} {a ci j v : Nat} (e : g_gA h a ci j = some v) : ∃ fs, h.2 a = some (.inr (ci, fs)) ∧ fs[j]? = some (.ref v) := by
  unfold g_gA at e
  split at e
  · next x hx => cases e; exact g_fd_some hx
  · cases e
theorem g_is_some {h : gH} {a ci : Nat} (e : g_is h a ci = true) : ∃ fs, h.2 a = some (.inr (ci, fs)) := by
  unfold g_is at e
  split at e
  · next c fs hc => cases Nat.eq_of_beq_eq_true e; exact ⟨fs, hc⟩
  · cases e
theorem g_put_some {h h' : gH} {a ci j : Nat} {v : Value} (e : g_put h a ci j v = some h') : ∃ fs, h.2 a = some (.inr (ci, fs)) ∧ j < fs.length ∧ h' = g_set h a (.inr (ci, fs.set j v)) := by
  unfold g_put at e
  split at e
  · next c fs hc =>
    cases hb : Nat.beq c ci && Nat.blt j fs.length with
    | false => rw [hb] at e; cases e
    | true =>
      rw [hb] at e
      rw [Bool.and_eq_true] at hb
      cases Nat.eq_of_beq_eq_true hb.1
      cases e
      exact ⟨fs, hc, Nat.blt_eq.mp hb.2, rfl⟩
  · cases e
theorem g_aI_some {h : gH} {a t n : Nat} {f : Nat → Int32} (e : g_aI h a t = some (n, f)) : h.2 a = some (.inl (t, n, .inl f)) := by
  unfold g_aI at e
  split at e
  · next t' n' f' hc =>
    cases hb : Nat.beq t' t with
    | false => rw [hb] at e; cases e
    | true => rw [hb] at e; cases Nat.eq_of_beq_eq_true hb; cases e; exact hc
  · cases e
theorem g_aL_some {h : gH} {a n : Nat} {f : Nat → Int64} (e : g_aL h a = some (n, f)) : h.2 a = some (.inl (2, n, .inr (.inl f))) := by
  unfold g_aL at e
  split at e
  · next t' n' f' hc =>
    cases hb : Nat.beq t' 2 with
    | false => rw [hb] at e; cases e
    | true => rw [hb] at e; cases Nat.eq_of_beq_eq_true hb; cases e; exact hc
  · cases e
theorem g_aQ_some {h : gH} {a t n : Nat} {f : Nat → Option Nat} (e : g_aQ h a t = some (n, f)) : h.2 a = some (.inl (t, n, .inr (.inr (.inr (.inr f))))) := by
  unfold g_aQ at e
  split at e
  · next t' n' f' hc =>
    cases hb : Nat.beq t' t with
    | false => rw [hb] at e; cases e
    | true => rw [hb] at e; cases Nat.eq_of_beq_eq_true hb; cases e; exact hc
  · cases e
theorem g_ix_some {i : Int32} {n j : Nat} (e : g_ix i n = some j) : vp_in i n ∧ j = i.toNatClampNeg := by
  unfold g_ix at e
  split at e
  · cases e
  · next hc => cases e; exact ⟨hc, rfl⟩
theorem g_P1 {G : gG} {h : gH} {H : Heap} {a : Nat} {o : Nat × List Value} (hM : g_M G h H) (ha : h.2 a = some (.inr o)) : va_P (g_D G) vwCl [(a, .inr o)] H := by
  intro k q hk
  cases k with
  | zero => cases hk; exact (hM.2.2 a _ ha).2
  | succ k => simp at hk
theorem g_PA {G : gG} {h : gH} {H : Heap} {a t : Nat} {x : vp_A} (hM : g_M G h H) (ha : h.2 a = some (.inl (t, x))) : va_P (g_D G) vwCl [(a, .inl (g_c G t, x))] H := by
  intro k q hk
  cases k with
  | zero => cases hk; exact (hM.2.2 a _ ha).2
  | succ k => simp at hk
section GXH
variable {α : Type} {l : Launch} {G : gG} {M : gMt} {Φ : α → Method → Code → State → Array Value → List Frame → State → Prop} {k n pc nx x1 x2 : Nat} {L : List (Option Value)} {st : List Value} {h : gH} {F : Option α}
theorem X_fd {a idx ci j : Nat} {v : Value} (hd : g_lk (m_code M) pc = some (.getfield idx, nx, ci, j)) (hn : nx = pc + 3) {fs : List Value} (ha : h.2 a = some (.inr (ci, fs))) (hv : fs[j]? = some v) (kk : GX l G M Φ k n nx L (v :: st) h F) : GX l G M Φ k n pc L (.ref a :: st) h F := by
  intro r hr p e s m args below meth c H locs A B hl hM hS
  have hg := g_dec B.2.2.2.2.2.2.2.2.2 hd hn
  have ht := g_lk_ent _ B.2.2.2.2.2.2.2.2.2 hd
  unfold g_ent at ht
  simp only [Bool.and_eq_true, decide_eq_true_eq] at ht
  obtain ⟨C, T, N, hc, hj, hlk⟩ := g_fld ht.2
  obtain ⟨hw, hty, hnm⟩ := g_cls hc
  have q := kk r hr p e s m args below meth c H locs A B hl hM hS
  rw [hn] at q
  exact va_get (D := g_D G) (cl := vwCl) (tys := g_tl (g_c G)) (ws := [(a, .inr (ci, fs))]) (C := C) (T := T) (N := N) (Ts := u_ws C T N) B.1 B.2.1 (fun w h => B.2.2.2.2.2.2.1 w (hw w h).1 (hw w h).2) (fun w h => h) B.2.2.2.2.2.1 B.2.2.2.2.2.2.2.1.1 (g_P1 hM ha) 0 rfl hc j hj (B.2.2.2.2.2.2.1 _ hlk rfl) (fun _ h9 => h9) hv hg q
theorem X_getI {a idx ci j : Nat} {K : Int32 → Option α} (hd : g_lk (m_code M) pc = some (.getfield idx, nx, ci, j)) (hn : nx = pc + 3) (kk : ∀ v, GX l G M Φ k n nx L (.int v :: st) h (K v)) : GX l G M Φ k n pc L (.ref a :: st) h ((g_gI h a ci j).bind K) := by
  refine X_bind fun v hv => ?_
  obtain ⟨fs, h1, h2⟩ := g_gI_some hv
  exact X_fd hd hn h1 h2 (kk v)
theorem X_getA {a idx ci j : Nat} {K : Nat → Option α} (hd : g_lk (m_code M) pc = some (.getfield idx, nx, ci, j)) (hn : nx = pc + 3) (kk : ∀ v, GX l G M Φ k n nx L (.ref v :: st) h (K v)) : GX l G M Φ k n pc L (.ref a :: st) h ((g_gA h a ci j).bind K) := by
  refine X_bind fun v hv => ?_
  obtain ⟨fs, h1, h2⟩ := g_gA_some hv
  exact X_fd hd hn h1 h2 (kk v)
theorem g_putH {fs : List Value} {a ci j : Nat} {v : Value} {H H1 : Heap} {C : String} {T : u_T} {N : Nat} {cell : Cell} {sl : Nat} (hM : g_M G h H) (ha : h.2 a = some (.inr (ci, fs))) (hj : j < fs.length) (hc : vwCl[ci]? = some (C, T, N)) (hap : ∀ x y, x < N → y < N → x ≠ y → (g_D G).2 ci x ≠ (g_D G).2 ci y) (hjN : j < N) (q2 : cell.cls = (g_D G).1 ci) (q3 : cell.vm = .none) (q4 : ∀ k, k < N → cell.slots[(g_D G).2 ci k]? = some (vp_V fs k)) (hsl : sl = (g_D G).2 ci j)
    (e1 : H1[a]? = some (cell.setSlot sl v)) (z : H1.size = H.size) (o : ∀ q, q ≠ a → H1[q]? = H[q]?) : g_M G (g_set h a (.inr (ci, fs.set j v))) H1 := by
  subst hsl
  refine hM.set ha ?_ z o
  exact ⟨_, hc, t_OB.to (V := updV (vp_V fs) j v) ⟨_, e1, q2, q3, t_set q4 hap hjN v⟩ (fun i _ => vp_updV_set hj v i)⟩
theorem X_put {a idx ci j : Nat} {v : Value} {K : gH → Option α} (hd : g_lk (m_code M) pc = some (.putfield idx, nx, ci, j)) (hn : nx = pc + 3) (hfin : g_fin ci j = false) (hnv : narrow (g_ty ci j) v = v) (hfit : fits (g_ty ci j) v = true) (kk : ∀ h', GX l G M Φ k n nx L st h' (K h')) : GX l G M Φ k n pc L (v :: .ref a :: st) h ((g_put h a ci j v).bind K) := by
  refine X_bind fun h' hv => ?_
  obtain ⟨fs, ha, hj, rfl⟩ := g_put_some hv
  intro r hr p e s m args below meth c H locs A B hl hM hS
  have hg := g_dec B.2.2.2.2.2.2.2.2.2 hd hn
  have ht := g_lk_ent _ B.2.2.2.2.2.2.2.2.2 hd
  unfold g_ent at ht
  simp only [Bool.and_eq_true, decide_eq_true_eq] at ht
  obtain ⟨C, T, N, hc, hjN, hlk⟩ := g_fld ht.2
  obtain ⟨hw, hty, hnm⟩ := g_cls hc
  have hts : ∀ w ∈ u_ws C T N, w.before args s = true := fun w h => B.2.2.2.2.2.2.1 w (hw w h).1 (hw w h).2
  have hK := B.2.2.2.2.2.2.2.1.1
  have hown := B.2.2.2.2.2.1
  have hap := va_apart (own := (m_y M).cls) hts (fun w h => h) (g_ty ci) hty hnm hK hc
  obtain ⟨r9, h1, cell, q1, q2, q3, q4⟩ := (hM.2.2 a _ ha).2
  have hr9 : r9 = (C, T, N) := Option.some.inj (h1.symm.trans hc)
  subst hr9
  obtain ⟨hSl, hfc, kC, hkC, hkind⟩ := hK.1 ci _ hc
  obtain ⟨cf, kf, fi, f, hi, hsl⟩ := hSl j hjN
  have hf0 : (T j).2.2.2 = false := by
    unfold g_fin at hfin
    rw [hc] at hfin
    exact hfin
  have hlay := hts _ (u_in_lay hjN)
  unfold u_lay at hlay
  rw [if_neg (by rw [hf0]; decide)] at hlay
  have hst := (u_facts hfc hkC (u_lays hts (fun w h => h) hjN) hi).1
  have h6 := u_store hfc hkC hkind hlay hi (hty j hjN) hnv hfit
  refine W.putK B.1 B.2.1 (f := f) ⟨hown, B.2.2.2.2.2.2.1 _ hlk rfl, ⟨_, _, _, hi⟩, hst⟩ (by rw [q2]; exact h6) q1 q3 (by rw [hsl]; exact k2_hasslot (q4 j hjN)) rfl rfl hg fun H' e1 e2 e3 => ?_
  have q := kk _ r hr p e s m args below meth c H' (locs ++ [⟨a, f.slot⟩]) A B hl (g_putH hM ha hj hc hap hjN q2 q3 q4 hsl e1 e2 e3) (g_S.put hS e2 e3 (hM.2.2 a _ ha).1)
  rw [hn] at q
  exact q
theorem X_putF {a idx ci j : Nat} {v : Value} {K : gH → Option α} (hd : g_lk (m_code M) pc = some (.putfield idx, nx, ci, j)) (hn : nx = pc + 3) (hfin : g_fin ci j = true) (hin : (m_y M).name = "<init>") (hcn : g_cn ci = (m_y M).cls) (hnv : narrow (g_ty ci j) v = v) (hfit : fits (g_ty ci j) v = true) (kk : ∀ h', GX l G M Φ k n nx L st h' (K h')) (hdc : g_dc ci j = true := by decide +kernel) : GX l G M Φ k n pc L (v :: .ref a :: st) h ((g_put h a ci j v).bind K) := by
  refine X_bind fun h' hv => ?_
  obtain ⟨fs, ha, hj, rfl⟩ := g_put_some hv
  intro r hr p e s m args below meth c H locs A B hl hM hS
  have hg := g_dec B.2.2.2.2.2.2.2.2.2 hd hn
  have ht := g_lk_ent _ B.2.2.2.2.2.2.2.2.2 hd
  unfold g_ent at ht
  simp only [Bool.and_eq_true, decide_eq_true_eq] at ht
  obtain ⟨C, T, N, hc, hjN, hlk⟩ := g_fld ht.2
  obtain ⟨hw, hty, hnm⟩ := g_cls hc
  have hts : ∀ w ∈ u_ws C T N, w.before args s = true := fun w h => B.2.2.2.2.2.2.1 w (hw w h).1 (hw w h).2
  have hK := B.2.2.2.2.2.2.2.1.1
  have hown := B.2.2.2.2.2.1
  have hap := va_apart (own := (m_y M).cls) hts (fun w h => h) (g_ty ci) hty hnm hK hc
  obtain ⟨r9, h1, cell, q1, q2, q3, q4⟩ := (hM.2.2 a _ ha).2
  have hr9 : r9 = (C, T, N) := Option.some.inj (h1.symm.trans hc)
  subst hr9
  obtain ⟨hSl, hfc, kC, hkC, hkind⟩ := hK.1 ci _ hc
  obtain ⟨cf, kf, fi, f, hi, hsl⟩ := hSl j hjN
  have hf0 : (T j).2.2.2 = true := by
    unfold g_fin at hfin
    rw [hc] at hfin
    exact hfin
  have hlay := hts _ (u_in_lay hjN)
  unfold u_lay at hlay
  rw [if_pos hf0] at hlay
  have hst := (u_facts hfc hkC (u_lays hts (fun w h => h) hjN) hi).1
  have hcf : m.cls = cf := by
    obtain ⟨_, _, c', _, _, _, -, -, hf', -, -, -, hown2, -⟩ := Cond.laysFinal_spec hlay
    have e1 : c' = cf := by have := hi.symm.trans hf'; simp at this; exact this.1.symm
    have hC : (T j).1 = C := by
      unfold g_dc at hdc
      rw [hc] at hdc
      exact of_decide_eq_true hdc
    have hdecl : (T j).1 = (m_y M).cls := by
      rw [hC, ← hcn]
      unfold g_cn
      rw [hc]
    rw [hdecl] at hown2
    rw [← e1]; exact Option.some.inj (hown.symm.trans hown2)
  have h6 := u_fits hfc hkC hkind (Or.inr hlay) hi (hty j hjN) hnv hfit
  refine W.putFinK B.1 B.2.1 hown (B.2.2.2.2.2.2.1 _ hlk rfl) hi hst hcf (B.2.2.2.2.2.2.2.2.1.1 hin) (by rw [q2]; exact h6) q1 q3 (by rw [hsl]; exact k2_hasslot (q4 j hjN)) rfl rfl hg fun H' e1 e2 e3 => ?_
  have q := kk _ r hr p e s m args below meth c H' (locs ++ [⟨a, f.slot⟩]) A B hl (g_putH hM ha hj hc hap hjN q2 q3 q4 hsl e1 e2 e3) (g_S.put hS e2 e3 (hM.2.2 a _ ha).1)
  rw [hn] at q
  exact q
end GXH
end
section
/-! arrays, new objects -/
section GXA
variable {α : Type} {l : Launch} {G : gG} {M : gMt} {Φ : α → Method → Code → State → Array Value → List Frame → State → Prop} {k n pc nx x1 x2 : Nat} {L : List (Option Value)} {st : List Value} {h : gH} {F : Option α}
theorem X_ald {a : Nat} {i : Int32} {K : Int32 → Option α} (hd : g_lk (m_code M) pc = some (.iaload, nx, x1, x2)) (hn : nx = pc + 1) (kk : ∀ v, GX l G M Φ k n nx L (.int v :: st) h (K v)) : GX l G M Φ k n pc L (.int i :: .ref a :: st) h ((g_ald h a i).bind K) := by
  refine X_bind fun v hv => ?_
  unfold g_ald at hv
  cases hx : g_aI h a 0 with
  | none => rw [hx] at hv; cases hv
  | some x =>
    obtain ⟨m0, f⟩ := x
    rw [hx] at hv
    simp only [Option.bind_some, Option.map_eq_some_iff] at hv
    obtain ⟨j, hj, rfl⟩ := hv
    obtain ⟨hin, rfl⟩ := g_ix_some hj
    intro r hr p e s m args below meth c H locs A B hl hM hS
    have hg := g_dec B.2.2.2.2.2.2.2.2.2 hd hn
    have q := kk _ r hr p e s m args below meth c H locs A B hl hM hS
    rw [hn] at q
    exact va_iald (D := g_D G) (cl := vwCl) (tys := g_tl (g_c G)) (ws := [(a, .inl (g_c G 0, m0, .inl f))]) B.1 B.2.1 B.2.2.2.2.2.2.2.1.1 (g_PA hM (g_aI_some hx)) 0 0 rfl rfl hin hg q
theorem X_bld {a : Nat} {i : Int32} {K : Int32 → Option α} (hd : g_lk (m_code M) pc = some (.baload, nx, x1, x2)) (hn : nx = pc + 1) (kk : ∀ v, GX l G M Φ k n nx L (.int v :: st) h (K v)) : GX l G M Φ k n pc L (.int i :: .ref a :: st) h ((g_bld h a i).bind K) := by
  refine X_bind fun v hv => ?_
  unfold g_bld at hv
  cases hx : g_aI h a 1 with
  | none => rw [hx] at hv; cases hv
  | some x =>
    obtain ⟨m0, f⟩ := x
    rw [hx] at hv
    simp only [Option.bind_some, Option.map_eq_some_iff] at hv
    obtain ⟨j, hj, rfl⟩ := hv
    obtain ⟨hin, rfl⟩ := g_ix_some hj
    intro r hr p e s m args below meth c H locs A B hl hM hS
    have hg := g_dec B.2.2.2.2.2.2.2.2.2 hd hn
    have q := kk _ r hr p e s m args below meth c H locs A B hl hM hS
    rw [hn] at q
    exact va_bald (D := g_D G) (cl := vwCl) (tys := g_tl (g_c G)) (ws := [(a, .inl (g_c G 1, m0, .inl f))]) B.1 B.2.1 B.2.2.2.2.2.2.2.1.1 (g_PA hM (g_aI_some hx)) 0 1 rfl rfl hin hg q
theorem X_lld {a : Nat} {i : Int32} {K : Int64 → Option α} (hd : g_lk (m_code M) pc = some (.laload, nx, x1, x2)) (hn : nx = pc + 1) (kk : ∀ v, GX l G M Φ k n nx L (.long v :: st) h (K v)) : GX l G M Φ k n pc L (.int i :: .ref a :: st) h ((g_lld h a i).bind K) := by
  refine X_bind fun v hv => ?_
  unfold g_lld at hv
  cases hx : g_aL h a with
  | none => rw [hx] at hv; cases hv
  | some x =>
    obtain ⟨m0, f⟩ := x
    rw [hx] at hv
    simp only [Option.bind_some, Option.map_eq_some_iff] at hv
    obtain ⟨j, hj, rfl⟩ := hv
    obtain ⟨hin, rfl⟩ := g_ix_some hj
    intro r hr p e s m args below meth c H locs A B hl hM hS
    have hg := g_dec B.2.2.2.2.2.2.2.2.2 hd hn
    have q := kk _ r hr p e s m args below meth c H locs A B hl hM hS
    rw [hn] at q
    exact va_lald (D := g_D G) (cl := vwCl) (tys := g_tl (g_c G)) (ws := [(a, .inl (g_c G 2, m0, .inr (.inl f)))]) B.1 B.2.1 B.2.2.2.2.2.2.2.1.1 (g_PA hM (g_aL_some hx)) 0 2 rfl rfl hin hg q
theorem g_qldW {a m0 t : Nat} {i : Int32} {f : Nat → Option Nat} {p : Program} {e : Env} {s : State} {m : MethodId} {args : Array Value} {below : List Frame} {meth : Method} {c : Code} {H : Heap} {locs : List Loc} {A : Array Slot} {Q : State → Prop} {ty : FieldType} (B : g_bx G M p s m args meth c) (hM : g_M G h H) (ha : h.2 a = some (.inl (t, m0, .inr (.inr (.inr (.inr f)))))) (ht : (g_tl (g_c G))[t]? = some (g_c G t, ty)) (hty : refKind ty = true) (hin : vp_in i m0) (hg : decode (m_cc M) pc = .ok (.aaload, 1)) (q : W p l e (m_R M) s m args below meth c H locs k n Q (F0 m (pc + 1) A (va_rf (f i.toNatClampNeg) :: st))) : W p l e (m_R M) s m args below meth c H locs k n Q (F0 m pc A (.int i :: .ref a :: st)) := by
  have hlt : i.toNatClampNeg < m0 := Nat.not_le.mp fun q => hin (Or.inr q)
  have hP := g_PA hM ha
  exact W.aald (v := va_rf (f i.toNatClampNeg)) (ty := ty) B.1 B.2.1 (hP 0 _ rfl) ((B.2.2.2.2.2.2.2.1.1.2 t _ ht).1 m0 (fun j => va_rf (f j))) hty (fun q => by cases q) (by show ¬ (i < 0 ∨ (arrV _ _ _).slots.size ≤ _); rw [arrV_size]; exact hin) (by show (arrV _ _ _).slots[_]? = _; rw [arrV_read _ _ hlt]) rfl rfl hg q
theorem X_qld {a t : Nat} {i : Int32} {K : Option Nat → Option α} (hd : g_lk (m_code M) pc = some (.aaload, nx, x1, x2)) (hn : nx = pc + 1) (ht : t = 3 ∨ t = 4 ∨ t = 5) (kk : ∀ v, GX l G M Φ k n nx L (va_rf v :: st) h (K v)) : GX l G M Φ k n pc L (.int i :: .ref a :: st) h ((g_qld h a t i).bind K) := by
  refine X_bind fun v hv => ?_
  unfold g_qld at hv
  cases hx : g_aQ h a t with
  | none => rw [hx] at hv; cases hv
  | some x =>
    obtain ⟨m0, f⟩ := x
    rw [hx] at hv
    simp only [Option.bind_some, Option.map_eq_some_iff] at hv
    obtain ⟨j, hj, rfl⟩ := hv
    obtain ⟨hin, rfl⟩ := g_ix_some hj
    intro r hr p e s m args below meth c H locs A B hl hM hS
    have hg := g_dec B.2.2.2.2.2.2.2.2.2 hd hn
    have q := kk _ r hr p e s m args below meth c H locs A B hl hM hS
    rw [hn] at q
    rcases ht with rfl | rfl | rfl
    · exact g_qldW B hM (g_aQ_some hx) rfl rfl hin hg q
    · exact g_qldW B hM (g_aQ_some hx) rfl rfl hin hg q
    · exact g_qldW B hM (g_aQ_some hx) rfl rfl hin hg q
theorem X_ast {a : Nat} {i x : Int32} {K : gH → Option α} (hd : g_lk (m_code M) pc = some (.iastore, nx, x1, x2)) (hn : nx = pc + 1) (kk : ∀ h', GX l G M Φ k n nx L st h' (K h')) : GX l G M Φ k n pc L (.int x :: .int i :: .ref a :: st) h ((g_ast h a i x).bind K) := by
  refine X_bind fun v hv => ?_
  unfold g_ast at hv
  cases hx : g_aI h a 0 with
  | none => rw [hx] at hv; cases hv
  | some y =>
    obtain ⟨m0, f⟩ := y
    rw [hx] at hv
    simp only [Option.bind_some, Option.map_eq_some_iff] at hv
    obtain ⟨j, hj, rfl⟩ := hv
    obtain ⟨hin, rfl⟩ := g_ix_some hj
    have ha := g_aI_some hx
    intro r hr p e0 s m args below meth c H locs A B hl hM hS
    have hg := g_dec B.2.2.2.2.2.2.2.2.2 hd hn
    have hP := g_PA hM ha
    refine W.iast B.1 B.2.1 (hP 0 _ rfl) ((B.2.2.2.2.2.2.2.1.1.2 0 _ rfl).1 m0 (fun j => .int (f j))) (fun q => by cases q) (by show ¬ (i < 0 ∨ (arrV _ _ _).slots.size ≤ _); rw [arrV_size]; exact hin) rfl rfl hg fun H1 e z oq => ?_
    have q := kk _ r hr p e0 s m args below meth c H1 (locs ++ [⟨a, i.toNatClampNeg⟩]) A B hl (hM.set ha ?_ z oq) (g_S.put hS z oq (hM.2.2 a _ ha).1)
    · rw [hn] at q
      exact q
    · show H1[a]? = some (vp_cell _ _)
      rw [e]
      rw [vp_cell_i, vp_cell_i, arrV_store]
      congr 2
      funext q
      by_cases hq : q = i.toNatClampNeg
      · subst hq
        simp [updV, upd]
      · simp [updV, upd, hq]
theorem X_bst {a : Nat} {i x : Int32} {K : gH → Option α} (hd : g_lk (m_code M) pc = some (.bastore, nx, x1, x2)) (hn : nx = pc + 1) (kk : ∀ h', GX l G M Φ k n nx L st h' (K h')) : GX l G M Φ k n pc L (.int x :: .int i :: .ref a :: st) h ((g_bst h a i x).bind K) := by
  refine X_bind fun v hv => ?_
  unfold g_bst at hv
  cases hx : g_aI h a 1 with
  | none => rw [hx] at hv; cases hv
  | some y =>
    obtain ⟨m0, f⟩ := y
    rw [hx] at hv
    simp only [Option.bind_some, Option.map_eq_some_iff] at hv
    obtain ⟨j, hj, rfl⟩ := hv
    obtain ⟨hin, rfl⟩ := g_ix_some hj
    have ha := g_aI_some hx
    intro r hr p e0 s m args below meth c H locs A B hl hM hS
    have hg := g_dec B.2.2.2.2.2.2.2.2.2 hd hn
    have hP := g_PA hM ha
    refine W.bast B.1 B.2.1 (hP 0 _ rfl) ((B.2.2.2.2.2.2.2.1.1.2 1 _ rfl).1 m0 (fun j => .int (f j))) (fun q => by cases q) (by show ¬ (i < 0 ∨ (arrV _ _ _).slots.size ≤ _); rw [arrV_size]; exact hin) rfl rfl hg fun H1 e z oq => ?_
    have q := kk _ r hr p e0 s m args below meth c H1 (locs ++ [⟨a, i.toNatClampNeg⟩]) A B hl (hM.set ha ?_ z oq) (g_S.put hS z oq (hM.2.2 a _ ha).1)
    · rw [hn] at q
      exact q
    · show H1[a]? = some (vp_cell _ _)
      rw [e]
      rw [vp_cell_i, vp_cell_i, arrV_store]
      congr 2
      funext q
      by_cases hq : q = i.toNatClampNeg
      · subst hq
        simp [updV, upd, narrow]
      · simp [updV, upd, hq]
theorem X_lst {a : Nat} {i : Int32} {x : Int64} {K : gH → Option α} (hd : g_lk (m_code M) pc = some (.lastore, nx, x1, x2)) (hn : nx = pc + 1) (kk : ∀ h', GX l G M Φ k n nx L st h' (K h')) : GX l G M Φ k n pc L (.long x :: .int i :: .ref a :: st) h ((g_lst h a i x).bind K) := by
  refine X_bind fun v hv => ?_
  unfold g_lst at hv
  cases hx : g_aL h a with
  | none => rw [hx] at hv; cases hv
  | some y =>
    obtain ⟨m0, f⟩ := y
    rw [hx] at hv
    simp only [Option.bind_some, Option.map_eq_some_iff] at hv
    obtain ⟨j, hj, rfl⟩ := hv
    obtain ⟨hin, rfl⟩ := g_ix_some hj
    have ha := g_aL_some hx
    intro r hr p e0 s m args below meth c H locs A B hl hM hS
    have hg := g_dec B.2.2.2.2.2.2.2.2.2 hd hn
    have hP := g_PA hM ha
    refine W.last B.1 B.2.1 (hP 0 _ rfl) ((B.2.2.2.2.2.2.2.1.1.2 2 _ rfl).1 m0 (fun j => .long (f j))) (fun q => by cases q) (by show ¬ (i < 0 ∨ (arrV _ _ _).slots.size ≤ _); rw [arrV_size]; exact hin) rfl rfl hg fun H1 e z oq => ?_
    have q := kk _ r hr p e0 s m args below meth c H1 (locs ++ [⟨a, i.toNatClampNeg⟩]) A B hl (hM.set ha ?_ z oq) (g_S.put hS z oq (hM.2.2 a _ ha).1)
    · rw [hn] at q
      exact q
    · show H1[a]? = some (vp_cell _ _)
      rw [e]
      rw [vp_cell_l, vp_cell_l, arrV_store]
      congr 2
      funext q
      by_cases hq : q = i.toNatClampNeg
      · subst hq
        simp [updV, vp_updL]
      · simp [updV, vp_updL, hq]
theorem X_aln {a : Nat} {K : Int32 → Option α} (hd : g_lk (m_code M) pc = some (.arraylength, nx, x1, x2)) (hn : nx = pc + 1) (kk : ∀ v, GX l G M Φ k n nx L (.int v :: st) h (K v)) : GX l G M Φ k n pc L (.ref a :: st) h ((g_aln h a).bind K) := by
  refine X_bind fun v hv => ?_
  unfold g_aln at hv
  split at hv
  · next t m0 f ha =>
    cases hb8 : Nat.blt t 10 with
    | false => rw [hb8] at hv; cases hv
    | true =>
    have hb9 := Nat.blt_eq.mp hb8
    rw [hb8] at hv
    cases hv
    intro r hr p e s m args below meth c H locs A B hl hM hS
    have hg := g_dec B.2.2.2.2.2.2.2.2.2 hd hn
    have q := kk _ r hr p e s m args below meth c H locs A B hl hM hS
    rw [hn] at q
    by_cases ht : t < 10
    · obtain ⟨ty, hty⟩ : ∃ ty, (g_tl (g_c G))[t]? = some (g_c G t, ty) := by
        match t, ht with
        | 0, _ => exact ⟨_, rfl⟩
        | 1, _ => exact ⟨_, rfl⟩
        | 2, _ => exact ⟨_, rfl⟩
        | 3, _ => exact ⟨_, rfl⟩
        | 4, _ => exact ⟨_, rfl⟩
        | 5, _ => exact ⟨_, rfl⟩
        | 6, _ => exact ⟨_, rfl⟩
        | 7, _ => exact ⟨_, rfl⟩
        | 8, _ => exact ⟨_, rfl⟩
        | 9, _ => exact ⟨_, rfl⟩
      exact va_alen (D := g_D G) (cl := vwCl) (tys := g_tl (g_c G)) (ws := [(a, .inl (g_c G t, m0, f))]) B.1 B.2.1 B.2.2.2.2.2.2.2.1.1 (g_PA hM ha) 0 t rfl hty rfl hg q
    · exact absurd hb9 ht
  · cases hv
/-- a new object's fields -/
def g_dfl (ci : Nat) : List Value := match vwCl[ci]? with
  | some q => (List.range q.2.2).map fun j => defaultValue (g_ty ci j)
  | none => []
def g_nf (ci : Nat) : Nat := match vwCl[ci]? with
  | some q => q.2.2
  | none => 0
theorem X_new {idx ci : Nat} (hd : g_lk (m_code M) pc = some (.new idx, nx, ci, x2)) (hn : nx = pc + 3) (hk : Nat.ble (k + 1) (m_R M).cells = true) (hs : Nat.ble (n + g_nf ci) (m_R M).slots = true) (kk : GX l G M Φ (k + 1) (n + g_nf ci) nx L (.ref h.1 :: st) (g_add h (.inr (ci, g_dfl ci))) F) : GX l G M Φ k n pc L st h F := by
  intro r hr p e s m args below meth c H locs A B hl hM hS
  have hg := g_dec B.2.2.2.2.2.2.2.2.2 hd hn
  have ht := g_lk_ent _ B.2.2.2.2.2.2.2.2.2 hd
  unfold g_ent at ht
  simp only [Bool.and_eq_true, decide_eq_true_eq] at ht
  have ht2 := ht.2
  unfold g_newOk at ht2
  cases hc : vwCl[ci]? with
  | none => rw [hc] at ht2; cases ht2
  | some q =>
    obtain ⟨C, T, N⟩ := q
    rw [hc] at ht2
    simp only [Bool.and_eq_true, decide_eq_true_eq] at ht2
    obtain ⟨hw, hty, hnm⟩ := g_cls hc
    have hts : ∀ w ∈ u_ws C T N, w.before args s = true := fun w h => B.2.2.2.2.2.2.1 w (hw w h).1 (hw w h).2
    have hKn := B.2.2.2.2.2.2.2.1.1.1 ci _ hc
    have hnf : g_nf ci = N := by unfold g_nf; rw [hc]
    rw [hnf] at hs kk
    refine W.newcK B.1 B.2.1 B.2.2.2.2.2.1 (B.2.2.2.2.2.2.1 _ ht2.1.1 rfl) (B.2.2.2.2.2.2.1 _ ht2.1.2 rfl) (B.2.2.2.2.2.2.1 _ ht2.2 rfl) rfl hg (Nat.le_of_ble_eq_true hk) (Nat.le_of_ble_eq_true hs) hKn.2.1 hM.1 fun H1 kC hkC e1 z1 o1 => ?_
    have q := kk r hr p e s m args below meth c H1 locs A B hl (hM.add (x := .inr (ci, g_dfl ci)) ?_ z1 o1) (g_S.add hS hM.1 z1 o1)
    · rw [hn] at q
      exact q
    · refine ⟨_, hc, (u_born (g_ty ci) hts (fun w h => h) hKn hkC e1 hty).to (fun j hj => ?_)⟩
      unfold g_dfl vp_V
      rw [hc]
      simp [hj]
theorem X_newarr {at0 : ArrayType} {t N : Nat} {i : Int32} {y : vp_A} (hd : g_lk (m_code M) pc = some (.newarray at0, nx, x1, x2)) (hn : nx = pc + 2) (harr : Cond.arrayClass (newarray.typeOf at0) ∈ lw_tbl) (ht : (g_tl (g_c G))[t]? = some (g_c G t, newarray.typeOf at0)) (hi : ¬ i < 0) (hN : i.toNatClampNeg = N) (hbytes : Nat.ble (N * componentBytes (newarray.typeOf at0)) 536870912 = true) (hk : Nat.ble (k + 1) (m_R M).cells = true) (hs : Nat.ble (n + N) (m_R M).slots = true) (hy : ∀ cA : ClassId, vp_cell cA y = arrV cA N (fun _ => defaultValue (newarray.typeOf at0)))
    (kk : GX l G M Φ (k + 1) (n + N) nx L (.ref h.1 :: st) (g_add h (.inl (t, y))) F) : GX l G M Φ k n pc L (.int i :: st) h F := by
  intro r hr p e s m args below meth c H locs A B hl hM hS
  have hg := g_dec B.2.2.2.2.2.2.2.2.2 hd hn
  refine va_newaK B.1 B.2.1 (B.2.2.2.2.2.2.1 _ harr rfl) rfl hg rfl hi hN (Nat.le_of_ble_eq_true hbytes) (Nat.le_of_ble_eq_true hk) (Nat.le_of_ble_eq_true hs) hM.1 fun H1 cA e1 z1 o1 hAr hNm => ?_
  have hcA : cA = g_c G t := by
    have h1 := (B.2.2.2.2.2.2.2.1.1.2 t _ ht).2
    unfold va_RA at h1
    have h2 : s.vm.findClass ("[" ++ (newarray.typeOf at0).toString) = some (g_c G t) := by
      cases at0 <;> exact h1
    exact Option.some.inj (hNm.symm.trans h2)
  subst hcA
  have q := kk r hr p e s m args below meth c H1 locs A B hl (hM.add (x := .inl (t, y)) ?_ z1 o1) (g_S.add hS hM.1 z1 o1)
  · rw [hn] at q
    exact q
  · show H1[h.1]? = some (vp_cell _ _)
    rw [hy]
    exact e1
end GXA
end
section
/-! calls and returns -/
def g_good : List Cond := lw_tbl.filter goodWord
def g_ws (M : gMt) : List Cond := Cond.code (m_y M) (m_cc M) (m_nL M) (m_ret M) :: g_good
def g_Qc (G : gG) (o : Option Value) (h' : gH) : Array Value → State → Outcome → State → Prop := fun _ st oc t => oc = .returned o ∧ g_M G h' t.heap ∧ st.heap.size ≤ t.heap.size ∧ ∀ q : Nat, q < g_b G → t.heap[q]? = st.heap[q]?
/-- A CONTRACT: the method M, called with As over the heap h, answers o and leaves the heap h' -/
def Ct (l : Launch) (G : gG) (M : gMt) (As : List Value) (h : gH) (o : Option Value) (h' : gH) : Prop :=
  Met l (m_y M) (g_ws M) (m_R M) (va_Pc As (fun U => g_K G U U.heap ∧ g_M G h U.heap)) (g_Qc G o h') (m_R M).cells (m_R M).slots (g_A G)
/-- what the tables say of a site that calls M' from M, with nA arguments -/
def g_site (M M' : gMt) (I : Instr) (nA : Nat) : Bool := decide (Cond.code (m_y M') (m_cc M') (m_nL M') (m_ret M') ∈ lw_tbl) && decide (Cond.initialized (m_y M').cls ∈ lw_tbl) && decide ((m_y M').cls ≠ "java/lang/invoke/MethodHandle") && decide ((m_y M').cls ≠ "java/lang/invoke/VarHandle") && decide ((parseMethodDescriptor (m_y M').desc).map (fun d => d.parameters.length) = some nA) && Nat.ble ((m_R M').frames + 1) (m_R M).frames && Nat.ble (8 + (m_nL M' + 11) + (m_R M').locals) (m_R M).locals && (match I with
  | .invokestatic idx => decide (Cond.static (m_y M') ∈ lw_tbl) && decide (Cond.methodLink (m_y M).cls idx (m_y M') ∈ lw_tbl)
  | .invokevirtual idx => decide (Cond.instanceMethod (m_y M') ∈ lw_tbl) && decide (Cond.selects (m_y M').cls (m_y M') (m_y M') ∈ lw_tbl) && decide (Cond.methodLink (m_y M).cls idx (m_y M') ∈ lw_tbl)
  | .invokespecial idx => decide (Cond.instanceMethod (m_y M') ∈ lw_tbl) && decide ((m_y M').name = "<init>") && decide (m_ret M' = none) && decide (Cond.methodLink (m_y M).cls idx (m_y M') ∈ lw_tbl)
  | _ => false)
/-- .. of a private member of a nest mate -/
def g_siteN (M M' : gMt) (I : Instr) (nA : Nat) : Bool := decide (Cond.code (m_y M') (m_cc M') (m_nL M') (m_ret M') ∈ lw_tbl) && decide (Cond.initialized (m_y M').cls ∈ lw_tbl) && decide ((m_y M').cls ≠ "java/lang/invoke/MethodHandle") && decide ((m_y M').cls ≠ "java/lang/invoke/VarHandle") && decide ((parseMethodDescriptor (m_y M').desc).map (fun d => d.parameters.length) = some nA) && Nat.ble ((m_R M').frames + 1) (m_R M).frames && Nat.ble (8 + (m_nL M' + 11) + (m_R M').locals) (m_R M).locals && (match I with
  | .invokestatic idx => decide (Cond.static (m_y M') ∈ lw_tbl) && decide (Cond.methodLinkNest (m_y M).cls idx (m_y M') "LampRelay" ∈ lw_tbl)
  | .invokespecial idx => decide (Cond.instanceMethod (m_y M') ∈ lw_tbl) && decide ((m_y M').name = "<init>") && decide (m_ret M' = none) && decide (Cond.methodLinkNest (m_y M).cls idx (m_y M') "LampRelay" ∈ lw_tbl)
  | _ => false)
theorem g_goodIn {M' : gMt} (h : Cond.code (m_y M') (m_cc M') (m_nL M') (m_ret M') ∈ lw_tbl) : GoodIn g_good (g_ws M') := by
  intro w hw
  rcases List.mem_cons.mp hw with rfl | hw
  · exact ⟨List.mem_filter.mpr ⟨h, rfl⟩, good_of_word rfl⟩
  · exact ⟨hw, good_of_word (List.mem_filter.mp hw).2⟩
theorem g_blind {G : gG} {As : List Value} {h : gH} : FrameBlind (va_Pc As (fun U => g_K G U U.heap ∧ g_M G h U.heap)) := by
  rintro a U g mk ⟨e, hK, hM⟩
  exact ⟨e, hK.warm (State.WarmedH.refl U) (fun _ _ _ => rfl), hM⟩
section GXC
variable {α : Type} {l : Launch} {G : gG} {M : gMt} {Φ : α → Method → Code → State → Array Value → List Frame → State → Prop} {k n pc nx x1 x2 : Nat} {L : List (Option Value)} {st stk : List Value} {h : gH} {F : Option α}
theorem g_after {p : Program} {e : Env} {s : State} {m : MethodId} {args : Array Value} {below : List Frame} {meth : Method} {c : Code} {H : Heap} {locs : List Loc} {A : Array Slot} {Q : State → Prop} {mc ms : Nat} {a : Array Value} {o : Option Value} {h1 : gH} (hr : va_Run p l e (m_R M) s m args below meth c H locs k n mc ms (F0 m pc A stk) st (g_Qc G o h1 a) (g_A G)) (hM : g_M G h H) (hB : g_b G ≤ s.heap.size) (hS : va_S (g_A G) s.heap H locs)
    (kk : ∀ (H1 : Heap) (locs1 : List Loc), g_M G h1 H1 → va_S (g_A G) s.heap H1 locs1 → W p l e (m_R M) s m args below meth c H1 locs1 (k + mc) (n + ms) Q (F0 m (pc + 3) A (o.toList ++ st))) : W p l e (m_R M) s m args below meth c H locs k n Q (F0 m pc A stk) := by
  intro T hT X
  obtain ⟨v, st₀, t, T', L1, h0, X', hL, e1, e2, ⟨hv, hM', hz, hq⟩, stp⟩ := hr T hT X
  cases hv
  rw [h0] at hz hq
  obtain ⟨t2, a1, b1⟩ := kk T'.heap (locs ++ L1) (by rw [e1]; exact hM') ⟨Nat.le_trans hS.1 (by rw [e1]; exact hz), fun q h1 h2 => by
      have hqb : q < g_b G := Nat.not_le.mp h2
      rw [e1, hq q hqb]; exact hS.2.1 q h1 h2, fun q hq => by
      rcases List.mem_append.mp hq with h | h
      · exact hS.2.2 q h
      · exact hL q h⟩ T' rfl X'
  exact ⟨t2, stp t2 a1, b1⟩
theorem X_callS {M' : gMt} {idx nA : Nat} {As : List Value} {o : Option Value} {h1 : gH} (hd : g_lk (m_code M) pc = some (.invokestatic idx, nx, x1, x2)) (hn : nx = pc + 3) (hs : g_site M M' (.invokestatic idx) nA = true) (hlen : As.length = nA) (hstk : stk = As.reverse ++ st) (hst : Nat.ble ((st.map fun v => v.category).sum) 8 = true) (hC : Ct l G M' As h o h1) (hk : Nat.ble (k + (m_R M').cells) (m_R M).cells = true) (hsl : Nat.ble (n + (m_R M').slots) (m_R M).slots = true)
    (kk : GX l G M Φ (k + (m_R M').cells) (n + (m_R M').slots) nx L (o.toList ++ st) h1 F) : GX l G M Φ k n pc L stk h F := by
  intro r hr p e s m args below meth c H locs A B hl hM hS
  have hg := g_dec B.2.2.2.2.2.2.2.2.2 hd hn
  unfold g_site at hs
  simp only [Bool.and_eq_true, decide_eq_true_eq] at hs
  obtain ⟨⟨⟨⟨⟨⟨⟨s1, s2⟩, s3⟩, s4⟩, s5⟩, s6⟩, s7⟩, s8, s9⟩ := hs
  have hts : ∀ w ∈ g_good, w.before args s = true := fun w hw => B.2.2.2.2.2.2.1 w (List.mem_filter.mp hw).1 (List.mem_filter.mp hw).2
  have ok : ∀ w ∈ lw_tbl, goodWord w = true → w.before args s = true := B.2.2.2.2.2.2.1
  have hB : g_b G ≤ s.heap.size ∨ True := Or.inr trivial
  have cb := callB_of (R := m_R M) (mc := (m_R M').cells) (ms := (m_R M').slots) (rm := m_R M') nA hts (g_goodIn s1) (ws' := g_good) rfl rfl rfl (ok _ s2 rfl) (ok _ s9 rfl) ⟨s3, s4, s5⟩ ⟨Nat.le_of_ble_eq_true s6, Nat.le_of_ble_eq_true s7⟩
  have hrun := va_runS (As := As) (rest := st) (H := H) (locs := locs) (cells := k) (slots := n) (below := below) (meth := meth) (e := e) (g := F0 m pc A stk) (cc := m_cc M) (nL := m_nL M) (index := idx) (Ts := g_good) (own := (m_y M).cls) ⟨B.1, B.2.1, B.2.2.1, B.2.2.2.2.2.1, hts⟩ hC ⟨cb, ok _ s8 rfl⟩ ⟨g_blind, fun U hU hW => ⟨rfl, by rw [hU]; exact (B.2.2.2.2.2.2.2.1.warm hW (fun a ha hna => hS.2.1 a ha hna)), by rw [hU]; exact hM⟩⟩ rfl hlen hl.1 hstk (lv_room (Nat.le_of_ble_eq_true hst)) hg ⟨Nat.le_of_ble_eq_true hk, Nat.le_of_ble_eq_true hsl⟩
  intro T hT X
  obtain ⟨v, st₀, t, T', L1, h0, X', hL, e1, e2, ⟨hv, hM', hz, hq⟩, stp⟩ := hrun T hT X
  cases hv
  rw [h0] at hz hq
  have q := kk r hr p e s m args below meth c T'.heap (locs ++ L1) A B hl (by rw [e1]; exact hM') ⟨Nat.le_trans hS.1 (by rw [e1]; exact hz), fun q h1 h2 => by
      have hqb : q < g_b G := Nat.not_le.mp h2
      rw [e1, hq q hqb]; exact hS.2.1 q h1 h2, fun q hq => by
      rcases List.mem_append.mp hq with h | h
      · exact hS.2.2 q h
      · exact hL q h⟩
  rw [hn] at q
  obtain ⟨t2, a1, b1⟩ := q T' rfl X'
  exact ⟨t2, stp t2 a1, b1⟩
theorem X_callSN {M' : gMt} {idx nA : Nat} {As : List Value} {o : Option Value} {h1 : gH} (hd : g_lk (m_code M) pc = some (.invokestatic idx, nx, x1, x2)) (hn : nx = pc + 3) (hs : g_siteN M M' (.invokestatic idx) nA = true) (hlen : As.length = nA) (hstk : stk = As.reverse ++ st) (hst : Nat.ble ((st.map fun v => v.category).sum) 8 = true) (hC : Ct l G M' As h o h1) (hk : Nat.ble (k + (m_R M').cells) (m_R M).cells = true) (hsl : Nat.ble (n + (m_R M').slots) (m_R M).slots = true)
    (kk : GX l G M Φ (k + (m_R M').cells) (n + (m_R M').slots) nx L (o.toList ++ st) h1 F) : GX l G M Φ k n pc L stk h F := by
  intro r hr p e s m args below meth c H locs A B hl hM hS
  have hg := g_dec B.2.2.2.2.2.2.2.2.2 hd hn
  unfold g_siteN at hs
  simp only [Bool.and_eq_true, decide_eq_true_eq] at hs
  obtain ⟨⟨⟨⟨⟨⟨⟨s1, s2⟩, s3⟩, s4⟩, s5⟩, s6⟩, s7⟩, s8, s9⟩ := hs
  have hts : ∀ w ∈ g_good, w.before args s = true := fun w hw => B.2.2.2.2.2.2.1 w (List.mem_filter.mp hw).1 (List.mem_filter.mp hw).2
  have ok : ∀ w ∈ lw_tbl, goodWord w = true → w.before args s = true := B.2.2.2.2.2.2.1
  have hNw : va_Nw (.methodLinkNest (m_y M).cls idx (m_y M') "LampRelay") s := B.2.2.2.2.2.2.2.1.2.1 _ (List.mem_filter.mpr ⟨s9, rfl⟩)
  have cb := va_cnB (R := m_R M) (mc := (m_R M').cells) (ms := (m_R M').slots) (rm := m_R M') nA hts (g_goodIn s1) (ws' := g_good) rfl rfl rfl hNw (ok _ s2 rfl) ⟨s3, s4, s5⟩ ⟨Nat.le_of_ble_eq_true s6, Nat.le_of_ble_eq_true s7⟩
  have hrun := va_runSN (As := As) (rest := st) (H := H) (locs := locs) (cells := k) (slots := n) (below := below) (meth := meth) (e := e) (g := F0 m pc A stk) (cc := m_cc M) (nL := m_nL M) (index := idx) (Ts := g_good) (own := (m_y M).cls) ⟨B.1, B.2.1, B.2.2.1, B.2.2.2.2.2.1, hts⟩ hC ⟨cb, ok _ s8 rfl, trivial⟩ ⟨g_blind, fun U hU hW => ⟨rfl, by rw [hU]; exact (B.2.2.2.2.2.2.2.1.warm hW (fun a ha hna => hS.2.1 a ha hna)), by rw [hU]; exact hM⟩⟩ rfl hlen hl.1 hstk (lv_room (Nat.le_of_ble_eq_true hst)) hg ⟨Nat.le_of_ble_eq_true hk, Nat.le_of_ble_eq_true hsl⟩
  intro T hT X
  obtain ⟨v, st₀, t, T', L1, h0, X', hL, e1, e2, ⟨hv, hM', hz, hq⟩, stp⟩ := hrun T hT X
  cases hv
  rw [h0] at hz hq
  have q := kk r hr p e s m args below meth c T'.heap (locs ++ L1) A B hl (by rw [e1]; exact hM') ⟨Nat.le_trans hS.1 (by rw [e1]; exact hz), fun q h1 h2 => by
      have hqb : q < g_b G := Nat.not_le.mp h2
      rw [e1, hq q hqb]; exact hS.2.1 q h1 h2, fun q hq => by
      rcases List.mem_append.mp hq with h | h
      · exact hS.2.2 q h
      · exact hL q h⟩
  rw [hn] at q
  obtain ⟨t2, a1, b1⟩ := q T' rfl X'
  exact ⟨t2, stp t2 a1, b1⟩
theorem g_recv {p : Program} {s : State} {m : MethodId} {args : Array Value} {meth : Method} {c : Code} {H : Heap} {b ci : Nat} {C : String} (B : g_bx G M p s m args meth c) (hM : g_M G h H) (hrc : g_is h b ci = true ∧ g_cn ci = C) : ∃ cellB : Cell, H[b]? = some cellB ∧ cellB.vm.isStatics = false ∧ s.vm.findClass C = some cellB.cls := by
  obtain ⟨hi, hcn⟩ := hrc
  obtain ⟨fs, hb⟩ := g_is_some hi
  obtain ⟨r9, h1, cell, g1, g2, g3, -⟩ := (hM.2.2 b _ hb).2
  refine ⟨cell, g1, by rw [g3]; rfl, ?_⟩
  have hcn' : C = r9.1 := by
    rw [← hcn]
    unfold g_cn
    rw [h1]
  rw [hcn', g2]
  exact (B.2.2.2.2.2.2.2.1.1.1 ci r9 h1).2.1
theorem X_callV {M' : gMt} {idx nA b ci : Nat} {As : List Value} {o : Option Value} {h1 : gH} (hd : g_lk (m_code M) pc = some (.invokevirtual idx, nx, x1, x2)) (hn : nx = pc + 3) (hs : g_site M M' (.invokevirtual idx) nA = true) (hlen : As.length = nA) (hstk : stk = As.reverse ++ .ref b :: st) (hst : Nat.ble ((st.map fun v => v.category).sum) 8 = true) (hrc : g_is h b ci = true ∧ g_cn ci = (m_y M').cls) (hC : Ct l G M' (.ref b :: As) h o h1) (hk : Nat.ble (k + (m_R M').cells) (m_R M).cells = true) (hsl : Nat.ble (n + (m_R M').slots) (m_R M).slots = true)
    (kk : GX l G M Φ (k + (m_R M').cells) (n + (m_R M').slots) nx L (o.toList ++ st) h1 F) : GX l G M Φ k n pc L stk h F := by
  intro r hr p e s m args below meth c H locs A B hl hM hS
  have hg := g_dec B.2.2.2.2.2.2.2.2.2 hd hn
  unfold g_site at hs
  simp only [Bool.and_eq_true, decide_eq_true_eq] at hs
  obtain ⟨⟨⟨⟨⟨⟨⟨s1, s2⟩, s3⟩, s4⟩, s5⟩, s6⟩, s7⟩, ⟨s8, s10⟩, s9⟩ := hs
  have hts : ∀ w ∈ g_good, w.before args s = true := fun w hw => B.2.2.2.2.2.2.1 w (List.mem_filter.mp hw).1 (List.mem_filter.mp hw).2
  have ok : ∀ w ∈ lw_tbl, goodWord w = true → w.before args s = true := B.2.2.2.2.2.2.1
  have cb := callB_of (R := m_R M) (mc := (m_R M').cells) (ms := (m_R M').slots) (rm := m_R M') nA hts (g_goodIn s1) (ws' := g_good) rfl rfl rfl (ok _ s2 rfl) (ok _ s9 rfl) ⟨s3, s4, s5⟩ ⟨Nat.le_of_ble_eq_true s6, Nat.le_of_ble_eq_true s7⟩
  have hrun := va_runV (As := As) (rest := st) (C := (m_y M').cls) (b := b) (H := H) (locs := locs) (cells := k) (slots := n) (below := below) (meth := meth) (e := e) (g := F0 m pc A stk) (cc := m_cc M) (nL := m_nL M) (index := idx) (Ts := g_good) (own := (m_y M).cls) ⟨B.1, B.2.1, B.2.2.1, B.2.2.2.2.2.1, hts⟩ hC ⟨cb, ok _ s8 rfl, ok _ s10 rfl⟩ ⟨g_blind, g_recv B hM hrc, fun U hU hW => ⟨rfl, by rw [hU]; exact (B.2.2.2.2.2.2.2.1.warm hW (fun a ha hna => hS.2.1 a ha hna)), by rw [hU]; exact hM⟩⟩ rfl hlen hl.1 hstk (lv_room (Nat.le_of_ble_eq_true hst)) hg ⟨Nat.le_of_ble_eq_true hk, Nat.le_of_ble_eq_true hsl⟩
  intro T hT X
  obtain ⟨v, st₀, t, T', L1, h0, X', hL, e1, e2, ⟨hv, hM', hz, hq⟩, stp⟩ := hrun T hT X
  cases hv
  rw [h0] at hz hq
  have q := kk r hr p e s m args below meth c T'.heap (locs ++ L1) A B hl (by rw [e1]; exact hM') ⟨Nat.le_trans hS.1 (by rw [e1]; exact hz), fun q h1 h2 => by
      have hqb : q < g_b G := Nat.not_le.mp h2
      rw [e1, hq q hqb]; exact hS.2.1 q h1 h2, fun q hq => by
      rcases List.mem_append.mp hq with h | h
      · exact hS.2.2 q h
      · exact hL q h⟩
  rw [hn] at q
  obtain ⟨t2, a1, b1⟩ := q T' rfl X'
  exact ⟨t2, stp t2 a1, b1⟩
theorem X_callI {M' : gMt} {idx nA b : Nat} {As : List Value} {o : Option Value} {h1 : gH} (hd : g_lk (m_code M) pc = some (.invokespecial idx, nx, x1, x2)) (hn : nx = pc + 3) (hs : g_site M M' (.invokespecial idx) nA = true) (hlen : As.length = nA) (hstk : stk = As.reverse ++ .ref b :: st) (hst : Nat.ble ((st.map fun v => v.category).sum) 8 = true) (hC : Ct l G M' (.ref b :: As) h o h1) (hk : Nat.ble (k + (m_R M').cells) (m_R M).cells = true) (hsl : Nat.ble (n + (m_R M').slots) (m_R M).slots = true)
    (kk : GX l G M Φ (k + (m_R M').cells) (n + (m_R M').slots) nx L (o.toList ++ st) h1 F) : GX l G M Φ k n pc L stk h F := by
  intro r hr p e s m args below meth c H locs A B hl hM hS
  have hg := g_dec B.2.2.2.2.2.2.2.2.2 hd hn
  unfold g_site at hs
  simp only [Bool.and_eq_true, decide_eq_true_eq] at hs
  obtain ⟨⟨⟨⟨⟨⟨⟨s1, s2⟩, s3⟩, s4⟩, s5⟩, s6⟩, s7⟩, ⟨⟨s8, s10⟩, s11⟩, s9⟩ := hs
  rw [s11] at s1
  have hts : ∀ w ∈ g_good, w.before args s = true := fun w hw => B.2.2.2.2.2.2.1 w (List.mem_filter.mp hw).1 (List.mem_filter.mp hw).2
  have ok : ∀ w ∈ lw_tbl, goodWord w = true → w.before args s = true := B.2.2.2.2.2.2.1
  have hws : g_ws M' = Cond.code (m_y M') (m_cc M') (m_nL M') none :: g_good := by unfold g_ws; rw [s11]
  have cb := callB_of (R := m_R M) (mc := (m_R M').cells) (ms := (m_R M').slots) (rm := m_R M') (ws := g_ws M') nA hts (g_goodIn (by rw [s11]; exact s1)) (ws' := g_good) hws rfl rfl (ok _ s2 rfl) (ok _ s9 rfl) ⟨s3, s4, s5⟩ ⟨Nat.le_of_ble_eq_true s6, Nat.le_of_ble_eq_true s7⟩
  have hrun := va_runI (As := As) (rest := st) (b := b) (H := H) (locs := locs) (cells := k) (slots := n) (below := below) (meth := meth) (e := e) (g := F0 m pc A stk) (cc := m_cc M) (nL := m_nL M) (index := idx) (Ts := g_good) (own := (m_y M).cls) ⟨B.1, B.2.1, B.2.2.1, B.2.2.2.2.2.1, hts⟩ hC ⟨cb, s10, ok _ s8 rfl⟩ ⟨g_blind, fun U hU hW => ⟨rfl, by rw [hU]; exact (B.2.2.2.2.2.2.2.1.warm hW (fun a ha hna => hS.2.1 a ha hna)), by rw [hU]; exact hM⟩⟩ rfl hlen hl.1 hstk (lv_room (Nat.le_of_ble_eq_true hst)) hg ⟨Nat.le_of_ble_eq_true hk, Nat.le_of_ble_eq_true hsl⟩
  intro T hT X
  obtain ⟨v, st₀, t, T', L1, h0, X', hL, e1, e2, ⟨hv, hM', hz, hq⟩, stp⟩ := hrun T hT X
  cases hv
  rw [h0] at hz hq
  have q := kk r hr p e s m args below meth c T'.heap (locs ++ L1) A B hl (by rw [e1]; exact hM') ⟨Nat.le_trans hS.1 (by rw [e1]; exact hz), fun q h1 h2 => by
      have hqb : q < g_b G := Nat.not_le.mp h2
      rw [e1, hq q hqb]; exact hS.2.1 q h1 h2, fun q hq => by
      rcases List.mem_append.mp hq with h | h
      · exact hS.2.2 q h
      · exact hL q h⟩
  rw [hn] at q
  obtain ⟨t2, a1, b1⟩ := q T' rfl X'
  exact ⟨t2, stp t2 a1, b1⟩
theorem X_callIN {M' : gMt} {idx nA b : Nat} {As : List Value} {o : Option Value} {h1 : gH} (hd : g_lk (m_code M) pc = some (.invokespecial idx, nx, x1, x2)) (hn : nx = pc + 3) (hs : g_siteN M M' (.invokespecial idx) nA = true) (hlen : As.length = nA) (hstk : stk = As.reverse ++ .ref b :: st) (hst : Nat.ble ((st.map fun v => v.category).sum) 8 = true) (hC : Ct l G M' (.ref b :: As) h o h1) (hk : Nat.ble (k + (m_R M').cells) (m_R M).cells = true) (hsl : Nat.ble (n + (m_R M').slots) (m_R M).slots = true)
    (kk : GX l G M Φ (k + (m_R M').cells) (n + (m_R M').slots) nx L (o.toList ++ st) h1 F) : GX l G M Φ k n pc L stk h F := by
  intro r hr p e s m args below meth c H locs A B hl hM hS
  have hg := g_dec B.2.2.2.2.2.2.2.2.2 hd hn
  unfold g_siteN at hs
  simp only [Bool.and_eq_true, decide_eq_true_eq] at hs
  obtain ⟨⟨⟨⟨⟨⟨⟨s1, s2⟩, s3⟩, s4⟩, s5⟩, s6⟩, s7⟩, ⟨⟨s8, s10⟩, s11⟩, s9⟩ := hs
  rw [s11] at s1
  have hts : ∀ w ∈ g_good, w.before args s = true := fun w hw => B.2.2.2.2.2.2.1 w (List.mem_filter.mp hw).1 (List.mem_filter.mp hw).2
  have ok : ∀ w ∈ lw_tbl, goodWord w = true → w.before args s = true := B.2.2.2.2.2.2.1
  have hws : g_ws M' = Cond.code (m_y M') (m_cc M') (m_nL M') none :: g_good := by unfold g_ws; rw [s11]
  have hNw : va_Nw (.methodLinkNest (m_y M).cls idx (m_y M') "LampRelay") s := B.2.2.2.2.2.2.2.1.2.1 _ (List.mem_filter.mpr ⟨s9, rfl⟩)
  have cb := va_cnB (R := m_R M) (mc := (m_R M').cells) (ms := (m_R M').slots) (rm := m_R M') (ws := g_ws M') nA hts (g_goodIn (by rw [s11]; exact s1)) (ws' := g_good) hws rfl rfl hNw (ok _ s2 rfl) ⟨s3, s4, s5⟩ ⟨Nat.le_of_ble_eq_true s6, Nat.le_of_ble_eq_true s7⟩
  have hrun := va_runIN (As := As) (rest := st) (b := b) (H := H) (locs := locs) (cells := k) (slots := n) (below := below) (meth := meth) (e := e) (g := F0 m pc A stk) (cc := m_cc M) (nL := m_nL M) (index := idx) (Ts := g_good) (own := (m_y M).cls) ⟨B.1, B.2.1, B.2.2.1, B.2.2.2.2.2.1, hts⟩ hC ⟨cb, s10, ok _ s8 rfl⟩ ⟨g_blind, fun U hU hW => ⟨rfl, by rw [hU]; exact (B.2.2.2.2.2.2.2.1.warm hW (fun a ha hna => hS.2.1 a ha hna)), by rw [hU]; exact hM⟩⟩ rfl hlen hl.1 hstk (lv_room (Nat.le_of_ble_eq_true hst)) hg ⟨Nat.le_of_ble_eq_true hk, Nat.le_of_ble_eq_true hsl⟩
  intro T hT X
  obtain ⟨v, st₀, t, T', L1, h0, X', hL, e1, e2, ⟨hv, hM', hz, hq⟩, stp⟩ := hrun T hT X
  cases hv
  rw [h0] at hz hq
  have q := kk r hr p e s m args below meth c T'.heap (locs ++ L1) A B hl (by rw [e1]; exact hM') ⟨Nat.le_trans hS.1 (by rw [e1]; exact hz), fun q h1 h2 => by
      have hqb : q < g_b G := Nat.not_le.mp h2
      rw [e1, hq q hqb]; exact hS.2.1 q h1 h2, fun q hq => by
      rcases List.mem_append.mp hq with h | h
      · exact hS.2.2 q h
      · exact hL q h⟩
  rw [hn] at q
  obtain ⟨t2, a1, b1⟩ := q T' rfl X'
  exact ⟨t2, stp t2 a1, b1⟩
theorem X_callS_IR {M' : gMt} {idx nA : Nat} {As : List Value} (hd : g_lk (m_code M) pc = some (.invokestatic idx, nx, x1, x2)) (hn : nx = pc + 3) (hs : g_site M M' (.invokestatic idx) nA = true) (hlen : As.length = nA) (hstk : stk = As.reverse ++ st) (hst : Nat.ble ((st.map fun v => v.category).sum) 8 = true) (hz1 : (m_R M').cells = 0) (hz2 : (m_R M').slots = 0) (hk : Nat.ble k (m_R M).cells = true) (hsl : Nat.ble n (m_R M).slots = true) {f : Option (Int32)} {K : Int32 → Option α} (hC : ∀ x, f = some x → Ct l G M' As h (some (.int x)) h) (kk : ∀ x, GX l G M Φ k n nx L (.int x :: st) h (K x)) : GX l G M Φ k n pc L stk h (f.bind K) := by
  exact X_bind fun x hx => X_callS hd hn hs hlen hstk hst (hC x hx) (by rw [hz1]; exact hk) (by rw [hz2]; exact hsl) (by rw [hz1, hz2]; exact kk x)
theorem X_callS_IW {M' : gMt} {idx nA : Nat} {As : List Value} (hd : g_lk (m_code M) pc = some (.invokestatic idx, nx, x1, x2)) (hn : nx = pc + 3) (hs : g_site M M' (.invokestatic idx) nA = true) (hlen : As.length = nA) (hstk : stk = As.reverse ++ st) (hst : Nat.ble ((st.map fun v => v.category).sum) 8 = true) (hz1 : (m_R M').cells = 0) (hz2 : (m_R M').slots = 0) (hk : Nat.ble k (m_R M).cells = true) (hsl : Nat.ble n (m_R M).slots = true) {f : Option (Int32 × gH)} {K : Int32 × gH → Option α} (hC : ∀ x h1, f = some (x, h1) → Ct l G M' As h (some (.int x)) h1) (kk : ∀ y, GX l G M Φ k n nx L (.int y.1 :: st) y.2 (K y)) : GX l G M Φ k n pc L stk h (f.bind K) := by
  exact X_bind fun x hx => X_callS hd hn hs hlen hstk hst (hC x.1 x.2 hx) (by rw [hz1]; exact hk) (by rw [hz2]; exact hsl) (by rw [hz1, hz2]; exact kk x)
theorem X_callS_LR {M' : gMt} {idx nA : Nat} {As : List Value} (hd : g_lk (m_code M) pc = some (.invokestatic idx, nx, x1, x2)) (hn : nx = pc + 3) (hs : g_site M M' (.invokestatic idx) nA = true) (hlen : As.length = nA) (hstk : stk = As.reverse ++ st) (hst : Nat.ble ((st.map fun v => v.category).sum) 8 = true) (hz1 : (m_R M').cells = 0) (hz2 : (m_R M').slots = 0) (hk : Nat.ble k (m_R M).cells = true) (hsl : Nat.ble n (m_R M).slots = true) {f : Option (Int64)} {K : Int64 → Option α} (hC : ∀ x, f = some x → Ct l G M' As h (some (.long x)) h) (kk : ∀ x, GX l G M Φ k n nx L (.long x :: st) h (K x)) : GX l G M Φ k n pc L stk h (f.bind K) := by
  exact X_bind fun x hx => X_callS hd hn hs hlen hstk hst (hC x hx) (by rw [hz1]; exact hk) (by rw [hz2]; exact hsl) (by rw [hz1, hz2]; exact kk x)
theorem X_callS_LW {M' : gMt} {idx nA : Nat} {As : List Value} (hd : g_lk (m_code M) pc = some (.invokestatic idx, nx, x1, x2)) (hn : nx = pc + 3) (hs : g_site M M' (.invokestatic idx) nA = true) (hlen : As.length = nA) (hstk : stk = As.reverse ++ st) (hst : Nat.ble ((st.map fun v => v.category).sum) 8 = true) (hz1 : (m_R M').cells = 0) (hz2 : (m_R M').slots = 0) (hk : Nat.ble k (m_R M).cells = true) (hsl : Nat.ble n (m_R M).slots = true) {f : Option (Int64 × gH)} {K : Int64 × gH → Option α} (hC : ∀ x h1, f = some (x, h1) → Ct l G M' As h (some (.long x)) h1) (kk : ∀ y, GX l G M Φ k n nx L (.long y.1 :: st) y.2 (K y)) : GX l G M Φ k n pc L stk h (f.bind K) := by
  exact X_bind fun x hx => X_callS hd hn hs hlen hstk hst (hC x.1 x.2 hx) (by rw [hz1]; exact hk) (by rw [hz2]; exact hsl) (by rw [hz1, hz2]; exact kk x)
theorem X_callS_AR {M' : gMt} {idx nA : Nat} {As : List Value} (hd : g_lk (m_code M) pc = some (.invokestatic idx, nx, x1, x2)) (hn : nx = pc + 3) (hs : g_site M M' (.invokestatic idx) nA = true) (hlen : As.length = nA) (hstk : stk = As.reverse ++ st) (hst : Nat.ble ((st.map fun v => v.category).sum) 8 = true) (hz1 : (m_R M').cells = 0) (hz2 : (m_R M').slots = 0) (hk : Nat.ble k (m_R M).cells = true) (hsl : Nat.ble n (m_R M).slots = true) {f : Option (Nat)} {K : Nat → Option α} (hC : ∀ x, f = some x → Ct l G M' As h (some (.ref x)) h) (kk : ∀ x, GX l G M Φ k n nx L (.ref x :: st) h (K x)) : GX l G M Φ k n pc L stk h (f.bind K) := by
  exact X_bind fun x hx => X_callS hd hn hs hlen hstk hst (hC x hx) (by rw [hz1]; exact hk) (by rw [hz2]; exact hsl) (by rw [hz1, hz2]; exact kk x)
theorem X_callS_AW {M' : gMt} {idx nA : Nat} {As : List Value} (hd : g_lk (m_code M) pc = some (.invokestatic idx, nx, x1, x2)) (hn : nx = pc + 3) (hs : g_site M M' (.invokestatic idx) nA = true) (hlen : As.length = nA) (hstk : stk = As.reverse ++ st) (hst : Nat.ble ((st.map fun v => v.category).sum) 8 = true) (hz1 : (m_R M').cells = 0) (hz2 : (m_R M').slots = 0) (hk : Nat.ble k (m_R M).cells = true) (hsl : Nat.ble n (m_R M).slots = true) {f : Option (Nat × gH)} {K : Nat × gH → Option α} (hC : ∀ x h1, f = some (x, h1) → Ct l G M' As h (some (.ref x)) h1) (kk : ∀ y, GX l G M Φ k n nx L (.ref y.1 :: st) y.2 (K y)) : GX l G M Φ k n pc L stk h (f.bind K) := by
  exact X_bind fun x hx => X_callS hd hn hs hlen hstk hst (hC x.1 x.2 hx) (by rw [hz1]; exact hk) (by rw [hz2]; exact hsl) (by rw [hz1, hz2]; exact kk x)
theorem X_callS_QR {M' : gMt} {idx nA : Nat} {As : List Value} (hd : g_lk (m_code M) pc = some (.invokestatic idx, nx, x1, x2)) (hn : nx = pc + 3) (hs : g_site M M' (.invokestatic idx) nA = true) (hlen : As.length = nA) (hstk : stk = As.reverse ++ st) (hst : Nat.ble ((st.map fun v => v.category).sum) 8 = true) (hz1 : (m_R M').cells = 0) (hz2 : (m_R M').slots = 0) (hk : Nat.ble k (m_R M).cells = true) (hsl : Nat.ble n (m_R M).slots = true) {f : Option (Option Nat)} {K : Option Nat → Option α} (hC : ∀ x, f = some x → Ct l G M' As h (some (va_rf x)) h) (kk : ∀ x, GX l G M Φ k n nx L (va_rf x :: st) h (K x)) : GX l G M Φ k n pc L stk h (f.bind K) := by
  exact X_bind fun x hx => X_callS hd hn hs hlen hstk hst (hC x hx) (by rw [hz1]; exact hk) (by rw [hz2]; exact hsl) (by rw [hz1, hz2]; exact kk x)
theorem X_callS_QW {M' : gMt} {idx nA : Nat} {As : List Value} (hd : g_lk (m_code M) pc = some (.invokestatic idx, nx, x1, x2)) (hn : nx = pc + 3) (hs : g_site M M' (.invokestatic idx) nA = true) (hlen : As.length = nA) (hstk : stk = As.reverse ++ st) (hst : Nat.ble ((st.map fun v => v.category).sum) 8 = true) (hz1 : (m_R M').cells = 0) (hz2 : (m_R M').slots = 0) (hk : Nat.ble k (m_R M).cells = true) (hsl : Nat.ble n (m_R M).slots = true) {f : Option (Option Nat × gH)} {K : Option Nat × gH → Option α} (hC : ∀ x h1, f = some (x, h1) → Ct l G M' As h (some (va_rf x)) h1) (kk : ∀ y, GX l G M Φ k n nx L (va_rf y.1 :: st) y.2 (K y)) : GX l G M Φ k n pc L stk h (f.bind K) := by
  exact X_bind fun x hx => X_callS hd hn hs hlen hstk hst (hC x.1 x.2 hx) (by rw [hz1]; exact hk) (by rw [hz2]; exact hsl) (by rw [hz1, hz2]; exact kk x)
theorem X_callS_DR {M' : gMt} {idx nA : Nat} {As : List Value} (hd : g_lk (m_code M) pc = some (.invokestatic idx, nx, x1, x2)) (hn : nx = pc + 3) (hs : g_site M M' (.invokestatic idx) nA = true) (hlen : As.length = nA) (hstk : stk = As.reverse ++ st) (hst : Nat.ble ((st.map fun v => v.category).sum) 8 = true) (hz1 : (m_R M').cells = 0) (hz2 : (m_R M').slots = 0) (hk : Nat.ble k (m_R M).cells = true) (hsl : Nat.ble n (m_R M).slots = true) {f : Option (UInt64)} {K : UInt64 → Option α} (hC : ∀ x, f = some x → Ct l G M' As h (some (.double x)) h) (kk : ∀ x, GX l G M Φ k n nx L (.double x :: st) h (K x)) : GX l G M Φ k n pc L stk h (f.bind K) := by
  exact X_bind fun x hx => X_callS hd hn hs hlen hstk hst (hC x hx) (by rw [hz1]; exact hk) (by rw [hz2]; exact hsl) (by rw [hz1, hz2]; exact kk x)
theorem X_callS_DW {M' : gMt} {idx nA : Nat} {As : List Value} (hd : g_lk (m_code M) pc = some (.invokestatic idx, nx, x1, x2)) (hn : nx = pc + 3) (hs : g_site M M' (.invokestatic idx) nA = true) (hlen : As.length = nA) (hstk : stk = As.reverse ++ st) (hst : Nat.ble ((st.map fun v => v.category).sum) 8 = true) (hz1 : (m_R M').cells = 0) (hz2 : (m_R M').slots = 0) (hk : Nat.ble k (m_R M).cells = true) (hsl : Nat.ble n (m_R M).slots = true) {f : Option (UInt64 × gH)} {K : UInt64 × gH → Option α} (hC : ∀ x h1, f = some (x, h1) → Ct l G M' As h (some (.double x)) h1) (kk : ∀ y, GX l G M Φ k n nx L (.double y.1 :: st) y.2 (K y)) : GX l G M Φ k n pc L stk h (f.bind K) := by
  exact X_bind fun x hx => X_callS hd hn hs hlen hstk hst (hC x.1 x.2 hx) (by rw [hz1]; exact hk) (by rw [hz2]; exact hsl) (by rw [hz1, hz2]; exact kk x)
theorem X_callS_UW {M' : gMt} {idx nA : Nat} {As : List Value} (hd : g_lk (m_code M) pc = some (.invokestatic idx, nx, x1, x2)) (hn : nx = pc + 3) (hs : g_site M M' (.invokestatic idx) nA = true) (hlen : As.length = nA) (hstk : stk = As.reverse ++ st) (hst : Nat.ble ((st.map fun v => v.category).sum) 8 = true) (hz1 : (m_R M').cells = 0) (hz2 : (m_R M').slots = 0) (hk : Nat.ble k (m_R M).cells = true) (hsl : Nat.ble n (m_R M).slots = true) {f : Option gH} {K : gH → Option α} (hC : ∀ h1, f = some h1 → Ct l G M' As h none h1) (kk : ∀ h1, GX l G M Φ k n nx L st h1 (K h1)) : GX l G M Φ k n pc L stk h (f.bind K) := by
  exact X_bind fun x hx => X_callS hd hn hs hlen hstk hst (hC x hx) (by rw [hz1]; exact hk) (by rw [hz2]; exact hsl) (by rw [hz1, hz2]; exact kk x)
theorem X_callS_IP {M' : gMt} {idx nA : Nat} {As : List Value} (hd : g_lk (m_code M) pc = some (.invokestatic idx, nx, x1, x2)) (hn : nx = pc + 3) (hs : g_site M M' (.invokestatic idx) nA = true) (hlen : As.length = nA) (hstk : stk = As.reverse ++ st) (hst : Nat.ble ((st.map fun v => v.category).sum) 8 = true) (hz1 : (m_R M').cells = 0) (hz2 : (m_R M').slots = 0) (hk : Nat.ble k (m_R M).cells = true) (hsl : Nat.ble n (m_R M).slots = true) {v : Int32} (hC : Ct l G M' As h (some (.int v)) h) (kk : GX l G M Φ k n nx L (.int v :: st) h F) : GX l G M Φ k n pc L stk h F :=
  X_callS hd hn hs hlen hstk hst hC (by rw [hz1]; exact hk) (by rw [hz2]; exact hsl) (by rw [hz1, hz2]; exact kk)
theorem X_callSN_IR {M' : gMt} {idx nA : Nat} {As : List Value} (hd : g_lk (m_code M) pc = some (.invokestatic idx, nx, x1, x2)) (hn : nx = pc + 3) (hs : g_siteN M M' (.invokestatic idx) nA = true) (hlen : As.length = nA) (hstk : stk = As.reverse ++ st) (hst : Nat.ble ((st.map fun v => v.category).sum) 8 = true) (hz1 : (m_R M').cells = 0) (hz2 : (m_R M').slots = 0) (hk : Nat.ble k (m_R M).cells = true) (hsl : Nat.ble n (m_R M).slots = true) {f : Option (Int32)} {K : Int32 → Option α} (hC : ∀ x, f = some x → Ct l G M' As h (some (.int x)) h) (kk : ∀ x, GX l G M Φ k n nx L (.int x :: st) h (K x)) : GX l G M Φ k n pc L stk h (f.bind K) := by
  exact X_bind fun x hx => X_callSN hd hn hs hlen hstk hst (hC x hx) (by rw [hz1]; exact hk) (by rw [hz2]; exact hsl) (by rw [hz1, hz2]; exact kk x)
theorem X_callSN_IW {M' : gMt} {idx nA : Nat} {As : List Value} (hd : g_lk (m_code M) pc = some (.invokestatic idx, nx, x1, x2)) (hn : nx = pc + 3) (hs : g_siteN M M' (.invokestatic idx) nA = true) (hlen : As.length = nA) (hstk : stk = As.reverse ++ st) (hst : Nat.ble ((st.map fun v => v.category).sum) 8 = true) (hz1 : (m_R M').cells = 0) (hz2 : (m_R M').slots = 0) (hk : Nat.ble k (m_R M).cells = true) (hsl : Nat.ble n (m_R M).slots = true) {f : Option (Int32 × gH)} {K : Int32 × gH → Option α} (hC : ∀ x h1, f = some (x, h1) → Ct l G M' As h (some (.int x)) h1) (kk : ∀ y, GX l G M Φ k n nx L (.int y.1 :: st) y.2 (K y)) : GX l G M Φ k n pc L stk h (f.bind K) := by
  exact X_bind fun x hx => X_callSN hd hn hs hlen hstk hst (hC x.1 x.2 hx) (by rw [hz1]; exact hk) (by rw [hz2]; exact hsl) (by rw [hz1, hz2]; exact kk x)
theorem X_callSN_LR {M' : gMt} {idx nA : Nat} {As : List Value} (hd : g_lk (m_code M) pc = some (.invokestatic idx, nx, x1, x2)) (hn : nx = pc + 3) (hs : g_siteN M M' (.invokestatic idx) nA = true) (hlen : As.length = nA) (hstk : stk = As.reverse ++ st) (hst : Nat.ble ((st.map fun v => v.category).sum) 8 = true) (hz1 : (m_R M').cells = 0) (hz2 : (m_R M').slots = 0) (hk : Nat.ble k (m_R M).cells = true) (hsl : Nat.ble n (m_R M).slots = true) {f : Option (Int64)} {K : Int64 → Option α} (hC : ∀ x, f = some x → Ct l G M' As h (some (.long x)) h) (kk : ∀ x, GX l G M Φ k n nx L (.long x :: st) h (K x)) : GX l G M Φ k n pc L stk h (f.bind K) := by
  exact X_bind fun x hx => X_callSN hd hn hs hlen hstk hst (hC x hx) (by rw [hz1]; exact hk) (by rw [hz2]; exact hsl) (by rw [hz1, hz2]; exact kk x)
theorem X_callSN_LW {M' : gMt} {idx nA : Nat} {As : List Value} (hd : g_lk (m_code M) pc = some (.invokestatic idx, nx, x1, x2)) (hn : nx = pc + 3) (hs : g_siteN M M' (.invokestatic idx) nA = true) (hlen : As.length = nA) (hstk : stk = As.reverse ++ st) (hst : Nat.ble ((st.map fun v => v.category).sum) 8 = true) (hz1 : (m_R M').cells = 0) (hz2 : (m_R M').slots = 0) (hk : Nat.ble k (m_R M).cells = true) (hsl : Nat.ble n (m_R M).slots = true) {f : Option (Int64 × gH)} {K : Int64 × gH → Option α} (hC : ∀ x h1, f = some (x, h1) → Ct l G M' As h (some (.long x)) h1) (kk : ∀ y, GX l G M Φ k n nx L (.long y.1 :: st) y.2 (K y)) : GX l G M Φ k n pc L stk h (f.bind K) := by
  exact X_bind fun x hx => X_callSN hd hn hs hlen hstk hst (hC x.1 x.2 hx) (by rw [hz1]; exact hk) (by rw [hz2]; exact hsl) (by rw [hz1, hz2]; exact kk x)
theorem X_callSN_AR {M' : gMt} {idx nA : Nat} {As : List Value} (hd : g_lk (m_code M) pc = some (.invokestatic idx, nx, x1, x2)) (hn : nx = pc + 3) (hs : g_siteN M M' (.invokestatic idx) nA = true) (hlen : As.length = nA) (hstk : stk = As.reverse ++ st) (hst : Nat.ble ((st.map fun v => v.category).sum) 8 = true) (hz1 : (m_R M').cells = 0) (hz2 : (m_R M').slots = 0) (hk : Nat.ble k (m_R M).cells = true) (hsl : Nat.ble n (m_R M).slots = true) {f : Option (Nat)} {K : Nat → Option α} (hC : ∀ x, f = some x → Ct l G M' As h (some (.ref x)) h) (kk : ∀ x, GX l G M Φ k n nx L (.ref x :: st) h (K x)) : GX l G M Φ k n pc L stk h (f.bind K) := by
  exact X_bind fun x hx => X_callSN hd hn hs hlen hstk hst (hC x hx) (by rw [hz1]; exact hk) (by rw [hz2]; exact hsl) (by rw [hz1, hz2]; exact kk x)
theorem X_callSN_AW {M' : gMt} {idx nA : Nat} {As : List Value} (hd : g_lk (m_code M) pc = some (.invokestatic idx, nx, x1, x2)) (hn : nx = pc + 3) (hs : g_siteN M M' (.invokestatic idx) nA = true) (hlen : As.length = nA) (hstk : stk = As.reverse ++ st) (hst : Nat.ble ((st.map fun v => v.category).sum) 8 = true) (hz1 : (m_R M').cells = 0) (hz2 : (m_R M').slots = 0) (hk : Nat.ble k (m_R M).cells = true) (hsl : Nat.ble n (m_R M).slots = true) {f : Option (Nat × gH)} {K : Nat × gH → Option α} (hC : ∀ x h1, f = some (x, h1) → Ct l G M' As h (some (.ref x)) h1) (kk : ∀ y, GX l G M Φ k n nx L (.ref y.1 :: st) y.2 (K y)) : GX l G M Φ k n pc L stk h (f.bind K) := by
  exact X_bind fun x hx => X_callSN hd hn hs hlen hstk hst (hC x.1 x.2 hx) (by rw [hz1]; exact hk) (by rw [hz2]; exact hsl) (by rw [hz1, hz2]; exact kk x)
theorem X_callSN_QR {M' : gMt} {idx nA : Nat} {As : List Value} (hd : g_lk (m_code M) pc = some (.invokestatic idx, nx, x1, x2)) (hn : nx = pc + 3) (hs : g_siteN M M' (.invokestatic idx) nA = true) (hlen : As.length = nA) (hstk : stk = As.reverse ++ st) (hst : Nat.ble ((st.map fun v => v.category).sum) 8 = true) (hz1 : (m_R M').cells = 0) (hz2 : (m_R M').slots = 0) (hk : Nat.ble k (m_R M).cells = true) (hsl : Nat.ble n (m_R M).slots = true) {f : Option (Option Nat)} {K : Option Nat → Option α} (hC : ∀ x, f = some x → Ct l G M' As h (some (va_rf x)) h) (kk : ∀ x, GX l G M Φ k n nx L (va_rf x :: st) h (K x)) : GX l G M Φ k n pc L stk h (f.bind K) := by
  exact X_bind fun x hx => X_callSN hd hn hs hlen hstk hst (hC x hx) (by rw [hz1]; exact hk) (by rw [hz2]; exact hsl) (by rw [hz1, hz2]; exact kk x)
theorem X_callSN_QW {M' : gMt} {idx nA : Nat} {As : List Value} (hd : g_lk (m_code M) pc = some (.invokestatic idx, nx, x1, x2)) (hn : nx = pc + 3) (hs : g_siteN M M' (.invokestatic idx) nA = true) (hlen : As.length = nA) (hstk : stk = As.reverse ++ st) (hst : Nat.ble ((st.map fun v => v.category).sum) 8 = true) (hz1 : (m_R M').cells = 0) (hz2 : (m_R M').slots = 0) (hk : Nat.ble k (m_R M).cells = true) (hsl : Nat.ble n (m_R M).slots = true) {f : Option (Option Nat × gH)} {K : Option Nat × gH → Option α} (hC : ∀ x h1, f = some (x, h1) → Ct l G M' As h (some (va_rf x)) h1) (kk : ∀ y, GX l G M Φ k n nx L (va_rf y.1 :: st) y.2 (K y)) : GX l G M Φ k n pc L stk h (f.bind K) := by
  exact X_bind fun x hx => X_callSN hd hn hs hlen hstk hst (hC x.1 x.2 hx) (by rw [hz1]; exact hk) (by rw [hz2]; exact hsl) (by rw [hz1, hz2]; exact kk x)
theorem X_callSN_DR {M' : gMt} {idx nA : Nat} {As : List Value} (hd : g_lk (m_code M) pc = some (.invokestatic idx, nx, x1, x2)) (hn : nx = pc + 3) (hs : g_siteN M M' (.invokestatic idx) nA = true) (hlen : As.length = nA) (hstk : stk = As.reverse ++ st) (hst : Nat.ble ((st.map fun v => v.category).sum) 8 = true) (hz1 : (m_R M').cells = 0) (hz2 : (m_R M').slots = 0) (hk : Nat.ble k (m_R M).cells = true) (hsl : Nat.ble n (m_R M).slots = true) {f : Option (UInt64)} {K : UInt64 → Option α} (hC : ∀ x, f = some x → Ct l G M' As h (some (.double x)) h) (kk : ∀ x, GX l G M Φ k n nx L (.double x :: st) h (K x)) : GX l G M Φ k n pc L stk h (f.bind K) := by
  exact X_bind fun x hx => X_callSN hd hn hs hlen hstk hst (hC x hx) (by rw [hz1]; exact hk) (by rw [hz2]; exact hsl) (by rw [hz1, hz2]; exact kk x)
theorem X_callSN_DW {M' : gMt} {idx nA : Nat} {As : List Value} (hd : g_lk (m_code M) pc = some (.invokestatic idx, nx, x1, x2)) (hn : nx = pc + 3) (hs : g_siteN M M' (.invokestatic idx) nA = true) (hlen : As.length = nA) (hstk : stk = As.reverse ++ st) (hst : Nat.ble ((st.map fun v => v.category).sum) 8 = true) (hz1 : (m_R M').cells = 0) (hz2 : (m_R M').slots = 0) (hk : Nat.ble k (m_R M).cells = true) (hsl : Nat.ble n (m_R M).slots = true) {f : Option (UInt64 × gH)} {K : UInt64 × gH → Option α} (hC : ∀ x h1, f = some (x, h1) → Ct l G M' As h (some (.double x)) h1) (kk : ∀ y, GX l G M Φ k n nx L (.double y.1 :: st) y.2 (K y)) : GX l G M Φ k n pc L stk h (f.bind K) := by
  exact X_bind fun x hx => X_callSN hd hn hs hlen hstk hst (hC x.1 x.2 hx) (by rw [hz1]; exact hk) (by rw [hz2]; exact hsl) (by rw [hz1, hz2]; exact kk x)
theorem X_callSN_UW {M' : gMt} {idx nA : Nat} {As : List Value} (hd : g_lk (m_code M) pc = some (.invokestatic idx, nx, x1, x2)) (hn : nx = pc + 3) (hs : g_siteN M M' (.invokestatic idx) nA = true) (hlen : As.length = nA) (hstk : stk = As.reverse ++ st) (hst : Nat.ble ((st.map fun v => v.category).sum) 8 = true) (hz1 : (m_R M').cells = 0) (hz2 : (m_R M').slots = 0) (hk : Nat.ble k (m_R M).cells = true) (hsl : Nat.ble n (m_R M).slots = true) {f : Option gH} {K : gH → Option α} (hC : ∀ h1, f = some h1 → Ct l G M' As h none h1) (kk : ∀ h1, GX l G M Φ k n nx L st h1 (K h1)) : GX l G M Φ k n pc L stk h (f.bind K) := by
  exact X_bind fun x hx => X_callSN hd hn hs hlen hstk hst (hC x hx) (by rw [hz1]; exact hk) (by rw [hz2]; exact hsl) (by rw [hz1, hz2]; exact kk x)
theorem X_callSN_IP {M' : gMt} {idx nA : Nat} {As : List Value} (hd : g_lk (m_code M) pc = some (.invokestatic idx, nx, x1, x2)) (hn : nx = pc + 3) (hs : g_siteN M M' (.invokestatic idx) nA = true) (hlen : As.length = nA) (hstk : stk = As.reverse ++ st) (hst : Nat.ble ((st.map fun v => v.category).sum) 8 = true) (hz1 : (m_R M').cells = 0) (hz2 : (m_R M').slots = 0) (hk : Nat.ble k (m_R M).cells = true) (hsl : Nat.ble n (m_R M).slots = true) {v : Int32} (hC : Ct l G M' As h (some (.int v)) h) (kk : GX l G M Φ k n nx L (.int v :: st) h F) : GX l G M Φ k n pc L stk h F :=
  X_callSN hd hn hs hlen hstk hst hC (by rw [hz1]; exact hk) (by rw [hz2]; exact hsl) (by rw [hz1, hz2]; exact kk)
theorem X_callV_IR {M' : gMt} {idx nA b ci : Nat} {As : List Value} (hd : g_lk (m_code M) pc = some (.invokevirtual idx, nx, x1, x2)) (hn : nx = pc + 3) (hs : g_site M M' (.invokevirtual idx) nA = true) (hlen : As.length = nA) (hstk : stk = As.reverse ++ .ref b :: st) (hst : Nat.ble ((st.map fun v => v.category).sum) 8 = true) (hrc : g_cn ci = (m_y M').cls) (hz1 : (m_R M').cells = 0) (hz2 : (m_R M').slots = 0) (hk : Nat.ble k (m_R M).cells = true) (hsl : Nat.ble n (m_R M).slots = true) {f : Option (Int32)} {K : Int32 → Option α} (hC : ∀ x, f = some x → Ct l G M' (.ref b :: As) h (some (.int x)) h) (kk : ∀ x, GX l G M Φ k n nx L (.int x :: st) h (K x)) : GX l G M Φ k n pc L stk h (bif g_is h b ci then f.bind K else none) := by
  cases hb : g_is h b ci with
  | false => exact X_none
  | true =>
  exact X_bind fun x hx => X_callV hd hn hs hlen hstk hst ⟨hb, hrc⟩ (hC x hx) (by rw [hz1]; exact hk) (by rw [hz2]; exact hsl) (by rw [hz1, hz2]; exact kk x)
theorem X_callV_IW {M' : gMt} {idx nA b ci : Nat} {As : List Value} (hd : g_lk (m_code M) pc = some (.invokevirtual idx, nx, x1, x2)) (hn : nx = pc + 3) (hs : g_site M M' (.invokevirtual idx) nA = true) (hlen : As.length = nA) (hstk : stk = As.reverse ++ .ref b :: st) (hst : Nat.ble ((st.map fun v => v.category).sum) 8 = true) (hrc : g_cn ci = (m_y M').cls) (hz1 : (m_R M').cells = 0) (hz2 : (m_R M').slots = 0) (hk : Nat.ble k (m_R M).cells = true) (hsl : Nat.ble n (m_R M).slots = true) {f : Option (Int32 × gH)} {K : Int32 × gH → Option α} (hC : ∀ x h1, f = some (x, h1) → Ct l G M' (.ref b :: As) h (some (.int x)) h1) (kk : ∀ y, GX l G M Φ k n nx L (.int y.1 :: st) y.2 (K y)) : GX l G M Φ k n pc L stk h (bif g_is h b ci then f.bind K else none) := by
  cases hb : g_is h b ci with
  | false => exact X_none
  | true =>
  exact X_bind fun x hx => X_callV hd hn hs hlen hstk hst ⟨hb, hrc⟩ (hC x.1 x.2 hx) (by rw [hz1]; exact hk) (by rw [hz2]; exact hsl) (by rw [hz1, hz2]; exact kk x)
theorem X_callV_LR {M' : gMt} {idx nA b ci : Nat} {As : List Value} (hd : g_lk (m_code M) pc = some (.invokevirtual idx, nx, x1, x2)) (hn : nx = pc + 3) (hs : g_site M M' (.invokevirtual idx) nA = true) (hlen : As.length = nA) (hstk : stk = As.reverse ++ .ref b :: st) (hst : Nat.ble ((st.map fun v => v.category).sum) 8 = true) (hrc : g_cn ci = (m_y M').cls) (hz1 : (m_R M').cells = 0) (hz2 : (m_R M').slots = 0) (hk : Nat.ble k (m_R M).cells = true) (hsl : Nat.ble n (m_R M).slots = true) {f : Option (Int64)} {K : Int64 → Option α} (hC : ∀ x, f = some x → Ct l G M' (.ref b :: As) h (some (.long x)) h) (kk : ∀ x, GX l G M Φ k n nx L (.long x :: st) h (K x)) : GX l G M Φ k n pc L stk h (bif g_is h b ci then f.bind K else none) := by
  cases hb : g_is h b ci with
  | false => exact X_none
  | true =>
  exact X_bind fun x hx => X_callV hd hn hs hlen hstk hst ⟨hb, hrc⟩ (hC x hx) (by rw [hz1]; exact hk) (by rw [hz2]; exact hsl) (by rw [hz1, hz2]; exact kk x)
theorem X_callV_LW {M' : gMt} {idx nA b ci : Nat} {As : List Value} (hd : g_lk (m_code M) pc = some (.invokevirtual idx, nx, x1, x2)) (hn : nx = pc + 3) (hs : g_site M M' (.invokevirtual idx) nA = true) (hlen : As.length = nA) (hstk : stk = As.reverse ++ .ref b :: st) (hst : Nat.ble ((st.map fun v => v.category).sum) 8 = true) (hrc : g_cn ci = (m_y M').cls) (hz1 : (m_R M').cells = 0) (hz2 : (m_R M').slots = 0) (hk : Nat.ble k (m_R M).cells = true) (hsl : Nat.ble n (m_R M).slots = true) {f : Option (Int64 × gH)} {K : Int64 × gH → Option α} (hC : ∀ x h1, f = some (x, h1) → Ct l G M' (.ref b :: As) h (some (.long x)) h1) (kk : ∀ y, GX l G M Φ k n nx L (.long y.1 :: st) y.2 (K y)) : GX l G M Φ k n pc L stk h (bif g_is h b ci then f.bind K else none) := by
  cases hb : g_is h b ci with
  | false => exact X_none
  | true =>
  exact X_bind fun x hx => X_callV hd hn hs hlen hstk hst ⟨hb, hrc⟩ (hC x.1 x.2 hx) (by rw [hz1]; exact hk) (by rw [hz2]; exact hsl) (by rw [hz1, hz2]; exact kk x)
theorem X_callV_AR {M' : gMt} {idx nA b ci : Nat} {As : List Value} (hd : g_lk (m_code M) pc = some (.invokevirtual idx, nx, x1, x2)) (hn : nx = pc + 3) (hs : g_site M M' (.invokevirtual idx) nA = true) (hlen : As.length = nA) (hstk : stk = As.reverse ++ .ref b :: st) (hst : Nat.ble ((st.map fun v => v.category).sum) 8 = true) (hrc : g_cn ci = (m_y M').cls) (hz1 : (m_R M').cells = 0) (hz2 : (m_R M').slots = 0) (hk : Nat.ble k (m_R M).cells = true) (hsl : Nat.ble n (m_R M).slots = true) {f : Option (Nat)} {K : Nat → Option α} (hC : ∀ x, f = some x → Ct l G M' (.ref b :: As) h (some (.ref x)) h) (kk : ∀ x, GX l G M Φ k n nx L (.ref x :: st) h (K x)) : GX l G M Φ k n pc L stk h (bif g_is h b ci then f.bind K else none) := by
  cases hb : g_is h b ci with
  | false => exact X_none
  | true =>
  exact X_bind fun x hx => X_callV hd hn hs hlen hstk hst ⟨hb, hrc⟩ (hC x hx) (by rw [hz1]; exact hk) (by rw [hz2]; exact hsl) (by rw [hz1, hz2]; exact kk x)
theorem X_callV_AW {M' : gMt} {idx nA b ci : Nat} {As : List Value} (hd : g_lk (m_code M) pc = some (.invokevirtual idx, nx, x1, x2)) (hn : nx = pc + 3) (hs : g_site M M' (.invokevirtual idx) nA = true) (hlen : As.length = nA) (hstk : stk = As.reverse ++ .ref b :: st) (hst : Nat.ble ((st.map fun v => v.category).sum) 8 = true) (hrc : g_cn ci = (m_y M').cls) (hz1 : (m_R M').cells = 0) (hz2 : (m_R M').slots = 0) (hk : Nat.ble k (m_R M).cells = true) (hsl : Nat.ble n (m_R M).slots = true) {f : Option (Nat × gH)} {K : Nat × gH → Option α} (hC : ∀ x h1, f = some (x, h1) → Ct l G M' (.ref b :: As) h (some (.ref x)) h1) (kk : ∀ y, GX l G M Φ k n nx L (.ref y.1 :: st) y.2 (K y)) : GX l G M Φ k n pc L stk h (bif g_is h b ci then f.bind K else none) := by
  cases hb : g_is h b ci with
  | false => exact X_none
  | true =>
  exact X_bind fun x hx => X_callV hd hn hs hlen hstk hst ⟨hb, hrc⟩ (hC x.1 x.2 hx) (by rw [hz1]; exact hk) (by rw [hz2]; exact hsl) (by rw [hz1, hz2]; exact kk x)
theorem X_callV_QR {M' : gMt} {idx nA b ci : Nat} {As : List Value} (hd : g_lk (m_code M) pc = some (.invokevirtual idx, nx, x1, x2)) (hn : nx = pc + 3) (hs : g_site M M' (.invokevirtual idx) nA = true) (hlen : As.length = nA) (hstk : stk = As.reverse ++ .ref b :: st) (hst : Nat.ble ((st.map fun v => v.category).sum) 8 = true) (hrc : g_cn ci = (m_y M').cls) (hz1 : (m_R M').cells = 0) (hz2 : (m_R M').slots = 0) (hk : Nat.ble k (m_R M).cells = true) (hsl : Nat.ble n (m_R M).slots = true) {f : Option (Option Nat)} {K : Option Nat → Option α} (hC : ∀ x, f = some x → Ct l G M' (.ref b :: As) h (some (va_rf x)) h) (kk : ∀ x, GX l G M Φ k n nx L (va_rf x :: st) h (K x)) : GX l G M Φ k n pc L stk h (bif g_is h b ci then f.bind K else none) := by
  cases hb : g_is h b ci with
  | false => exact X_none
  | true =>
  exact X_bind fun x hx => X_callV hd hn hs hlen hstk hst ⟨hb, hrc⟩ (hC x hx) (by rw [hz1]; exact hk) (by rw [hz2]; exact hsl) (by rw [hz1, hz2]; exact kk x)
theorem X_callV_QW {M' : gMt} {idx nA b ci : Nat} {As : List Value} (hd : g_lk (m_code M) pc = some (.invokevirtual idx, nx, x1, x2)) (hn : nx = pc + 3) (hs : g_site M M' (.invokevirtual idx) nA = true) (hlen : As.length = nA) (hstk : stk = As.reverse ++ .ref b :: st) (hst : Nat.ble ((st.map fun v => v.category).sum) 8 = true) (hrc : g_cn ci = (m_y M').cls) (hz1 : (m_R M').cells = 0) (hz2 : (m_R M').slots = 0) (hk : Nat.ble k (m_R M).cells = true) (hsl : Nat.ble n (m_R M).slots = true) {f : Option (Option Nat × gH)} {K : Option Nat × gH → Option α} (hC : ∀ x h1, f = some (x, h1) → Ct l G M' (.ref b :: As) h (some (va_rf x)) h1) (kk : ∀ y, GX l G M Φ k n nx L (va_rf y.1 :: st) y.2 (K y)) : GX l G M Φ k n pc L stk h (bif g_is h b ci then f.bind K else none) := by
  cases hb : g_is h b ci with
  | false => exact X_none
  | true =>
  exact X_bind fun x hx => X_callV hd hn hs hlen hstk hst ⟨hb, hrc⟩ (hC x.1 x.2 hx) (by rw [hz1]; exact hk) (by rw [hz2]; exact hsl) (by rw [hz1, hz2]; exact kk x)
theorem X_callV_DR {M' : gMt} {idx nA b ci : Nat} {As : List Value} (hd : g_lk (m_code M) pc = some (.invokevirtual idx, nx, x1, x2)) (hn : nx = pc + 3) (hs : g_site M M' (.invokevirtual idx) nA = true) (hlen : As.length = nA) (hstk : stk = As.reverse ++ .ref b :: st) (hst : Nat.ble ((st.map fun v => v.category).sum) 8 = true) (hrc : g_cn ci = (m_y M').cls) (hz1 : (m_R M').cells = 0) (hz2 : (m_R M').slots = 0) (hk : Nat.ble k (m_R M).cells = true) (hsl : Nat.ble n (m_R M).slots = true) {f : Option (UInt64)} {K : UInt64 → Option α} (hC : ∀ x, f = some x → Ct l G M' (.ref b :: As) h (some (.double x)) h) (kk : ∀ x, GX l G M Φ k n nx L (.double x :: st) h (K x)) : GX l G M Φ k n pc L stk h (bif g_is h b ci then f.bind K else none) := by
  cases hb : g_is h b ci with
  | false => exact X_none
  | true =>
  exact X_bind fun x hx => X_callV hd hn hs hlen hstk hst ⟨hb, hrc⟩ (hC x hx) (by rw [hz1]; exact hk) (by rw [hz2]; exact hsl) (by rw [hz1, hz2]; exact kk x)
theorem X_callV_DW {M' : gMt} {idx nA b ci : Nat} {As : List Value} (hd : g_lk (m_code M) pc = some (.invokevirtual idx, nx, x1, x2)) (hn : nx = pc + 3) (hs : g_site M M' (.invokevirtual idx) nA = true) (hlen : As.length = nA) (hstk : stk = As.reverse ++ .ref b :: st) (hst : Nat.ble ((st.map fun v => v.category).sum) 8 = true) (hrc : g_cn ci = (m_y M').cls) (hz1 : (m_R M').cells = 0) (hz2 : (m_R M').slots = 0) (hk : Nat.ble k (m_R M).cells = true) (hsl : Nat.ble n (m_R M).slots = true) {f : Option (UInt64 × gH)} {K : UInt64 × gH → Option α} (hC : ∀ x h1, f = some (x, h1) → Ct l G M' (.ref b :: As) h (some (.double x)) h1) (kk : ∀ y, GX l G M Φ k n nx L (.double y.1 :: st) y.2 (K y)) : GX l G M Φ k n pc L stk h (bif g_is h b ci then f.bind K else none) := by
  cases hb : g_is h b ci with
  | false => exact X_none
  | true =>
  exact X_bind fun x hx => X_callV hd hn hs hlen hstk hst ⟨hb, hrc⟩ (hC x.1 x.2 hx) (by rw [hz1]; exact hk) (by rw [hz2]; exact hsl) (by rw [hz1, hz2]; exact kk x)
theorem X_callV_UW {M' : gMt} {idx nA b ci : Nat} {As : List Value} (hd : g_lk (m_code M) pc = some (.invokevirtual idx, nx, x1, x2)) (hn : nx = pc + 3) (hs : g_site M M' (.invokevirtual idx) nA = true) (hlen : As.length = nA) (hstk : stk = As.reverse ++ .ref b :: st) (hst : Nat.ble ((st.map fun v => v.category).sum) 8 = true) (hrc : g_cn ci = (m_y M').cls) (hz1 : (m_R M').cells = 0) (hz2 : (m_R M').slots = 0) (hk : Nat.ble k (m_R M).cells = true) (hsl : Nat.ble n (m_R M).slots = true) {f : Option gH} {K : gH → Option α} (hC : ∀ h1, f = some h1 → Ct l G M' (.ref b :: As) h none h1) (kk : ∀ h1, GX l G M Φ k n nx L st h1 (K h1)) : GX l G M Φ k n pc L stk h (bif g_is h b ci then f.bind K else none) := by
  cases hb : g_is h b ci with
  | false => exact X_none
  | true =>
  exact X_bind fun x hx => X_callV hd hn hs hlen hstk hst ⟨hb, hrc⟩ (hC x hx) (by rw [hz1]; exact hk) (by rw [hz2]; exact hsl) (by rw [hz1, hz2]; exact kk x)
/-- the end of a body that only returns -/
def g_phi (G : gG) (ρ : α → Option Value × gH) (mc ms : Nat) : α → Method → Code → State → Array Value → List Frame → State → Prop := fun r _ _ s args below => MQ below (g_Qc G (ρ r).1 (ρ r).2) args s mc ms (g_A G)
theorem X_iret {ρ : α → Option Value × gH} {mc ms : Nat} {r0 : α} {v : Int32} (hd : g_lk (m_code M) pc = some (.ireturn, nx, x1, x2)) (hn : nx = pc + 1) {ty : FieldType} (hty : m_ret M = some ty) (hnr : narrow ty (.int v) = .int v) (hρ : ρ r0 = (some (.int v), h)) (hk : Nat.ble k mc = true) (hs : Nat.ble n ms = true) : GX l G M (g_phi G ρ mc ms) k n pc L [.int v] h (some r0) := by
  intro r hr p e s m args below meth c H locs A B hl hM hS
  cases hr
  have hg := g_dec B.2.2.2.2.2.2.2.2.2 hd hn
  refine W.widen (Nat.le_of_ble_eq_true hk) (Nat.le_of_ble_eq_true hs) ?_
  unfold g_phi
  rw [hρ]
  exact W.zret B.1 B.2.1 (by rw [B.2.2.2.1]; exact hty) hnr (fun t ht hW => ⟨rfl, by rw [ht]; exact hM, by rw [ht]; exact hS.1, fun q hq => by
    rw [ht]
    exact hS.2.1 q (Nat.lt_of_lt_of_le hq B.2.2.2.2.2.2.2.2.1.2.1) (Nat.not_le.mpr hq)⟩) hS.2.2 hg B.2.2.2.2.1
theorem X_lret {ρ : α → Option Value × gH} {mc ms : Nat} {r0 : α} {v : Int64} (hd : g_lk (m_code M) pc = some (.lreturn, nx, x1, x2)) (hn : nx = pc + 1) (hty : m_ret M = some .long) (hρ : ρ r0 = (some (.long v), h)) (hk : Nat.ble k mc = true) (hs : Nat.ble n ms = true) : GX l G M (g_phi G ρ mc ms) k n pc L [.long v] h (some r0) := by
  intro r hr p e s m args below meth c H locs A B hl hM hS
  cases hr
  have hg := g_dec B.2.2.2.2.2.2.2.2.2 hd hn
  refine W.widen (Nat.le_of_ble_eq_true hk) (Nat.le_of_ble_eq_true hs) ?_
  unfold g_phi
  rw [hρ]
  exact W.lret B.1 B.2.1 (by rw [B.2.2.2.1]; exact hty) (fun t ht hW => ⟨rfl, by rw [ht]; exact hM, by rw [ht]; exact hS.1, fun q hq => by
    rw [ht]
    exact hS.2.1 q (Nat.lt_of_lt_of_le hq B.2.2.2.2.2.2.2.2.1.2.1) (Nat.not_le.mpr hq)⟩) hS.2.2 hg B.2.2.2.2.1
theorem X_dret {ρ : α → Option Value × gH} {mc ms : Nat} {r0 : α} {v : UInt64} (hd : g_lk (m_code M) pc = some (.dreturn, nx, x1, x2)) (hn : nx = pc + 1) (hty : m_ret M = some .double) (hρ : ρ r0 = (some (.double v), h)) (hk : Nat.ble k mc = true) (hs : Nat.ble n ms = true) : GX l G M (g_phi G ρ mc ms) k n pc L [.double v] h (some r0) := by
  intro r hr p e s m args below meth c H locs A B hl hM hS
  cases hr
  have hg := g_dec B.2.2.2.2.2.2.2.2.2 hd hn
  refine W.widen (Nat.le_of_ble_eq_true hk) (Nat.le_of_ble_eq_true hs) ?_
  unfold g_phi
  rw [hρ]
  exact W.dret B.1 B.2.1 (by rw [B.2.2.2.1]; exact hty) (fun t ht hW => ⟨rfl, by rw [ht]; exact hM, by rw [ht]; exact hS.1, fun q hq => by
    rw [ht]
    exact hS.2.1 q (Nat.lt_of_lt_of_le hq B.2.2.2.2.2.2.2.2.1.2.1) (Nat.not_le.mpr hq)⟩) hS.2.2 hg B.2.2.2.2.1
theorem X_vret {ρ : α → Option Value × gH} {mc ms : Nat} {r0 : α} (hd : g_lk (m_code M) pc = some (.return_, nx, x1, x2)) (hn : nx = pc + 1) (hty : m_ret M = none) (hρ : ρ r0 = (none, h)) (hk : Nat.ble k mc = true) (hs : Nat.ble n ms = true) : GX l G M (g_phi G ρ mc ms) k n pc L [] h (some r0) := by
  intro r hr p e s m args below meth c H locs A B hl hM hS
  cases hr
  have hg := g_dec B.2.2.2.2.2.2.2.2.2 hd hn
  refine W.widen (Nat.le_of_ble_eq_true hk) (Nat.le_of_ble_eq_true hs) ?_
  unfold g_phi
  rw [hρ]
  exact W.vret B.1 B.2.1 (by rw [B.2.2.2.1]; exact hty) (fun t ht hW => ⟨rfl, by rw [ht]; exact hM, by rw [ht]; exact hS.1, fun q hq => by
    rw [ht]
    exact hS.2.1 q (Nat.lt_of_lt_of_le hq B.2.2.2.2.2.2.2.2.1.2.1) (Nat.not_le.mpr hq)⟩) hS.2.2 hg B.2.2.2.2.1
theorem X_aret {ρ : α → Option Value × gH} {mc ms : Nat} {r0 : α} {v : Option Nat} {nm : String} (hd : g_lk (m_code M) pc = some (.areturn, nx, x1, x2)) (hn : nx = pc + 1) (hty : m_ret M = some (.object nm)) (hρ : ρ r0 = (some (va_rf v), h)) (hk : Nat.ble k mc = true) (hs : Nat.ble n ms = true) : GX l G M (g_phi G ρ mc ms) k n pc L [va_rf v] h (some r0) := by
  intro r hr p e s m args below meth c H locs A B hl hM hS
  cases hr
  have hg := g_dec B.2.2.2.2.2.2.2.2.2 hd hn
  refine W.widen (Nat.le_of_ble_eq_true hk) (Nat.le_of_ble_eq_true hs) ?_
  unfold g_phi
  rw [hρ]
  refine W.aret B.1 B.2.1 (by rw [B.2.2.2.1]; exact hty) (Or.inl ⟨_, rfl⟩) (by cases v with | none => exact Or.inl rfl | some a => exact Or.inr ⟨a, rfl⟩) (fun t ht hW => ⟨rfl, by rw [ht]; exact hM, by rw [ht]; exact hS.1, fun q hq => by
    rw [ht]
    exact hS.2.1 q (Nat.lt_of_lt_of_le hq B.2.2.2.2.2.2.2.2.1.2.1) (Nat.not_le.mpr hq)⟩) hS.2.2 hg B.2.2.2.2.1
theorem X_zret {ρ : α → Option Value × gH} {mc ms : Nat} {v : Int32} {K : Int32 → Option α} (hd : g_lk (m_code M) pc = some (.ireturn, nx, x1, x2)) (hn : nx = pc + 1) (hty : m_ret M = some .boolean) (hK : ∃ r0, K v = some r0 ∧ ρ r0 = (some (.int v), h)) (hk : Nat.ble k mc = true) (hs : Nat.ble n ms = true) : GX l G M (g_phi G ρ mc ms) k n pc L [.int v] h ((g_z v).bind K) := by
  unfold g_z
  obtain ⟨r0, h1, h2⟩ := hK
  by_cases hv : v = 0 ∨ v = 1
  · rw [if_pos hv]
    show GX l G M _ k n pc L _ h (K v)
    rw [h1]
    refine X_iret hd hn hty ?_ h2 hk hs
    rcases hv with rfl | rfl <;> rfl
  · rw [if_neg hv]
    exact X_none
end GXC
/-- the locals with which a body begins -/
def g_en : List Value → Nat → List (Option Value)
  | [], n => List.replicate n none
  | v :: vs, n => bif Nat.beq v.category 2 then some v :: none :: g_en vs (n - 2) else some v :: g_en vs (n - 1)
theorem g_en_at : ∀ (vs : List Value) (n i j : Nat) (v : Value), (g_en vs n)[j]? = some (some v) → (i + j, v) ∈ lv_args i vs
  | [], n, i, j, v, h => by
    rw [g_en, List.getElem?_replicate] at h
    split at h <;> cases h
  | w :: vs, n, i, j, v, h => by
    rw [g_en] at h
    rw [lv_args]
    rcases lv_cat w with hc | hc
    · have hb : Nat.beq w.category 2 = false := by rw [hc]; rfl
      rw [hb, cond_false] at h
      rw [if_neg (by omega)]
      cases j with
      | zero => simp at h; simp [h]
      | succ j =>
        have := g_en_at vs (n - 1) (i + 1) j v (by simpa using h)
        rw [show i + 1 + j = i + (j + 1) by omega] at this
        exact List.mem_cons_of_mem _ this
    · have hb : Nat.beq w.category 2 = true := by rw [hc]; rfl
      rw [hb, cond_true] at h
      rw [if_pos hc]
      match j, h with
      | 0, h => simp at h; simp [h]
      | 1, h => simp at h
      | j + 2, h =>
        have := g_en_at vs (n - 2) (i + 2) j v (by simpa using h)
        rw [show i + 2 + j = i + (j + 2) by omega] at this
        exact List.mem_cons_of_mem _ this
theorem g_ofW {l : Launch} {y : MethodName} {ws ws' : List Cond} {rm : Room} {Pc : Array Value → State → Prop} {Qc : Array Value → State → Outcome → State → Prop} {mc ms : Nat} {free : Addr → Prop} {cc : ByteArray} {maxL : Nat} {ret : Option FieldType}
    (hy : plainFor y = true) (hw : ws = Cond.code y cc maxL ret :: ws')
    (body : ∀ p e s m args below meth c s₁, BodyLoose p l y (headSpec ws rm) cc maxL ret e s m args below meth c s₁ → c.maxLocals = maxL → Pc args s →
      W p l e (headSpec ws rm).room s m args below meth c s.heap [] 0 0 (MQ below Qc args s mc ms free) (entryFrame m args maxL)) : Met l y ws rm Pc Qc mc ms free := by
  refine MetFree.of_bodySF (code := cc) (maxLocals := maxL) (ret := ret) hy ?_ ?_
  · intro args s m h hn
    obtain ⟨meth, c, h1, h2, h3, h4, h5, h6, -, -⟩ := Cond.code_spec hn (atoms_spec (ws := ws) h _ (by rw [hw]; exact List.mem_cons_self))
    exact ⟨meth, c, h1, h2, h3, h4, h5, h6⟩
  · intro p e s m args below meth c s₁ B hml hP _
    have hh0 : s₁.heap = s.heap := by rw [B.state]; rfl
    obtain ⟨t, a1, o, b1, b2, b3⟩ := body p e s m args below meth c s₁ B hml hP s₁ hh0 (Stand.of_body B)
    exact ⟨t, o, a1, b1, b2, ⟨b3.1, b3.2⟩⟩
theorem Ct_of {α : Type} {l : Launch} {G : gG} {M : gMt} {ρ : α → Option Value × gH} {As : List Value} {L : List (Option Value)} {h h1 : gH} {o : Option Value} {F : Option α} {r : α} (hok : g_ok M) (hpl : plainFor (m_y M) = true) (hL : g_en As (m_nL M) = L) (hlen : L.length = m_nL M) (hn : Nat.ble (lg_sl As).length (m_nL M) = true) (body : GX l G M (g_phi G ρ (m_R M).cells (m_R M).slots) 0 0 0 L [] h F) (hF : F = some r) (hρ : ρ r = (o, h1)) (hmh : m_h M = [] := by rfl) : Ct l G M As h o h1 := by
  refine g_ofW (cc := m_cc M) (maxL := m_nL M) (ret := m_ret M) hpl rfl ?_
  intro p e s m args below meth c s₁ B hml hv
  obtain ⟨rfl, hK, hM⟩ := hv
  have hts := atoms_spec (ws := g_ws M) B.pre
  rw [lg_entry_eq]
  have hl0 := lv_entry As (n := m_nL M) (Nat.le_of_ble_eq_true hn)
  generalize (lg_sl As ++ List.replicate (m_nL M - (lg_sl As).length) Slot.unset).toArray = ls at hl0 ⊢
  have hl : g_ls ls (m_nL M) L := by
    refine ⟨hl0.1, hl0.2.1, hlen, fun i v hi => ?_⟩
    rw [← hL] at hi
    have := g_en_at As (m_nL M) 0 i v hi
    rw [Nat.zero_add] at this
    exact hl0.2.2 _ this
  have ht : c.exceptionTable.toList = tableOf (m_h M) := by
    rw [hmh]
    obtain ⟨meth9, c9, h1, h2, -, -, -, -, h7, -⟩ := Cond.code_spec B.named (atoms_spec (ws := g_ws M) B.pre _ List.mem_cons_self)
    cases Option.some.inj (h1.symm.trans B.method)
    cases Option.some.inj (h2.symm.trans (Stand.of_body B).code)
    rw [Array.isEmpty_iff.mp h7]
    rfl
  have q := body r hF p e s m As.toArray below meth c s.heap [] ls ⟨B.exec, B.bytes, hml, B.returns, B.notSynchronized, findClass_of_methodNamed B.named, fun w hw hg => hts w (List.mem_cons_of_mem _ (List.mem_filter.mpr ⟨hw, hg⟩)), hK, ⟨fun h => by rw [(name_of_methodNamed B.named B.method).1]; exact h, by rw [hM.1]; exact hM.2.1, fun _ => ht⟩, hok⟩ hl hM va_S.rf
  unfold g_phi at q
  rw [hρ] at q
  exact q
end
section
/-! more rows: copies, constructors, branches whose F is an if, switches -/
section GXD
variable {α : Type} {l : Launch} {G : gG} {M : gMt} {Φ : α → Method → Code → State → Array Value → List Frame → State → Prop} {k n pc nx x1 x2 : Nat} {L : List (Option Value)} {st stk : List Value} {h : gH} {F : Option α}
/-- System.arraycopy of ints -/
def g_cpy (h : gH) (a0 : Nat) (sp : Int32) (a : Nat) (dp n : Int32) : Option gH := (g_aI h a0 0).bind fun x => (g_aI h a 0).bind fun y => if sp < 0 ∨ dp < 0 ∨ n < 0 ∨ x.1 < sp.toNatClampNeg + n.toNatClampNeg ∨ y.1 < dp.toNatClampNeg + n.toNatClampNeg then none else some (g_set h a (.inl (0, y.1, .inl (va_cpy x.2 y.2 sp.toNatClampNeg dp.toNatClampNeg n.toNatClampNeg))))
theorem X_copy {a a0 idx : Nat} {sp dp m0 : Int32} {K : gH → Option α} (hd : g_lk (m_code M) pc = some (.invokestatic idx, nx, x1, x2)) (hn : nx = pc + 3) (hlk : Cond.methodLink (m_y M).cls idx arraycopyName ∈ lw_tbl) (hnat : Cond.native arraycopyName ∈ lw_tbl) (hstat : Cond.static arraycopyName ∈ lw_tbl) (hini : Cond.initialized "java/lang/System" ∈ lw_tbl) (hframes : Nat.ble 1 (m_R M).frames = true) (hlocals : Nat.ble ((st.map fun v => v.category).sum + (nativeFrameWords "java/lang/System" "arraycopy" 5 + 11)) (m_R M).locals = true) (kk : ∀ h', GX l G M Φ k n nx L st h' (K h')) : GX l G M Φ k n pc L (.int m0 :: .int dp :: .ref a :: .int sp :: .ref a0 :: st) h ((g_cpy h a0 sp a dp m0).bind K) := by
  refine X_bind fun h' hv => ?_
  unfold g_cpy at hv
  cases hx : g_aI h a0 0 with
  | none => rw [hx] at hv; cases hv
  | some x =>
    obtain ⟨n0, f⟩ := x
    rw [hx] at hv
    simp only [Option.bind_some] at hv
    cases hy : g_aI h a 0 with
    | none => rw [hy] at hv; cases hv
    | some y =>
      obtain ⟨n1, g⟩ := y
      rw [hy] at hv
      simp only [Option.bind_some] at hv
      split at hv
      · cases hv
      · next hc =>
        cases hv
        have h1 : ¬ sp < 0 := fun q => hc (Or.inl q)
        have h2 : ¬ dp < 0 := fun q => hc (Or.inr (Or.inl q))
        have h3 : ¬ m0 < 0 := fun q => hc (Or.inr (Or.inr (Or.inl q)))
        have h4 : sp.toNatClampNeg + m0.toNatClampNeg ≤ n0 := Nat.not_lt.mp fun q => hc (Or.inr (Or.inr (Or.inr (Or.inl q))))
        have h5 : dp.toNatClampNeg + m0.toNatClampNeg ≤ n1 := Nat.not_lt.mp fun q => hc (Or.inr (Or.inr (Or.inr (Or.inr q))))
        have ha0 := g_aI_some hx
        have ha := g_aI_some hy
        intro r hr p e s m args below meth c H locs A B hl hM hS
        have hg := g_dec B.2.2.2.2.2.2.2.2.2 hd hn
        have nn : ∀ z : Int32, ¬ z < 0 → z.toInt = (z.toNatClampNeg : Int) := by
          intro z hz
          have hz0 : (0 : Int) ≤ z.toInt := by
            have := Int32.not_lt.mp hz
            simpa using Int32.le_iff_toInt_le.mp this
          show z.toInt = ((z.toInt.toNat : Nat) : Int)
          omega
        have ok : ∀ w ∈ lw_tbl, goodWord w = true → w.before args s = true := B.2.2.2.2.2.2.1
        intro T hT X
        have hc0 : H[a0]? = some (vp_cell (g_c G 0) (n0, .inl f)) := (hM.2.2 a0 _ ha0).2
        have hc1 : H[a]? = some (vp_cell (g_c G 0) (n1, .inl g)) := (hM.2.2 a _ ha).2
        have hK := B.2.2.2.2.2.2.2.1.1
        obtain ⟨-, k0, hk0, cm0, hkk0⟩ := (hK.2 0 _ rfl).1 n0 (fun j => .int (f j))
        obtain ⟨-, k1, hk1, cm1, hkk1⟩ := (hK.2 0 _ rfl).1 n1 (fun j => .int (g j))
        obtain ⟨vm', X', step⟩ := X.arraycopy B.1 B.2.2.2.2.2.1 (ok _ hlk rfl) (ok _ hnat rfl) (ok _ hstat rfl) (ok _ hini rfl) (src := a0) (dst := a) (cs := vp_cell (g_c G 0) (n0, .inl f)) (cd := vp_cell (g_c G 0) (n1, .inl g)) (srcPos := sp) (destPos := dp) (n := m0) (by rw [hT]; exact hc0) (by rw [hT]; exact hc1)
          (fun _ h => by cases h) (fun _ h => by cases h) (fun h => by cases h) (fun h => by cases h) hk0 hk1 hkk0 hkk1 (by simp [refKind]) h1 h2 h3
          (by rw [nn sp h1, nn m0 h3]; show ¬ _ > ((arrV (g_c G 0) n0 (fun j => .int (f j))).slots.size : Int); rw [arrV_size]; omega)
          (by rw [nn dp h2, nn m0 h3]; show ¬ _ > ((arrV (g_c G 0) n1 (fun j => .int (g j))).slots.size : Int); rw [arrV_size]; omega)
          (fun vm₁ _ i hi => by
            have e : (vp_cell (g_c G 0) (n0, .inl f)).slots.getD (sp.toNatClampNeg + i) .null = .int (f (sp.toNatClampNeg + i)) := by
              show (arrV (g_c G 0) n0 (fun j => .int (f j))).slots.getD _ _ = _
              rw [Array.getD_eq_getD_getElem?, arrV_read _ _ (by omega)]
              rfl
            refine ⟨?_, ?_⟩
            · rw [e]; rfl
            · rw [e]
              exact trivial)
          (g := F0 m pc A (.int m0 :: .int dp :: .ref a :: .int sp :: .ref a0 :: st)) rfl (by rw [B.2.2.1]; exact hl.1) (rest := st) rfl (by rw [B.2.1]; exact hg) (Nat.le_of_ble_eq_true hframes) (by have := Nat.le_of_ble_eq_true hlocals; show 2 * 0 + _ + _ ≤ _; omega)
        have e1 : copied (vp_cell (g_c G 0) (n0, .inl f)) (vp_cell (g_c G 0) (n1, .inl g)) sp dp m0 = vp_cell (g_c G 0) (n1, .inl (va_cpy f g sp.toNatClampNeg dp.toNatClampNeg m0.toNatClampNeg)) := va_copied (fun z => .int z) (g_c G 0) (g_c G 0) f g h4
        rw [e1] at X' step
        have hla : a < H.size := (Array.getElem?_eq_some_iff.mp hc1).1
        have hheap : ((T.setVm vm').setCell a (vp_cell (g_c G 0) (n1, .inl (va_cpy f g sp.toNatClampNeg dp.toNatClampNeg m0.toNatClampNeg)))).heap = H.setIfInBounds a (vp_cell (g_c G 0) (n1, .inl (va_cpy f g sp.toNatClampNeg dp.toNatClampNeg m0.toNatClampNeg))) := by rw [← hT]; rfl
        have oq : ∀ q : Nat, q ≠ a → (H.setIfInBounds a (vp_cell (g_c G 0) (n1, .inl (va_cpy f g sp.toNatClampNeg dp.toNatClampNeg m0.toNatClampNeg))))[q]? = H[q]? := fun q hq => by simp [Array.getElem?_setIfInBounds, Ne.symm hq]
        have hab : g_b G ≤ a := (hM.2.2 a _ ha).1
        subst hn
        obtain ⟨t, a1, b1⟩ := kk _ r hr p e s m args below meth c (H.setIfInBounds a (vp_cell (g_c G 0) (n1, .inl (va_cpy f g sp.toNatClampNeg dp.toNatClampNeg m0.toNatClampNeg)))) _ A B hl (hM.set ha (x := .inl (0, n1, .inl (va_cpy f g sp.toNatClampNeg dp.toNatClampNeg m0.toNatClampNeg))) (show (H.setIfInBounds a _)[a]? = some _ by simp [Array.getElem?_setIfInBounds, hla]) (by simp) oq) ⟨by simp; exact hS.1, fun q g1 g2 => by
            rw [oq q (fun e => g2 (by rw [e]; exact hab))]
            exact hS.2.1 q g1 g2, fun q hq => by
            rcases List.mem_append.mp hq with h | h
            · exact hS.2.2 q h
            · obtain ⟨z, -, hz⟩ := List.mem_map.mp h
              rw [← hz]
              exact hab⟩ _ hheap X'
        exact ⟨t, step t a1, b1⟩
/-- super() of a class right under Object -/
theorem X_objInit {a idx : Nat} (hd : g_lk (m_code M) pc = some (.invokespecial idx, nx, x1, x2)) (hn : nx = pc + 3) (hlk : Cond.methodLink (m_y M).cls idx Lib.objectInit ∈ lw_tbl) (hin : Cond.instanceMethod Lib.objectInit ∈ lw_tbl) (hco : Cond.code Lib.objectInit ⟨#[0xb1]⟩ 1 none ∈ lw_tbl) (hframes : Nat.ble 1 (m_R M).frames = true) (hlocals : Nat.ble ((st.map fun v => v.category).sum + 12) (m_R M).locals = true) (kk : GX l G M Φ k n nx L st h F) : GX l G M Φ k n pc L (.ref a :: st) h F := by
  intro r hr p e s m args below meth c H locs A B hl hM hS
  have hg := g_dec B.2.2.2.2.2.2.2.2.2 hd hn
  have ok : ∀ w ∈ lw_tbl, goodWord w = true → w.before args s = true := B.2.2.2.2.2.2.1
  refine W.objInit B.1 B.2.1 B.2.2.2.2.2.1 (ok _ hlk rfl) (ok _ hin rfl) (ok _ hco rfl) rfl (by rw [B.2.2.1]; exact hl.1) rfl hg (Nat.le_of_ble_eq_true hframes) (by have := Nat.le_of_ble_eq_true hlocals; show 2 * 0 + _ + _ ≤ _; omega) ?_
  have q := kk r hr p e s m args below meth c H locs A B hl hM hS
  rw [hn] at q
  exact q
theorem X_anew {idx t N : Nat} {i : Int32} {C : String} (hd : g_lk (m_code M) pc = some (.anewarray idx, nx, x1, x2)) (hn : nx = pc + 3) (hlk : Cond.classLink (m_y M).cls idx C ∈ lw_tbl) (hov : Cond.arrayOver (.object C) ∈ lw_tbl) (ht : (g_tl (g_c G))[t]? = some (g_c G t, .object C)) (hi : ¬ i < 0) (hN : i.toNatClampNeg = N) (hb : Nat.ble (N * 4) 536870912 = true) (hk : Nat.ble (k + 1) (m_R M).cells = true) (hs : Nat.ble (n + N) (m_R M).slots = true) (kk : GX l G M Φ (k + 1) (n + N) nx L (.ref h.1 :: st) (g_add h (.inl (t, N, .inr (.inr (.inr (.inr (fun _ => none))))))) F) : GX l G M Φ k n pc L (.int i :: st) h F := by
  intro r hr p e s m args below meth c H locs A B hl hM hS
  have hg := g_dec B.2.2.2.2.2.2.2.2.2 hd hn
  have ok : ∀ w ∈ lw_tbl, goodWord w = true → w.before args s = true := B.2.2.2.2.2.2.1
  subst hN
  refine W.anew B.1 B.2.1 B.2.2.2.2.2.1 (ok _ hlk rfl) (va_AO.use (B.2.2.2.2.2.2.2.1.2.1 _ (List.mem_filter.mpr ⟨hov, rfl⟩))) rfl hg rfl hi (Nat.le_of_ble_eq_true hb) (Nat.le_of_ble_eq_true hk) (Nat.le_of_ble_eq_true hs) fun cA kA comp f1 f2 f3 f4 => ?_
  have hcA : cA = g_c G t := by
    obtain ⟨_, _, _, _, _, h4⟩ := (B.2.2.2.2.2.2.2.1.1.2 t _ ht).2
    exact Option.some.inj (f1.symm.trans h4)
  subst hcA
  generalize hH1 : H.push ({ cls := g_c G t, slots := Array.replicate i.toNatClampNeg .null, vm := .none } : Cell) = H1
  have z1 : H1.size = h.1 + 1 := by rw [← hH1, Array.size_push, hM.1]
  have e1 : H1[h.1]? = some (arrV (g_c G t) i.toNatClampNeg (fun _ => .null)) := by rw [← hH1, ← hM.1, Array.getElem?_push_size, ← arrV_new]
  have o1 : ∀ q : Nat, q < h.1 → H1[q]? = H[q]? := fun q hq => by rw [← hH1, Array.getElem?_push, if_neg (Nat.ne_of_lt (by rw [hM.1]; exact hq))]
  have q := kk r hr p e s m args below meth c H1 locs A B hl (hM.add (x := .inl (t, i.toNatClampNeg, .inr (.inr (.inr (.inr (fun _ => none)))))) (by show H1[h.1]? = some (vp_cell _ _); rw [vp_cell_q]; exact e1) z1 o1) (g_S.add hS hM.1 z1 o1)
  rw [hn] at q
  rw [hM.1]
  exact q
theorem X_qst {a t v ci : Nat} {i : Int32} {C : String} {K : gH → Option α} (hd : g_lk (m_code M) pc = some (.aastore, nx, x1, x2)) (hn : nx = pc + 1) (ht : (g_tl (g_c G))[t]? = some (g_c G t, .object C)) (hcn : g_cn ci = C) (kk : ∀ h', GX l G M Φ k n nx L st h' (K h')) : GX l G M Φ k n pc L (.ref v :: .int i :: .ref a :: st) h (bif g_is h v ci then (g_qst h a t i v).bind K else none) := by
  cases hb : g_is h v ci with
  | false => exact X_none
  | true =>
  refine X_bind fun h' hv => ?_
  unfold g_qst at hv
  cases hx : g_aQ h a t with
  | none => rw [hx] at hv; cases hv
  | some y =>
    obtain ⟨m0, f⟩ := y
    rw [hx] at hv
    simp only [Option.bind_some, Option.map_eq_some_iff] at hv
    obtain ⟨j, hj, rfl⟩ := hv
    obtain ⟨hin, rfl⟩ := g_ix_some hj
    have ha := g_aQ_some hx
    obtain ⟨fs, hvv⟩ := g_is_some hb
    intro r hr p e0 s m args below meth c H locs A B hl hM hS
    have hg := g_dec B.2.2.2.2.2.2.2.2.2 hd hn
    have hlt : i.toNatClampNeg < m0 := Nat.not_le.mp fun q => hin (Or.inr q)
    have h0 : ¬ i < 0 := fun q => hin (Or.inl q)
    obtain ⟨r', hr', cellV, g1, g2, g3, -⟩ := (hM.2.2 v _ hvv).2
    have hcls := (B.2.2.2.2.2.2.2.1.1.1 ci r' hr').2
    have hC : r'.1 = C := by
      rw [← hcn]
      unfold g_cn
      rw [hr']
    obtain ⟨kA, comp, k1, k2, k3, -⟩ := (B.2.2.2.2.2.2.2.1.1.2 t _ ht).2
    rw [← hC] at k3
    have hcomp : comp = (g_D G).1 ci := Option.some.inj (k3.symm.trans hcls.1)
    subst hcomp
    obtain ⟨kC, hkC, -⟩ := hcls.2
    have hP := g_PA hM ha
    refine W.aast B.1 B.2.1 (hP 0 _ rfl) (fun q h => by cases h) (fun h => by cases h) k1 k2 rfl hkC ⟨h0, by show _ < (arrV _ _ _).slots.size; rw [arrV_size]; exact hlt⟩ g1 (fun q h => by rw [g3] at h; cases h) (by rw [g2]; exact hkC) (by rw [g2]; exact va_assign hcls) rfl rfl hg fun H1 e z oq => ?_
    have q := kk _ r hr p e0 s m args below meth c H1 (locs ++ [⟨a, i.toNatClampNeg⟩]) A B hl (hM.set ha ?_ z oq) (g_S.put hS z oq (hM.2.2 a _ ha).1)
    · rw [hn] at q
      exact q
    · show H1[a]? = some (vp_cell _ _)
      rw [e]
      rw [vp_cell_q, vp_cell_q, arrV_store]
      congr 2
      funext q
      by_cases hq : q = i.toNatClampNeg
      · subst hq
        simp [updV, va_up, va_rf]
      · simp [updV, va_up, hq]
/-- new int[N][K] -/
def g_addM (h : gH) (N K : Nat) : gH := (h.1 + 1 + N, fun q => if q = h.1 then some (.inl (3, N, .inr (.inr (.inr (.inr (fun i => if i < N then some (h.1 + 1 + i) else none)))))) else if h.1 < q ∧ q < h.1 + 1 + N then some (.inl (0, K, .inl fun _ => 0)) else h.2 q)
theorem X_mna {idx N K : Nat} {i j : Int32} (hd : g_lk (m_code M) pc = some (.multianewarray idx 2, nx, x1, x2)) (hn : nx = pc + 4) (hlk : Cond.classLink (m_y M).cls idx ("[" ++ (FieldType.array .int).toString) ∈ lw_tbl) (hov : Cond.arrayOver (.array .int) ∈ lw_tbl) (har : Cond.arrayClass .int ∈ lw_tbl) (hi : ¬ i < 0) (hj : ¬ j < 0) (hN : i.toNatClampNeg = N) (hK0 : j.toNatClampNeg = K) (hb1 : Nat.ble (N * 4) 536870912 = true) (hb2 : Nat.ble (K * componentBytes .int) 536870912 = true) (hb3 : Nat.ble K 536870912 = true) (hk : Nat.ble (k + (1 + N)) (m_R M).cells = true) (hs : Nat.ble (n + (N + N * K)) (m_R M).slots = true) (kk : GX l G M Φ (k + 1 + N) (n + N + N * K) nx L (.ref h.1 :: st) (g_addM h N K) F) : GX l G M Φ k n pc L (.int j :: .int i :: st) h F := by
  intro r hr p e s m args below meth c H locs A B hl hM hS
  have hg := g_dec B.2.2.2.2.2.2.2.2.2 hd hn
  have ok : ∀ w ∈ lw_tbl, goodWord w = true → w.before args s = true := B.2.2.2.2.2.2.1
  subst hN
  subst hK0
  intro T hT Xs
  obtain ⟨vm₁, cA, comp, -, fA, fC, hO, -, X', step⟩ := Xs.multianewarray2F B.1 B.2.2.2.2.2.1 (ok _ hlk rfl) (va_AOA.use (ty := .int) (A := args) (B.2.2.2.2.2.2.2.1.2.1 _ (List.mem_filter.mpr ⟨hov, rfl⟩))) (ok _ har rfl) (g := F0 m pc A (.int j :: .int i :: st)) rfl (by rw [B.2.1]; exact hg) rfl hi hj (Nat.le_of_ble_eq_true hb1) (Nat.le_of_ble_eq_true hb2) (Nat.le_of_ble_eq_true hb3) rfl rfl (Nat.le_of_ble_eq_true hk) (Nat.le_of_ble_eq_true hs)
  have hcA : cA = g_c G 3 := by
    have h1 := (B.2.2.2.2.2.2.2.1.1.2 3 _ rfl).2
    exact Option.some.inj (fA.symm.trans h1)
  have hco : comp = g_c G 0 := by
    have h1 := (B.2.2.2.2.2.2.2.1.1.2 0 _ rfl).2
    exact Option.some.inj (fC.symm.trans h1)
  subst hcA
  subst hco
  generalize hF : Jvm.Free.Multi.fill (T.setVm vm₁) (g_c G 3) (g_c G 0) i.toNatClampNeg j.toNatClampNeg (defaultValue .int) i.toNatClampNeg = F1 at X' step
  have hTh : (T.setVm vm₁).heap = H := hT
  obtain ⟨f1, f2, -, -⟩ := Jvm.Free.Multi.fill_facts (T.setVm vm₁) (g_c G 3) (g_c G 0) i.toNatClampNeg j.toNatClampNeg (defaultValue .int) i.toNatClampNeg
  rw [hF, hTh] at f1 f2
  have hold : ∀ x : Nat, x < H.size → F1.heap[x]? = H[x]? := fun x hx => by
    have := Jvm.Free.Multi.fill_old (T.setVm vm₁) (g_c G 3) (g_c G 0) i.toNatClampNeg j.toNatClampNeg (defaultValue .int) (a := x) (by rw [hTh]; exact hx) i.toNatClampNeg
    rw [hF, hTh] at this
    exact this
  have hz : Jvm.Free.Multi.innerC (g_c G 0) j.toNatClampNeg (defaultValue .int) = vp_cell (g_c G 0) (j.toNatClampNeg, .inl fun _ => 0) := by
    rw [vp_cell_i]
    exact arrV_new _ _ _
  have hrow : ∀ z : Nat, z < i.toNatClampNeg → F1.heap[H.size + 1 + z]? = some (vp_cell (g_c G 0) (j.toNatClampNeg, .inl fun _ => 0)) := fun z hz9 => by
    have := Jvm.Free.Multi.fill_inner (T.setVm vm₁) (g_c G 3) (g_c G 0) i.toNatClampNeg j.toNatClampNeg (defaultValue .int) i.toNatClampNeg z hz9
    rw [hF, hTh, hz] at this
    exact this
  have hout : Jvm.Free.Multi.outerC (g_c G 3) i.toNatClampNeg H.size i.toNatClampNeg = vp_cell (g_c G 3) (i.toNatClampNeg, .inr (.inr (.inr (.inr (fun z => if z < i.toNatClampNeg then some (H.size + 1 + z) else none))))) := by
    rw [vp_cell_q]
    exact vr_outer (g_c G 3) i.toNatClampNeg H.size i.toNatClampNeg
  rw [hout] at f2
  rw [hM.1] at f1 f2 hrow hold
  have q := kk r hr p e s m args below meth c F1.heap locs A B hl ⟨f1, Nat.le_trans hM.2.1 (by show _ ≤ h.1 + 1 + _; omega), fun q x hq => by
    simp only [g_addM] at hq
    by_cases e1 : q = h.1
    · subst e1
      rw [if_pos rfl] at hq
      cases hq
      exact ⟨hM.2.1, f2⟩
    · rw [if_neg e1] at hq
      by_cases e2 : h.1 < q ∧ q < h.1 + 1 + i.toNatClampNeg
      · rw [if_pos e2] at hq
        cases hq
        refine ⟨Nat.le_trans hM.2.1 (Nat.le_of_lt e2.1), ?_⟩
        have := hrow (q - (h.1 + 1)) (by omega)
        rw [show h.1 + 1 + (q - (h.1 + 1)) = q by omega] at this
        exact this
      · rw [if_neg e2] at hq
        have h2 := hM.2.2 q x hq
        have h3 := h2.2.lt
        rw [hM.1] at h3
        exact ⟨h2.1, h2.2.kept (hold q h3)⟩⟩ ⟨by rw [f1]; have := hS.1; rw [hM.1] at this; omega, fun x h1 h2 => (hold x (by have := hS.1; rw [hM.1] at this; omega)).trans (hS.2.1 x h1 h2), hS.2.2⟩
  rw [hn] at q
  obtain ⟨t, a1, b1⟩ := q F1 rfl X'
  refine ⟨t, step t ?_, b1⟩
  have e : T.heap.size = h.1 := by rw [hT]; exact hM.1
  rw [e]
  exact a1
theorem X_bif_eq {x : Int32} {off : Int} {F1 F2 : Option α} (hd : g_lk (m_code M) pc = some (.ifCond .eq off, nx, x1, x2)) (hn : nx = pc + 3) (kt : (x = 0) → GX l G M Φ k n x1 L st h F1) (kf : ¬ (x = 0) → GX l G M Φ k n nx L st h F2) : GX l G M Φ k n pc L (.int x :: st) h (if x = 0 then F1 else F2) := by
  by_cases hc : x = 0
  · rw [if_pos hc]
    exact X_if_eq hd hn (fun q => kt hc) (fun q => absurd hc q)
  · rw [if_neg hc]
    exact X_if_eq hd hn (fun q => absurd q hc) (fun q => kf hc)
theorem X_bPif_eq {x : Int32} {off : Int} {a1 a2 : α} (hd : g_lk (m_code M) pc = some (.ifCond .eq off, nx, x1, x2)) (hn : nx = pc + 3) (kt : (x = 0) → GX l G M Φ k n x1 L st h (some a1)) (kf : ¬ (x = 0) → GX l G M Φ k n nx L st h (some a2)) : GX l G M Φ k n pc L (.int x :: st) h (some (if x = 0 then a1 else a2)) := by
  by_cases hc : x = 0
  · rw [if_pos hc]
    exact X_if_eq hd hn (fun q => kt hc) (fun q => absurd hc q)
  · rw [if_neg hc]
    exact X_if_eq hd hn (fun q => absurd q hc) (fun q => kf hc)
theorem X_bif_ne {x : Int32} {off : Int} {F1 F2 : Option α} (hd : g_lk (m_code M) pc = some (.ifCond .ne off, nx, x1, x2)) (hn : nx = pc + 3) (kt : (x = 0) → GX l G M Φ k n nx L st h F1) (kf : ¬ (x = 0) → GX l G M Φ k n x1 L st h F2) : GX l G M Φ k n pc L (.int x :: st) h (if x = 0 then F1 else F2) := by
  by_cases hc : x = 0
  · rw [if_pos hc]
    exact X_if_ne hd hn (fun q => absurd hc q) (fun q => kt hc)
  · rw [if_neg hc]
    exact X_if_ne hd hn (fun q => kf hc) (fun q => absurd hc q)
theorem X_bPif_ne {x : Int32} {off : Int} {a1 a2 : α} (hd : g_lk (m_code M) pc = some (.ifCond .ne off, nx, x1, x2)) (hn : nx = pc + 3) (kt : (x = 0) → GX l G M Φ k n nx L st h (some a1)) (kf : ¬ (x = 0) → GX l G M Φ k n x1 L st h (some a2)) : GX l G M Φ k n pc L (.int x :: st) h (some (if x = 0 then a1 else a2)) := by
  by_cases hc : x = 0
  · rw [if_pos hc]
    exact X_if_ne hd hn (fun q => absurd hc q) (fun q => kt hc)
  · rw [if_neg hc]
    exact X_if_ne hd hn (fun q => kf hc) (fun q => absurd hc q)
theorem X_bif_lt {x : Int32} {off : Int} {F1 F2 : Option α} (hd : g_lk (m_code M) pc = some (.ifCond .lt off, nx, x1, x2)) (hn : nx = pc + 3) (kt : (0 ≤ x) → GX l G M Φ k n nx L st h F1) (kf : ¬ (0 ≤ x) → GX l G M Φ k n x1 L st h F2) : GX l G M Φ k n pc L (.int x :: st) h (if 0 ≤ x then F1 else F2) := by
  by_cases hc : 0 ≤ x
  · rw [if_pos hc]
    exact X_if_lt hd hn (fun q => absurd (Int32.not_lt.mpr hc) (fun z => z q)) (fun q => kt hc)
  · rw [if_neg hc]
    exact X_if_lt hd hn (fun q => kf hc) (fun q => absurd (Int32.not_lt.mp q) hc)
theorem X_bPif_lt {x : Int32} {off : Int} {a1 a2 : α} (hd : g_lk (m_code M) pc = some (.ifCond .lt off, nx, x1, x2)) (hn : nx = pc + 3) (kt : (0 ≤ x) → GX l G M Φ k n nx L st h (some a1)) (kf : ¬ (0 ≤ x) → GX l G M Φ k n x1 L st h (some a2)) : GX l G M Φ k n pc L (.int x :: st) h (some (if 0 ≤ x then a1 else a2)) := by
  by_cases hc : 0 ≤ x
  · rw [if_pos hc]
    exact X_if_lt hd hn (fun q => absurd (Int32.not_lt.mpr hc) (fun z => z q)) (fun q => kt hc)
  · rw [if_neg hc]
    exact X_if_lt hd hn (fun q => kf hc) (fun q => absurd (Int32.not_lt.mp q) hc)
theorem X_bif_ge {x : Int32} {off : Int} {F1 F2 : Option α} (hd : g_lk (m_code M) pc = some (.ifCond .ge off, nx, x1, x2)) (hn : nx = pc + 3) (kt : (x < 0) → GX l G M Φ k n nx L st h F1) (kf : ¬ (x < 0) → GX l G M Φ k n x1 L st h F2) : GX l G M Φ k n pc L (.int x :: st) h (if x < 0 then F1 else F2) := by
  by_cases hc : x < 0
  · rw [if_pos hc]
    exact X_if_ge hd hn (fun q => absurd hc (Int32.not_lt.mpr q)) (fun q => kt hc)
  · rw [if_neg hc]
    exact X_if_ge hd hn (fun q => kf hc) (fun q => absurd (Int32.not_le.mp q) hc)
theorem X_bPif_ge {x : Int32} {off : Int} {a1 a2 : α} (hd : g_lk (m_code M) pc = some (.ifCond .ge off, nx, x1, x2)) (hn : nx = pc + 3) (kt : (x < 0) → GX l G M Φ k n nx L st h (some a1)) (kf : ¬ (x < 0) → GX l G M Φ k n x1 L st h (some a2)) : GX l G M Φ k n pc L (.int x :: st) h (some (if x < 0 then a1 else a2)) := by
  by_cases hc : x < 0
  · rw [if_pos hc]
    exact X_if_ge hd hn (fun q => absurd hc (Int32.not_lt.mpr q)) (fun q => kt hc)
  · rw [if_neg hc]
    exact X_if_ge hd hn (fun q => kf hc) (fun q => absurd (Int32.not_le.mp q) hc)
theorem X_bif_gt {x : Int32} {off : Int} {F1 F2 : Option α} (hd : g_lk (m_code M) pc = some (.ifCond .gt off, nx, x1, x2)) (hn : nx = pc + 3) (kt : (x ≤ 0) → GX l G M Φ k n nx L st h F1) (kf : ¬ (x ≤ 0) → GX l G M Φ k n x1 L st h F2) : GX l G M Φ k n pc L (.int x :: st) h (if x ≤ 0 then F1 else F2) := by
  by_cases hc : x ≤ 0
  · rw [if_pos hc]
    exact X_if_gt hd hn (fun q => absurd (Int32.not_lt.mpr hc) (fun z => z q)) (fun q => kt hc)
  · rw [if_neg hc]
    exact X_if_gt hd hn (fun q => kf hc) (fun q => absurd (Int32.not_lt.mp q) hc)
theorem X_bPif_gt {x : Int32} {off : Int} {a1 a2 : α} (hd : g_lk (m_code M) pc = some (.ifCond .gt off, nx, x1, x2)) (hn : nx = pc + 3) (kt : (x ≤ 0) → GX l G M Φ k n nx L st h (some a1)) (kf : ¬ (x ≤ 0) → GX l G M Φ k n x1 L st h (some a2)) : GX l G M Φ k n pc L (.int x :: st) h (some (if x ≤ 0 then a1 else a2)) := by
  by_cases hc : x ≤ 0
  · rw [if_pos hc]
    exact X_if_gt hd hn (fun q => absurd (Int32.not_lt.mpr hc) (fun z => z q)) (fun q => kt hc)
  · rw [if_neg hc]
    exact X_if_gt hd hn (fun q => kf hc) (fun q => absurd (Int32.not_lt.mp q) hc)
theorem X_bif_le {x : Int32} {off : Int} {F1 F2 : Option α} (hd : g_lk (m_code M) pc = some (.ifCond .le off, nx, x1, x2)) (hn : nx = pc + 3) (kt : (0 < x) → GX l G M Φ k n nx L st h F1) (kf : ¬ (0 < x) → GX l G M Φ k n x1 L st h F2) : GX l G M Φ k n pc L (.int x :: st) h (if 0 < x then F1 else F2) := by
  by_cases hc : 0 < x
  · rw [if_pos hc]
    exact X_if_le hd hn (fun q => absurd hc (Int32.not_lt.mpr q)) (fun q => kt hc)
  · rw [if_neg hc]
    exact X_if_le hd hn (fun q => kf hc) (fun q => absurd (Int32.not_le.mp q) hc)
theorem X_bPif_le {x : Int32} {off : Int} {a1 a2 : α} (hd : g_lk (m_code M) pc = some (.ifCond .le off, nx, x1, x2)) (hn : nx = pc + 3) (kt : (0 < x) → GX l G M Φ k n nx L st h (some a1)) (kf : ¬ (0 < x) → GX l G M Φ k n x1 L st h (some a2)) : GX l G M Φ k n pc L (.int x :: st) h (some (if 0 < x then a1 else a2)) := by
  by_cases hc : 0 < x
  · rw [if_pos hc]
    exact X_if_le hd hn (fun q => absurd hc (Int32.not_lt.mpr q)) (fun q => kt hc)
  · rw [if_neg hc]
    exact X_if_le hd hn (fun q => kf hc) (fun q => absurd (Int32.not_le.mp q) hc)
theorem X_bicmp_eq {x y : Int32} {off : Int} {F1 F2 : Option α} (hd : g_lk (m_code M) pc = some (.if_icmp .eq off, nx, x1, x2)) (hn : nx = pc + 3) (kt : (x = y) → GX l G M Φ k n x1 L st h F1) (kf : ¬ (x = y) → GX l G M Φ k n nx L st h F2) : GX l G M Φ k n pc L (.int y :: .int x :: st) h (if x = y then F1 else F2) := by
  by_cases hc : x = y
  · rw [if_pos hc]
    exact X_icmp_eq hd hn (fun q => kt hc) (fun q => absurd hc q)
  · rw [if_neg hc]
    exact X_icmp_eq hd hn (fun q => absurd q hc) (fun q => kf hc)
theorem X_bPicmp_eq {x y : Int32} {off : Int} {a1 a2 : α} (hd : g_lk (m_code M) pc = some (.if_icmp .eq off, nx, x1, x2)) (hn : nx = pc + 3) (kt : (x = y) → GX l G M Φ k n x1 L st h (some a1)) (kf : ¬ (x = y) → GX l G M Φ k n nx L st h (some a2)) : GX l G M Φ k n pc L (.int y :: .int x :: st) h (some (if x = y then a1 else a2)) := by
  by_cases hc : x = y
  · rw [if_pos hc]
    exact X_icmp_eq hd hn (fun q => kt hc) (fun q => absurd hc q)
  · rw [if_neg hc]
    exact X_icmp_eq hd hn (fun q => absurd q hc) (fun q => kf hc)
theorem X_bicmp_ne {x y : Int32} {off : Int} {F1 F2 : Option α} (hd : g_lk (m_code M) pc = some (.if_icmp .ne off, nx, x1, x2)) (hn : nx = pc + 3) (kt : (x = y) → GX l G M Φ k n nx L st h F1) (kf : ¬ (x = y) → GX l G M Φ k n x1 L st h F2) : GX l G M Φ k n pc L (.int y :: .int x :: st) h (if x = y then F1 else F2) := by
  by_cases hc : x = y
  · rw [if_pos hc]
    exact X_icmp_ne hd hn (fun q => absurd hc q) (fun q => kt hc)
  · rw [if_neg hc]
    exact X_icmp_ne hd hn (fun q => kf hc) (fun q => absurd hc q)
theorem X_bPicmp_ne {x y : Int32} {off : Int} {a1 a2 : α} (hd : g_lk (m_code M) pc = some (.if_icmp .ne off, nx, x1, x2)) (hn : nx = pc + 3) (kt : (x = y) → GX l G M Φ k n nx L st h (some a1)) (kf : ¬ (x = y) → GX l G M Φ k n x1 L st h (some a2)) : GX l G M Φ k n pc L (.int y :: .int x :: st) h (some (if x = y then a1 else a2)) := by
  by_cases hc : x = y
  · rw [if_pos hc]
    exact X_icmp_ne hd hn (fun q => absurd hc q) (fun q => kt hc)
  · rw [if_neg hc]
    exact X_icmp_ne hd hn (fun q => kf hc) (fun q => absurd hc q)
theorem X_bicmp_lt {x y : Int32} {off : Int} {F1 F2 : Option α} (hd : g_lk (m_code M) pc = some (.if_icmp .lt off, nx, x1, x2)) (hn : nx = pc + 3) (kt : (y ≤ x) → GX l G M Φ k n nx L st h F1) (kf : ¬ (y ≤ x) → GX l G M Φ k n x1 L st h F2) : GX l G M Φ k n pc L (.int y :: .int x :: st) h (if y ≤ x then F1 else F2) := by
  by_cases hc : y ≤ x
  · rw [if_pos hc]
    exact X_icmp_lt hd hn (fun q => absurd (Int32.not_lt.mpr hc) (fun z => z q)) (fun q => kt hc)
  · rw [if_neg hc]
    exact X_icmp_lt hd hn (fun q => kf hc) (fun q => absurd (Int32.not_lt.mp q) hc)
theorem X_bPicmp_lt {x y : Int32} {off : Int} {a1 a2 : α} (hd : g_lk (m_code M) pc = some (.if_icmp .lt off, nx, x1, x2)) (hn : nx = pc + 3) (kt : (y ≤ x) → GX l G M Φ k n nx L st h (some a1)) (kf : ¬ (y ≤ x) → GX l G M Φ k n x1 L st h (some a2)) : GX l G M Φ k n pc L (.int y :: .int x :: st) h (some (if y ≤ x then a1 else a2)) := by
  by_cases hc : y ≤ x
  · rw [if_pos hc]
    exact X_icmp_lt hd hn (fun q => absurd (Int32.not_lt.mpr hc) (fun z => z q)) (fun q => kt hc)
  · rw [if_neg hc]
    exact X_icmp_lt hd hn (fun q => kf hc) (fun q => absurd (Int32.not_lt.mp q) hc)
theorem X_bicmp_ge {x y : Int32} {off : Int} {F1 F2 : Option α} (hd : g_lk (m_code M) pc = some (.if_icmp .ge off, nx, x1, x2)) (hn : nx = pc + 3) (kt : (x < y) → GX l G M Φ k n nx L st h F1) (kf : ¬ (x < y) → GX l G M Φ k n x1 L st h F2) : GX l G M Φ k n pc L (.int y :: .int x :: st) h (if x < y then F1 else F2) := by
  by_cases hc : x < y
  · rw [if_pos hc]
    exact X_icmp_ge hd hn (fun q => absurd hc (Int32.not_lt.mpr q)) (fun q => kt hc)
  · rw [if_neg hc]
    exact X_icmp_ge hd hn (fun q => kf hc) (fun q => absurd (Int32.not_le.mp q) hc)
theorem X_bPicmp_ge {x y : Int32} {off : Int} {a1 a2 : α} (hd : g_lk (m_code M) pc = some (.if_icmp .ge off, nx, x1, x2)) (hn : nx = pc + 3) (kt : (x < y) → GX l G M Φ k n nx L st h (some a1)) (kf : ¬ (x < y) → GX l G M Φ k n x1 L st h (some a2)) : GX l G M Φ k n pc L (.int y :: .int x :: st) h (some (if x < y then a1 else a2)) := by
  by_cases hc : x < y
  · rw [if_pos hc]
    exact X_icmp_ge hd hn (fun q => absurd hc (Int32.not_lt.mpr q)) (fun q => kt hc)
  · rw [if_neg hc]
    exact X_icmp_ge hd hn (fun q => kf hc) (fun q => absurd (Int32.not_le.mp q) hc)
theorem X_bicmp_gt {x y : Int32} {off : Int} {F1 F2 : Option α} (hd : g_lk (m_code M) pc = some (.if_icmp .gt off, nx, x1, x2)) (hn : nx = pc + 3) (kt : (x ≤ y) → GX l G M Φ k n nx L st h F1) (kf : ¬ (x ≤ y) → GX l G M Φ k n x1 L st h F2) : GX l G M Φ k n pc L (.int y :: .int x :: st) h (if x ≤ y then F1 else F2) := by
  by_cases hc : x ≤ y
  · rw [if_pos hc]
    exact X_icmp_gt hd hn (fun q => absurd (Int32.not_lt.mpr hc) (fun z => z q)) (fun q => kt hc)
  · rw [if_neg hc]
    exact X_icmp_gt hd hn (fun q => kf hc) (fun q => absurd (Int32.not_lt.mp q) hc)
theorem X_bPicmp_gt {x y : Int32} {off : Int} {a1 a2 : α} (hd : g_lk (m_code M) pc = some (.if_icmp .gt off, nx, x1, x2)) (hn : nx = pc + 3) (kt : (x ≤ y) → GX l G M Φ k n nx L st h (some a1)) (kf : ¬ (x ≤ y) → GX l G M Φ k n x1 L st h (some a2)) : GX l G M Φ k n pc L (.int y :: .int x :: st) h (some (if x ≤ y then a1 else a2)) := by
  by_cases hc : x ≤ y
  · rw [if_pos hc]
    exact X_icmp_gt hd hn (fun q => absurd (Int32.not_lt.mpr hc) (fun z => z q)) (fun q => kt hc)
  · rw [if_neg hc]
    exact X_icmp_gt hd hn (fun q => kf hc) (fun q => absurd (Int32.not_lt.mp q) hc)
theorem X_bicmp_le {x y : Int32} {off : Int} {F1 F2 : Option α} (hd : g_lk (m_code M) pc = some (.if_icmp .le off, nx, x1, x2)) (hn : nx = pc + 3) (kt : (y < x) → GX l G M Φ k n nx L st h F1) (kf : ¬ (y < x) → GX l G M Φ k n x1 L st h F2) : GX l G M Φ k n pc L (.int y :: .int x :: st) h (if y < x then F1 else F2) := by
  by_cases hc : y < x
  · rw [if_pos hc]
    exact X_icmp_le hd hn (fun q => absurd hc (Int32.not_lt.mpr q)) (fun q => kt hc)
  · rw [if_neg hc]
    exact X_icmp_le hd hn (fun q => kf hc) (fun q => absurd (Int32.not_le.mp q) hc)
theorem X_bPicmp_le {x y : Int32} {off : Int} {a1 a2 : α} (hd : g_lk (m_code M) pc = some (.if_icmp .le off, nx, x1, x2)) (hn : nx = pc + 3) (kt : (y < x) → GX l G M Φ k n nx L st h (some a1)) (kf : ¬ (y < x) → GX l G M Φ k n x1 L st h (some a2)) : GX l G M Φ k n pc L (.int y :: .int x :: st) h (some (if y < x then a1 else a2)) := by
  by_cases hc : y < x
  · rw [if_pos hc]
    exact X_icmp_le hd hn (fun q => absurd hc (Int32.not_lt.mpr q)) (fun q => kt hc)
  · rw [if_neg hc]
    exact X_icmp_le hd hn (fun q => kf hc) (fun q => absurd (Int32.not_le.mp q) hc)
theorem X_bnonnull {x : Option Nat} {off : Int} {F1 : Option α} {K : Nat → Option α} (hd : g_lk (m_code M) pc = some (.ifnonnull off, nx, x1, x2)) (hn : nx = pc + 3) (kf : x = none → GX l G M Φ k n nx L st h F1) (kt : ∀ a, x = some a → GX l G M Φ k n x1 L st h (K a)) : GX l G M Φ k n pc L (va_rf x :: st) h (x.elim F1 K) := by
  cases x with
  | none => exact X_ifnonnull hd hn (fun a e => by cases e) (fun _ => kf rfl)
  | some a => exact X_ifnonnull hd hn (fun a' e => by cases e; exact kt a rfl) (fun e => by cases e)
theorem X_bnull {x : Option Nat} {off : Int} {F1 : Option α} {K : Nat → Option α} (hd : g_lk (m_code M) pc = some (.ifnull off, nx, x1, x2)) (hn : nx = pc + 3) (kt : x = none → GX l G M Φ k n x1 L st h F1) (kf : ∀ a, x = some a → GX l G M Φ k n nx L st h (K a)) : GX l G M Φ k n pc L (va_rf x :: st) h (x.elim F1 K) := by
  cases x with
  | none => exact X_ifnull hd hn (fun _ => kt rfl) (fun a e => by cases e)
  | some a => exact X_ifnull hd hn (fun e => by cases e) (fun a' e => by cases e; exact kf a rfl)
/-- a value that isn't null -/
theorem X_nn {x : Option Nat} {K : Nat → Option α} (kk : ∀ a, x = some a → GX l G M Φ k n pc L st h (K a)) : GX l G M Φ k n pc L st h (x.bind K) := X_bind kk
theorem X_rfl {st' : List Value} (e : st = st') (kk : GX l G M Φ k n pc L st' h F) : GX l G M Φ k n pc L st h F := e ▸ kk
theorem X_astoreQ {j : Nat} {x : Option Nat} (hd : g_lk (m_code M) pc = some (.astore j, nx, x1, x2)) (hn : nx = pc + 2) (hj : Nat.blt j L.length = true) (hp : g_pl L j = true) (kk : GX l G M Φ k n nx (L.set j (some (va_rf x))) st h F) : GX l G M Φ k n pc L (va_rf x :: st) h F := by
  cases x with
  | some a => exact X_astore hd hn hj hp kk
  | none =>
    intro r hr p e s m args below meth c H locs A B hl hM hS
    have hg := g_dec B.2.2.2.2.2.2.2.2.2 hd hn
    have hj1 : j < m_nL M := by rw [← hl.2.2.1]; exact Nat.blt_eq.mp hj
    refine lv_astoreN B.1 B.2.1 hg hl.has hj1 rfl (fun A' h' => ?_)
    have q := kk r hr p e s m args below meth c H locs A' B (hl.put1 hp h') hM hS
    rw [hn] at q
    exact q
theorem X_astoreQ_n {j : Fin 4} {x : Option Nat} (hd : g_lk (m_code M) pc = some (.astore_n j, nx, x1, x2)) (hn : nx = pc + 1) (hj : Nat.blt (j : Nat) L.length = true) (hp : g_pl L (j : Nat) = true) (kk : GX l G M Φ k n nx (L.set (j : Nat) (some (va_rf x))) st h F) : GX l G M Φ k n pc L (va_rf x :: st) h F := by
  cases x with
  | some a => exact X_astore_n hd hn hj hp kk
  | none =>
    intro r hr p e s m args below meth c H locs A B hl hM hS
    have hg := g_dec B.2.2.2.2.2.2.2.2.2 hd hn
    have hj1 : (j : Nat) < m_nL M := by rw [← hl.2.2.1]; exact Nat.blt_eq.mp hj
    refine lv_astore_nN B.1 B.2.1 hg rfl hl.has hj1 rfl (fun A' h' => ?_)
    have q := kk r hr p e s m args below meth c H locs A' B (hl.put1 hp h') hM hS
    rw [hn] at q
    exact q
theorem X_aloadQ {j : Nat} {x : Option Nat} (hd : g_lk (m_code M) pc = some (.aload j, nx, x1, x2)) (hn : nx = pc + 2) (hx : L[j]? = some (some (va_rf x))) (kk : GX l G M Φ k n nx L (va_rf x :: st) h F) : GX l G M Φ k n pc L st h F := by
  cases x with
  | some a => exact X_aload hd hn hx kk
  | none =>
    intro r hr p e s m args below meth c H locs A B hl hM hS
    have hg := g_dec B.2.2.2.2.2.2.2.2.2 hd hn
    have q := kk r hr p e s m args below meth c H locs A B hl hM hS
    rw [hn] at q
    exact lv_aloadN B.1 B.2.1 hg (hl.at hx) q
theorem X_aloadQ_n {j : Fin 4} {x : Option Nat} (hd : g_lk (m_code M) pc = some (.aload_n j, nx, x1, x2)) (hn : nx = pc + 1) (hx : L[(j : Nat)]? = some (some (va_rf x))) (kk : GX l G M Φ k n nx L (va_rf x :: st) h F) : GX l G M Φ k n pc L st h F := by
  cases x with
  | some a => exact X_aload_n hd hn hx kk
  | none =>
    intro r hr p e s m args below meth c H locs A B hl hM hS
    have hg := g_dec B.2.2.2.2.2.2.2.2.2 hd hn
    have q := kk r hr p e s m args below meth c H locs A B hl hM hS
    rw [hn] at q
    exact lv_aload_nN B.1 B.2.1 hg rfl (hl.at hx) q
theorem X_tswIn {x v : Int32} {dflt lo hi off : Int} {offs : Array Int} {tgt len : Nat} (hd : g_lk (m_code M) pc = some (.tableswitch dflt lo hi offs, nx, x1, x2)) (hn : nx = pc + len) (e0 : x = v) (h1 : ¬ v.toInt < lo) (h2 : ¬ hi < v.toInt) (ho : offs[(v.toInt - lo).toNat]? = some off) (ht : (pc : Int) + off = (tgt : Int)) (kk : GX l G M Φ k n tgt L st h F) : GX l G M Φ k n pc L (.int x :: st) h F := by
  subst e0
  intro r hr p e s m args below meth c H locs A B hl hM hS
  have hg := g_dec B.2.2.2.2.2.2.2.2.2 hd hn
  exact lv_tableIn B.1 B.2.1 hg h1 h2 ho ht (kk r hr p e s m args below meth c H locs A B hl hM hS)
theorem X_tswOut {x : Int32} {dflt lo hi : Int} {offs : Array Int} {tgt len : Nat} (hd : g_lk (m_code M) pc = some (.tableswitch dflt lo hi offs, nx, x1, x2)) (hn : nx = pc + len) (h1 : x.toInt < lo ∨ hi < x.toInt) (ht : (pc : Int) + dflt = (tgt : Int)) (kk : GX l G M Φ k n tgt L st h F) : GX l G M Φ k n pc L (.int x :: st) h F := by
  intro r hr p e s m args below meth c H locs A B hl hM hS
  have hg := g_dec B.2.2.2.2.2.2.2.2.2 hd hn
  exact lv_tableOut B.1 B.2.1 hg h1 ht (kk r hr p e s m args below meth c H locs A B hl hM hS)
theorem X_lsw {x : Int32} {dflt off : Int} {ps : Array (Int × Int)} {tgt len : Nat} (hd : g_lk (m_code M) pc = some (.lookupswitch dflt ps, nx, x1, x2)) (hn : nx = pc + len) (hp : (ps.toList.zip (ps.toList.drop 1)).all (fun (a, next) => a.1 < next.1) = true) (ho : Op.lookupswitch.offset ps.toList dflt x.toInt = off) (ht : (pc : Int) + off = (tgt : Int)) (kk : GX l G M Φ k n tgt L st h F) : GX l G M Φ k n pc L (.int x :: st) h F := by
  intro r hr p e s m args below meth c H locs A B hl hM hS
  have hg := g_dec B.2.2.2.2.2.2.2.2.2 hd hn
  exact lv_lookup B.1 B.2.1 hg hp ho ht (kk r hr p e s m args below meth c H locs A B hl hM hS)
theorem X_ldc {idx : Nat} {v : Int32} (hd : g_lk (m_code M) pc = some (.ldc idx, nx, x1, x2)) (hn : nx = pc + 2) (hw : Cond.constant (m_y M).cls idx v ∈ lw_tbl) (kk : GX l G M Φ k n nx L (.int v :: st) h F) : GX l G M Φ k n pc L st h F := by
  intro r hr p e s m args below meth c H locs A B hl hM hS
  have hg := g_dec B.2.2.2.2.2.2.2.2.2 hd hn
  have q := kk r hr p e s m args below meth c H locs A B hl hM hS
  rw [hn] at q
  exact lv_ldc B.1 B.2.1 B.2.2.2.2.2.1 (B.2.2.2.2.2.2.1 _ hw rfl) hg q
theorem X_ldc2 {idx : Nat} {v : Int64} (hd : g_lk (m_code M) pc = some (.ldc2_w idx, nx, x1, x2)) (hn : nx = pc + 3) (hw : Cond.constantLong (m_y M).cls idx v ∈ lw_tbl) (kk : GX l G M Φ k n nx L (.long v :: st) h F) : GX l G M Φ k n pc L st h F := by
  intro r hr p e s m args below meth c H locs A B hl hM hS
  have hg := g_dec B.2.2.2.2.2.2.2.2.2 hd hn
  have q := kk r hr p e s m args below meth c H locs A B hl hM hS
  rw [hn] at q
  exact lv_ldc2 B.1 B.2.1 B.2.2.2.2.2.1 (B.2.2.2.2.2.2.1 _ hw rfl) hg q
theorem X_ldcS {idx i : Nat} {tx : String} (hd : g_lk (m_code M) pc = some (.ldc idx, nx, x1, x2)) (hn : nx = pc + 2) (hw : ((m_y M).cls, idx, tx, i) ∈ g_strs) (kk : GX l G M Φ k n nx L (.ref (g_aK G i) :: st) h F) : GX l G M Φ k n pc L st h F := by
  intro r hr p e s m args below meth c H locs A B hl hM hS
  have hg := g_dec B.2.2.2.2.2.2.2.2.2 hd hn
  have q := kk r hr p e s m args below meth c H locs A B hl hM hS
  rw [hn] at q
  exact va_ldcS B.1 B.2.1 B.2.2.2.2.2.1 (B.2.2.2.2.2.2.2.1.2.2.1 _ hw) hg q
theorem g_sub_0 : g_sub [] [] := trivial
theorem g_sub_n {x : Option Value} {t u : List (Option Value)} (h : g_sub t u) : g_sub (x :: t) (none :: u) := by
  cases x <;> exact h
theorem g_sub_s {v : Value} {t u : List (Option Value)} (h : g_sub t u) : g_sub (some v :: t) (some v :: u) := ⟨rfl, h⟩
theorem g_neI {x k : Int32} {a : Int} (h : ¬ x = k) (hk : k.toInt = a) : ¬ x.toInt = a := fun q => h (Int32.toInt_inj.mp (by rw [hk]; exact q))
/-- more turns of a loop than any run makes -/
def g_N : Nat := 8192
def g_rem (x y : Int32) : Int32 := x - x / y * y
end GXD
end
section
/-! what the generated functions answer, and a few rows more -/
def g_rI (h : gH) : Int32 → Option Value × gH := fun x => (some (.int x), h)
def g_rL (h : gH) : Int64 → Option Value × gH := fun x => (some (.long x), h)
def g_rD (h : gH) : UInt64 → Option Value × gH := fun x => (some (.double x), h)
def g_rA (h : gH) : Nat → Option Value × gH := fun x => (some (.ref x), h)
def g_rQ (h : gH) : Option Nat → Option Value × gH := fun x => (some (va_rf x), h)
def g_wI : Int32 × gH → Option Value × gH := fun x => (some (.int x.1), x.2)
def g_wL : Int64 × gH → Option Value × gH := fun x => (some (.long x.1), x.2)
def g_wA : Nat × gH → Option Value × gH := fun x => (some (.ref x.1), x.2)
def g_wU : gH → Option Value × gH := fun x => (none, x)
section GXE
variable {α : Type} {l : Launch} {G : gG} {M : gMt} {Φ : α → Method → Code → State → Array Value → List Frame → State → Prop} {k n pc nx x1 x2 : Nat} {L : List (Option Value)} {st stk : List Value} {h : gH} {F : Option α}
theorem X_dif {c : Prop} [Decidable c] {F1 : c → Option α} {F2 : Option α} (k1 : ∀ hc : c, GX l G M Φ k n pc L st h (F1 hc)) (k2 : ¬ c → GX l G M Φ k n pc L st h F2) : GX l G M Φ k n pc L st h (if hc : c then F1 hc else F2) := by
  by_cases hc : c
  · rw [dif_pos hc]; exact k1 hc
  · rw [dif_neg hc]; exact k2 hc
theorem X_ifP {c : Prop} [Decidable c] {a1 a2 : α} (k1 : c → GX l G M Φ k n pc L st h (some a1)) (k2 : ¬ c → GX l G M Φ k n pc L st h (some a2)) : GX l G M Φ k n pc L st h (some (if c then a1 else a2)) := by
  by_cases hc : c
  · rw [if_pos hc]; exact k1 hc
  · rw [if_neg hc]; exact k2 hc
theorem X_zb {v : Int32} {K : Int32 → Option α} (kk : ∀ z, v = 0 ∨ v = 1 → GX l G M Φ k n pc L st h (K z)) : GX l G M Φ k n pc L st h ((g_z v).bind K) := by
  unfold g_z
  by_cases hc : v = 0 ∨ v = 1
  · rw [if_pos hc]; exact kk v hc
  · rw [if_neg hc]; exact X_none
theorem g_znar {v : Int32} (h : v = 0 ∨ v = 1) : narrow .boolean (.int v) = .int v := by rcases h with rfl | rfl <;> rfl
theorem g_zfit {v : Int32} (h : v = 0 ∨ v = 1) : fits .boolean (.int v) = true := by rcases h with rfl | rfl <;> rfl
def g_min (x y : Int32) : Int32 := if y < x then y else x
theorem X_mmin {x y : Int32} {idx : Nat} (hd : g_lk (m_code M) pc = some (.invokestatic idx, nx, x1, x2)) (hn : nx = pc + 3) (hlk : Cond.methodLink (m_y M).cls idx Lib.Math.min.name ∈ lw_tbl) (hst : Cond.static Lib.Math.min.name ∈ lw_tbl) (hini : Cond.initialized "java/lang/Math" ∈ lw_tbl) (hco : Cond.code Lib.Math.min.name Lib.Math.min.code 2 (some .int) ∈ lw_tbl) (hf : Nat.ble 1 (m_R M).frames = true) (hlo : Nat.ble ((st.map fun v => v.category).sum + 13) (m_R M).locals = true) (hk : Nat.ble k (m_R M).cells = true) (hs : Nat.ble n (m_R M).slots = true) (kk : GX l G M Φ k n nx L (.int (g_min x y) :: st) h F) : GX l G M Φ k n pc L (.int y :: .int x :: st) h F := by
  intro r hr p e s m args below meth c H locs A B hl hM hS
  have hg := g_dec B.2.2.2.2.2.2.2.2.2 hd hn
  have ok : ∀ w ∈ lw_tbl, goodWord w = true → w.before args s = true := B.2.2.2.2.2.2.1
  have q := kk r hr p e s m args below meth c H locs A B hl hM hS
  rw [hn] at q
  exact va_mmin B.1 B.2.1 (by rw [B.2.2.1]; exact hl.1.symm) B.2.2.2.2.2.1 (ok _ hlk rfl) (ok _ hst rfl) (ok _ hini rfl) (ok _ hco rfl) (Nat.le_of_ble_eq_true hf) (Nat.le_of_ble_eq_true hlo) (Nat.le_of_ble_eq_true hk) (Nat.le_of_ble_eq_true hs) hg q
def g_max (x y : Int32) : Int32 := if x < y then y else x
theorem X_mmax {x y : Int32} {idx : Nat} (hd : g_lk (m_code M) pc = some (.invokestatic idx, nx, x1, x2)) (hn : nx = pc + 3) (hlk : Cond.methodLink (m_y M).cls idx Lib.Math.max.name ∈ lw_tbl) (hst : Cond.static Lib.Math.max.name ∈ lw_tbl) (hini : Cond.initialized "java/lang/Math" ∈ lw_tbl) (hco : Cond.code Lib.Math.max.name Lib.Math.max.code 2 (some .int) ∈ lw_tbl) (hf : Nat.ble 1 (m_R M).frames = true) (hlo : Nat.ble ((st.map fun v => v.category).sum + 13) (m_R M).locals = true) (hk : Nat.ble k (m_R M).cells = true) (hs : Nat.ble n (m_R M).slots = true) (kk : GX l G M Φ k n nx L (.int (g_max x y) :: st) h F) : GX l G M Φ k n pc L (.int y :: .int x :: st) h F := by
  intro r hr p e s m args below meth c H locs A B hl hM hS
  have hg := g_dec B.2.2.2.2.2.2.2.2.2 hd hn
  have ok : ∀ w ∈ lw_tbl, goodWord w = true → w.before args s = true := B.2.2.2.2.2.2.1
  have q := kk r hr p e s m args below meth c H locs A B hl hM hS
  rw [hn] at q
  exact va_mmax B.1 B.2.1 (by rw [B.2.2.1]; exact hl.1.symm) B.2.2.2.2.2.1 (ok _ hlk rfl) (ok _ hst rfl) (ok _ hini rfl) (ok _ hco rfl) (Nat.le_of_ble_eq_true hf) (Nat.le_of_ble_eq_true hlo) (Nat.le_of_ble_eq_true hk) (Nat.le_of_ble_eq_true hs) hg q
theorem X_aretA {ρ : α → Option Value × gH} {mc ms : Nat} {r0 : α} {v : Nat} {nm : String} (hd : g_lk (m_code M) pc = some (.areturn, nx, x1, x2)) (hn : nx = pc + 1) (hty : m_ret M = some (.object nm)) (hρ : ρ r0 = (some (.ref v), h)) (hk : Nat.ble k mc = true) (hs : Nat.ble n ms = true) : GX l G M (g_phi G ρ mc ms) k n pc L [.ref v] h (some r0) :=
  X_aret (v := some v) hd hn hty hρ hk hs
end GXE
end
section
/-! making cells, throwing, catching -/
section GXT
variable {α : Type} {l : Launch} {G : gG} {M : gMt} {Φ : α → Method → Code → State → Array Value → List Frame → State → Prop} {k n k1 n1 pc nx x1 x2 : Nat} {L : List (Option Value)} {st stk : List Value} {h : gH} {F : Option α}
/-- a cell is made: always well -/
def g_mk (h : gH) (x : gC) : Option gH := some (g_add h x)
def g_mkM (h : gH) (N K : Nat) : Option gH := some (g_addM h N K)
theorem X_newO {idx ci : Nat} {K : gH → Option α} (hd : g_lk (m_code M) pc = some (.new idx, nx, ci, x2)) (hn : nx = pc + 3) (hk1 : k + 1 = k1) (hn1 : n + g_nf ci = n1) (hk : Nat.ble k1 (m_R M).cells = true) (hs : Nat.ble n1 (m_R M).slots = true) (kk : ∀ h', GX l G M Φ k1 n1 nx L (.ref h.1 :: st) h' (K h')) : GX l G M Φ k n pc L st h ((g_mk h (.inr (ci, g_dfl ci))).bind K) := by
  subst hk1; subst hn1
  exact X_new hd hn hk hs (kk _)
theorem X_newarrO {at0 : ArrayType} {t N : Nat} {i : Int32} {y : vp_A} {K : gH → Option α} (hd : g_lk (m_code M) pc = some (.newarray at0, nx, x1, x2)) (hn : nx = pc + 2) (hk1 : k + 1 = k1) (hn1 : n + N = n1) (harr : Cond.arrayClass (newarray.typeOf at0) ∈ lw_tbl) (ht : (g_tl (g_c G))[t]? = some (g_c G t, newarray.typeOf at0)) (hi : ¬ i < 0) (hN : i.toNatClampNeg = N) (hbytes : Nat.ble (N * componentBytes (newarray.typeOf at0)) 536870912 = true) (hk : Nat.ble k1 (m_R M).cells = true) (hs : Nat.ble n1 (m_R M).slots = true) (hy : ∀ cA : ClassId, vp_cell cA y = arrV cA N (fun _ => defaultValue (newarray.typeOf at0)))
    (kk : ∀ h', GX l G M Φ k1 n1 nx L (.ref h.1 :: st) h' (K h')) : GX l G M Φ k n pc L (.int i :: st) h ((g_mk h (.inl (t, y))).bind K) := by
  subst hk1; subst hn1
  exact X_newarr hd hn harr ht hi hN hbytes hk hs hy (kk _)
theorem X_anewO {idx t N : Nat} {i : Int32} {C : String} {K : gH → Option α} (hd : g_lk (m_code M) pc = some (.anewarray idx, nx, x1, x2)) (hn : nx = pc + 3) (hk1 : k + 1 = k1) (hn1 : n + N = n1) (hlk : Cond.classLink (m_y M).cls idx C ∈ lw_tbl) (hov : Cond.arrayOver (.object C) ∈ lw_tbl) (ht : (g_tl (g_c G))[t]? = some (g_c G t, .object C)) (hi : ¬ i < 0) (hN : i.toNatClampNeg = N) (hb : Nat.ble (N * 4) 536870912 = true) (hk : Nat.ble k1 (m_R M).cells = true) (hs : Nat.ble n1 (m_R M).slots = true) (kk : ∀ h', GX l G M Φ k1 n1 nx L (.ref h.1 :: st) h' (K h')) : GX l G M Φ k n pc L (.int i :: st) h ((g_mk h (.inl (t, N, .inr (.inr (.inr (.inr (fun _ => none))))))).bind K) := by
  subst hk1; subst hn1
  exact X_anew hd hn hlk hov ht hi hN hb hk hs (kk _)
theorem X_mnaO {idx N K0 : Nat} {i j : Int32} {K : gH → Option α} (hd : g_lk (m_code M) pc = some (.multianewarray idx 2, nx, x1, x2)) (hn : nx = pc + 4) (hk1 : k + 1 + N = k1) (hn1 : n + N + N * K0 = n1) (hlk : Cond.classLink (m_y M).cls idx ("[" ++ (FieldType.array .int).toString) ∈ lw_tbl) (hov : Cond.arrayOver (.array .int) ∈ lw_tbl) (har : Cond.arrayClass .int ∈ lw_tbl) (hi : ¬ i < 0) (hj : ¬ j < 0) (hN : i.toNatClampNeg = N) (hK0 : j.toNatClampNeg = K0) (hb1 : Nat.ble (N * 4) 536870912 = true) (hb2 : Nat.ble (K0 * componentBytes .int) 536870912 = true) (hb3 : Nat.ble K0 536870912 = true) (hk : Nat.ble (k + (1 + N)) (m_R M).cells = true) (hs : Nat.ble (n + (N + N * K0)) (m_R M).slots = true) (kk : ∀ h', GX l G M Φ k1 n1 nx L (.ref h.1 :: st) h' (K h')) : GX l G M Φ k n pc L (.int j :: .int i :: st) h ((g_mkM h N K0).bind K) := by
  subst hk1; subst hn1
  exact X_mna hd hn hlk hov har hi hj hN hK0 hb1 hb2 hb3 hk hs (kk _)
theorem X_callI_U {M' : gMt} {idx nA b : Nat} {As : List Value} {f : Option gH} {K : gH → Option α} (hd : g_lk (m_code M) pc = some (.invokespecial idx, nx, x1, x2)) (hn : nx = pc + 3) (hs : g_site M M' (.invokespecial idx) nA = true) (hlen : As.length = nA) (hstk : stk = As.reverse ++ .ref b :: st) (hst : Nat.ble ((st.map fun v => v.category).sum) 8 = true) (hk1 : k + (m_R M').cells = k1) (hn1 : n + (m_R M').slots = n1) (hk : Nat.ble k1 (m_R M).cells = true) (hsl : Nat.ble n1 (m_R M).slots = true) (hC : ∀ h1, f = some h1 → Ct l G M' (.ref b :: As) h none h1) (kk : ∀ h1, GX l G M Φ k1 n1 nx L st h1 (K h1)) : GX l G M Φ k n pc L stk h (f.bind K) := by
  subst hk1; subst hn1
  exact X_bind fun x hx => X_callI hd hn hs hlen hstk hst (hC x hx) hk hsl (kk x)
theorem X_callIN_U {M' : gMt} {idx nA b : Nat} {As : List Value} {f : Option gH} {K : gH → Option α} (hd : g_lk (m_code M) pc = some (.invokespecial idx, nx, x1, x2)) (hn : nx = pc + 3) (hs : g_siteN M M' (.invokespecial idx) nA = true) (hlen : As.length = nA) (hstk : stk = As.reverse ++ .ref b :: st) (hst : Nat.ble ((st.map fun v => v.category).sum) 8 = true) (hk1 : k + (m_R M').cells = k1) (hn1 : n + (m_R M').slots = n1) (hk : Nat.ble k1 (m_R M).cells = true) (hsl : Nat.ble n1 (m_R M).slots = true) (hC : ∀ h1, f = some h1 → Ct l G M' (.ref b :: As) h none h1) (kk : ∀ h1, GX l G M Φ k1 n1 nx L st h1 (K h1)) : GX l G M Φ k n pc L stk h (f.bind K) := by
  subst hk1; subst hn1
  exact X_bind fun x hx => X_callIN hd hn hs hlen hstk hst (hC x hx) hk hsl (kk x)
end GXT
/-- the exceptions of the face -/
def g_exn : Nat → String
  | 1 => "java/lang/IllegalArgumentException"
  | 2 => "java/lang/IndexOutOfBoundsException"
  | 3 => "java/util/NoSuchElementException"
  | _ => "java/lang/IllegalStateException"
/-- the end: v is returned, the cells are those of f -/
def g_QcE (G : gG) (o : Option Value) (f : Nat → Option gC) : Array Value → State → Outcome → State → Prop := fun _ st oc t => oc = .returned o ∧ (∃ n', g_M G (n', f) t.heap) ∧ st.heap.size ≤ t.heap.size ∧ ∀ q : Nat, q < g_b G → t.heap[q]? = st.heap[q]?
/-- the end: the exception c is thrown, the cells are those of f -/
def g_XC (G : gG) (c : Nat) (f : Nat → Option gC) : String → State → State → Prop := fun E st t => E = g_exn c ∧ (∃ n', g_M G (n', f) t.heap) ∧ t.heap.size = st.heap.size + 1 ∧ ∀ q : Nat, q < g_b G → t.heap[q]? = st.heap[q]?
def g_QcX (G : gG) (o : Nat ⊕ Option Value) (h' : gH) : Array Value → State → Outcome → State → Prop := match o with
  | .inr v => g_Qc G v h'
  | .inl _ => fun _ _ _ _ => False
def g_XCX (G : gG) (o : Nat ⊕ Option Value) (h' : gH) : String → State → State → Prop := match o with
  | .inl c => g_XC G c h'.2
  | .inr _ => fun _ _ _ => False
/-- THE CONTRACT of a method that returns or throws -/
def Cx (l : Launch) (G : gG) (M : gMt) (As : List Value) (h : gH) (o : Nat ⊕ Option Value) (h' : gH) : Prop :=
  vx_Met l (m_y M) (g_ws M) (m_R M) (va_Pc As (fun U => g_K G U U.heap ∧ g_M G h U.heap)) (g_QcX G o h') (g_XCX G o h') (m_R M).cells (m_R M).slots (g_A G)
def g_phx {α : Type} (G : gG) (ρ : α → (Nat ⊕ Option Value) × gH) (mc ms : Nat) : α → Method → Code → State → Array Value → List Frame → State → Prop := fun r _ _ s args below => vx_MQ below (g_QcX G (ρ r).1 (ρ r).2) (g_XCX G (ρ r).1 (ρ r).2) args s mc ms (g_A G)
def g_xI : (Nat ⊕ Int32) × gH → (Nat ⊕ Option Value) × gH := fun y => (match y.1 with | .inl c => .inl c | .inr x => .inr (some (.int x)), y.2)
def g_names : List String := ["java/lang/RuntimeException", "java/lang/Exception"]
def g_thrOk (own : String) (ic c : Nat) : Bool := (vx_atS own ic (g_exn c) g_names).all fun w => decide (w ∈ lw_tbl) && ((goodWord w || (w.faceAtom && w.onTables)) && vx_ot w)
section GXV
variable {α : Type} {l : Launch} {G : gG} {M : gMt} {Φ : α → Method → Code → State → Array Value → List Frame → State → Prop} {k n pc nx x1 x2 : Nat} {L : List (Option Value)} {st stk : List Value} {h : gH} {F : Option α}
theorem X_vx {ρ : α → (Nat ⊕ Option Value) × gH} {mc ms : Nat} {r0 : α} {v : Option Value} {h' : gH} (hρ : ρ r0 = (.inr v, h')) (kk : GX l G M (g_phi G (fun _ : α => (v, h')) mc ms) k n pc L st h (some r0)) : GX l G M (g_phx G ρ mc ms) k n pc L st h (some r0) := by
  intro r hr p e s m args below meth c H locs A B hl hM hS
  cases hr
  have q := kk r0 rfl p e s m args below meth c H locs A B hl hM hS
  unfold g_phx
  rw [hρ]
  exact vx_ret q
theorem X_throw {cx ik is ic i : Nat} {tx : String} {ρ : α → (Nat ⊕ Option Value) × gH} {r0 : α} {mc ms : Nat} {h' : gH} (hl : l.stackTraces = false) (d0 : decode (m_cc M) pc = .ok (.new ik, 3)) (d3 : decode (m_cc M) (pc + 3) = .ok (.dup, 1)) (d4 : decode (m_cc M) (pc + 4) = .ok (.ldc is, 2)) (d6 : decode (m_cc M) (pc + 6) = .ok (.invokespecial ic, 3)) (d9 : decode (m_cc M) (pc + 9) = .ok (.athrow, 1))
    (hcx : Bundle.fit (g_exn cx) = true) (hlk : Cond.classLink (m_y M).cls ik (g_exn cx) ∈ lw_tbl) (hini : Cond.initialized (g_exn cx) ∈ lw_tbl) (hstr : ((m_y M).cls, is, tx, i) ∈ g_strs) (hat : g_thrOk (m_y M).cls ic cx = true) (hmh : m_h M = []) (hnl : (m_y M).name ≠ "law") (hf : Nat.ble 6 (m_R M).frames = true) (hlo : Nat.ble ((st.map fun v => v.category).sum + 82) (m_R M).locals = true) (hk : Nat.ble (k + 1) mc = true) (hs : Nat.ble (n + 6) ms = true) (hR1 : Nat.ble mc (m_R M).cells = true) (hR2 : Nat.ble ms (m_R M).slots = true) (hρ : ρ r0 = (.inl cx, h')) (hh : h'.2 = h.2) (hm1 : mc = 1 := by rfl) : GX l G M (g_phx G ρ mc ms) k n pc L st h (some r0) := by
  intro r hr p e s m args below meth c H locs A B hl9 hM hS
  cases hr
  have hts := B.2.2.2.2.2.2.1
  have hK := B.2.2.2.2.2.2.2.1
  have hk2 := Nat.le_of_ble_eq_true hk
  have hs2 := Nat.le_of_ble_eq_true hs
  have hR12 := Nat.le_of_ble_eq_true hR1
  have hR22 := Nat.le_of_ble_eq_true hR2
  have hall := List.all_eq_true.mp hat
  unfold g_phx
  rw [hρ]
  refine vx_throwS (names := g_names) (A := g_A G) (own := (m_y M).cls) (cls := g_exn cx) (text := tx) (sa := g_aK G i) B.1 B.2.1 hl B.2.2.2.2.2.1 hcx (by decide +kernel) (hts _ hlk rfl) (hts _ hini rfl) (hK.2.2.1 _ hstr) (fun w hw => ?_) (fun w hw => ?_) hK.2.2.2.2.1 hK.2.2.2.2.2.1 hS (by rw [B.2.2.1]; exact hl9.1) d0 d3 d4 d6 d9 (fun x hx => ?_) (by have := Nat.le_of_ble_eq_true hf; show 2 + 3 < _; omega) (by have := Nat.le_of_ble_eq_true hlo; show _ + (13 * (2 + 1) + 43) ≤ _; omega) (by omega) (by omega) B.2.2.2.2.1 (fun t hvm hz hz9 hq => ?_) hS.2.2 hk2 hs2
  · have h1 := hall w hw
    simp only [Bool.and_eq_true, Bool.or_eq_true, decide_eq_true_eq] at h1
    rcases h1.2.1 with h2 | h2
    · exact hts w h1.1 h2
    · exact va_tabs h2.2 rfl (hK.2.1 w (List.mem_filter.mpr ⟨h1.1, by unfold g_face; rw [h2.1]; rfl⟩))
  · rcases List.mem_cons.mp hw with rfl | hw
    · rfl
    · rcases List.mem_cons.mp hw with rfl | hw
      · rfl
      · have h1 := hall w hw
        simp only [Bool.and_eq_true] at h1
        exact h1.2.2
  · rw [B.2.2.2.2.2.2.2.2.1.2.2 hnl, hmh] at hx
    cases hx
  · refine ⟨rfl, ⟨t.heap.size, rfl, Nat.le_trans hM.2.1 (by rw [← hM.1]; exact Nat.le_of_lt hz), fun q x hx => ?_⟩, by have := hS.1; omega, fun q hqb => ?_⟩
    · rw [hh] at hx
      have h2 := hM.2.2 q x hx
      exact ⟨h2.1, h2.2.kept (hq q h2.2.lt)⟩
    · have hqs : q < s.heap.size := Nat.lt_of_lt_of_le hqb B.2.2.2.2.2.2.2.2.1.2.1
      rw [hq q (Nat.lt_of_lt_of_le hqs hS.1)]
      exact hS.2.1 q hqs (Nat.not_le.mpr hqb)
theorem Cx_of {ρ : α → (Nat ⊕ Option Value) × gH} {As : List Value} {h1 : gH} {o : Nat ⊕ Option Value} {r : α} (hok : g_ok M) (hpl : plainName (m_y M).cls = true) (hmh : m_h M = []) (hL : g_en As (m_nL M) = L) (hlen : L.length = m_nL M) (hn : Nat.ble (lg_sl As).length (m_nL M) = true) (body : GX l G M (g_phx G ρ (m_R M).cells (m_R M).slots) 0 0 0 L [] h F) (hF : F = some r) (hρ : ρ r = (o, h1)) : Cx l G M As h o h1 := by
  refine vx_ofW (cc := m_cc M) (maxL := m_nL M) (ret := m_ret M) hpl rfl ?_
  intro p e s m args below meth c s₁ B hml ht hv
  obtain ⟨rfl, hK, hM⟩ := hv
  have hts := atoms_spec (ws := g_ws M) B.pre
  rw [lg_entry_eq]
  have hl0 := lv_entry As (n := m_nL M) (Nat.le_of_ble_eq_true hn)
  generalize (lg_sl As ++ List.replicate (m_nL M - (lg_sl As).length) Slot.unset).toArray = ls at hl0 ⊢
  have hl : g_ls ls (m_nL M) L := by
    refine ⟨hl0.1, hl0.2.1, hlen, fun i v hi => ?_⟩
    rw [← hL] at hi
    have := g_en_at As (m_nL M) 0 i v hi
    rw [Nat.zero_add] at this
    exact hl0.2.2 _ this
  have htt : c.exceptionTable.toList = tableOf (m_h M) := by
    rw [hmh]
    cases hx : c.exceptionTable.toList with
    | nil => rfl
    | cons x y => exact (ht x (by rw [hx]; exact List.mem_cons_self)).elim
  have q := body r hF p e s m As.toArray below meth c s.heap [] ls ⟨B.exec, B.bytes, hml, B.returns, B.notSynchronized, findClass_of_methodNamed B.named, fun w hw hg => hts w (List.mem_cons_of_mem _ (List.mem_filter.mpr ⟨hw, hg⟩)), hK, ⟨fun h => by rw [(name_of_methodNamed B.named B.method).1]; exact h, by rw [hM.1]; exact hM.2.1, fun _ => htt⟩, hok⟩ hl hM va_S.rf
  unfold g_phx at q
  rw [hρ] at q
  exact q
/-- a call of a method that returns or throws, inside a try whose row x takes the exception -/
theorem X_callX {M' : gMt} {idx nA b ci : Nat} {As : List Value} {o : Nat ⊕ Option Value} {h1 : gH} (hd : g_lk (m_code M) pc = some (.invokevirtual idx, nx, x1, x2)) (hn : nx = pc + 3) (hs : g_site M M' (.invokevirtual idx) nA = true) (hlen : As.length = nA) (hstk : stk = As.reverse ++ .ref b :: st) (hst : Nat.ble ((st.map fun v => v.category).sum) 8 = true) (hrc : g_is h b ci = true ∧ g_cn ci = (m_y M').cls) (hC : Cx l G M' (.ref b :: As) h o h1) (hk : Nat.ble (k + (m_R M').cells) (m_R M).cells = true) (hsl : Nat.ble (n + (m_R M').slots) (m_R M).slots = true)
    (kv : ∀ v, o = .inr v → GX l G M Φ (k + (m_R M').cells) (n + (m_R M').slots) nx L (v.toList ++ st) h1 F)
    (kx : ∀ cx, o = .inl cx → ∃ (ps : List (ExceptionTableEntry × String)) (x : ExceptionTableEntry) (suf : List ExceptionTableEntry), tableOf (m_h M) = ps.map (fun z => z.1) ++ x :: suf ∧ (ps.all fun z => !(Nat.beq z.1.catchType 0) && decide (Cond.classLink (m_y M).cls z.1.catchType z.2 ∈ lw_tbl) && decide ((g_exn cx, z.2) ∈ g_nc)) = true ∧ covers x pc = true ∧ x.catchType ≠ 0 ∧ Cond.classLink (m_y M).cls x.catchType (g_exn cx) ∈ lw_tbl ∧ Cond.castable (g_exn cx) (g_exn cx) ∈ lw_tbl ∧ (m_y M).name ≠ "law" ∧ ∀ q, GX l G M Φ (k + (m_R M').cells) (n + (m_R M').slots) x.handlerPc L [.ref q] (h.1 + 1, h1.2) F) : GX l G M Φ k n pc L stk h F := by
  intro r hr p e s m args below meth c H locs A B hl hM hS
  have hg := g_dec B.2.2.2.2.2.2.2.2.2 hd hn
  unfold g_site at hs
  simp only [Bool.and_eq_true, decide_eq_true_eq] at hs
  obtain ⟨⟨⟨⟨⟨⟨⟨s1, s2⟩, s3⟩, s4⟩, s5⟩, s6⟩, s7⟩, ⟨s8, s10⟩, s9⟩ := hs
  have hts : ∀ w ∈ g_good, w.before args s = true := fun w hw => B.2.2.2.2.2.2.1 w (List.mem_filter.mp hw).1 (List.mem_filter.mp hw).2
  have ok : ∀ w ∈ lw_tbl, goodWord w = true → w.before args s = true := B.2.2.2.2.2.2.1
  have cb := callB_of (R := m_R M) (mc := (m_R M').cells) (ms := (m_R M').slots) (rm := m_R M') nA hts (g_goodIn s1) (ws' := g_good) rfl rfl rfl (ok _ s2 rfl) (ok _ s9 rfl) ⟨s3, s4, s5⟩ ⟨Nat.le_of_ble_eq_true s6, Nat.le_of_ble_eq_true s7⟩
  have hrun := vx_runV (As := As) (rest := st) (C := (m_y M').cls) (b := b) (H := H) (locs := locs) (cells := k) (slots := n) (below := below) (meth := meth) (e := e) (g := F0 m pc A stk) (cc := m_cc M) (nL := m_nL M) (index := idx) (Ts := g_good) (own := (m_y M).cls) ⟨B.1, B.2.1, B.2.2.1, B.2.2.2.2.2.1, hts⟩ hC ⟨cb, ok _ s8 rfl, ok _ s10 rfl⟩ ⟨g_blind, g_recv B hM hrc, fun U hU hW => ⟨rfl, by rw [hU]; exact (B.2.2.2.2.2.2.2.1.warm hW (fun a ha hna => hS.2.1 a ha hna)), by rw [hU]; exact hM⟩⟩ rfl hlen hl.1 hstk (lv_room (Nat.le_of_ble_eq_true hst)) hg ⟨Nat.le_of_ble_eq_true hk, Nat.le_of_ble_eq_true hsl⟩
  have hS1 : ∀ {t T' : State} {L1 : List Loc}, T'.heap = t.heap → H.size ≤ t.heap.size → (∀ q : Nat, q < g_b G → t.heap[q]? = H[q]?) → (∀ q ∈ L1, g_A G q.base) → va_S (g_A G) s.heap T'.heap (locs ++ L1) := by
    intro t T' L1 e1 hz hq hL
    exact ⟨Nat.le_trans hS.1 (by rw [e1]; exact hz), fun q h1 h2 => by
      have hqb : q < g_b G := Nat.not_le.mp h2
      rw [e1, hq q hqb]; exact hS.2.1 q h1 h2, fun q hq => by
      rcases List.mem_append.mp hq with h | h
      · exact hS.2.2 q h
      · exact hL q h⟩
  intro T hT X
  rcases hrun T hT X with ⟨v, st₀, t, T', L1, h0, X', hL, e1, e2, hQ, stp⟩ | ⟨q9, st₀, t, T', L1, E, ce, h0, X', hL, e1, e2, hQ, hce, hcv, hcl, stp⟩
  · cases o with
    | inl cx => exact hQ.elim
    | inr v0 =>
      obtain ⟨hv, hM', hz, hq⟩ := hQ
      cases hv
      rw [h0] at hz hq
      have q := kv v rfl r hr p e s m args below meth c T'.heap (locs ++ L1) A B hl (by rw [e1]; exact hM') (hS1 e1 hz hq hL)
      rw [hn] at q
      obtain ⟨t2, a1, b1⟩ := q T' rfl X'
      exact ⟨t2, stp t2 a1, b1⟩
  · cases o with
    | inr v0 => exact hQ.elim
    | inl cx =>
      obtain ⟨rfl, ⟨n', hM'⟩, hz, hq⟩ := hQ
      rw [h0] at hz hq
      obtain ⟨ps, x, suf, htab, hps, hcov, hct, hlk, hcast, hnl, kk⟩ := kx cx rfl
      have hn' : n' = h.1 + 1 := by
        have h1 := hM'.1
        have h2 := hM.1
        simp only at h1
        omega
      subst hn'
      have q := kk q9 r hr p e s m args below meth c T'.heap (locs ++ L1) A B hl (by rw [e1]; exact hM') (hS1 e1 (by omega) hq hL)
      have hcw : (Cond.castable (g_exn cx) (g_exn cx)).before args s = true := va_tabs rfl rfl (B.2.2.2.2.2.2.2.1.2.1 _ (List.mem_filter.mpr ⟨hcast, rfl⟩))
      have w := vx_catch (rest := st) (pc := pc) (H := T'.heap) (own := (m_y M).cls) (name := g_exn cx) (E := g_exn cx) (ce := ce) (q := q9) B.2.2.2.2.2.1 (ps.map (fun z => z.1)) x suf (by rw [B.2.2.2.2.2.2.2.2.1.2.2 hnl]; exact htab) (fun z hz9 => by
        obtain ⟨y, hy, rfl⟩ := List.mem_map.mp hz9
        have h9 := List.all_eq_true.mp hps y hy
        simp only [Bool.and_eq_true, decide_eq_true_eq, Bool.not_eq_true'] at h9
        refine Or.inr ⟨fun e0 => absurd h9.1.1 (by rw [e0]; decide), y.2, ok _ h9.1.2 rfl, B.2.2.2.2.2.2.2.1.2.2.2.2.2.2.2.2 _ h9.2⟩) hcov hct (ok _ hlk rfl) hcw (by rw [e1]; exact hce) hcv hcl q
      obtain ⟨t2, a1, b1⟩ := w T' rfl X'
      exact ⟨t2, stp.trans a1, b1⟩
end GXV
/-- the words of a method with handlers -/
def g_wsH (M : gMt) : List Cond := Cond.codeWith (m_y M) (m_cc M) (m_nL M) (m_ret M) (m_h M) :: g_good
/-- THE CONTRACT of a method with handlers, that returns; how many cells there are then is left open -/
def CtH (l : Launch) (G : gG) (M : gMt) (As : List Value) (h : gH) (o : Option Value) (f : Nat → Option gC) : Prop :=
  Met l (m_y M) (g_wsH M) (m_R M) (va_Pc As (fun U => g_K G U U.heap ∧ g_M G h U.heap)) (g_QcE G o f) (m_R M).cells (m_R M).slots (g_A G)
def g_phE (G : gG) (o : Option Value) (f : Nat → Option gC) (mc ms : Nat) : Unit → Method → Code → State → Array Value → List Frame → State → Prop := fun _ _ _ s args below => MQ below (g_QcE G o f) args s mc ms (g_A G)
theorem X_iretE {l : Launch} {G : gG} {M : gMt} {k n pc nx x1 x2 mc ms n0 : Nat} {L : List (Option Value)} {f : Nat → Option gC} {v : Int32} {ty : FieldType} {F : Option Unit} (hd : g_lk (m_code M) pc = some (.ireturn, nx, x1, x2)) (hn : nx = pc + 1) (hty : m_ret M = some ty) (hnr : narrow ty (.int v) = .int v) (hk : Nat.ble k mc = true) (hs : Nat.ble n ms = true) : GX l G M (g_phE G (some (.int v)) f mc ms) k n pc L [.int v] (n0, f) F := by
  intro r hr p e s m args below meth c H locs A B hl hM hS
  have hg := g_dec B.2.2.2.2.2.2.2.2.2 hd hn
  refine W.widen (Nat.le_of_ble_eq_true hk) (Nat.le_of_ble_eq_true hs) ?_
  exact W.zret B.1 B.2.1 (by rw [B.2.2.2.1]; exact hty) hnr (fun t ht hW => ⟨rfl, ⟨n0, by rw [ht]; exact hM⟩, by rw [ht]; exact hS.1, fun q hq => by
    rw [ht]
    exact hS.2.1 q (Nat.lt_of_lt_of_le hq B.2.2.2.2.2.2.2.2.1.2.1) (Nat.not_le.mpr hq)⟩) hS.2.2 hg B.2.2.2.2.1
theorem CtH_of {l : Launch} {G : gG} {M : gMt} {As : List Value} {L : List (Option Value)} {h : gH} {o : Option Value} {f : Nat → Option gC} (hok : g_ok M) (hpl : plainName (m_y M).cls = true) (hL : g_en As (m_nL M) = L) (hlen : L.length = m_nL M) (hn : Nat.ble (lg_sl As).length (m_nL M) = true) (body : GX l G M (g_phE G o f (m_R M).cells (m_R M).slots) 0 0 0 L [] h (some ())) : CtH l G M As h o f := by
  unfold CtH Met
  refine MetFree.of_bodyS (code := m_cc M) (maxLocals := m_nL M) (ret := m_ret M) hpl ?_ ?_
  · intro args s m h hn
    obtain ⟨m9, meth, c, hn9, h1, h2, h3, h4, -, h5, h6, -⟩ := Cond.codeWith_spec (atoms_spec (ws := g_wsH M) h _ List.mem_cons_self)
    cases hn.symm.trans hn9
    exact ⟨meth, c, h1, h2, h3, h4, h5, h6⟩
  · intro p e s m args below meth c s₁ B hml hv _
    obtain ⟨rfl, hK, hM⟩ := hv
    have hh0 : s₁.heap = s.heap := by rw [B.state]; rfl
    have hts := atoms_spec (ws := g_wsH M) B.pre
    have htt : c.exceptionTable.toList = tableOf (m_h M) := vx_table (x := m_y M) B (hts _ List.mem_cons_self)
    have hl0 := lv_entry As (n := m_nL M) (Nat.le_of_ble_eq_true hn)
    rw [lg_entry_eq]
    generalize (lg_sl As ++ List.replicate (m_nL M - (lg_sl As).length) Slot.unset).toArray = ls at hl0 ⊢
    have hl : g_ls ls (m_nL M) L := by
      refine ⟨hl0.1, hl0.2.1, hlen, fun i v hi => ?_⟩
      rw [← hL] at hi
      have := g_en_at As (m_nL M) 0 i v hi
      rw [Nat.zero_add] at this
      exact hl0.2.2 _ this
    have q := body () rfl p e s m As.toArray below meth c s.heap [] ls ⟨B.exec, B.bytes, hml, B.returns, B.notSynchronized, findClass_of_methodNamed B.named, fun w hw hg => hts w (List.mem_cons_of_mem _ (List.mem_filter.mpr ⟨hw, hg⟩)), hK, ⟨fun h => by rw [(name_of_methodNamed B.named B.method).1]; exact h, by rw [hM.1]; exact hM.2.1, fun _ => htt⟩, hok⟩ hl hM va_S.rf
    obtain ⟨t, a1, o9, b1, b2, b3⟩ := q s₁ hh0 (Stand.of_body B)
    exact ⟨t, o9, a1, b1, b2, ⟨b3.1, b3.2⟩⟩
/-- what the tables say of a site that calls a static method with handlers -/
def g_siteH (M M' : gMt) (idx nA : Nat) : Bool := decide (Cond.codeWith (m_y M') (m_cc M') (m_nL M') (m_ret M') (m_h M') ∈ lw_tbl) && decide (Cond.initialized (m_y M').cls ∈ lw_tbl) && decide ((m_y M').cls ≠ "java/lang/invoke/MethodHandle") && decide ((m_y M').cls ≠ "java/lang/invoke/VarHandle") && decide ((parseMethodDescriptor (m_y M').desc).map (fun d => d.parameters.length) = some nA) && Nat.ble ((m_R M').frames + 1) (m_R M).frames && Nat.ble (8 + (m_nL M' + 11) + (m_R M').locals) (m_R M).locals && decide (Cond.static (m_y M') ∈ lw_tbl) && decide (Cond.methodLink (m_y M).cls idx (m_y M') ∈ lw_tbl)
section GXW
variable {α : Type} {l : Launch} {G : gG} {M : gMt} {Φ : α → Method → Code → State → Array Value → List Frame → State → Prop} {k n pc nx x1 x2 : Nat} {L : List (Option Value)} {st stk : List Value} {h : gH} {F : Option α}
theorem X_callH {M' : gMt} {idx nA : Nat} {As : List Value} {o : Option Value} {f : Nat → Option gC} (hd : g_lk (m_code M) pc = some (.invokestatic idx, nx, x1, x2)) (hn : nx = pc + 3) (hs : g_siteH M M' idx nA = true) (hlen : As.length = nA) (hstk : stk = As.reverse ++ st) (hst : Nat.ble ((st.map fun v => v.category).sum) 8 = true) (hC : CtH l G M' As h o f) (hk : k + (m_R M').cells ≤ (m_R M).cells) (hsl : n + (m_R M').slots ≤ (m_R M).slots)
    (kk : ∀ n', GX l G M Φ (k + (m_R M').cells) (n + (m_R M').slots) nx L (o.toList ++ st) (n', f) F) : GX l G M Φ k n pc L stk h F := by
  intro r hr p e s m args below meth c H locs A B hl hM hS
  have hg := g_dec B.2.2.2.2.2.2.2.2.2 hd hn
  unfold g_siteH at hs
  simp only [Bool.and_eq_true, decide_eq_true_eq] at hs
  obtain ⟨⟨⟨⟨⟨⟨⟨⟨s1, s2⟩, s3⟩, s4⟩, s5⟩, s6⟩, s7⟩, s8⟩, s9⟩ := hs
  have hts : ∀ w ∈ g_good, w.before args s = true := fun w hw => B.2.2.2.2.2.2.1 w (List.mem_filter.mp hw).1 (List.mem_filter.mp hw).2
  have ok : ∀ w ∈ lw_tbl, goodWord w = true → w.before args s = true := B.2.2.2.2.2.2.1
  have hG : GoodIn g_good (g_wsH M') := by
    intro w hw
    rcases List.mem_cons.mp hw with rfl | hw
    · exact ⟨List.mem_filter.mpr ⟨s1, rfl⟩, good_of_word rfl⟩
    · exact ⟨hw, good_of_word (List.mem_filter.mp hw).2⟩
  have hc : Cond.codeWith (m_y M') (m_cc M') (m_nL M') (m_ret M') (m_h M') ∈ g_wsH M' := List.mem_cons_self
  have cw : vx_CSW (m_R M) s args (m_y M).cls idx (m_y M') (m_cc M') (m_nL M') (m_ret M') (m_h M') (g_wsH M') (m_R M') (m_R M').cells (m_R M').slots nA := by
    refine ⟨⟨rfl, rfl, Nat.le_of_ble_eq_true s6, Nat.le_of_ble_eq_true s7, pay_in hts hG, hc⟩, ok _ s1 rfl, ok _ s2 rfl, ⟨s3, s4⟩, fun sig h => ?_, ok _ s9 rfl, ok _ s8 rfl⟩
    rw [h] at s5
    exact (Option.some.inj s5).symm
  have hrun := vx_runSW (As := As) (rest := st) (H := H) (locs := locs) (cells := k) (slots := n) (below := below) (meth := meth) (e := e) (g := F0 m pc A stk) (cc := m_cc M) (nL := m_nL M) (index := idx) (Ts := g_good) (own := (m_y M).cls) ⟨B.1, B.2.1, B.2.2.1, B.2.2.2.2.2.1, hts⟩ hC cw ⟨g_blind, fun U hU hW => ⟨rfl, by rw [hU]; exact (B.2.2.2.2.2.2.2.1.warm hW (fun a ha hna => hS.2.1 a ha hna)), by rw [hU]; exact hM⟩⟩ rfl hlen hl.1 hstk (lv_room (Nat.le_of_ble_eq_true hst)) hg ⟨hk, hsl⟩
  intro T hT X
  obtain ⟨v, st₀, t, T', L1, h0, X', hL, e1, e2, ⟨hv, ⟨n', hM'⟩, hz, hq⟩, stp⟩ := hrun T hT X
  cases hv
  rw [h0] at hz hq
  have q := kk n' r hr p e s m args below meth c T'.heap (locs ++ L1) A B hl (by rw [e1]; exact hM') ⟨Nat.le_trans hS.1 (by rw [e1]; exact hz), fun q h1 h2 => by
      have hqb : q < g_b G := Nat.not_le.mp h2
      rw [e1, hq q hqb]; exact hS.2.1 q h1 h2, fun q hq => by
      rcases List.mem_append.mp hq with h | h
      · exact hS.2.2 q h
      · exact hL q h⟩
  rw [hn] at q
  obtain ⟨t2, a1, b1⟩ := q T' rfl X'
  exact ⟨t2, stp t2 a1, b1⟩
end GXW
end
section
/-! String constants: the members of String that the claim calls, over the five words of the grammar -/
def M_J3_checkIndex_8e157 : gMt := (yJ3_checkIndex_8e157, cJ3_checkIndex_8e157, 3, (some .int), { frames := 0, cells := 0, slots := 0, locals := 0 }, [(0, .iload_n 0, 1, 0, 0), (1, .ifCond .lt 8, 4, 9, 0), (4, .iload_n 0, 5, 0, 0), (5, .iload_n 1, 6, 0, 0), (6, .if_icmp .lt 10, 9, 16, 0), (9, .aload_n 2, 10, 0, 0), (10, .iload_n 0, 11, 0, 0), (11, .iload_n 1, 12, 0, 0), (12, .invokestatic 95, 15, 0, 0), (15, .athrow, 16, 0, 0), (16, .iload_n 0, 17, 0, 0), (17, .ireturn, 18, 0, 0)], [])
theorem ok_J3_checkIndex_8e157 : g_ok M_J3_checkIndex_8e157 := by
  show (m_code M_J3_checkIndex_8e157).all (g_ent M_J3_checkIndex_8e157) = true
  decide +kernel
def M_J0_checkIndex_df160 : gMt := (yJ0_checkIndex_df160, cJ0_checkIndex_df160, 2, none, { frames := 1, cells := 0, slots := 0, locals := 22 }, [(0, .iload_n 0, 1, 0, 0), (1, .iload_n 1, 2, 0, 0), (2, .getstatic 1053, 5, 0, 0), (5, .invokestatic 1059, 8, 0, 0), (8, .pop, 9, 0, 0), (9, .return_, 10, 0, 0)], [])
theorem ok_J0_checkIndex_df160 : g_ok M_J0_checkIndex_df160 := by
  show (m_code M_J0_checkIndex_df160).all (g_ent M_J0_checkIndex_df160) = true
  decide +kernel
def M_J1_charAt_3b067 : gMt := (yJ1_charAt_3b067, cJ1_charAt_3b067, 2, (some .char), { frames := 2, cells := 0, slots := 0, locals := 43 }, [(0, .iload_n 1, 1, 0, 0), (1, .aload_n 0, 2, 0, 0), (2, .arraylength, 3, 0, 0), (3, .invokestatic 9, 6, 0, 0), (6, .aload_n 0, 7, 0, 0), (7, .iload_n 1, 8, 0, 0), (8, .baload, 9, 0, 0), (9, .sipush 255, 12, 0, 0), (12, .iand, 13, 0, 0), (13, .i2c, 14, 0, 0), (14, .ireturn, 15, 0, 0)], [])
theorem ok_J1_charAt_3b067 : g_ok M_J1_charAt_3b067 := by
  show (m_code M_J1_charAt_3b067).all (g_ent M_J1_charAt_3b067) = true
  decide +kernel
def M_J0_isLatin1_aae02 : gMt := (yJ0_isLatin1_aae02, cJ0_isLatin1_aae02, 1, (some .boolean), { frames := 0, cells := 0, slots := 0, locals := 0 }, [(0, .getstatic 38, 3, 0, 0), (3, .ifCond .eq 14, 6, 17, 0), (6, .aload_n 0, 7, 0, 0), (10, .ifCond .ne 7, 13, 17, 0), (13, .iconst 1, 14, 0, 0), (14, .goto 4, 17, 18, 0), (17, .iconst 0, 18, 0, 0), (18, .ireturn, 19, 0, 0)], [])
theorem ok_J0_isLatin1_aae02 : g_ok M_J0_isLatin1_aae02 := by
  show (m_code M_J0_isLatin1_aae02).all (g_ent M_J0_isLatin1_aae02) = true
  decide +kernel
def M_J0_coder_7d493 : gMt := (yJ0_coder_7d493, cJ0_coder_7d493, 1, (some .byte), { frames := 0, cells := 0, slots := 0, locals := 0 }, [(0, .getstatic 38, 3, 0, 0), (3, .ifCond .eq 10, 6, 13, 0), (6, .aload_n 0, 7, 0, 0), (10, .goto 4, 13, 14, 0), (13, .iconst 1, 14, 0, 0), (14, .ireturn, 15, 0, 0)], [])
theorem ok_J0_coder_7d493 : g_ok M_J0_coder_7d493 := by
  show (m_code M_J0_coder_7d493).all (g_ent M_J0_coder_7d493) = true
  decide +kernel
def M_J0_length_8abf5 : gMt := (yJ0_length_8abf5, cJ0_length_8abf5, 1, (some .int), { frames := 1, cells := 0, slots := 0, locals := 20 }, [(0, .aload_n 0, 1, 0, 0), (4, .arraylength, 5, 0, 0), (5, .aload_n 0, 6, 0, 0), (6, .invokevirtual 335, 9, 0, 0), (9, .ishr, 10, 0, 0), (10, .ireturn, 11, 0, 0)], [])
theorem ok_J0_length_8abf5 : g_ok M_J0_length_8abf5 := by
  show (m_code M_J0_length_8abf5).all (g_ent M_J0_length_8abf5) = true
  decide +kernel
def M_J0_charAt_5068e : gMt := (yJ0_charAt_5068e, cJ0_charAt_5068e, 2, (some .char), { frames := 3, cells := 0, slots := 0, locals := 64 }, [(0, .aload_n 0, 1, 0, 0), (1, .invokevirtual 492, 4, 0, 0), (4, .ifCond .eq 12, 7, 16, 0), (7, .aload_n 0, 8, 0, 0), (11, .iload_n 1, 12, 0, 0), (12, .invokestatic 495, 15, 0, 0), (15, .ireturn, 16, 0, 0), (16, .aload_n 0, 17, 0, 0), (20, .iload_n 1, 21, 0, 0), (21, .invokestatic 498, 24, 0, 0), (24, .ireturn, 25, 0, 0)], [])
theorem ok_J0_charAt_5068e : g_ok M_J0_charAt_5068e := by
  show (m_code M_J0_charAt_5068e).all (g_ent M_J0_charAt_5068e) = true
  decide +kernel
section GXK
variable {α : Type} {l : Launch} {G : gG} {M : gMt} {Φ : α → Method → Code → State → Array Value → List Frame → State → Prop} {k n pc nx x1 x2 : Nat} {L : List (Option Value)} {st stk : List Value} {h : gH} {F : Option α}
theorem X_gstat {idx : Nat} {C nm ds : String} {v : Value} (hd : g_lk (m_code M) pc = some (.getstatic idx, nx, x1, x2)) (hn : nx = pc + 3) (hw : Cond.fieldLink (m_y M).cls idx C nm ds ∈ lw_tbl) (hZ : ∀ s : State, g_K G s s.heap → va_Z C nm ds v (g_A G) s s.heap) (kk : GX l G M Φ k n nx L (v :: st) h F) : GX l G M Φ k n pc L st h F := by
  intro r hr p e s m args below meth c H locs A B hl hM hS
  have hg := g_dec B.2.2.2.2.2.2.2.2.2 hd hn
  have q := kk r hr p e s m args below meth c H locs A B hl hM hS
  rw [hn] at q
  exact va_gets B.1 B.2.1 (hZ s B.2.2.2.2.2.2.2.1) hS B.2.2.2.2.2.1 (B.2.2.2.2.2.2.1 _ hw rfl) (fun _ h => h) hg q
theorem X_gstatQ {idx : Nat} {C nm ds : String} (hd : g_lk (m_code M) pc = some (.getstatic idx, nx, x1, x2)) (hn : nx = pc + 3) (hw : Cond.fieldLink (m_y M).cls idx C nm ds ∈ lw_tbl) (hZ : ∀ s : State, g_K G s s.heap → va_Zq C nm ds (g_A G) s s.heap) (kk : ∀ x, GX l G M Φ k n nx L (va_rf x :: st) h F) : GX l G M Φ k n pc L st h F := by
  intro r hr p e s m args below meth c H locs A B hl hM hS
  have hg := g_dec B.2.2.2.2.2.2.2.2.2 hd hn
  rcases hZ s B.2.2.2.2.2.2.2.1 with hz | ⟨t, hz⟩
  · have q := kk none r hr p e s m args below meth c H locs A B hl hM hS
    rw [hn] at q
    exact va_gets B.1 B.2.1 hz hS B.2.2.2.2.2.1 (B.2.2.2.2.2.2.1 _ hw rfl) (fun _ h => h) hg q
  · have q := kk (some t) r hr p e s m args below meth c H locs A B hl hM hS
    rw [hn] at q
    exact va_gets B.1 B.2.1 hz hS B.2.2.2.2.2.1 (B.2.2.2.2.2.2.1 _ hw rfl) (fun _ h => h) hg q
theorem X_sval {idx i : Nat} (hg : decode (m_cc M) pc = .ok (.getfield idx, 3)) (hi : i < 24) (hw : Cond.fieldLink (m_y M).cls idx "java/lang/String" "value" "[B" ∈ lw_tbl) (kk : GX l G M Φ k n (pc + 3) L (.ref (g_aV G i) :: st) h F) : GX l G M Φ k n pc L (.ref (g_aK G i) :: st) h F := by
  intro r hr p e s m args below meth c H locs A B hl hM hS
  have q := kk r hr p e s m args below meth c H locs A B hl hM hS
  exact vk_getf B.1 B.2.1 (B.2.2.2.2.2.2.2.1.2.2.2.1.1 i hi).2.2.1 hS B.2.2.2.2.2.1 (B.2.2.2.2.2.2.1 _ hw rfl) (fun _ h => h) hg q
theorem X_scod {idx i : Nat} (hg : decode (m_cc M) pc = .ok (.getfield idx, 3)) (hi : i < 24) (hw : Cond.fieldLink (m_y M).cls idx "java/lang/String" "coder" "B" ∈ lw_tbl) (kk : GX l G M Φ k n (pc + 3) L (.int 0 :: st) h F) : GX l G M Φ k n pc L (.ref (g_aK G i) :: st) h F := by
  intro r hr p e s m args below meth c H locs A B hl hM hS
  have q := kk r hr p e s m args below meth c H locs A B hl hM hS
  exact vk_getf B.1 B.2.1 (B.2.2.2.2.2.2.2.1.2.2.2.1.1 i hi).2.1 hS B.2.2.2.2.2.1 (B.2.2.2.2.2.2.1 _ hw rfl) (fun _ h => h) hg q
theorem X_slna {i : Nat} (hd : g_lk (m_code M) pc = some (.arraylength, nx, x1, x2)) (hn : nx = pc + 1) (hi : i < 24) (kk : GX l G M Φ k n nx L (.int (Int32.ofNat (g_len.getD i 0)) :: st) h F) : GX l G M Φ k n pc L (.ref (g_aV G i) :: st) h F := by
  intro r hr p e s m args below meth c H locs A B hl hM hS
  have hg := g_dec B.2.2.2.2.2.2.2.2.2 hd hn
  have q := kk r hr p e s m args below meth c H locs A B hl hM hS
  rw [hn] at q
  exact va_tlen B.1 B.2.1 (B.2.2.2.2.2.2.2.1.2.2.2.1.1 i hi).2.2.2 hS rfl hg q
theorem X_sbld {i : Nat} {j : Int32} (hd : g_lk (m_code M) pc = some (.baload, nx, x1, x2)) (hn : nx = pc + 1) (hi : i < 24) (hin : vp_in j (g_len.getD i 0)) (kk : GX l G M Φ k n nx L (.int ((g_byt.getD i []).getD j.toNatClampNeg 0) :: st) h F) : GX l G M Φ k n pc L (.int j :: .ref (g_aV G i) :: st) h F := by
  intro r hr p e s m args below meth c H locs A B hl hM hS
  have hg := g_dec B.2.2.2.2.2.2.2.2.2 hd hn
  have q := kk r hr p e s m args below meth c H locs A B hl hM hS
  rw [hn] at q
  exact va_tb B.1 B.2.1 (B.2.2.2.2.2.2.2.1.2.2.2.1.1 i hi).2.2.2 hS hin rfl hg q
theorem X_i2c {x v : Int32} (hd : g_lk (m_code M) pc = some (.i2c, nx, x1, x2)) (hn : nx = pc + 1) (hv : (x.toUInt32 % 65536).toInt32 = v) (kk : GX l G M Φ k n nx L (.int v :: st) h F) : GX l G M Φ k n pc L (.int x :: st) h F := by
  intro r hr p e s m args below meth c H locs A B hl hM hS
  have hg := g_dec B.2.2.2.2.2.2.2.2.2 hd hn
  have q := kk r hr p e s m args below meth c H locs A B hl hM hS
  rw [hn] at q
  exact lv_i2c B.1 B.2.1 hg hv q
/-- a call of a member of String on one of the five words -/
theorem X_callK {M' : gMt} {idx nA i : Nat} {As : List Value} {o : Option Value} {h1 : gH} (hd : g_lk (m_code M) pc = some (.invokevirtual idx, nx, x1, x2)) (hn : nx = pc + 3) (hs : g_site M M' (.invokevirtual idx) nA = true) (hlen : As.length = nA) (hstk : stk = As.reverse ++ .ref (g_aK G i) :: st) (hst : Nat.ble ((st.map fun v => v.category).sum) 8 = true) (hi : i < 24) (hcn : (m_y M').cls = "java/lang/String") (hC : Ct l G M' (.ref (g_aK G i) :: As) h o h1) (hk : Nat.ble (k + (m_R M').cells) (m_R M).cells = true) (hsl : Nat.ble (n + (m_R M').slots) (m_R M).slots = true)
    (kk : GX l G M Φ (k + (m_R M').cells) (n + (m_R M').slots) nx L (o.toList ++ st) h1 F) : GX l G M Φ k n pc L stk h F := by
  intro r hr p e s m args below meth c H locs A B hl hM hS
  have hg := g_dec B.2.2.2.2.2.2.2.2.2 hd hn
  unfold g_site at hs
  simp only [Bool.and_eq_true, decide_eq_true_eq] at hs
  obtain ⟨⟨⟨⟨⟨⟨⟨s1, s2⟩, s3⟩, s4⟩, s5⟩, s6⟩, s7⟩, ⟨s8, s10⟩, s9⟩ := hs
  have hts : ∀ w ∈ g_good, w.before args s = true := fun w hw => B.2.2.2.2.2.2.1 w (List.mem_filter.mp hw).1 (List.mem_filter.mp hw).2
  have ok : ∀ w ∈ lw_tbl, goodWord w = true → w.before args s = true := B.2.2.2.2.2.2.1
  have cb := callB_of (R := m_R M) (mc := (m_R M').cells) (ms := (m_R M').slots) (rm := m_R M') nA hts (g_goodIn s1) (ws' := g_good) rfl rfl rfl (ok _ s2 rfl) (ok _ s9 rfl) ⟨s3, s4, s5⟩ ⟨Nat.le_of_ble_eq_true s6, Nat.le_of_ble_eq_true s7⟩
  have hrv := vk_recv (B.2.2.2.2.2.2.2.1.2.2.2.1) hi hS
  rw [← hcn] at hrv
  have hrun := va_runV (As := As) (rest := st) (C := (m_y M').cls) (b := g_aK G i) (H := H) (locs := locs) (cells := k) (slots := n) (below := below) (meth := meth) (e := e) (g := F0 m pc A stk) (cc := m_cc M) (nL := m_nL M) (index := idx) (Ts := g_good) (own := (m_y M).cls) ⟨B.1, B.2.1, B.2.2.1, B.2.2.2.2.2.1, hts⟩ hC ⟨cb, ok _ s8 rfl, ok _ s10 rfl⟩ ⟨g_blind, hrv, fun U hU hW => ⟨rfl, by rw [hU]; exact (B.2.2.2.2.2.2.2.1.warm hW (fun a ha hna => hS.2.1 a ha hna)), by rw [hU]; exact hM⟩⟩ rfl hlen hl.1 hstk (lv_room (Nat.le_of_ble_eq_true hst)) hg ⟨Nat.le_of_ble_eq_true hk, Nat.le_of_ble_eq_true hsl⟩
  intro T hT X
  obtain ⟨v, st₀, t, T', L1, h0, X', hL, e1, e2, ⟨hv, hM', hz, hq⟩, stp⟩ := hrun T hT X
  cases hv
  rw [h0] at hz hq
  have q := kk r hr p e s m args below meth c T'.heap (locs ++ L1) A B hl (by rw [e1]; exact hM') ⟨Nat.le_trans hS.1 (by rw [e1]; exact hz), fun q h1 h2 => by
      have hqb : q < g_b G := Nat.not_le.mp h2
      rw [e1, hq q hqb]; exact hS.2.1 q h1 h2, fun q hq => by
      rcases List.mem_append.mp hq with h | h
      · exact hS.2.2 q h
      · exact hL q h⟩
  rw [hn] at q
  obtain ⟨t2, a1, b1⟩ := q T' rfl X'
  exact ⟨t2, stp t2 a1, b1⟩
end GXK
theorem g_zCS {G : gG} (s : State) (h : g_K G s s.heap) : va_Z "java/lang/String" "COMPACT_STRINGS" "Z" (.int 1) (g_A G) s s.heap := h.2.2.2.2.2.2.1
theorem g_zSF {G : gG} (s : State) (h : g_K G s s.heap) : va_Zq "jdk/internal/util/Preconditions" "SIOOBE_FORMATTER" "Ljava/util/function/BiFunction;" (g_A G) s s.heap := h.2.2.2.2.2.2.2.1
theorem ct_J3_checkIndex_8e157 {l : Launch} {G : gG} {h : gH} {a b : Int32} {x : Option Nat} (h1 : ¬ a < 0) (h2 : a < b) : Ct l G M_J3_checkIndex_8e157 [.int a, .int b, va_rf x] h (some (.int a)) h := by
  refine Ct_of (L := [some (.int a), some (.int b), some (va_rf x)]) ok_J3_checkIndex_8e157 (by decide +kernel) (by cases x <;> rfl) rfl (by cases x <;> rfl) (ρ := g_rI h) (F := some a) ?_ rfl rfl
  refine X_iload_n rfl rfl rfl ?_
  refine X_if_lt rfl rfl (fun c => absurd c h1) (fun _ => ?_)
  refine X_iload_n rfl rfl rfl ?_
  refine X_iload_n rfl rfl rfl ?_
  refine X_icmp_lt rfl rfl (fun _ => ?_) (fun c => absurd h2 c)
  refine X_iload_n rfl rfl rfl ?_
  exact X_iret rfl rfl rfl rfl rfl rfl rfl
theorem ct_J0_checkIndex_df160 {l : Launch} {G : gG} {h : gH} {a b : Int32} (h1 : ¬ a < 0) (h2 : a < b) : Ct l G M_J0_checkIndex_df160 [.int a, .int b] h none h := by
  refine Ct_of (L := [some (.int a), some (.int b)]) ok_J0_checkIndex_df160 (by decide +kernel) rfl rfl rfl (ρ := g_wU) (F := some h) ?_ rfl rfl
  refine X_iload_n rfl rfl rfl ?_
  refine X_iload_n rfl rfl rfl ?_
  refine X_gstatQ (C := "jdk/internal/util/Preconditions") (nm := "SIOOBE_FORMATTER") (ds := "Ljava/util/function/BiFunction;") rfl rfl (by decide +kernel) g_zSF (fun x => ?_)
  refine X_callS (M' := M_J3_checkIndex_8e157) (nA := 3) (As := [.int a, .int b, va_rf x]) (st := []) rfl rfl (by decide +kernel) rfl rfl rfl (ct_J3_checkIndex_8e157 h1 h2) rfl rfl ?_
  refine X_pop rfl rfl rfl ?_
  exact X_vret rfl rfl rfl rfl rfl rfl
theorem g_byt255 : ∀ i, i < 24 → ∀ j, j < g_len.getD i 0 → ((((g_byt.getD i []).getD j 0) &&& 255).toUInt32 % 65536).toInt32 = (g_byt.getD i []).getD j 0 ∧ narrow .char (.int ((g_byt.getD i []).getD j 0)) = .int ((g_byt.getD i []).getD j 0) := by decide +kernel
theorem g_lenS : ∀ i, i < 24 → g_len.getD i 0 < 2 ^ 31 := by decide +kernel
theorem ct_J1_charAt_3b067 {l : Launch} {G : gG} {h : gH} {i : Nat} {j : Int32} (hi : i < 24) (hin : vp_in j (g_len.getD i 0)) : Ct l G M_J1_charAt_3b067 [.ref (g_aV G i), .int j] h (some (.int ((g_byt.getD i []).getD j.toNatClampNeg 0))) h := by
  obtain ⟨j0, hj0, rfl⟩ := vp_in_of hin (g_lenS i hi)
  have hl := g_lenS i hi
  have hcl : (nI j0).toNatClampNeg = j0 := nI_clamp (by omega)
  obtain ⟨e1, e2⟩ := g_byt255 i hi j0 hj0
  refine Ct_of (L := [some (.ref (g_aV G i)), some (.int (nI j0))]) ok_J1_charAt_3b067 (by decide +kernel) rfl rfl rfl (ρ := g_rI h) (F := some ((g_byt.getD i []).getD (nI j0).toNatClampNeg 0)) ?_ rfl rfl
  refine X_iload_n rfl rfl rfl ?_
  refine X_aload_n rfl rfl rfl ?_
  refine X_slna rfl rfl hi ?_
  refine X_callS (M' := M_J0_checkIndex_df160) (nA := 2) (As := [.int (nI j0), .int (Int32.ofNat (g_len.getD i 0))]) (st := []) rfl rfl (by decide +kernel) rfl rfl rfl (ct_J0_checkIndex_df160 (nI_pos (by omega)) (nI_lt hj0 hl)) rfl rfl ?_
  refine X_aload_n rfl rfl rfl ?_
  refine X_iload_n rfl rfl rfl ?_
  refine X_sbld rfl rfl hi hin ?_
  refine X_sipush (v := 255) rfl rfl (by decide) ?_
  refine X_iand rfl rfl ?_
  refine X_i2c (v := (g_byt.getD i []).getD (nI j0).toNatClampNeg 0) rfl rfl (by rw [hcl]; exact e1) ?_
  exact X_iret rfl rfl rfl (by rw [hcl]; exact e2) rfl rfl rfl
theorem ct_J0_isLatin1_aae02 {l : Launch} {G : gG} {h : gH} {i : Nat} (hi : i < 24) : Ct l G M_J0_isLatin1_aae02 [.ref (g_aK G i)] h (some (.int 1)) h := by
  refine Ct_of (L := [some (.ref (g_aK G i))]) ok_J0_isLatin1_aae02 (by decide +kernel) rfl rfl rfl (ρ := g_rI h) (F := some 1) ?_ rfl rfl
  refine X_gstat (C := "java/lang/String") (nm := "COMPACT_STRINGS") (ds := "Z") (v := .int 1) rfl rfl (by decide +kernel) g_zCS ?_
  refine X_if_eq rfl rfl (fun c => absurd c (by decide)) (fun _ => ?_)
  refine X_aload_n rfl rfl rfl ?_
  refine X_scod (idx := 15) (by decide +kernel) hi (by decide +kernel) ?_
  refine X_if_ne rfl rfl (fun c => absurd rfl c) (fun _ => ?_)
  refine X_iconst (v := 1) rfl rfl (by decide) ?_
  refine X_goto rfl rfl ?_
  exact X_iret rfl rfl rfl rfl rfl rfl rfl
theorem ct_J0_coder_7d493 {l : Launch} {G : gG} {h : gH} {i : Nat} (hi : i < 24) : Ct l G M_J0_coder_7d493 [.ref (g_aK G i)] h (some (.int 0)) h := by
  refine Ct_of (L := [some (.ref (g_aK G i))]) ok_J0_coder_7d493 (by decide +kernel) rfl rfl rfl (ρ := g_rI h) (F := some 0) ?_ rfl rfl
  refine X_gstat (C := "java/lang/String") (nm := "COMPACT_STRINGS") (ds := "Z") (v := .int 1) rfl rfl (by decide +kernel) g_zCS ?_
  refine X_if_eq rfl rfl (fun c => absurd c (by decide)) (fun _ => ?_)
  refine X_aload_n rfl rfl rfl ?_
  refine X_scod (idx := 15) (by decide +kernel) hi (by decide +kernel) ?_
  refine X_goto rfl rfl ?_
  exact X_iret rfl rfl rfl rfl rfl rfl rfl
theorem ct_J0_length_8abf5 {l : Launch} {G : gG} {h : gH} {i : Nat} (hi : i < 24) : Ct l G M_J0_length_8abf5 [.ref (g_aK G i)] h (some (.int (Int32.ofNat (g_len.getD i 0)))) h := by
  refine Ct_of (L := [some (.ref (g_aK G i))]) ok_J0_length_8abf5 (by decide +kernel) rfl rfl rfl (ρ := g_rI h) (F := some (Int32.ofNat (g_len.getD i 0))) ?_ rfl rfl
  refine X_aload_n rfl rfl rfl ?_
  refine X_sval (idx := 9) (by decide +kernel) hi (by decide +kernel) ?_
  refine X_slna rfl rfl hi ?_
  refine X_aload_n rfl rfl rfl ?_
  refine X_callK (M' := M_J0_coder_7d493) (nA := 0) (i := i) (As := []) (st := [.int (Int32.ofNat (g_len.getD i 0))]) rfl rfl (by decide +kernel) rfl rfl rfl hi rfl (ct_J0_coder_7d493 hi) rfl rfl ?_
  refine X_ishr (v := Int32.ofNat (g_len.getD i 0)) rfl rfl (sc_shr0 (g_lenS i hi)) ?_
  exact X_iret rfl rfl rfl rfl rfl rfl rfl
theorem ct_J0_charAt_5068e {l : Launch} {G : gG} {h : gH} {i : Nat} {j : Int32} (hi : i < 24) (hin : vp_in j (g_len.getD i 0)) : Ct l G M_J0_charAt_5068e [.ref (g_aK G i), .int j] h (some (.int ((g_byt.getD i []).getD j.toNatClampNeg 0))) h := by
  have hnar : narrow .char (.int ((g_byt.getD i []).getD j.toNatClampNeg 0)) = .int ((g_byt.getD i []).getD j.toNatClampNeg 0) := by
    obtain ⟨j0, hj0, rfl⟩ := vp_in_of hin (g_lenS i hi)
    have hl := g_lenS i hi
    rw [nI_clamp (by omega)]
    exact (g_byt255 i hi j0 hj0).2
  refine Ct_of (L := [some (.ref (g_aK G i)), some (.int j)]) ok_J0_charAt_5068e (by decide +kernel) rfl rfl rfl (ρ := g_rI h) (F := some ((g_byt.getD i []).getD j.toNatClampNeg 0)) ?_ rfl rfl
  refine X_aload_n rfl rfl rfl ?_
  refine X_callK (M' := M_J0_isLatin1_aae02) (nA := 0) (i := i) (As := []) (st := []) rfl rfl (by decide +kernel) rfl rfl rfl hi rfl (ct_J0_isLatin1_aae02 hi) rfl rfl ?_
  refine X_if_eq rfl rfl (fun c => absurd c (by decide)) (fun _ => ?_)
  refine X_aload_n rfl rfl rfl ?_
  refine X_sval (idx := 9) (by decide +kernel) hi (by decide +kernel) ?_
  refine X_iload_n rfl rfl rfl ?_
  refine X_callS (M' := M_J1_charAt_3b067) (nA := 2) (As := [.ref (g_aV G i), .int j]) (st := []) rfl rfl (by decide +kernel) rfl rfl rfl (ct_J1_charAt_3b067 hi hin) rfl rfl ?_
  exact X_iret rfl rfl rfl hnar rfl rfl rfl
/-- the length of a word of the grammar, a sign of it -/
def g_slen (i : Nat) : Option Int32 := if i < 24 then some (Int32.ofNat (g_len.getD i 0)) else none
def g_sch (i : Nat) (j : Int32) : Option Int32 := if i < 24 then (if j < 0 ∨ g_len.getD i 0 ≤ j.toNatClampNeg then none else some ((g_byt.getD i []).getD j.toNatClampNeg 0)) else none
section GXK2
variable {α : Type} {l : Launch} {G : gG} {M : gMt} {Φ : α → Method → Code → State → Array Value → List Frame → State → Prop} {k n pc nx x1 x2 : Nat} {L : List (Option Value)} {st stk : List Value} {h : gH} {F : Option α}
theorem X_slen {idx i : Nat} {K : Int32 → Option α} (hd : g_lk (m_code M) pc = some (.invokevirtual idx, nx, x1, x2)) (hn : nx = pc + 3) (hs : g_site M M_J0_length_8abf5 (.invokevirtual idx) 0 = true) (hst : Nat.ble ((st.map fun v => v.category).sum) 8 = true) (hk : Nat.ble k (m_R M).cells = true) (hsl : Nat.ble n (m_R M).slots = true) (kk : ∀ v, GX l G M Φ k n nx L (.int v :: st) h (K v)) : GX l G M Φ k n pc L (.ref (g_aK G i) :: st) h ((g_slen i).bind K) := by
  unfold g_slen
  by_cases hi : i < 24
  · rw [if_pos hi]
    exact X_callK (As := []) hd hn hs rfl rfl hst hi rfl (ct_J0_length_8abf5 hi) hk hsl (kk _)
  · rw [if_neg hi]; exact X_none
theorem X_sch {idx i : Nat} {j : Int32} {K : Int32 → Option α} (hd : g_lk (m_code M) pc = some (.invokevirtual idx, nx, x1, x2)) (hn : nx = pc + 3) (hs : g_site M M_J0_charAt_5068e (.invokevirtual idx) 1 = true) (hst : Nat.ble ((st.map fun v => v.category).sum) 8 = true) (hk : Nat.ble k (m_R M).cells = true) (hsl : Nat.ble n (m_R M).slots = true) (kk : ∀ v, GX l G M Φ k n nx L (.int v :: st) h (K v)) : GX l G M Φ k n pc L (.int j :: .ref (g_aK G i) :: st) h ((g_sch i j).bind K) := by
  unfold g_sch
  by_cases hi : i < 24
  · rw [if_pos hi]
    by_cases hj : j < 0 ∨ g_len.getD i 0 ≤ j.toNatClampNeg
    · rw [if_pos hj]; exact X_none
    · rw [if_neg hj]
      exact X_callK (As := [.int j]) hd hn hs rfl rfl hst hi rfl (ct_J0_charAt_5068e hi hj) hk hsl (kk _)
  · rw [if_neg hi]; exact X_none
end GXK2
end
section
/-! the methods as tuples (a program of mine wrote these and the next parts) -/
def M_X7_valueAt : gMt := (yX7_valueAt, cX7_valueAt, 2, (some .int), { frames := 0, cells := 0, slots := 0, locals := 0 }, [(0, .iload_n 1, 1, 0, 0), (1, .ifCond .lt 15, 4, 16, 0), (4, .iload_n 1, 5, 0, 0), (5, .aload_n 0, 6, 0, 0), (6, .arraylength, 7, 0, 0), (7, .if_icmp .ge 9, 10, 16, 0), (10, .aload_n 0, 11, 0, 0), (11, .iload_n 1, 12, 0, 0), (12, .iaload, 13, 0, 0), (13, .goto 4, 16, 17, 0), (16, .iconst 0, 17, 0, 0), (17, .ireturn, 18, 0, 0)], [])
theorem ok_X7_valueAt : g_ok M_X7_valueAt := by
  show (m_code M_X7_valueAt).all (g_ent M_X7_valueAt) = true
  decide +kernel
def M_X7_setAt : gMt := (yX7_setAt, cX7_setAt, 3, none, { frames := 0, cells := 0, slots := 0, locals := 0 }, [(0, .iload_n 1, 1, 0, 0), (1, .ifCond .lt 13, 4, 14, 0), (4, .iload_n 1, 5, 0, 0), (5, .aload_n 0, 6, 0, 0), (6, .arraylength, 7, 0, 0), (7, .if_icmp .ge 7, 10, 14, 0), (10, .aload_n 0, 11, 0, 0), (11, .iload_n 1, 12, 0, 0), (12, .iload_n 2, 13, 0, 0), (13, .iastore, 14, 0, 0), (14, .return_, 15, 0, 0)], [])
theorem ok_X7_setAt : g_ok M_X7_setAt := by
  show (m_code M_X7_setAt).all (g_ent M_X7_setAt) = true
  decide +kernel
def M_X7_isWithin : gMt := (yX7_isWithin, cX7_isWithin, 3, (some .boolean), { frames := 0, cells := 0, slots := 0, locals := 0 }, [(0, .iload_n 0, 1, 0, 0), (1, .iload_n 1, 2, 0, 0), (2, .if_icmp .lt 12, 5, 14, 0), (5, .iload_n 0, 6, 0, 0), (6, .iload_n 2, 7, 0, 0), (7, .if_icmp .gt 7, 10, 14, 0), (10, .iconst 1, 11, 0, 0), (11, .goto 4, 14, 15, 0), (14, .iconst 0, 15, 0, 0), (15, .ireturn, 16, 0, 0)], [])
theorem ok_X7_isWithin : g_ok M_X7_isWithin := by
  show (m_code M_X7_isWithin).all (g_ent M_X7_isWithin) = true
  decide +kernel
def M_J9_floorMod_7cf53 : gMt := (yJ9_floorMod_7cf53, cJ9_floorMod_7cf53, 3, (some .int), { frames := 0, cells := 0, slots := 0, locals := 0 }, [(0, .iload_n 0, 1, 0, 0), (1, .iload_n 1, 2, 0, 0), (2, .irem, 3, 0, 0), (3, .istore_n 2, 4, 0, 0), (4, .iload_n 0, 5, 0, 0), (5, .iload_n 1, 6, 0, 0), (6, .ixor, 7, 0, 0), (7, .ifCond .ge 11, 10, 18, 0), (10, .iload_n 2, 11, 0, 0), (11, .ifCond .eq 7, 14, 18, 0), (14, .iload_n 2, 15, 0, 0), (15, .iload_n 1, 16, 0, 0), (16, .iadd, 17, 0, 0), (17, .ireturn, 18, 0, 0), (18, .iload_n 2, 19, 0, 0), (19, .ireturn, 20, 0, 0)], [])
theorem ok_J9_floorMod_7cf53 : g_ok M_J9_floorMod_7cf53 := by
  show (m_code M_J9_floorMod_7cf53).all (g_ent M_J9_floorMod_7cf53) = true
  decide +kernel
def M_X7_copyRow : gMt := (yX7_copyRow, cX7_copyRow, 2, none, { frames := 1, cells := 0, slots := 0, locals := 48 }, [(0, .aload_n 0, 1, 0, 0), (1, .iconst 0, 2, 0, 0), (2, .aload_n 1, 3, 0, 0), (3, .iconst 0, 4, 0, 0), (4, .aload_n 0, 5, 0, 0), (5, .arraylength, 6, 0, 0), (6, .aload_n 1, 7, 0, 0), (7, .arraylength, 8, 0, 0), (8, .invokestatic 245, 11, 0, 0), (11, .invokestatic 250, 14, 0, 0), (14, .return_, 15, 0, 0)], [])
theorem ok_X7_copyRow : g_ok M_X7_copyRow := by
  show (m_code M_X7_copyRow).all (g_ent M_X7_copyRow) = true
  decide +kernel
def M_X4_copyFrom : gMt := (yX4_copyFrom, cX4_copyFrom, 2, none, { frames := 2, cells := 0, slots := 0, locals := 69 }, [(0, .aload_n 0, 1, 0, 0), (1, .aload_n 1, 2, 0, 0), (2, .getfield 9, 5, 4, 0), (5, .putfield 9, 8, 4, 0), (8, .aload_n 1, 9, 0, 0), (9, .getfield 15, 12, 4, 1), (12, .aload_n 0, 13, 0, 0), (13, .getfield 15, 16, 4, 1), (16, .invokestatic 25, 19, 0, 0), (19, .aload_n 1, 20, 0, 0), (20, .getfield 19, 23, 4, 2), (23, .aload_n 0, 24, 0, 0), (24, .getfield 19, 27, 4, 2), (27, .invokestatic 25, 30, 0, 0), (30, .aload_n 1, 31, 0, 0), (31, .getfield 22, 34, 4, 3), (34, .aload_n 0, 35, 0, 0), (35, .getfield 22, 38, 4, 3), (38, .invokestatic 25, 41, 0, 0), (41, .return_, 42, 0, 0)], [])
theorem ok_X4_copyFrom : g_ok M_X4_copyFrom := by
  show (m_code M_X4_copyFrom).all (g_ent M_X4_copyFrom) = true
  decide +kernel
def M_X4_isFull : gMt := (yX4_isFull, cX4_isFull, 1, (some .boolean), { frames := 0, cells := 0, slots := 0, locals := 0 }, [(0, .aload_n 0, 1, 0, 0), (1, .getfield 9, 4, 4, 0), (4, .bipush 12, 6, 0, 0), (6, .if_icmp .lt 7, 9, 13, 0), (9, .iconst 1, 10, 0, 0), (10, .goto 4, 13, 14, 0), (13, .iconst 0, 14, 0, 0), (14, .ireturn, 15, 0, 0)], [])
theorem ok_X4_isFull : g_ok M_X4_isFull := by
  show (m_code M_X4_isFull).all (g_ent M_X4_isFull) = true
  decide +kernel
def M_X4_add : gMt := (yX4_add, cX4_add, 4, none, { frames := 1, cells := 0, slots := 0, locals := 22 }, [(0, .aload_n 0, 1, 0, 0), (1, .invokevirtual 29, 4, 0, 0), (4, .ifCond .eq 4, 7, 8, 0), (7, .return_, 8, 0, 0), (8, .aload_n 0, 9, 0, 0), (9, .getfield 15, 12, 4, 1), (12, .aload_n 0, 13, 0, 0), (13, .getfield 9, 16, 4, 0), (16, .iload_n 1, 17, 0, 0), (17, .invokestatic 33, 20, 0, 0), (20, .aload_n 0, 21, 0, 0), (21, .getfield 19, 24, 4, 2), (24, .aload_n 0, 25, 0, 0), (25, .getfield 9, 28, 4, 0), (28, .iload_n 2, 29, 0, 0), (29, .invokestatic 33, 32, 0, 0), (32, .aload_n 0, 33, 0, 0), (33, .getfield 22, 36, 4, 3), (36, .aload_n 0, 37, 0, 0), (37, .getfield 9, 40, 4, 0), (40, .iload_n 3, 41, 0, 0), (41, .invokestatic 33, 44, 0, 0), (44, .aload_n 0, 45, 0, 0), (45, .dup, 46, 0, 0), (46, .getfield 9, 49, 4, 0), (49, .iconst 1, 50, 0, 0), (50, .iadd, 51, 0, 0), (51, .putfield 9, 54, 4, 0), (54, .return_, 55, 0, 0)], [])
theorem ok_X4_add : g_ok M_X4_add := by
  show (m_code M_X4_add).all (g_ent M_X4_add) = true
  decide +kernel
def M_X4_levelAt : gMt := (yX4_levelAt, cX4_levelAt, 3, (some .int), { frames := 1, cells := 0, slots := 0, locals := 21 }, [(0, .aload_n 0, 1, 0, 0), (1, .getfield 9, 4, 4, 0), (4, .iconst 1, 5, 0, 0), (5, .isub, 6, 0, 0), (6, .istore_n 2, 7, 0, 0), (7, .iload_n 2, 8, 0, 0), (8, .ifCond .lt 42, 11, 50, 0), (11, .iload_n 1, 12, 0, 0), (12, .aload_n 0, 13, 0, 0), (13, .getfield 15, 16, 4, 1), (16, .iload_n 2, 17, 0, 0), (17, .invokestatic 37, 20, 0, 0), (20, .if_icmp .lt 24, 23, 44, 0), (23, .iload_n 1, 24, 0, 0), (24, .aload_n 0, 25, 0, 0), (25, .getfield 19, 28, 4, 2), (28, .iload_n 2, 29, 0, 0), (29, .invokestatic 37, 32, 0, 0), (32, .if_icmp .gt 12, 35, 44, 0), (35, .aload_n 0, 36, 0, 0), (36, .getfield 22, 39, 4, 3), (39, .iload_n 2, 40, 0, 0), (40, .invokestatic 37, 43, 0, 0), (43, .ireturn, 44, 0, 0), (44, .iinc 2 (-1), 47, 0, 0), (47, .goto (-40), 50, 7, 0), (50, .iconst 0, 51, 0, 0), (51, .ireturn, 52, 0, 0)], [])
theorem ok_X4_levelAt : g_ok M_X4_levelAt := by
  show (m_code M_X4_levelAt).all (g_ent M_X4_levelAt) = true
  decide +kernel
def M_X2_copyFrom : gMt := (yX2_copyFrom, cX2_copyFrom, 2, none, { frames := 2, cells := 0, slots := 0, locals := 69 }, [(0, .aload_n 0, 1, 0, 0), (1, .aload_n 1, 2, 0, 0), (2, .getfield 9, 5, 2, 0), (5, .putfield 9, 8, 2, 0), (8, .aload_n 1, 9, 0, 0), (9, .getfield 15, 12, 2, 1), (12, .aload_n 0, 13, 0, 0), (13, .getfield 15, 16, 2, 1), (16, .invokestatic 22, 19, 0, 0), (19, .aload_n 1, 20, 0, 0), (20, .getfield 19, 23, 2, 2), (23, .aload_n 0, 24, 0, 0), (24, .getfield 19, 27, 2, 2), (27, .invokestatic 22, 30, 0, 0), (30, .return_, 31, 0, 0)], [])
theorem ok_X2_copyFrom : g_ok M_X2_copyFrom := by
  show (m_code M_X2_copyFrom).all (g_ent M_X2_copyFrom) = true
  decide +kernel
def M_X2_isFull : gMt := (yX2_isFull, cX2_isFull, 1, (some .boolean), { frames := 0, cells := 0, slots := 0, locals := 0 }, [(0, .aload_n 0, 1, 0, 0), (1, .getfield 9, 4, 2, 0), (4, .bipush 8, 6, 0, 0), (6, .if_icmp .lt 7, 9, 13, 0), (9, .iconst 1, 10, 0, 0), (10, .goto 4, 13, 14, 0), (13, .iconst 0, 14, 0, 0), (14, .ireturn, 15, 0, 0)], [])
theorem ok_X2_isFull : g_ok M_X2_isFull := by
  show (m_code M_X2_isFull).all (g_ent M_X2_isFull) = true
  decide +kernel
def M_X2_placeOf : gMt := (yX2_placeOf, cX2_placeOf, 3, (some .int), { frames := 1, cells := 0, slots := 0, locals := 21 }, [(0, .iconst 0, 1, 0, 0), (1, .istore_n 2, 2, 0, 0), (2, .iload_n 2, 3, 0, 0), (3, .aload_n 0, 4, 0, 0), (4, .getfield 9, 7, 2, 0), (7, .if_icmp .ge 23, 10, 30, 0), (10, .aload_n 0, 11, 0, 0), (11, .getfield 15, 14, 2, 1), (14, .iload_n 2, 15, 0, 0), (15, .invokestatic 30, 18, 0, 0), (18, .iload_n 1, 19, 0, 0), (19, .if_icmp .ne 5, 22, 24, 0), (22, .iload_n 2, 23, 0, 0), (23, .ireturn, 24, 0, 0), (24, .iinc 2 1, 27, 0, 0), (27, .goto (-25), 30, 2, 0), (30, .aload_n 0, 31, 0, 0), (31, .getfield 9, 34, 2, 0), (34, .ireturn, 35, 0, 0)], [])
theorem ok_X2_placeOf : g_ok M_X2_placeOf := by
  show (m_code M_X2_placeOf).all (g_ent M_X2_placeOf) = true
  decide +kernel
def M_X2_hasOneAt : gMt := (yX2_hasOneAt, cX2_hasOneAt, 2, (some .boolean), { frames := 2, cells := 0, slots := 0, locals := 43 }, [(0, .aload_n 0, 1, 0, 0), (1, .iload_n 1, 2, 0, 0), (2, .invokevirtual 26, 5, 0, 0), (5, .aload_n 0, 6, 0, 0), (6, .getfield 9, 9, 2, 0), (9, .if_icmp .ge 7, 12, 16, 0), (12, .iconst 1, 13, 0, 0), (13, .goto 4, 16, 17, 0), (16, .iconst 0, 17, 0, 0), (17, .ireturn, 18, 0, 0)], [])
theorem ok_X2_hasOneAt : g_ok M_X2_hasOneAt := by
  show (m_code M_X2_hasOneAt).all (g_ent M_X2_hasOneAt) = true
  decide +kernel
def M_X2_come : gMt := (yX2_come, cX2_come, 4, none, { frames := 2, cells := 0, slots := 0, locals := 43 }, [(0, .aload_n 0, 1, 0, 0), (1, .iload_n 1, 2, 0, 0), (2, .invokevirtual 26, 5, 0, 0), (5, .istore_n 3, 6, 0, 0), (6, .iload_n 3, 7, 0, 0), (7, .bipush 8, 9, 0, 0), (9, .if_icmp .lt 4, 12, 13, 0), (12, .return_, 13, 0, 0), (13, .aload_n 0, 14, 0, 0), (14, .getfield 15, 17, 2, 1), (17, .iload_n 3, 18, 0, 0), (18, .iload_n 1, 19, 0, 0), (19, .invokestatic 34, 22, 0, 0), (22, .aload_n 0, 23, 0, 0), (23, .getfield 19, 26, 2, 2), (26, .iload_n 3, 27, 0, 0), (27, .iload_n 2, 28, 0, 0), (28, .invokestatic 34, 31, 0, 0), (31, .aload_n 0, 32, 0, 0), (32, .aload_n 0, 33, 0, 0), (33, .getfield 9, 36, 2, 0), (36, .iload_n 3, 37, 0, 0), (37, .iconst 1, 38, 0, 0), (38, .iadd, 39, 0, 0), (39, .invokestatic 38, 42, 0, 0), (42, .putfield 9, 45, 2, 0), (45, .return_, 46, 0, 0)], [])
theorem ok_X2_come : g_ok M_X2_come := by
  show (m_code M_X2_come).all (g_ent M_X2_come) = true
  decide +kernel
def M_X2_keyAt : gMt := (yX2_keyAt, cX2_keyAt, 6, (some .int), { frames := 1, cells := 0, slots := 0, locals := 21 }, [(0, .iconst (-1), 1, 0, 0), (1, .istore_n 2, 2, 0, 0), (2, .iconst 0, 3, 0, 0), (3, .istore_n 3, 4, 0, 0), (4, .iconst 0, 5, 0, 0), (5, .istore 4, 7, 0, 0), (7, .iload 4, 9, 0, 0), (9, .aload_n 0, 10, 0, 0), (10, .getfield 9, 13, 2, 0), (13, .if_icmp .ge 45, 16, 58, 0), (16, .aload_n 0, 17, 0, 0), (17, .getfield 15, 20, 2, 1), (20, .iload 4, 22, 0, 0), (22, .invokestatic 30, 25, 0, 0), (25, .istore 5, 27, 0, 0), (27, .iload 5, 29, 0, 0), (29, .iload_n 1, 30, 0, 0), (30, .if_icmp .gt 22, 33, 52, 0), (33, .iload 5, 35, 0, 0), (35, .iload_n 2, 36, 0, 0), (36, .if_icmp .le 16, 39, 52, 0), (39, .iload 5, 41, 0, 0), (41, .istore_n 2, 42, 0, 0), (42, .aload_n 0, 43, 0, 0), (43, .getfield 19, 46, 2, 2), (46, .iload 4, 48, 0, 0), (48, .invokestatic 30, 51, 0, 0), (51, .istore_n 3, 52, 0, 0), (52, .iinc 4 1, 55, 0, 0), (55, .goto (-48), 58, 7, 0), (58, .iload_n 3, 59, 0, 0), (59, .ireturn, 60, 0, 0)], [])
theorem ok_X2_keyAt : g_ok M_X2_keyAt := by
  show (m_code M_X2_keyAt).all (g_ent M_X2_keyAt) = true
  decide +kernel
def M_X0_take : gMt := (yX0_take, cX0_take, 2, none, { frames := 0, cells := 0, slots := 0, locals := 0 }, [(0, .aload_n 0, 1, 0, 0), (1, .iload_n 1, 2, 0, 0), (2, .putfield 32, 5, 0, 3), (5, .aload_n 0, 6, 0, 0), (6, .iconst 0, 7, 0, 0), (7, .putfield 35, 10, 0, 4), (10, .aload_n 0, 11, 0, 0), (11, .iconst 0, 12, 0, 0), (12, .putfield 38, 15, 0, 5), (15, .aload_n 0, 16, 0, 0), (16, .iconst 0, 17, 0, 0), (17, .putfield 41, 20, 0, 6), (20, .aload_n 0, 21, 0, 0), (21, .iconst 0, 22, 0, 0), (22, .putfield 44, 25, 0, 8), (25, .aload_n 0, 26, 0, 0), (26, .iconst 0, 27, 0, 0), (27, .putfield 48, 30, 0, 9), (30, .return_, 31, 0, 0)], [])
theorem ok_X0_take : g_ok M_X0_take := by
  show (m_code M_X0_take).all (g_ent M_X0_take) = true
  decide +kernel
def M_X0_becomeIdle : gMt := (yX0_becomeIdle, cX0_becomeIdle, 1, none, { frames := 1, cells := 0, slots := 0, locals := 21 }, [(0, .aload_n 0, 1, 0, 0), (1, .iconst (-1), 2, 0, 0), (2, .invokevirtual 28, 5, 0, 0), (5, .return_, 6, 0, 0)], [])
theorem ok_X0_becomeIdle : g_ok M_X0_becomeIdle := by
  show (m_code M_X0_becomeIdle).all (g_ent M_X0_becomeIdle) = true
  decide +kernel
def M_X0_clear : gMt := (yX0_clear, cX0_clear, 1, none, { frames := 2, cells := 0, slots := 0, locals := 41 }, [(0, .aload_n 0, 1, 0, 0), (1, .iconst 5, 2, 0, 0), (2, .putfield 15, 5, 0, 0), (5, .aload_n 0, 6, 0, 0), (6, .iconst 0, 7, 0, 0), (7, .putfield 19, 10, 0, 1), (10, .aload_n 0, 11, 0, 0), (11, .iconst 0, 12, 0, 0), (12, .putfield 22, 15, 0, 2), (15, .aload_n 0, 16, 0, 0), (16, .invokevirtual 25, 19, 0, 0), (19, .return_, 20, 0, 0)], [])
theorem ok_X0_clear : g_ok M_X0_clear := by
  show (m_code M_X0_clear).all (g_ent M_X0_clear) = true
  decide +kernel
def M_X0_copyFrom : gMt := (yX0_copyFrom, cX0_copyFrom, 2, none, { frames := 2, cells := 0, slots := 0, locals := 69 }, [(0, .aload_n 0, 1, 0, 0), (1, .aload_n 1, 2, 0, 0), (2, .getfield 15, 5, 0, 0), (5, .putfield 15, 8, 0, 0), (8, .aload_n 0, 9, 0, 0), (9, .aload_n 1, 10, 0, 0), (10, .getfield 19, 13, 0, 1), (13, .putfield 19, 16, 0, 1), (16, .aload_n 0, 17, 0, 0), (17, .aload_n 1, 18, 0, 0), (18, .getfield 22, 21, 0, 2), (21, .putfield 22, 24, 0, 2), (24, .aload_n 0, 25, 0, 0), (25, .aload_n 1, 26, 0, 0), (26, .getfield 32, 29, 0, 3), (29, .putfield 32, 32, 0, 3), (32, .aload_n 0, 33, 0, 0), (33, .aload_n 1, 34, 0, 0), (34, .getfield 35, 37, 0, 4), (37, .putfield 35, 40, 0, 4), (40, .aload_n 0, 41, 0, 0), (41, .aload_n 1, 42, 0, 0), (42, .getfield 38, 45, 0, 5), (45, .putfield 38, 48, 0, 5), (48, .aload_n 0, 49, 0, 0), (49, .aload_n 1, 50, 0, 0), (50, .getfield 41, 53, 0, 6), (53, .putfield 41, 56, 0, 6), (56, .aload_n 1, 57, 0, 0), (57, .getfield 9, 60, 0, 7), (60, .aload_n 0, 61, 0, 0), (61, .getfield 9, 64, 0, 7), (64, .invokestatic 51, 67, 0, 0), (67, .aload_n 0, 68, 0, 0), (68, .aload_n 1, 69, 0, 0), (69, .getfield 44, 72, 0, 8), (72, .putfield 44, 75, 0, 8), (75, .aload_n 0, 76, 0, 0), (76, .aload_n 1, 77, 0, 0), (77, .getfield 48, 80, 0, 9), (80, .putfield 48, 83, 0, 9), (83, .return_, 84, 0, 0)], [])
theorem ok_X0_copyFrom : g_ok M_X0_copyFrom := by
  show (m_code M_X0_copyFrom).all (g_ent M_X0_copyFrom) = true
  decide +kernel
def M_X0_isOpenAt : gMt := (yX0_isOpenAt, cX0_isOpenAt, 3, (some .boolean), { frames := 0, cells := 0, slots := 0, locals := 0 }, [(0, .iload_n 1, 1, 0, 0), (1, .bipush 24, 3, 0, 0), (3, .irem, 4, 0, 0), (4, .istore_n 2, 5, 0, 0), (5, .aload_n 0, 6, 0, 0), (6, .getfield 19, 9, 0, 1), (9, .aload_n 0, 10, 0, 0), (10, .getfield 22, 13, 0, 2), (13, .if_icmp .ge 25, 16, 38, 0), (16, .iload_n 2, 17, 0, 0), (17, .aload_n 0, 18, 0, 0), (18, .getfield 19, 21, 0, 1), (21, .if_icmp .lt 15, 24, 36, 0), (24, .iload_n 2, 25, 0, 0), (25, .aload_n 0, 26, 0, 0), (26, .getfield 22, 29, 0, 2), (29, .if_icmp .ge 7, 32, 36, 0), (32, .iconst 1, 33, 0, 0), (33, .goto 4, 36, 37, 0), (36, .iconst 0, 37, 0, 0), (37, .ireturn, 38, 0, 0), (38, .aload_n 0, 39, 0, 0), (39, .getfield 19, 42, 0, 1), (42, .aload_n 0, 43, 0, 0), (43, .getfield 22, 46, 0, 2), (46, .if_icmp .eq 19, 49, 65, 0), (49, .iload_n 2, 50, 0, 0), (50, .aload_n 0, 51, 0, 0), (51, .getfield 19, 54, 0, 1), (54, .if_icmp .ge 11, 57, 65, 0), (57, .iload_n 2, 58, 0, 0), (58, .aload_n 0, 59, 0, 0), (59, .getfield 22, 62, 0, 2), (62, .if_icmp .ge 7, 65, 69, 0), (65, .iconst 1, 66, 0, 0), (66, .goto 4, 69, 70, 0), (69, .iconst 0, 70, 0, 0), (70, .ireturn, 71, 0, 0)], [])
theorem ok_X0_isOpenAt : g_ok M_X0_isOpenAt := by
  show (m_code M_X0_isOpenAt).all (g_ent M_X0_isOpenAt) = true
  decide +kernel
def M_X0_isIdle : gMt := (yX0_isIdle, cX0_isIdle, 1, (some .boolean), { frames := 0, cells := 0, slots := 0, locals := 0 }, [(0, .aload_n 0, 1, 0, 0), (1, .getfield 32, 4, 0, 3), (4, .iconst (-1), 5, 0, 0), (5, .if_icmp .ne 7, 8, 12, 0), (8, .iconst 1, 9, 0, 0), (9, .goto 4, 12, 13, 0), (12, .iconst 0, 13, 0, 0), (13, .ireturn, 14, 0, 0)], [])
theorem ok_X0_isIdle : g_ok M_X0_isIdle := by
  show (m_code M_X0_isIdle).all (g_ent M_X0_isIdle) = true
  decide +kernel
def M_X0_figure : gMt := (yX0_figure, cX0_figure, 3, (some .int), { frames := 1, cells := 0, slots := 0, locals := 22 }, [(0, .iload_n 1, 1, 0, 0), (1, .tableswitch 69 0 4 #[35, 40, 45, 50, 64], 36, 0, 0), (36, .aload_n 0, 37, 0, 0), (37, .getfield 15, 40, 0, 0), (40, .ireturn, 41, 0, 0), (41, .aload_n 0, 42, 0, 0), (42, .getfield 19, 45, 0, 1), (45, .ireturn, 46, 0, 0), (46, .aload_n 0, 47, 0, 0), (47, .getfield 22, 50, 0, 2), (50, .ireturn, 51, 0, 0), (51, .aload_n 0, 52, 0, 0), (52, .iload_n 2, 53, 0, 0), (53, .invokevirtual 55, 56, 0, 0), (56, .ifCond .eq 7, 59, 63, 0), (59, .iconst 1, 60, 0, 0), (60, .goto 4, 63, 64, 0), (63, .iconst 0, 64, 0, 0), (64, .ireturn, 65, 0, 0), (65, .aload_n 0, 66, 0, 0), (66, .getfield 32, 69, 0, 3), (69, .ireturn, 70, 0, 0), (70, .aload_n 0, 71, 0, 0), (71, .invokevirtual 59, 74, 0, 0), (74, .ifCond .eq 7, 77, 81, 0), (77, .iconst (-1), 78, 0, 0), (78, .goto 7, 81, 85, 0), (81, .aload_n 0, 82, 0, 0), (82, .getfield 35, 85, 0, 4), (85, .ireturn, 86, 0, 0)], [])
theorem ok_X0_figure : g_ok M_X0_figure := by
  show (m_code M_X0_figure).all (g_ent M_X0_figure) = true
  decide +kernel
def M_X0_hear : gMt := (yX0_hear, cX0_hear, 2, none, { frames := 1, cells := 0, slots := 0, locals := 22 }, [(0, .aload_n 0, 1, 0, 0), (1, .getfield 9, 4, 0, 7), (4, .aload_n 0, 5, 0, 0), (5, .getfield 41, 8, 0, 6), (8, .iload_n 1, 9, 0, 0), (9, .invokestatic 63, 12, 0, 0), (12, .aload_n 0, 13, 0, 0), (13, .dup, 14, 0, 0), (14, .getfield 41, 17, 0, 6), (17, .iconst 1, 18, 0, 0), (18, .iadd, 19, 0, 0), (19, .putfield 41, 22, 0, 6), (22, .return_, 23, 0, 0)], [])
theorem ok_X0_hear : g_ok M_X0_hear := by
  show (m_code M_X0_hear).all (g_ent M_X0_hear) = true
  decide +kernel
def M_X0_judge : gMt := (yX0_judge, cX0_judge, 5, none, { frames := 1, cells := 0, slots := 0, locals := 21 }, [(0, .aload_n 0, 1, 0, 0), (1, .getfield 38, 4, 0, 5), (4, .istore_n 3, 5, 0, 0), (5, .iconst 0, 6, 0, 0), (6, .istore 4, 8, 0, 0), (8, .iload 4, 10, 0, 0), (10, .iload_n 1, 11, 0, 0), (11, .if_icmp .ge 21, 14, 32, 0), (14, .iload_n 3, 15, 0, 0), (15, .aload_n 0, 16, 0, 0), (16, .getfield 9, 19, 0, 7), (19, .iload 4, 21, 0, 0), (21, .invokestatic 67, 24, 0, 0), (24, .iadd, 25, 0, 0), (25, .istore_n 3, 26, 0, 0), (26, .iinc 4 1, 29, 0, 0), (29, .goto (-21), 32, 8, 0), (32, .aload_n 0, 33, 0, 0), (33, .aload_n 0, 34, 0, 0), (34, .getfield 44, 37, 0, 8), (37, .ifCond .ne 15, 40, 52, 0), (40, .iload_n 3, 41, 0, 0), (41, .bipush 26, 43, 0, 0), (43, .irem, 44, 0, 0), (44, .iload_n 2, 45, 0, 0), (45, .if_icmp .ne 7, 48, 52, 0), (48, .iconst 1, 49, 0, 0), (49, .goto 4, 52, 53, 0), (52, .iconst 0, 53, 0, 0), (53, .putfield 48, 56, 0, 9), (56, .return_, 57, 0, 0)], [])
theorem ok_X0_judge : g_ok M_X0_judge := by
  show (m_code M_X0_judge).all (g_ent M_X0_judge) = true
  decide +kernel
def M_X3_become : gMt := (yX3_become, cX3_become, 5, none, { frames := 1, cells := 0, slots := 0, locals := 22 }, [(0, .aload_n 0, 1, 0, 0), (1, .iload_n 1, 2, 0, 0), (2, .putfield 24, 5, 3, 0), (5, .aload_n 0, 6, 0, 0), (6, .iload_n 2, 7, 0, 0), (7, .putfield 28, 10, 3, 1), (10, .aload_n 0, 11, 0, 0), (11, .iload_n 3, 12, 0, 0), (12, .putfield 31, 15, 3, 3), (15, .aload_n 0, 16, 0, 0), (16, .iconst 0, 17, 0, 0), (17, .putfield 34, 20, 3, 5), (20, .aload_n 0, 21, 0, 0), (21, .iconst (-1), 22, 0, 0), (22, .putfield 37, 25, 3, 6), (25, .aload_n 0, 26, 0, 0), (26, .iconst (-1), 27, 0, 0), (27, .putfield 40, 30, 3, 7), (30, .iconst 0, 31, 0, 0), (31, .istore 4, 33, 0, 0), (33, .iload 4, 35, 0, 0), (35, .bipush 24, 37, 0, 0), (37, .if_icmp .ge 39, 40, 76, 0), (40, .aload_n 0, 41, 0, 0), (41, .getfield 15, 44, 3, 10), (44, .iload 4, 46, 0, 0), (46, .iconst (-1), 47, 0, 0), (47, .invokestatic 43, 50, 0, 0), (50, .aload_n 0, 51, 0, 0), (51, .getfield 18, 54, 3, 11), (54, .iload 4, 56, 0, 0), (56, .iconst 0, 57, 0, 0), (57, .invokestatic 43, 60, 0, 0), (60, .aload_n 0, 61, 0, 0), (61, .getfield 21, 64, 3, 12), (64, .iload 4, 66, 0, 0), (66, .iconst 0, 67, 0, 0), (67, .invokestatic 43, 70, 0, 0), (70, .iinc 4 1, 73, 0, 0), (73, .goto (-40), 76, 33, 0), (76, .return_, 77, 0, 0)], [])
theorem ok_X3_become : g_ok M_X3_become := by
  show (m_code M_X3_become).all (g_ent M_X3_become) = true
  decide +kernel
def M_X3_takeLetters : gMt := (yX3_takeLetters, cX3_takeLetters, 6, none, { frames := 1, cells := 0, slots := 0, locals := 22 }, [(0, .aload_n 0, 1, 0, 0), (1, .iload_n 3, 2, 0, 0), (2, .bipush 24, 4, 0, 0), (4, .invokestatic 47, 7, 0, 0), (7, .putfield 53, 10, 3, 2), (10, .iconst 0, 11, 0, 0), (11, .istore 4, 13, 0, 0), (13, .iload 4, 15, 0, 0), (15, .aload_n 0, 16, 0, 0), (16, .getfield 53, 19, 3, 2), (19, .if_icmp .ge 43, 22, 62, 0), (22, .iload_n 2, 23, 0, 0), (23, .iload 4, 25, 0, 0), (25, .iadd, 26, 0, 0), (26, .istore 5, 28, 0, 0), (28, .iload 5, 30, 0, 0), (30, .ifCond .lt 26, 33, 56, 0), (33, .iload 5, 35, 0, 0), (35, .aload_n 1, 36, 0, 0), (36, .arraylength, 37, 0, 0), (37, .if_icmp .ge 19, 40, 56, 0), (40, .aload_n 0, 41, 0, 0), (41, .getfield 9, 44, 3, 9), (44, .iload 4, 46, 0, 0), (46, .aload_n 1, 47, 0, 0), (47, .iload 5, 49, 0, 0), (49, .baload, 50, 0, 0), (50, .bipush 97, 52, 0, 0), (52, .isub, 53, 0, 0), (53, .invokestatic 43, 56, 0, 0), (56, .iinc 4 1, 59, 0, 0), (59, .goto (-46), 62, 13, 0), (62, .aload_n 0, 63, 0, 0), (63, .aload_n 0, 64, 0, 0), (64, .getfield 31, 67, 3, 3), (67, .iconst 1, 68, 0, 0), (68, .if_icmp .ge 7, 71, 75, 0), (71, .iconst 0, 72, 0, 0), (72, .goto 19, 75, 91, 0), (75, .aload_n 0, 76, 0, 0), (76, .getfield 53, 79, 3, 2), (79, .aload_n 0, 80, 0, 0), (80, .getfield 31, 83, 3, 3), (83, .iadd, 84, 0, 0), (84, .iconst 1, 85, 0, 0), (85, .isub, 86, 0, 0), (86, .aload_n 0, 87, 0, 0), (87, .getfield 31, 90, 3, 3), (90, .idiv, 91, 0, 0), (91, .putfield 56, 94, 3, 4), (94, .aload_n 0, 95, 0, 0), (95, .aload_n 0, 96, 0, 0), (96, .getfield 56, 99, 3, 4), (99, .putfield 59, 102, 3, 8), (102, .return_, 103, 0, 0)], [])
theorem ok_X3_takeLetters : g_ok M_X3_takeLetters := by
  show (m_code M_X3_takeLetters).all (g_ent M_X3_takeLetters) = true
  decide +kernel
def M_X3_copyFrom : gMt := (yX3_copyFrom, cX3_copyFrom, 2, none, { frames := 2, cells := 0, slots := 0, locals := 69 }, [(0, .aload_n 0, 1, 0, 0), (1, .aload_n 1, 2, 0, 0), (2, .getfield 24, 5, 3, 0), (5, .putfield 24, 8, 3, 0), (8, .aload_n 0, 9, 0, 0), (9, .aload_n 1, 10, 0, 0), (10, .getfield 28, 13, 3, 1), (13, .putfield 28, 16, 3, 1), (16, .aload_n 0, 17, 0, 0), (17, .aload_n 1, 18, 0, 0), (18, .getfield 53, 21, 3, 2), (21, .putfield 53, 24, 3, 2), (24, .aload_n 0, 25, 0, 0), (25, .aload_n 1, 26, 0, 0), (26, .getfield 31, 29, 3, 3), (29, .putfield 31, 32, 3, 3), (32, .aload_n 0, 33, 0, 0), (33, .aload_n 1, 34, 0, 0), (34, .getfield 56, 37, 3, 4), (37, .putfield 56, 40, 3, 4), (40, .aload_n 0, 41, 0, 0), (41, .aload_n 1, 42, 0, 0), (42, .getfield 34, 45, 3, 5), (45, .putfield 34, 48, 3, 5), (48, .aload_n 0, 49, 0, 0), (49, .aload_n 1, 50, 0, 0), (50, .getfield 37, 53, 3, 6), (53, .putfield 37, 56, 3, 6), (56, .aload_n 0, 57, 0, 0), (57, .aload_n 1, 58, 0, 0), (58, .getfield 40, 61, 3, 7), (61, .putfield 40, 64, 3, 7), (64, .aload_n 0, 65, 0, 0), (65, .aload_n 1, 66, 0, 0), (66, .getfield 59, 69, 3, 8), (69, .putfield 59, 72, 3, 8), (72, .aload_n 1, 73, 0, 0), (73, .getfield 9, 76, 3, 9), (76, .aload_n 0, 77, 0, 0), (77, .getfield 9, 80, 3, 9), (80, .invokestatic 62, 83, 0, 0), (83, .aload_n 1, 84, 0, 0), (84, .getfield 15, 87, 3, 10), (87, .aload_n 0, 88, 0, 0), (88, .getfield 15, 91, 3, 10), (91, .invokestatic 62, 94, 0, 0), (94, .aload_n 1, 95, 0, 0), (95, .getfield 18, 98, 3, 11), (98, .aload_n 0, 99, 0, 0), (99, .getfield 18, 102, 3, 11), (102, .invokestatic 62, 105, 0, 0), (105, .aload_n 1, 106, 0, 0), (106, .getfield 21, 109, 3, 12), (109, .aload_n 0, 110, 0, 0), (110, .getfield 21, 113, 3, 12), (113, .invokestatic 62, 116, 0, 0), (116, .return_, 117, 0, 0)], [])
theorem ok_X3_copyFrom : g_ok M_X3_copyFrom := by
  show (m_code M_X3_copyFrom).all (g_ent M_X3_copyFrom) = true
  decide +kernel
def M_X3_loggedAt : gMt := (yX3_loggedAt, cX3_loggedAt, 2, (some .int), { frames := 1, cells := 0, slots := 0, locals := 21 }, [(0, .aload_n 0, 1, 0, 0), (1, .getfield 15, 4, 3, 10), (4, .iload_n 1, 5, 0, 0), (5, .invokestatic 83, 8, 0, 0), (8, .ireturn, 9, 0, 0)], [])
theorem ok_X3_loggedAt : g_ok M_X3_loggedAt := by
  show (m_code M_X3_loggedAt).all (g_ent M_X3_loggedAt) = true
  decide +kernel
def M_X3_emptyPlaces : gMt := (yX3_emptyPlaces, cX3_emptyPlaces, 3, (some .int), { frames := 2, cells := 0, slots := 0, locals := 42 }, [(0, .iconst 0, 1, 0, 0), (1, .istore_n 1, 2, 0, 0), (2, .iconst 0, 3, 0, 0), (3, .istore_n 2, 4, 0, 0), (4, .iload_n 2, 5, 0, 0), (5, .aload_n 0, 6, 0, 0), (6, .getfield 53, 9, 3, 2), (9, .if_icmp .ge 21, 12, 30, 0), (12, .aload_n 0, 13, 0, 0), (13, .iload_n 2, 14, 0, 0), (14, .invokevirtual 76, 17, 0, 0), (17, .iconst (-1), 18, 0, 0), (18, .if_icmp .ne 6, 21, 24, 0), (21, .iinc 1 1, 24, 0, 0), (24, .iinc 2 1, 27, 0, 0), (27, .goto (-23), 30, 4, 0), (30, .iload_n 1, 31, 0, 0), (31, .ireturn, 32, 0, 0)], [])
theorem ok_X3_emptyPlaces : g_ok M_X3_emptyPlaces := by
  show (m_code M_X3_emptyPlaces).all (g_ent M_X3_emptyPlaces) = true
  decide +kernel
def M_X3_letterAt : gMt := (yX3_letterAt, cX3_letterAt, 2, (some .int), { frames := 1, cells := 0, slots := 0, locals := 21 }, [(0, .aload_n 0, 1, 0, 0), (1, .getfield 9, 4, 3, 9), (4, .iload_n 1, 5, 0, 0), (5, .invokestatic 83, 8, 0, 0), (8, .ireturn, 9, 0, 0)], [])
theorem ok_X3_letterAt : g_ok M_X3_letterAt := by
  show (m_code M_X3_letterAt).all (g_ent M_X3_letterAt) = true
  decide +kernel
def M_X3_wrongPlaces : gMt := (yX3_wrongPlaces, cX3_wrongPlaces, 3, (some .int), { frames := 2, cells := 0, slots := 0, locals := 42 }, [(0, .iconst 0, 1, 0, 0), (1, .istore_n 1, 2, 0, 0), (2, .iconst 0, 3, 0, 0), (3, .istore_n 2, 4, 0, 0), (4, .iload_n 2, 5, 0, 0), (5, .aload_n 0, 6, 0, 0), (6, .getfield 53, 9, 3, 2), (9, .if_icmp .ge 34, 12, 43, 0), (12, .aload_n 0, 13, 0, 0), (13, .iload_n 2, 14, 0, 0), (14, .invokevirtual 76, 17, 0, 0), (17, .iconst (-1), 18, 0, 0), (18, .if_icmp .eq 19, 21, 37, 0), (21, .aload_n 0, 22, 0, 0), (22, .iload_n 2, 23, 0, 0), (23, .invokevirtual 76, 26, 0, 0), (26, .aload_n 0, 27, 0, 0), (27, .iload_n 2, 28, 0, 0), (28, .invokevirtual 80, 31, 0, 0), (31, .if_icmp .eq 6, 34, 37, 0), (34, .iinc 1 1, 37, 0, 0), (37, .iinc 2 1, 40, 0, 0), (40, .goto (-36), 43, 4, 0), (43, .iload_n 1, 44, 0, 0), (44, .ireturn, 45, 0, 0)], [])
theorem ok_X3_wrongPlaces : g_ok M_X3_wrongPlaces := by
  show (m_code M_X3_wrongPlaces).all (g_ent M_X3_wrongPlaces) = true
  decide +kernel
def M_X3_allTries : gMt := (yX3_allTries, cX3_allTries, 3, (some .int), { frames := 1, cells := 0, slots := 0, locals := 21 }, [(0, .iconst 0, 1, 0, 0), (1, .istore_n 1, 2, 0, 0), (2, .iconst 0, 3, 0, 0), (3, .istore_n 2, 4, 0, 0), (4, .iload_n 2, 5, 0, 0), (5, .aload_n 0, 6, 0, 0), (6, .getfield 56, 9, 3, 4), (9, .if_icmp .ge 20, 12, 29, 0), (12, .iload_n 1, 13, 0, 0), (13, .aload_n 0, 14, 0, 0), (14, .getfield 21, 17, 3, 12), (17, .iload_n 2, 18, 0, 0), (18, .invokestatic 83, 21, 0, 0), (21, .iadd, 22, 0, 0), (22, .istore_n 1, 23, 0, 0), (23, .iinc 2 1, 26, 0, 0), (26, .goto (-22), 29, 4, 0), (29, .iload_n 1, 30, 0, 0), (30, .ireturn, 31, 0, 0)], [])
theorem ok_X3_allTries : g_ok M_X3_allTries := by
  show (m_code M_X3_allTries).all (g_ent M_X3_allTries) = true
  decide +kernel
def M_X3_figure : gMt := (yX3_figure, cX3_figure, 2, (some .int), { frames := 3, cells := 0, slots := 0, locals := 64 }, [(0, .iload_n 1, 1, 0, 0), (1, .tableswitch 96 0 8 #[51, 56, 61, 66, 71, 76, 81, 86, 91], 52, 0, 0), (52, .aload_n 0, 53, 0, 0), (53, .getfield 24, 56, 3, 0), (56, .ireturn, 57, 0, 0), (57, .aload_n 0, 58, 0, 0), (58, .getfield 28, 61, 3, 1), (61, .ireturn, 62, 0, 0), (62, .aload_n 0, 63, 0, 0), (63, .getfield 53, 66, 3, 2), (66, .ireturn, 67, 0, 0), (67, .aload_n 0, 68, 0, 0), (68, .getfield 56, 71, 3, 4), (71, .ireturn, 72, 0, 0), (72, .aload_n 0, 73, 0, 0), (73, .getfield 34, 76, 3, 5), (76, .ireturn, 77, 0, 0), (77, .aload_n 0, 78, 0, 0), (78, .invokevirtual 66, 81, 0, 0), (81, .ireturn, 82, 0, 0), (82, .aload_n 0, 83, 0, 0), (83, .invokevirtual 70, 86, 0, 0), (86, .ireturn, 87, 0, 0), (87, .aload_n 0, 88, 0, 0), (88, .invokevirtual 73, 91, 0, 0), (91, .ireturn, 92, 0, 0), (92, .aload_n 0, 93, 0, 0), (93, .getfield 37, 96, 3, 6), (96, .ireturn, 97, 0, 0), (97, .aload_n 0, 98, 0, 0), (98, .getfield 40, 101, 3, 7), (101, .ireturn, 102, 0, 0)], [])
theorem ok_X3_figure : g_ok M_X3_figure := by
  show (m_code M_X3_figure).all (g_ent M_X3_figure) = true
  decide +kernel
def M_X3_agrees : gMt := (yX3_agrees, cX3_agrees, 1, (some .boolean), { frames := 3, cells := 0, slots := 0, locals := 64 }, [(0, .aload_n 0, 1, 0, 0), (1, .getfield 34, 4, 3, 5), (4, .iconst 2, 5, 0, 0), (5, .if_icmp .ne 21, 8, 26, 0), (8, .aload_n 0, 9, 0, 0), (9, .invokevirtual 66, 12, 0, 0), (12, .ifCond .ne 14, 15, 26, 0), (15, .aload_n 0, 16, 0, 0), (16, .invokevirtual 70, 19, 0, 0), (19, .ifCond .ne 7, 22, 26, 0), (22, .iconst 1, 23, 0, 0), (23, .goto 4, 26, 27, 0), (26, .iconst 0, 27, 0, 0), (27, .ireturn, 28, 0, 0)], [])
theorem ok_X3_agrees : g_ok M_X3_agrees := by
  show (m_code M_X3_agrees).all (g_ent M_X3_agrees) = true
  decide +kernel
def M_X3_canBeCancelled : gMt := (yX3_canBeCancelled, cX3_canBeCancelled, 1, (some .boolean), { frames := 0, cells := 0, slots := 0, locals := 0 }, [(0, .aload_n 0, 1, 0, 0), (1, .getfield 34, 4, 3, 5), (4, .ifCond .eq 11, 7, 15, 0), (7, .aload_n 0, 8, 0, 0), (8, .getfield 34, 11, 3, 5), (11, .iconst 1, 12, 0, 0), (12, .if_icmp .ne 7, 15, 19, 0), (15, .iconst 1, 16, 0, 0), (16, .goto 4, 19, 20, 0), (19, .iconst 0, 20, 0, 0), (20, .ireturn, 21, 0, 0)], [])
theorem ok_X3_canBeCancelled : g_ok M_X3_canBeCancelled := by
  show (m_code M_X3_canBeCancelled).all (g_ent M_X3_canBeCancelled) = true
  decide +kernel
def M_X3_hasPlace : gMt := (yX3_hasPlace, cX3_hasPlace, 2, (some .boolean), { frames := 0, cells := 0, slots := 0, locals := 0 }, [(0, .iload_n 1, 1, 0, 0), (1, .ifCond .lt 15, 4, 16, 0), (4, .iload_n 1, 5, 0, 0), (5, .aload_n 0, 6, 0, 0), (6, .getfield 53, 9, 3, 2), (9, .if_icmp .ge 7, 12, 16, 0), (12, .iconst 1, 13, 0, 0), (13, .goto 4, 16, 17, 0), (16, .iconst 0, 17, 0, 0), (17, .ireturn, 18, 0, 0)], [])
theorem ok_X3_hasPlace : g_ok M_X3_hasPlace := by
  show (m_code M_X3_hasPlace).all (g_ent M_X3_hasPlace) = true
  decide +kernel
def M_X3_reasonAt : gMt := (yX3_reasonAt, cX3_reasonAt, 3, (some .int), { frames := 2, cells := 0, slots := 0, locals := 42 }, [(0, .aload_n 0, 1, 0, 0), (1, .iload_n 1, 2, 0, 0), (2, .invokevirtual 76, 5, 0, 0), (5, .aload_n 0, 6, 0, 0), (6, .iload_n 1, 7, 0, 0), (7, .invokevirtual 80, 10, 0, 0), (10, .if_icmp .ne 5, 13, 15, 0), (13, .iconst 0, 14, 0, 0), (14, .ireturn, 15, 0, 0), (15, .aload_n 0, 16, 0, 0), (16, .iload_n 1, 17, 0, 0), (17, .invokevirtual 76, 20, 0, 0), (20, .iconst (-1), 21, 0, 0), (21, .if_icmp .eq 5, 24, 26, 0), (24, .iconst 3, 25, 0, 0), (25, .ireturn, 26, 0, 0), (26, .aload_n 0, 27, 0, 0), (27, .getfield 31, 30, 3, 3), (30, .iconst 1, 31, 0, 0), (31, .if_icmp .ge 7, 34, 38, 0), (34, .iconst 0, 35, 0, 0), (35, .goto 16, 38, 51, 0), (38, .aload_n 0, 39, 0, 0), (39, .getfield 18, 42, 3, 11), (42, .iload_n 1, 43, 0, 0), (43, .aload_n 0, 44, 0, 0), (44, .getfield 31, 47, 3, 3), (47, .idiv, 48, 0, 0), (48, .invokestatic 83, 51, 0, 0), (51, .istore_n 2, 52, 0, 0), (52, .iload_n 2, 53, 0, 0), (53, .ifCond .eq 8, 56, 61, 0), (56, .iload_n 2, 57, 0, 0), (57, .iconst 1, 58, 0, 0), (58, .if_icmp .ne 7, 61, 65, 0), (61, .iconst 1, 62, 0, 0), (62, .goto 4, 65, 66, 0), (65, .iconst 2, 66, 0, 0), (66, .ireturn, 67, 0, 0)], [])
theorem ok_X3_reasonAt : g_ok M_X3_reasonAt := by
  show (m_code M_X3_reasonAt).all (g_ent M_X3_reasonAt) = true
  decide +kernel
def M_X3_addedTo : gMt := (yX3_addedTo, cX3_addedTo, 6, (some .long), { frames := 4, cells := 0, slots := 0, locals := 85 }, [(0, .lload_n 1, 1, 0, 0), (1, .lstore_n 3, 2, 0, 0), (2, .iconst 0, 3, 0, 0), (3, .istore 5, 5, 0, 0), (5, .iload 5, 7, 0, 0), (7, .bipush 10, 9, 0, 0), (9, .if_icmp .ge 23, 12, 32, 0), (12, .ldc2_w 87, 15, 0, 0), (15, .lload_n 3, 16, 0, 0), (16, .lmul, 17, 0, 0), (17, .aload_n 0, 18, 0, 0), (18, .iload 5, 20, 0, 0), (20, .invokevirtual 89, 23, 0, 0), (23, .i2l, 24, 0, 0), (24, .ladd, 25, 0, 0), (25, .lstore_n 3, 26, 0, 0), (26, .iinc 5 1, 29, 0, 0), (29, .goto (-24), 32, 5, 0), (32, .iconst 0, 33, 0, 0), (33, .istore 5, 35, 0, 0), (35, .iload 5, 37, 0, 0), (37, .aload_n 0, 38, 0, 0), (38, .getfield 53, 41, 3, 2), (41, .if_icmp .ge 37, 44, 78, 0), (44, .ldc2_w 87, 47, 0, 0), (47, .lload_n 3, 48, 0, 0), (48, .lmul, 49, 0, 0), (49, .aload_n 0, 50, 0, 0), (50, .iload 5, 52, 0, 0), (52, .invokevirtual 76, 55, 0, 0), (55, .i2l, 56, 0, 0), (56, .ladd, 57, 0, 0), (57, .lstore_n 3, 58, 0, 0), (58, .ldc2_w 87, 61, 0, 0), (61, .lload_n 3, 62, 0, 0), (62, .lmul, 63, 0, 0), (63, .aload_n 0, 64, 0, 0), (64, .iload 5, 66, 0, 0), (66, .invokevirtual 92, 69, 0, 0), (69, .i2l, 70, 0, 0), (70, .ladd, 71, 0, 0), (71, .lstore_n 3, 72, 0, 0), (72, .iinc 5 1, 75, 0, 0), (75, .goto (-40), 78, 35, 0), (78, .lload_n 3, 79, 0, 0), (79, .lreturn, 80, 0, 0)], [])
theorem ok_X3_addedTo : g_ok M_X3_addedTo := by
  show (m_code M_X3_addedTo).all (g_ent M_X3_addedTo) = true
  decide +kernel
def M_X3_start : gMt := (yX3_start, cX3_start, 2, none, { frames := 0, cells := 0, slots := 0, locals := 0 }, [(0, .aload_n 0, 1, 0, 0), (1, .iconst 1, 2, 0, 0), (2, .putfield 34, 5, 3, 5), (5, .aload_n 0, 6, 0, 0), (6, .iload_n 1, 7, 0, 0), (7, .putfield 37, 10, 3, 6), (10, .return_, 11, 0, 0)], [])
theorem ok_X3_start : g_ok M_X3_start := by
  show (m_code M_X3_start).all (g_ent M_X3_start) = true
  decide +kernel
def M_X3_end : gMt := (yX3_end, cX3_end, 3, none, { frames := 0, cells := 0, slots := 0, locals := 0 }, [(0, .aload_n 0, 1, 0, 0), (1, .iload_n 1, 2, 0, 0), (2, .putfield 34, 5, 3, 5), (5, .aload_n 0, 6, 0, 0), (6, .iload_n 2, 7, 0, 0), (7, .putfield 40, 10, 3, 7), (10, .return_, 11, 0, 0)], [])
theorem ok_X3_end : g_ok M_X3_end := by
  show (m_code M_X3_end).all (g_ent M_X3_end) = true
  decide +kernel
def M_X3_takeOpenFrame : gMt := (yX3_takeOpenFrame, cX3_takeOpenFrame, 2, (some .int), { frames := 1, cells := 0, slots := 0, locals := 22 }, [(0, .iconst 0, 1, 0, 0), (1, .istore_n 1, 2, 0, 0), (2, .iload_n 1, 3, 0, 0), (3, .aload_n 0, 4, 0, 0), (4, .getfield 56, 7, 3, 4), (7, .if_icmp .ge 31, 10, 38, 0), (10, .aload_n 0, 11, 0, 0), (11, .getfield 18, 14, 3, 11), (14, .iload_n 1, 15, 0, 0), (15, .invokestatic 83, 18, 0, 0), (18, .ifCond .ne 14, 21, 32, 0), (21, .aload_n 0, 22, 0, 0), (22, .getfield 18, 25, 3, 11), (25, .iload_n 1, 26, 0, 0), (26, .iconst 1, 27, 0, 0), (27, .invokestatic 43, 30, 0, 0), (30, .iload_n 1, 31, 0, 0), (31, .ireturn, 32, 0, 0), (32, .iinc 1 1, 35, 0, 0), (35, .goto (-33), 38, 2, 0), (38, .iconst (-1), 39, 0, 0), (39, .ireturn, 40, 0, 0)], [])
theorem ok_X3_takeOpenFrame : g_ok M_X3_takeOpenFrame := by
  show (m_code M_X3_takeOpenFrame).all (g_ent M_X3_takeOpenFrame) = true
  decide +kernel
def M_X3_firstPlaceOf : gMt := (yX3_firstPlaceOf, cX3_firstPlaceOf, 2, (some .int), { frames := 0, cells := 0, slots := 0, locals := 0 }, [(0, .iload_n 1, 1, 0, 0), (1, .aload_n 0, 2, 0, 0), (2, .getfield 31, 5, 3, 3), (5, .imul, 6, 0, 0), (6, .ireturn, 7, 0, 0)], [])
theorem ok_X3_firstPlaceOf : g_ok M_X3_firstPlaceOf := by
  show (m_code M_X3_firstPlaceOf).all (g_ent M_X3_firstPlaceOf) = true
  decide +kernel
def M_X3_lettersIn : gMt := (yX3_lettersIn, cX3_lettersIn, 2, (some .int), { frames := 1, cells := 0, slots := 0, locals := 21 }, [(0, .aload_n 0, 1, 0, 0), (1, .getfield 31, 4, 3, 3), (4, .aload_n 0, 5, 0, 0), (5, .getfield 53, 8, 3, 2), (8, .aload_n 0, 9, 0, 0), (9, .iload_n 1, 10, 0, 0), (10, .invokevirtual 95, 13, 0, 0), (13, .isub, 14, 0, 0), (14, .invokestatic 47, 17, 0, 0), (17, .ireturn, 18, 0, 0)], [])
theorem ok_X3_lettersIn : g_ok M_X3_lettersIn := by
  show (m_code M_X3_lettersIn).all (g_ent M_X3_lettersIn) = true
  decide +kernel
def M_X3_checkOf : gMt := (yX3_checkOf, cX3_checkOf, 5, (some .int), { frames := 2, cells := 0, slots := 0, locals := 42 }, [(0, .iload_n 1, 1, 0, 0), (1, .istore_n 2, 2, 0, 0), (2, .aload_n 0, 3, 0, 0), (3, .iload_n 1, 4, 0, 0), (4, .invokevirtual 95, 7, 0, 0), (7, .istore_n 3, 8, 0, 0), (8, .iconst 0, 9, 0, 0), (9, .istore 4, 11, 0, 0), (11, .iload 4, 13, 0, 0), (13, .aload_n 0, 14, 0, 0), (14, .iload_n 1, 15, 0, 0), (15, .invokevirtual 98, 18, 0, 0), (18, .if_icmp .ge 20, 21, 38, 0), (21, .iload_n 2, 22, 0, 0), (22, .aload_n 0, 23, 0, 0), (23, .iload_n 3, 24, 0, 0), (24, .iload 4, 26, 0, 0), (26, .iadd, 27, 0, 0), (27, .invokevirtual 80, 30, 0, 0), (30, .iadd, 31, 0, 0), (31, .istore_n 2, 32, 0, 0), (32, .iinc 4 1, 35, 0, 0), (35, .goto (-24), 38, 11, 0), (38, .iload_n 2, 39, 0, 0), (39, .bipush 26, 41, 0, 0), (41, .irem, 42, 0, 0), (42, .ireturn, 43, 0, 0)], [])
theorem ok_X3_checkOf : g_ok M_X3_checkOf := by
  show (m_code M_X3_checkOf).all (g_ent M_X3_checkOf) = true
  decide +kernel
def M_X3_writeDown : gMt := (yX3_writeDown, cX3_writeDown, 6, none, { frames := 2, cells := 0, slots := 0, locals := 42 }, [(0, .iload_n 1, 1, 0, 0), (1, .aload_n 0, 2, 0, 0), (2, .getfield 56, 5, 3, 4), (5, .if_icmp .lt 4, 8, 9, 0), (8, .return_, 9, 0, 0), (9, .aload_n 0, 10, 0, 0), (10, .iload_n 1, 11, 0, 0), (11, .invokevirtual 95, 14, 0, 0), (14, .istore 4, 16, 0, 0), (16, .iconst 0, 17, 0, 0), (17, .istore 5, 19, 0, 0), (19, .iload 5, 21, 0, 0), (21, .iload_n 3, 22, 0, 0), (22, .if_icmp .ge 52, 25, 74, 0), (25, .aload_n 0, 26, 0, 0), (26, .iload 4, 28, 0, 0), (28, .iload 5, 30, 0, 0), (30, .iadd, 31, 0, 0), (31, .invokevirtual 101, 34, 0, 0), (34, .ifCond .eq 34, 37, 68, 0), (37, .aload_n 0, 38, 0, 0), (38, .iload 4, 40, 0, 0), (40, .iload 5, 42, 0, 0), (42, .iadd, 43, 0, 0), (43, .invokevirtual 76, 46, 0, 0), (46, .iconst (-1), 47, 0, 0), (47, .if_icmp .ne 21, 50, 68, 0), (50, .aload_n 0, 51, 0, 0), (51, .getfield 15, 54, 3, 10), (54, .iload 4, 56, 0, 0), (56, .iload 5, 58, 0, 0), (58, .iadd, 59, 0, 0), (59, .aload_n 2, 60, 0, 0), (60, .iload 5, 62, 0, 0), (62, .invokestatic 83, 65, 0, 0), (65, .invokestatic 43, 68, 0, 0), (68, .iinc 5 1, 71, 0, 0), (71, .goto (-52), 74, 19, 0), (74, .return_, 75, 0, 0)], [])
theorem ok_X3_writeDown : g_ok M_X3_writeDown := by
  show (m_code M_X3_writeDown).all (g_ent M_X3_writeDown) = true
  decide +kernel
def M_X3_endTry : gMt := (yX3_endTry, cX3_endTry, 5, (some .boolean), { frames := 1, cells := 0, slots := 0, locals := 22 }, [(0, .iload_n 2, 1, 0, 0), (1, .ifCond .eq 24, 4, 25, 0), (4, .aload_n 0, 5, 0, 0), (5, .getfield 18, 8, 3, 11), (8, .iload_n 1, 9, 0, 0), (9, .iconst 2, 10, 0, 0), (10, .invokestatic 43, 13, 0, 0), (13, .aload_n 0, 14, 0, 0), (14, .dup, 15, 0, 0), (15, .getfield 59, 18, 3, 8), (18, .iconst 1, 19, 0, 0), (19, .isub, 20, 0, 0), (20, .putfield 59, 23, 3, 8), (23, .iconst 0, 24, 0, 0), (24, .ireturn, 25, 0, 0), (25, .aload_n 0, 26, 0, 0), (26, .getfield 21, 29, 3, 12), (29, .iload_n 1, 30, 0, 0), (30, .invokestatic 83, 33, 0, 0), (33, .iconst 1, 34, 0, 0), (34, .iadd, 35, 0, 0), (35, .istore 4, 37, 0, 0), (37, .aload_n 0, 38, 0, 0), (38, .getfield 21, 41, 3, 12), (41, .iload_n 1, 42, 0, 0), (42, .iload 4, 44, 0, 0), (44, .invokestatic 43, 47, 0, 0), (47, .iload 4, 49, 0, 0), (49, .iload_n 3, 50, 0, 0), (50, .if_icmp .ge 14, 53, 64, 0), (53, .aload_n 0, 54, 0, 0), (54, .getfield 18, 57, 3, 11), (57, .iload_n 1, 58, 0, 0), (58, .iconst 0, 59, 0, 0), (59, .invokestatic 43, 62, 0, 0), (62, .iconst 0, 63, 0, 0), (63, .ireturn, 64, 0, 0), (64, .aload_n 0, 65, 0, 0), (65, .getfield 18, 68, 3, 11), (68, .iload_n 1, 69, 0, 0), (69, .iconst 3, 70, 0, 0), (70, .invokestatic 43, 73, 0, 0), (73, .aload_n 0, 74, 0, 0), (74, .dup, 75, 0, 0), (75, .getfield 59, 78, 3, 8), (78, .iconst 1, 79, 0, 0), (79, .isub, 80, 0, 0), (80, .putfield 59, 83, 3, 8), (83, .iconst 1, 84, 0, 0), (84, .ireturn, 85, 0, 0)], [])
theorem ok_X3_endTry : g_ok M_X3_endTry := by
  show (m_code M_X3_endTry).all (g_ent M_X3_endTry) = true
  decide +kernel
def M_X6_clear : gMt := (yX6_clear, cX6_clear, 3, none, { frames := 3, cells := 0, slots := 0, locals := 61 }, [(0, .aload_n 0, 1, 0, 0), (1, .iconst 0, 2, 0, 0), (2, .putfield 53, 5, 6, 0), (5, .aload_n 0, 6, 0, 0), (6, .iconst 0, 7, 0, 0), (7, .putfield 57, 10, 6, 1), (10, .aload_n 0, 11, 0, 0), (11, .iconst (-1), 12, 0, 0), (12, .putfield 60, 15, 6, 2), (15, .aload_n 0, 16, 0, 0), (16, .iload_n 1, 17, 0, 0), (17, .putfield 63, 20, 6, 3), (20, .aload_n 0, 21, 0, 0), (21, .iload_n 2, 22, 0, 0), (22, .putfield 66, 25, 6, 4), (25, .aload_n 0, 26, 0, 0), (26, .iconst 0, 27, 0, 0), (27, .putfield 69, 30, 6, 5), (30, .aload_n 0, 31, 0, 0), (31, .iconst 0, 32, 0, 0), (32, .putfield 72, 35, 6, 6), (35, .aload_n 0, 36, 0, 0), (36, .iconst 0, 37, 0, 0), (37, .putfield 75, 40, 6, 7), (40, .aload_n 0, 41, 0, 0), (41, .iconst 0, 42, 0, 0), (42, .putfield 78, 45, 6, 8), (45, .aload_n 0, 46, 0, 0), (46, .getfield 25, 49, 6, 11), (49, .invokevirtual 81, 52, 0, 0), (52, .aload_n 0, 53, 0, 0), (53, .getfield 29, 56, 6, 12), (56, .invokevirtual 81, 59, 0, 0), (59, .aload_n 0, 60, 0, 0), (60, .getfield 35, 63, 6, 13), (63, .iconst 0, 64, 0, 0), (64, .putfield 83, 67, 2, 0), (67, .aload_n 0, 68, 0, 0), (68, .getfield 39, 71, 6, 14), (71, .iconst 0, 72, 0, 0), (72, .putfield 83, 75, 2, 0), (75, .aload_n 0, 76, 0, 0), (76, .getfield 45, 79, 6, 15), (79, .iconst 0, 80, 0, 0), (80, .putfield 84, 83, 4, 0), (83, .return_, 84, 0, 0)], [])
theorem ok_X6_clear : g_ok M_X6_clear := by
  show (m_code M_X6_clear).all (g_ent M_X6_clear) = true
  decide +kernel
def M_X6_messageNumbered : gMt := (yX6_messageNumbered, cX6_messageNumbered, 3, (some (.object "LampRelay$Message")), { frames := 0, cells := 0, slots := 0, locals := 0 }, [(0, .iload_n 1, 1, 0, 0), (1, .ifCond .lt 21, 4, 22, 0), (4, .iload_n 1, 5, 0, 0), (5, .aload_n 0, 6, 0, 0), (6, .getfield 11, 9, 6, 9), (9, .arraylength, 10, 0, 0), (10, .if_icmp .ge 12, 13, 22, 0), (13, .aload_n 0, 14, 0, 0), (14, .getfield 11, 17, 6, 9), (17, .iload_n 1, 18, 0, 0), (18, .aaload, 19, 0, 0), (19, .goto 4, 22, 23, 0), (22, .aconst_null, 23, 0, 0), (23, .astore_n 2, 24, 0, 0), (24, .aload_n 2, 25, 0, 0), (25, .ifnonnull 10, 28, 35, 0), (28, .aload_n 0, 29, 0, 0), (29, .getfield 18, 32, 6, 10), (32, .goto 4, 35, 36, 0), (35, .aload_n 2, 36, 0, 0), (36, .areturn, 37, 0, 0)], [])
theorem ok_X6_messageNumbered : g_ok M_X6_messageNumbered := by
  show (m_code M_X6_messageNumbered).all (g_ent M_X6_messageNumbered) = true
  decide +kernel
def M_X6_copyFrom : gMt := (yX6_copyFrom, cX6_copyFrom, 3, none, { frames := 3, cells := 0, slots := 0, locals := 90 }, [(0, .aload_n 0, 1, 0, 0), (1, .aload_n 1, 2, 0, 0), (2, .getfield 53, 5, 6, 0), (5, .putfield 53, 8, 6, 0), (8, .aload_n 0, 9, 0, 0), (9, .aload_n 1, 10, 0, 0), (10, .getfield 57, 13, 6, 1), (13, .putfield 57, 16, 6, 1), (16, .aload_n 0, 17, 0, 0), (17, .aload_n 1, 18, 0, 0), (18, .getfield 60, 21, 6, 2), (21, .putfield 60, 24, 6, 2), (24, .aload_n 0, 25, 0, 0), (25, .aload_n 1, 26, 0, 0), (26, .getfield 63, 29, 6, 3), (29, .putfield 63, 32, 6, 3), (32, .aload_n 0, 33, 0, 0), (33, .aload_n 1, 34, 0, 0), (34, .getfield 66, 37, 6, 4), (37, .putfield 66, 40, 6, 4), (40, .aload_n 0, 41, 0, 0), (41, .aload_n 1, 42, 0, 0), (42, .getfield 69, 45, 6, 5), (45, .putfield 69, 48, 6, 5), (48, .aload_n 0, 49, 0, 0), (49, .aload_n 1, 50, 0, 0), (50, .getfield 72, 53, 6, 6), (53, .putfield 72, 56, 6, 6), (56, .aload_n 0, 57, 0, 0), (57, .aload_n 1, 58, 0, 0), (58, .getfield 75, 61, 6, 7), (61, .putfield 75, 64, 6, 7), (64, .aload_n 0, 65, 0, 0), (65, .aload_n 1, 66, 0, 0), (66, .getfield 78, 69, 6, 8), (69, .putfield 78, 72, 6, 8), (72, .iconst 0, 73, 0, 0), (73, .istore_n 2, 74, 0, 0), (74, .iload_n 2, 75, 0, 0), (75, .aload_n 0, 76, 0, 0), (76, .getfield 57, 79, 6, 1), (79, .if_icmp .ge 22, 82, 101, 0), (82, .aload_n 0, 83, 0, 0), (83, .iload_n 2, 84, 0, 0), (84, .invokevirtual 85, 87, 0, 0), (87, .aload_n 1, 88, 0, 0), (88, .iload_n 2, 89, 0, 0), (89, .invokevirtual 85, 92, 0, 0), (92, .invokevirtual 89, 95, 0, 0), (95, .iinc 2 1, 98, 0, 0), (98, .goto (-24), 101, 74, 0), (101, .aload_n 0, 102, 0, 0), (102, .getfield 25, 105, 6, 11), (105, .aload_n 1, 106, 0, 0), (106, .getfield 25, 109, 6, 11), (109, .invokevirtual 93, 112, 0, 0), (112, .aload_n 0, 113, 0, 0), (113, .getfield 29, 116, 6, 12), (116, .aload_n 1, 117, 0, 0), (117, .getfield 29, 120, 6, 12), (120, .invokevirtual 93, 123, 0, 0), (123, .aload_n 0, 124, 0, 0), (124, .getfield 35, 127, 6, 13), (127, .aload_n 1, 128, 0, 0), (128, .getfield 35, 131, 6, 13), (131, .invokevirtual 96, 134, 0, 0), (134, .aload_n 0, 135, 0, 0), (135, .getfield 39, 138, 6, 14), (138, .aload_n 1, 139, 0, 0), (139, .getfield 39, 142, 6, 14), (142, .invokevirtual 96, 145, 0, 0), (145, .aload_n 0, 146, 0, 0), (146, .getfield 45, 149, 6, 15), (149, .aload_n 1, 150, 0, 0), (150, .getfield 45, 153, 6, 15), (153, .invokevirtual 99, 156, 0, 0), (156, .return_, 157, 0, 0)], [])
theorem ok_X6_copyFrom : g_ok M_X6_copyFrom := by
  show (m_code M_X6_copyFrom).all (g_ent M_X6_copyFrom) = true
  decide +kernel
def M_X6_hasMessage : gMt := (yX6_hasMessage, cX6_hasMessage, 2, (some .boolean), { frames := 0, cells := 0, slots := 0, locals := 0 }, [(0, .iload_n 1, 1, 0, 0), (1, .ifCond .lt 15, 4, 16, 0), (4, .iload_n 1, 5, 0, 0), (5, .aload_n 0, 6, 0, 0), (6, .getfield 57, 9, 6, 1), (9, .if_icmp .ge 7, 12, 16, 0), (12, .iconst 1, 13, 0, 0), (13, .goto 4, 16, 17, 0), (16, .iconst 0, 17, 0, 0), (17, .ireturn, 18, 0, 0)], [])
theorem ok_X6_hasMessage : g_ok M_X6_hasMessage := by
  show (m_code M_X6_hasMessage).all (g_ent M_X6_hasMessage) = true
  decide +kernel
def M_X6_channelNumbered : gMt := (yX6_channelNumbered, cX6_channelNumbered, 2, (some (.object "LampRelay$Channel")), { frames := 0, cells := 0, slots := 0, locals := 0 }, [(0, .iload_n 1, 1, 0, 0), (1, .ifCond .ne 10, 4, 11, 0), (4, .aload_n 0, 5, 0, 0), (5, .getfield 25, 8, 6, 11), (8, .goto 7, 11, 15, 0), (11, .aload_n 0, 12, 0, 0), (12, .getfield 29, 15, 6, 12), (15, .areturn, 16, 0, 0)], [])
theorem ok_X6_channelNumbered : g_ok M_X6_channelNumbered := by
  show (m_code M_X6_channelNumbered).all (g_ent M_X6_channelNumbered) = true
  decide +kernel
def M_X6_keepersOf : gMt := (yX6_keepersOf, cX6_keepersOf, 2, (some (.object "LampRelay$Keepers")), { frames := 0, cells := 0, slots := 0, locals := 0 }, [(0, .iload_n 1, 1, 0, 0), (1, .ifCond .ne 10, 4, 11, 0), (4, .aload_n 0, 5, 0, 0), (5, .getfield 35, 8, 6, 13), (8, .goto 7, 11, 15, 0), (11, .aload_n 0, 12, 0, 0), (12, .getfield 39, 15, 6, 14), (15, .areturn, 16, 0, 0)], [])
theorem ok_X6_keepersOf : g_ok M_X6_keepersOf := by
  show (m_code M_X6_keepersOf).all (g_ent M_X6_keepersOf) = true
  decide +kernel
def M_X6_addMessage : gMt := (yX6_addMessage, cX6_addMessage, 6, none, { frames := 2, cells := 0, slots := 0, locals := 47 }, [(0, .aload_n 0, 1, 0, 0), (1, .getfield 57, 4, 6, 1), (4, .bipush 8, 6, 0, 0), (6, .if_icmp .ge 46, 9, 52, 0), (9, .aload_n 0, 10, 0, 0), (10, .aload_n 0, 11, 0, 0), (11, .getfield 57, 14, 6, 1), (14, .invokevirtual 85, 17, 0, 0), (17, .iload_n 1, 18, 0, 0), (18, .iload_n 2, 19, 0, 0), (19, .aload_n 0, 20, 0, 0), (20, .getfield 63, 23, 6, 3), (23, .invokevirtual 102, 26, 0, 0), (26, .aload_n 0, 27, 0, 0), (27, .aload_n 0, 28, 0, 0), (28, .getfield 57, 31, 6, 1), (31, .invokevirtual 85, 34, 0, 0), (34, .aload_n 3, 35, 0, 0), (35, .iload 4, 37, 0, 0), (37, .iload 5, 39, 0, 0), (39, .invokevirtual 106, 42, 0, 0), (42, .aload_n 0, 43, 0, 0), (43, .dup, 44, 0, 0), (44, .getfield 57, 47, 6, 1), (47, .iconst 1, 48, 0, 0), (48, .iadd, 49, 0, 0), (49, .putfield 57, 52, 6, 1), (52, .return_, 53, 0, 0)], [])
theorem ok_X6_addMessage : g_ok M_X6_addMessage := by
  show (m_code M_X6_addMessage).all (g_ent M_X6_addMessage) = true
  decide +kernel
def M_X6_messagesIn : gMt := (yX6_messagesIn, cX6_messagesIn, 4, (some .int), { frames := 1, cells := 0, slots := 0, locals := 22 }, [(0, .iconst 0, 1, 0, 0), (1, .istore_n 2, 2, 0, 0), (2, .iconst 0, 3, 0, 0), (3, .istore_n 3, 4, 0, 0), (4, .iload_n 3, 5, 0, 0), (5, .aload_n 0, 6, 0, 0), (6, .getfield 57, 9, 6, 1), (9, .if_icmp .ge 24, 12, 33, 0), (12, .aload_n 0, 13, 0, 0), (13, .iload_n 3, 14, 0, 0), (14, .invokevirtual 85, 17, 0, 0), (17, .getfield 118, 20, 3, 5), (20, .iload_n 1, 21, 0, 0), (21, .if_icmp .ne 6, 24, 27, 0), (24, .iinc 2 1, 27, 0, 0), (27, .iinc 3 1, 30, 0, 0), (30, .goto (-26), 33, 4, 0), (33, .iload_n 2, 34, 0, 0), (34, .ireturn, 35, 0, 0)], [])
theorem ok_X6_messagesIn : g_ok M_X6_messagesIn := by
  show (m_code M_X6_messagesIn).all (g_ent M_X6_messagesIn) = true
  decide +kernel
def M_X6_agreeing : gMt := (yX6_agreeing, cX6_agreeing, 3, (some .int), { frames := 4, cells := 0, slots := 0, locals := 84 }, [(0, .iconst 0, 1, 0, 0), (1, .istore_n 1, 2, 0, 0), (2, .iconst 0, 3, 0, 0), (3, .istore_n 2, 4, 0, 0), (4, .iload_n 2, 5, 0, 0), (5, .aload_n 0, 6, 0, 0), (6, .getfield 57, 9, 6, 1), (9, .if_icmp .ge 23, 12, 32, 0), (12, .aload_n 0, 13, 0, 0), (13, .iload_n 2, 14, 0, 0), (14, .invokevirtual 85, 17, 0, 0), (17, .invokevirtual 121, 20, 0, 0), (20, .ifCond .eq 6, 23, 26, 0), (23, .iinc 1 1, 26, 0, 0), (26, .iinc 2 1, 29, 0, 0), (29, .goto (-25), 32, 4, 0), (32, .iload_n 1, 33, 0, 0), (33, .ireturn, 34, 0, 0)], [])
theorem ok_X6_agreeing : g_ok M_X6_agreeing := by
  show (m_code M_X6_agreeing).all (g_ent M_X6_agreeing) = true
  decide +kernel
def M_X6_figure : gMt := (yX6_figure, cX6_figure, 2, (some .int), { frames := 5, cells := 0, slots := 0, locals := 106 }, [(0, .iload_n 1, 1, 0, 0), (1, .tableswitch 128 0 11 #[63, 68, 73, 78, 84, 90, 95, 100, 105, 110, 115, 123], 64, 0, 0), (64, .aload_n 0, 65, 0, 0), (65, .getfield 53, 68, 6, 0), (68, .ireturn, 69, 0, 0), (69, .aload_n 0, 70, 0, 0), (70, .getfield 57, 73, 6, 1), (73, .ireturn, 74, 0, 0), (74, .aload_n 0, 75, 0, 0), (75, .getfield 60, 78, 6, 2), (78, .ireturn, 79, 0, 0), (79, .aload_n 0, 80, 0, 0), (80, .iconst 0, 81, 0, 0), (81, .invokevirtual 110, 84, 0, 0), (84, .ireturn, 85, 0, 0), (85, .aload_n 0, 86, 0, 0), (86, .iconst 2, 87, 0, 0), (87, .invokevirtual 110, 90, 0, 0), (90, .ireturn, 91, 0, 0), (91, .aload_n 0, 92, 0, 0), (92, .invokevirtual 114, 95, 0, 0), (95, .ireturn, 96, 0, 0), (96, .aload_n 0, 97, 0, 0), (97, .getfield 69, 100, 6, 5), (100, .ireturn, 101, 0, 0), (101, .aload_n 0, 102, 0, 0), (102, .getfield 72, 105, 6, 6), (105, .ireturn, 106, 0, 0), (106, .aload_n 0, 107, 0, 0), (107, .getfield 75, 110, 6, 7), (110, .ireturn, 111, 0, 0), (111, .aload_n 0, 112, 0, 0), (112, .getfield 78, 115, 6, 8), (115, .ireturn, 116, 0, 0), (116, .aload_n 0, 117, 0, 0), (117, .getfield 45, 120, 6, 15), (120, .getfield 84, 123, 4, 0), (123, .ireturn, 124, 0, 0), (124, .aload_n 0, 125, 0, 0), (125, .getfield 63, 128, 6, 3), (128, .ireturn, 129, 0, 0), (129, .aload_n 0, 130, 0, 0), (130, .getfield 66, 133, 6, 4), (133, .ireturn, 134, 0, 0)], [])
theorem ok_X6_figure : g_ok M_X6_figure := by
  show (m_code M_X6_figure).all (g_ent M_X6_figure) = true
  decide +kernel
def M_X6_isBusy : gMt := (yX6_isBusy, cX6_isBusy, 1, (some .boolean), { frames := 2, cells := 0, slots := 0, locals := 45 }, [(0, .aload_n 0, 1, 0, 0), (1, .getfield 60, 4, 6, 2), (4, .iconst (-1), 5, 0, 0), (5, .if_icmp .ne 11, 8, 16, 0), (8, .aload_n 0, 9, 0, 0), (9, .iconst 0, 10, 0, 0), (10, .invokevirtual 110, 13, 0, 0), (13, .ifCond .le 7, 16, 20, 0), (16, .iconst 1, 17, 0, 0), (17, .goto 4, 20, 21, 0), (20, .iconst 0, 21, 0, 0), (21, .ireturn, 22, 0, 0)], [])
theorem ok_X6_isBusy : g_ok M_X6_isBusy := by
  show (m_code M_X6_isBusy).all (g_ent M_X6_isBusy) = true
  decide +kernel
def M_X6_servedBefore : gMt := (yX6_servedBefore, cX6_servedBefore, 6, (some .int), { frames := 1, cells := 0, slots := 0, locals := 22 }, [(0, .aload_n 0, 1, 0, 0), (1, .iload_n 1, 2, 0, 0), (2, .invokevirtual 85, 5, 0, 0), (5, .getfield 128, 8, 3, 1), (8, .istore_n 2, 9, 0, 0), (9, .iconst 0, 10, 0, 0), (10, .istore_n 3, 11, 0, 0), (11, .iconst 0, 12, 0, 0), (12, .istore 4, 14, 0, 0), (14, .iload 4, 16, 0, 0), (16, .aload_n 0, 17, 0, 0), (17, .getfield 57, 20, 6, 1), (20, .if_icmp .ge 52, 23, 72, 0), (23, .aload_n 0, 24, 0, 0), (24, .iload 4, 26, 0, 0), (26, .invokevirtual 85, 29, 0, 0), (29, .astore 5, 31, 0, 0), (31, .aload 5, 33, 0, 0), (33, .getfield 118, 36, 3, 5), (36, .ifCond .ne 30, 39, 66, 0), (39, .aload 5, 41, 0, 0), (41, .getfield 128, 44, 3, 1), (44, .iload_n 2, 45, 0, 0), (45, .if_icmp .gt 18, 48, 63, 0), (48, .aload 5, 50, 0, 0), (50, .getfield 128, 53, 3, 1), (53, .iload_n 2, 54, 0, 0), (54, .if_icmp .ne 12, 57, 66, 0), (57, .iload 4, 59, 0, 0), (59, .iload_n 1, 60, 0, 0), (60, .if_icmp .ge 6, 63, 66, 0), (63, .iinc 3 1, 66, 0, 0), (66, .iinc 4 1, 69, 0, 0), (69, .goto (-55), 72, 14, 0), (72, .iload_n 3, 73, 0, 0), (73, .ireturn, 74, 0, 0)], [])
theorem ok_X6_servedBefore : g_ok M_X6_servedBefore := by
  show (m_code M_X6_servedBefore).all (g_ent M_X6_servedBefore) = true
  decide +kernel
def M_X6_servedAs : gMt := (yX6_servedAs, cX6_servedAs, 3, (some .int), { frames := 2, cells := 0, slots := 0, locals := 47 }, [(0, .iconst 0, 1, 0, 0), (1, .istore_n 2, 2, 0, 0), (2, .iload_n 2, 3, 0, 0), (3, .aload_n 0, 4, 0, 0), (4, .getfield 57, 7, 6, 1), (7, .if_icmp .ge 31, 10, 38, 0), (10, .aload_n 0, 11, 0, 0), (11, .iload_n 2, 12, 0, 0), (12, .invokevirtual 85, 15, 0, 0), (15, .getfield 118, 18, 3, 5), (18, .ifCond .ne 14, 21, 32, 0), (21, .aload_n 0, 22, 0, 0), (22, .iload_n 2, 23, 0, 0), (23, .invokevirtual 125, 26, 0, 0), (26, .iload_n 1, 27, 0, 0), (27, .if_icmp .ne 5, 30, 32, 0), (30, .iload_n 2, 31, 0, 0), (31, .ireturn, 32, 0, 0), (32, .iinc 2 1, 35, 0, 0), (35, .goto (-33), 38, 2, 0), (38, .iconst (-1), 39, 0, 0), (39, .ireturn, 40, 0, 0)], [])
theorem ok_X6_servedAs : g_ok M_X6_servedAs := by
  show (m_code M_X6_servedAs).all (g_ent M_X6_servedAs) = true
  decide +kernel
def M_X6_takeBack : gMt := (yX6_takeBack, cX6_takeBack, 3, (some .boolean), { frames := 2, cells := 0, slots := 0, locals := 41 }, [(0, .iload_n 1, 1, 0, 0), (1, .aload_n 0, 2, 0, 0), (2, .getfield 60, 5, 6, 2), (5, .if_icmp .ne 7, 8, 12, 0), (8, .iconst 1, 9, 0, 0), (9, .goto 4, 12, 13, 0), (12, .iconst 0, 13, 0, 0), (13, .istore_n 2, 14, 0, 0), (14, .aload_n 0, 15, 0, 0), (15, .iload_n 1, 16, 0, 0), (16, .invokevirtual 85, 19, 0, 0), (19, .iconst 3, 20, 0, 0), (20, .aload_n 0, 21, 0, 0), (21, .getfield 53, 24, 6, 0), (24, .invokevirtual 131, 27, 0, 0), (27, .iload_n 2, 28, 0, 0), (28, .ifCond .eq 22, 31, 50, 0), (31, .aload_n 0, 32, 0, 0), (32, .iconst (-1), 33, 0, 0), (33, .putfield 60, 36, 6, 2), (36, .aload_n 0, 37, 0, 0), (37, .getfield 25, 40, 6, 11), (40, .invokevirtual 134, 43, 0, 0), (43, .aload_n 0, 44, 0, 0), (44, .getfield 29, 47, 6, 12), (47, .invokevirtual 134, 50, 0, 0), (50, .iload_n 2, 51, 0, 0), (51, .ireturn, 52, 0, 0)], [])
theorem ok_X6_takeBack : g_ok M_X6_takeBack := by
  show (m_code M_X6_takeBack).all (g_ent M_X6_takeBack) = true
  decide +kernel
def M_X6_startFirstWaiting : gMt := (yX6_startFirstWaiting, cX6_startFirstWaiting, 1, none, { frames := 3, cells := 0, slots := 0, locals := 69 }, [(0, .aload_n 0, 1, 0, 0), (1, .aload_n 0, 2, 0, 0), (2, .iconst 0, 3, 0, 0), (3, .invokevirtual 153, 6, 0, 0), (6, .putfield 60, 9, 6, 2), (9, .aload_n 0, 10, 0, 0), (10, .getfield 60, 13, 6, 2), (13, .iconst (-1), 14, 0, 0), (14, .if_icmp .eq 18, 17, 32, 0), (17, .aload_n 0, 18, 0, 0), (18, .aload_n 0, 19, 0, 0), (19, .getfield 60, 22, 6, 2), (22, .invokevirtual 85, 25, 0, 0), (25, .aload_n 0, 26, 0, 0), (26, .getfield 53, 29, 6, 0), (29, .invokevirtual 156, 32, 0, 0), (32, .return_, 33, 0, 0)], [])
theorem ok_X6_startFirstWaiting : g_ok M_X6_startFirstWaiting := by
  show (m_code M_X6_startFirstWaiting).all (g_ent M_X6_startFirstWaiting) = true
  decide +kernel
def M_X6_countSymbol : gMt := (yX6_countSymbol, cX6_countSymbol, 3, none, { frames := 0, cells := 0, slots := 0, locals := 0 }, [(0, .aload_n 0, 1, 0, 0), (1, .dup, 2, 0, 0), (2, .getfield 69, 5, 6, 5), (5, .iconst 1, 6, 0, 0), (6, .iadd, 7, 0, 0), (7, .putfield 69, 10, 6, 5), (10, .iload_n 1, 11, 0, 0), (11, .ifCond .eq 13, 14, 24, 0), (14, .aload_n 0, 15, 0, 0), (15, .dup, 16, 0, 0), (16, .getfield 72, 19, 6, 6), (19, .iconst 1, 20, 0, 0), (20, .iadd, 21, 0, 0), (21, .putfield 72, 24, 6, 6), (24, .iload_n 2, 25, 0, 0), (25, .ifCond .eq 13, 28, 38, 0), (28, .aload_n 0, 29, 0, 0), (29, .dup, 30, 0, 0), (30, .getfield 75, 33, 6, 7), (33, .iconst 1, 34, 0, 0), (34, .iadd, 35, 0, 0), (35, .putfield 75, 38, 6, 7), (38, .return_, 39, 0, 0)], [])
theorem ok_X6_countSymbol : g_ok M_X6_countSymbol := by
  show (m_code M_X6_countSymbol).all (g_ent M_X6_countSymbol) = true
  decide +kernel
def M_X6_makeStep : gMt := (yX6_makeStep, cX6_makeStep, 10, none, { frames := 3, cells := 0, slots := 0, locals := 67 }, [(0, .aload_n 1, 1, 0, 0), (1, .getfield 187, 4, 0, 3), (4, .istore 5, 6, 0, 0), (6, .aload_n 2, 7, 0, 0), (7, .iload 5, 9, 0, 0), (9, .invokevirtual 190, 12, 0, 0), (12, .istore 6, 14, 0, 0), (14, .iload 4, 16, 0, 0), (16, .ifCond .eq 7, 19, 23, 0), (19, .iconst 1, 20, 0, 0), (20, .goto 4, 23, 24, 0), (23, .iconst 0, 24, 0, 0), (24, .istore 7, 26, 0, 0), (26, .aload_n 1, 27, 0, 0), (27, .getfield 193, 30, 0, 4), (30, .iload 6, 32, 0, 0), (32, .iconst 1, 33, 0, 0), (33, .iadd, 34, 0, 0), (34, .if_icmp .le 53, 37, 87, 0), (37, .iload_n 3, 38, 0, 0), (38, .ifCond .ne 16, 41, 54, 0), (41, .aload_n 1, 42, 0, 0), (42, .getfield 196, 45, 0, 9), (45, .iload 4, 47, 0, 0), (47, .if_icmp .eq 7, 50, 54, 0), (50, .iconst 1, 51, 0, 0), (51, .goto 4, 54, 55, 0), (54, .iconst 0, 55, 0, 0), (55, .istore 8, 57, 0, 0), (57, .aload_n 1, 58, 0, 0), (58, .invokevirtual 134, 61, 0, 0), (61, .aload_n 2, 62, 0, 0), (62, .iload 5, 64, 0, 0), (64, .iload 8, 66, 0, 0), (66, .aload_n 0, 67, 0, 0), (67, .getfield 66, 70, 6, 4), (70, .invokevirtual 200, 73, 0, 0), (73, .ifCond .eq 13, 76, 86, 0), (76, .aload_n 0, 77, 0, 0), (77, .dup, 78, 0, 0), (78, .getfield 78, 81, 6, 8), (81, .iconst 1, 82, 0, 0), (82, .iadd, 83, 0, 0), (83, .putfield 78, 86, 6, 8), (86, .return_, 87, 0, 0), (87, .iload_n 3, 88, 0, 0), (88, .ifCond .eq 8, 91, 96, 0), (91, .aload_n 1, 92, 0, 0), (92, .iconst 1, 93, 0, 0), (93, .putfield 204, 96, 0, 8), (96, .aload_n 1, 97, 0, 0), (97, .getfield 193, 100, 0, 4), (100, .ifCond .ne 18, 103, 118, 0), (103, .aload_n 1, 104, 0, 0), (104, .iload 5, 106, 0, 0), (106, .iload 7, 108, 0, 0), (108, .iadd, 109, 0, 0), (109, .bipush 26, 111, 0, 0), (111, .irem, 112, 0, 0), (112, .putfield 207, 115, 0, 5), (115, .goto 125, 118, 240, 0), (118, .aload_n 1, 119, 0, 0), (119, .getfield 193, 122, 0, 4), (122, .iload 6, 124, 0, 0), (124, .if_icmp .gt 77, 127, 201, 0), (127, .aload_n 2, 128, 0, 0), (128, .aload_n 2, 129, 0, 0), (129, .iload 5, 131, 0, 0), (131, .invokevirtual 210, 134, 0, 0), (134, .aload_n 1, 135, 0, 0), (135, .getfield 193, 138, 0, 4), (138, .iadd, 139, 0, 0), (139, .iconst 1, 140, 0, 0), (140, .isub, 141, 0, 0), (141, .invokevirtual 213, 144, 0, 0), (144, .istore 8, 146, 0, 0), (146, .aload_n 0, 147, 0, 0), (147, .aload_n 2, 148, 0, 0), (148, .getfield 216, 151, 3, 0), (151, .invokevirtual 219, 154, 0, 0), (154, .aload_n 0, 155, 0, 0), (155, .getfield 53, 158, 6, 0), (158, .invokevirtual 223, 161, 0, 0), (161, .aload_n 0, 162, 0, 0), (162, .iconst 1, 163, 0, 0), (163, .aload_n 2, 164, 0, 0), (164, .getfield 216, 167, 3, 0), (167, .isub, 168, 0, 0), (168, .invokevirtual 219, 171, 0, 0), (171, .aload_n 0, 172, 0, 0), (172, .getfield 53, 175, 6, 0), (175, .invokevirtual 223, 178, 0, 0), (178, .isub, 179, 0, 0), (179, .istore 9, 181, 0, 0), (181, .aload_n 1, 182, 0, 0), (182, .iload 8, 184, 0, 0), (184, .iload 9, 186, 0, 0), (186, .iadd, 187, 0, 0), (187, .iload 7, 189, 0, 0), (189, .iadd, 190, 0, 0), (190, .bipush 26, 192, 0, 0), (192, .invokestatic 226, 195, 0, 0), (195, .invokevirtual 232, 198, 0, 0), (198, .goto 42, 201, 240, 0), (201, .aload_n 1, 202, 0, 0), (202, .iload 6, 204, 0, 0), (204, .aload_n 2, 205, 0, 0), (205, .iload 5, 207, 0, 0), (207, .invokevirtual 235, 210, 0, 0), (210, .iload 7, 212, 0, 0), (212, .iadd, 213, 0, 0), (213, .bipush 26, 215, 0, 0), (215, .irem, 216, 0, 0), (216, .invokevirtual 238, 219, 0, 0), (219, .aload_n 1, 220, 0, 0), (220, .getfield 196, 223, 0, 9), (223, .ifCond .eq 17, 226, 240, 0), (226, .aload_n 2, 227, 0, 0), (227, .aload_n 1, 228, 0, 0), (228, .getfield 207, 231, 0, 5), (231, .aload_n 1, 232, 0, 0), (232, .getfield 241, 235, 0, 7), (235, .iload 6, 237, 0, 0), (237, .invokevirtual 245, 240, 0, 0), (240, .aload_n 1, 241, 0, 0), (241, .dup, 242, 0, 0), (242, .getfield 193, 245, 0, 4), (245, .iconst 1, 246, 0, 0), (246, .iadd, 247, 0, 0), (247, .putfield 193, 250, 0, 4), (250, .return_, 251, 0, 0)], [])
theorem ok_X6_makeStep : g_ok M_X6_makeStep := by
  show (m_code M_X6_makeStep).all (g_ent M_X6_makeStep) = true
  decide +kernel
def M_X6_serve : gMt := (yX6_serve, cX6_serve, 6, none, { frames := 4, cells := 0, slots := 0, locals := 96 }, [(0, .aload_n 0, 1, 0, 0), (1, .getfield 60, 4, 6, 2), (4, .iconst (-1), 5, 0, 0), (5, .if_icmp .eq 14, 8, 19, 0), (8, .aload_n 1, 9, 0, 0), (9, .aload_n 0, 10, 0, 0), (10, .getfield 53, 13, 6, 0), (13, .invokevirtual 160, 16, 0, 0), (16, .ifCond .ne 4, 19, 20, 0), (19, .return_, 20, 0, 0), (20, .aload_n 0, 21, 0, 0), (21, .aload_n 0, 22, 0, 0), (22, .getfield 60, 25, 6, 2), (25, .invokevirtual 85, 28, 0, 0), (28, .astore_n 3, 29, 0, 0), (29, .aload_n 1, 30, 0, 0), (30, .invokevirtual 164, 33, 0, 0), (33, .ifCond .eq 11, 36, 44, 0), (36, .aload_n 1, 37, 0, 0), (37, .aload_n 3, 38, 0, 0), (38, .invokevirtual 167, 41, 0, 0), (41, .invokevirtual 170, 44, 0, 0), (44, .aload_n 1, 45, 0, 0), (45, .invokevirtual 164, 48, 0, 0), (48, .ifCond .eq 4, 51, 52, 0), (51, .return_, 52, 0, 0), (52, .iload_n 2, 53, 0, 0), (53, .aload_n 1, 54, 0, 0), (54, .getfield 173, 57, 0, 0), (57, .if_icmp .le 7, 60, 64, 0), (60, .iconst 1, 61, 0, 0), (61, .goto 4, 64, 65, 0), (64, .iconst 0, 65, 0, 0), (65, .istore 4, 67, 0, 0), (67, .iload_n 2, 68, 0, 0), (68, .aload_n 1, 69, 0, 0), (69, .getfield 173, 72, 0, 0), (72, .if_icmp .ne 7, 75, 79, 0), (75, .iconst 1, 76, 0, 0), (76, .goto 4, 79, 80, 0), (79, .iconst 0, 80, 0, 0), (80, .istore 5, 82, 0, 0), (82, .aload_n 0, 83, 0, 0), (83, .iload 4, 85, 0, 0), (85, .iload 5, 87, 0, 0), (87, .invokevirtual 176, 90, 0, 0), (90, .aload_n 0, 91, 0, 0), (91, .aload_n 1, 92, 0, 0), (92, .aload_n 3, 93, 0, 0), (93, .iload 4, 95, 0, 0), (95, .iload 5, 97, 0, 0), (97, .invokevirtual 180, 100, 0, 0), (100, .aload_n 3, 101, 0, 0), (101, .getfield 184, 104, 3, 8), (104, .ifCond .ne 17, 107, 121, 0), (107, .aload_n 3, 108, 0, 0), (108, .iconst 2, 109, 0, 0), (109, .aload_n 0, 110, 0, 0), (110, .getfield 53, 113, 6, 0), (113, .invokevirtual 131, 116, 0, 0), (116, .aload_n 0, 117, 0, 0), (117, .iconst (-1), 118, 0, 0), (118, .putfield 60, 121, 6, 2), (121, .return_, 122, 0, 0)], [])
theorem ok_X6_serve : g_ok M_X6_serve := by
  show (m_code M_X6_serve).all (g_ent M_X6_serve) = true
  decide +kernel
def M_X6_letTickPass : gMt := (yX6_letTickPass, cX6_letTickPass, 3, (some .int), { frames := 5, cells := 0, slots := 0, locals := 121 }, [(0, .aload_n 0, 1, 0, 0), (1, .getfield 60, 4, 6, 2), (4, .iconst (-1), 5, 0, 0), (5, .if_icmp .ne 7, 8, 12, 0), (8, .aload_n 0, 9, 0, 0), (9, .invokevirtual 143, 12, 0, 0), (12, .aload_n 0, 13, 0, 0), (13, .getfield 60, 16, 6, 2), (16, .istore_n 1, 17, 0, 0), (17, .iload_n 1, 18, 0, 0), (18, .iconst (-1), 19, 0, 0), (19, .if_icmp .eq 33, 22, 52, 0), (22, .aload_n 0, 23, 0, 0), (23, .getfield 45, 26, 6, 15), (26, .aload_n 0, 27, 0, 0), (27, .getfield 53, 30, 6, 0), (30, .invokevirtual 146, 33, 0, 0), (33, .istore_n 2, 34, 0, 0), (34, .aload_n 0, 35, 0, 0), (35, .aload_n 0, 36, 0, 0), (36, .getfield 25, 39, 6, 11), (39, .iload_n 2, 40, 0, 0), (40, .invokevirtual 149, 43, 0, 0), (43, .aload_n 0, 44, 0, 0), (44, .aload_n 0, 45, 0, 0), (45, .getfield 29, 48, 6, 12), (48, .iload_n 2, 49, 0, 0), (49, .invokevirtual 149, 52, 0, 0), (52, .aload_n 0, 53, 0, 0), (53, .dup, 54, 0, 0), (54, .getfield 53, 57, 6, 0), (57, .iconst 1, 58, 0, 0), (58, .iadd, 59, 0, 0), (59, .putfield 53, 62, 6, 0), (62, .aload_n 0, 63, 0, 0), (63, .getfield 60, 66, 6, 2), (66, .iconst (-1), 67, 0, 0), (67, .if_icmp .ne 7, 70, 74, 0), (70, .iload_n 1, 71, 0, 0), (71, .goto 4, 74, 75, 0), (74, .iconst (-1), 75, 0, 0), (75, .ireturn, 76, 0, 0)], [])
theorem ok_X6_letTickPass : g_ok M_X6_letTickPass := by
  show (m_code M_X6_letTickPass).all (g_ent M_X6_letTickPass) = true
  decide +kernel
def M_X6_letForetoldTicksPass : gMt := (yX6_letForetoldTicksPass, cX6_letForetoldTicksPass, 4, (some .boolean), { frames := 6, cells := 0, slots := 0, locals := 143 }, [(0, .iconst 0, 1, 0, 0), (1, .istore_n 2, 2, 0, 0), (2, .iload_n 2, 3, 0, 0), (3, .sipush 1000, 6, 0, 0), (6, .if_icmp .ge 43, 9, 49, 0), (9, .aload_n 0, 10, 0, 0), (10, .invokevirtual 137, 13, 0, 0), (13, .ifCond .eq 36, 16, 49, 0), (16, .aload_n 0, 17, 0, 0), (17, .invokevirtual 140, 20, 0, 0), (20, .istore_n 3, 21, 0, 0), (21, .iload_n 1, 22, 0, 0), (22, .ifCond .eq 21, 25, 43, 0), (25, .iload_n 3, 26, 0, 0), (26, .iconst (-1), 27, 0, 0), (27, .if_icmp .eq 16, 30, 43, 0), (30, .aload_n 0, 31, 0, 0), (31, .iload_n 3, 32, 0, 0), (32, .invokevirtual 85, 35, 0, 0), (35, .invokevirtual 121, 38, 0, 0), (38, .ifCond .ne 5, 41, 43, 0), (41, .iconst 0, 42, 0, 0), (42, .ireturn, 43, 0, 0), (43, .iinc 2 1, 46, 0, 0), (46, .goto (-44), 49, 2, 0), (49, .aload_n 0, 50, 0, 0), (50, .invokevirtual 137, 53, 0, 0), (53, .ifCond .ne 7, 56, 60, 0), (56, .iconst 1, 57, 0, 0), (57, .goto 4, 60, 61, 0), (60, .iconst 0, 61, 0, 0), (61, .ireturn, 62, 0, 0)], [])
theorem ok_X6_letForetoldTicksPass : g_ok M_X6_letForetoldTicksPass := by
  show (m_code M_X6_letForetoldTicksPass).all (g_ent M_X6_letForetoldTicksPass) = true
  decide +kernel
def M_X1_keptAt : gMt := (yX1_keptAt, cX1_keptAt, 2, (some (.object "LampRelay$World")), { frames := 0, cells := 0, slots := 0, locals := 0 }, [(0, .iload_n 1, 1, 0, 0), (1, .ifCond .lt 21, 4, 22, 0), (4, .iload_n 1, 5, 0, 0), (5, .aload_n 0, 6, 0, 0), (6, .getfield 11, 9, 1, 0), (9, .arraylength, 10, 0, 0), (10, .if_icmp .ge 12, 13, 22, 0), (13, .aload_n 0, 14, 0, 0), (14, .getfield 11, 17, 1, 0), (17, .iload_n 1, 18, 0, 0), (18, .aaload, 19, 0, 0), (19, .goto 4, 22, 23, 0), (22, .aconst_null, 23, 0, 0), (23, .areturn, 24, 0, 0)], [])
theorem ok_X1_keptAt : g_ok M_X1_keptAt := by
  show (m_code M_X1_keptAt).all (g_ent M_X1_keptAt) = true
  decide +kernel
def M_X1_keep : gMt := (yX1_keep, cX1_keep, 3, none, { frames := 4, cells := 0, slots := 0, locals := 112 }, [(0, .aload_n 0, 1, 0, 0), (1, .aload_n 0, 2, 0, 0), (2, .getfield 17, 5, 1, 1), (5, .invokevirtual 25, 8, 0, 0), (8, .astore_n 2, 9, 0, 0), (9, .aload_n 2, 10, 0, 0), (10, .ifnull 36, 13, 46, 0), (13, .aload_n 2, 14, 0, 0), (14, .aload_n 1, 15, 0, 0), (15, .invokevirtual 29, 18, 0, 0), (18, .aload_n 0, 19, 0, 0), (19, .aload_n 0, 20, 0, 0), (20, .getfield 17, 23, 1, 1), (23, .iconst 1, 24, 0, 0), (24, .iadd, 25, 0, 0), (25, .bipush 8, 27, 0, 0), (27, .irem, 28, 0, 0), (28, .putfield 17, 31, 1, 1), (31, .aload_n 0, 32, 0, 0), (32, .aload_n 0, 33, 0, 0), (33, .getfield 21, 36, 1, 2), (36, .iconst 1, 37, 0, 0), (37, .iadd, 38, 0, 0), (38, .bipush 8, 40, 0, 0), (40, .invokestatic 33, 43, 0, 0), (43, .putfield 21, 46, 1, 2), (46, .return_, 47, 0, 0)], [])
theorem ok_X1_keep : g_ok M_X1_keep := by
  show (m_code M_X1_keep).all (g_ent M_X1_keep) = true
  decide +kernel
def M_X1_restore : gMt := (yX1_restore, cX1_restore, 4, (some .boolean), { frames := 4, cells := 0, slots := 0, locals := 112 }, [(0, .aload_n 0, 1, 0, 0), (1, .getfield 17, 4, 1, 1), (4, .bipush 8, 6, 0, 0), (6, .iadd, 7, 0, 0), (7, .iconst 1, 8, 0, 0), (8, .isub, 9, 0, 0), (9, .bipush 8, 11, 0, 0), (11, .irem, 12, 0, 0), (12, .istore_n 2, 13, 0, 0), (13, .aload_n 0, 14, 0, 0), (14, .iload_n 2, 15, 0, 0), (15, .invokevirtual 25, 18, 0, 0), (18, .astore_n 3, 19, 0, 0), (19, .aload_n 0, 20, 0, 0), (20, .getfield 21, 23, 1, 2), (23, .ifCond .eq 7, 26, 30, 0), (26, .aload_n 3, 27, 0, 0), (27, .ifnonnull 5, 30, 32, 0), (30, .iconst 0, 31, 0, 0), (31, .ireturn, 32, 0, 0), (32, .aload_n 1, 33, 0, 0), (33, .aload_n 3, 34, 0, 0), (34, .invokevirtual 29, 37, 0, 0), (37, .aload_n 0, 38, 0, 0), (38, .iload_n 2, 39, 0, 0), (39, .putfield 17, 42, 1, 1), (42, .aload_n 0, 43, 0, 0), (43, .dup, 44, 0, 0), (44, .getfield 21, 47, 1, 2), (47, .iconst 1, 48, 0, 0), (48, .isub, 49, 0, 0), (49, .putfield 21, 52, 1, 2), (52, .iconst 1, 53, 0, 0), (53, .ireturn, 54, 0, 0)], [])
theorem ok_X1_restore : g_ok M_X1_restore := by
  show (m_code M_X1_restore).all (g_ent M_X1_restore) = true
  decide +kernel
end
section
def f_X7_valueAt (h : gH) (p0 : Nat) (p1 : Int32) : Option (Int32) :=
  (if 0 ≤ p1 then
    (g_aln h p0).bind fun v6 =>
    (if p1 < v6 then
      (g_ald h p0 p1).bind fun v12 =>
      some v12
    else
      some 0)
  else
    some 0)
set_option maxRecDepth 100000 in
theorem ct_X7_valueAt {l : Launch} {G : gG} {h : gH} {p0 : Nat} {p1 : Int32} {r : Int32} (e : f_X7_valueAt h p0 p1 = some r) : Ct l G M_X7_valueAt [.ref p0, .int p1] h (some (.int r)) h := by
  refine Ct_of (L := [some (.ref p0), some (.int p1)]) ok_X7_valueAt (by decide +kernel) rfl rfl rfl (ρ := (g_rI h)) (F := f_X7_valueAt h p0 p1) ?_ e rfl
  unfold f_X7_valueAt
  refine X_iload_n rfl rfl rfl ?_
  refine X_bif_lt rfl rfl (fun _ => ?_) (fun _ => ?_)
  · refine X_iload_n rfl rfl rfl ?_
    refine X_aload_n rfl rfl rfl ?_
    refine X_aln rfl rfl (fun v6 => ?_)
    refine X_bicmp_ge rfl rfl (fun _ => ?_) (fun _ => ?_)
    · refine X_aload_n rfl rfl rfl ?_
      refine X_iload_n rfl rfl rfl ?_
      refine X_ald rfl rfl (fun v12 => ?_)
      refine X_goto rfl rfl ?_
      exact X_iret rfl rfl rfl rfl rfl rfl rfl
    · refine X_iconst (v := 0) rfl rfl (by decide) ?_
      exact X_iret rfl rfl rfl rfl rfl rfl rfl
  · refine X_iconst (v := 0) rfl rfl (by decide) ?_
    exact X_iret rfl rfl rfl rfl rfl rfl rfl
def f_X7_setAt (h : gH) (p0 : Nat) (p1 : Int32) (p2 : Int32) : Option gH :=
  (if 0 ≤ p1 then
    (g_aln h p0).bind fun v6 =>
    (if p1 < v6 then
      (g_ast h p0 p1 p2).bind fun h13 =>
      some h13
    else
      some h)
  else
    some h)
set_option maxRecDepth 100000 in
theorem ct_X7_setAt {l : Launch} {G : gG} {h : gH} {p0 : Nat} {p1 : Int32} {p2 : Int32} {h1 : gH} (e : f_X7_setAt h p0 p1 p2 = some h1) : Ct l G M_X7_setAt [.ref p0, .int p1, .int p2] h none h1 := by
  refine Ct_of (L := [some (.ref p0), some (.int p1), some (.int p2)]) ok_X7_setAt (by decide +kernel) rfl rfl rfl (ρ := g_wU) (F := f_X7_setAt h p0 p1 p2) ?_ e rfl
  unfold f_X7_setAt
  refine X_iload_n rfl rfl rfl ?_
  refine X_bif_lt rfl rfl (fun _ => ?_) (fun _ => ?_)
  · refine X_iload_n rfl rfl rfl ?_
    refine X_aload_n rfl rfl rfl ?_
    refine X_aln rfl rfl (fun v6 => ?_)
    refine X_bicmp_ge rfl rfl (fun _ => ?_) (fun _ => ?_)
    · refine X_aload_n rfl rfl rfl ?_
      refine X_iload_n rfl rfl rfl ?_
      refine X_iload_n rfl rfl rfl ?_
      refine X_ast rfl rfl (fun h13 => ?_)
      exact X_vret rfl rfl rfl rfl rfl rfl
    · exact X_vret rfl rfl rfl rfl rfl rfl
  · exact X_vret rfl rfl rfl rfl rfl rfl
def f_X7_isWithin (p0 : Int32) (p1 : Int32) (p2 : Int32) : Int32 :=
  (if p1 ≤ p0 then
    (if p0 ≤ p2 then
      1
    else
      0)
  else
    0)
set_option maxRecDepth 100000 in
theorem ct_X7_isWithin {l : Launch} {G : gG} {h : gH} {p0 : Int32} {p1 : Int32} {p2 : Int32} : Ct l G M_X7_isWithin [.int p0, .int p1, .int p2] h (some (.int (f_X7_isWithin p0 p1 p2))) h := by
  refine Ct_of (L := [some (.int p0), some (.int p1), some (.int p2)]) ok_X7_isWithin (by decide +kernel) rfl rfl rfl (ρ := (g_rI h)) (F := some (f_X7_isWithin p0 p1 p2)) ?_ rfl rfl
  unfold f_X7_isWithin
  refine X_iload_n rfl rfl rfl ?_
  refine X_iload_n rfl rfl rfl ?_
  refine X_bPicmp_lt rfl rfl (fun _ => ?_) (fun _ => ?_)
  · refine X_iload_n rfl rfl rfl ?_
    refine X_iload_n rfl rfl rfl ?_
    refine X_bPicmp_gt rfl rfl (fun _ => ?_) (fun _ => ?_)
    · refine X_iconst (v := 1) rfl rfl (by decide) ?_
      refine X_goto rfl rfl ?_
      exact X_iret rfl rfl rfl rfl rfl rfl rfl
    · refine X_iconst (v := 0) rfl rfl (by decide) ?_
      exact X_iret rfl rfl rfl rfl rfl rfl rfl
  · refine X_iconst (v := 0) rfl rfl (by decide) ?_
    exact X_iret rfl rfl rfl rfl rfl rfl rfl
def f_J9_floorMod_7cf53 (h : gH) (p0 : Int32) (p1 : Int32) : Option (Int32) :=
  if p1 = 0 then none else
  (if (p0 ^^^ p1) < 0 then
    (if (g_rem p0 p1) = 0 then
      some (g_rem p0 p1)
    else
      some ((g_rem p0 p1) + p1))
  else
    some (g_rem p0 p1))
set_option maxRecDepth 100000 in
theorem ct_J9_floorMod_7cf53 {l : Launch} {G : gG} {h : gH} {p0 : Int32} {p1 : Int32} {r : Int32} (e : f_J9_floorMod_7cf53 h p0 p1 = some r) : Ct l G M_J9_floorMod_7cf53 [.int p0, .int p1] h (some (.int r)) h := by
  refine Ct_of (L := [some (.int p0), some (.int p1), none]) ok_J9_floorMod_7cf53 (by decide +kernel) rfl rfl rfl (ρ := (g_rI h)) (F := f_J9_floorMod_7cf53 h p0 p1) ?_ e rfl
  unfold f_J9_floorMod_7cf53
  refine X_iload_n rfl rfl rfl ?_
  refine X_iload_n rfl rfl rfl ?_
  refine X_if (fun _ => X_none) (fun hz => ?_)
  refine X_irem (v := g_rem p0 p1) rfl rfl rfl hz ?_
  refine X_istore_n rfl rfl rfl rfl ?_
  refine X_iload_n rfl rfl rfl ?_
  refine X_iload_n rfl rfl rfl ?_
  refine X_ixor rfl rfl ?_
  refine X_bif_ge rfl rfl (fun _ => ?_) (fun _ => ?_)
  · refine X_iload_n rfl rfl rfl ?_
    refine X_bif_eq rfl rfl (fun _ => ?_) (fun _ => ?_)
    · refine X_iload_n rfl rfl rfl ?_
      exact X_iret rfl rfl rfl rfl rfl rfl rfl
    · refine X_iload_n rfl rfl rfl ?_
      refine X_iload_n rfl rfl rfl ?_
      refine X_iadd rfl rfl ?_
      exact X_iret rfl rfl rfl rfl rfl rfl rfl
  · refine X_iload_n rfl rfl rfl ?_
    exact X_iret rfl rfl rfl rfl rfl rfl rfl
def f_X7_copyRow (h : gH) (p0 : Nat) (p1 : Nat) : Option gH :=
  (g_aln h p0).bind fun v5 =>
  (g_aln h p1).bind fun v7 =>
  (g_cpy h p0 0 p1 0 (g_min v5 v7)).bind fun h11 =>
  some h11
set_option maxRecDepth 100000 in
theorem ct_X7_copyRow {l : Launch} {G : gG} {h : gH} {p0 : Nat} {p1 : Nat} {h1 : gH} (e : f_X7_copyRow h p0 p1 = some h1) : Ct l G M_X7_copyRow [.ref p0, .ref p1] h none h1 := by
  refine Ct_of (L := [some (.ref p0), some (.ref p1)]) ok_X7_copyRow (by decide +kernel) rfl rfl rfl (ρ := g_wU) (F := f_X7_copyRow h p0 p1) ?_ e rfl
  unfold f_X7_copyRow
  refine X_aload_n rfl rfl rfl ?_
  refine X_iconst (v := 0) rfl rfl (by decide) ?_
  refine X_aload_n rfl rfl rfl ?_
  refine X_iconst (v := 0) rfl rfl (by decide) ?_
  refine X_aload_n rfl rfl rfl ?_
  refine X_aln rfl rfl (fun v5 => ?_)
  refine X_aload_n rfl rfl rfl ?_
  refine X_aln rfl rfl (fun v7 => ?_)
  refine X_mmin rfl rfl (by decide +kernel) (by decide +kernel) (by decide +kernel) (by decide +kernel) rfl rfl rfl rfl ?_
  refine X_copy rfl rfl (by decide +kernel) (by decide +kernel) (by decide +kernel) (by decide +kernel) rfl (by decide) (fun h11 => ?_)
  exact X_vret rfl rfl rfl rfl rfl rfl
def f_X4_copyFrom (h : gH) (a0 : Nat) (p1 : Nat) : Option gH :=
  (g_gI h p1 4 0).bind fun v2 =>
  (g_put h a0 4 0 (.int v2)).bind fun h5 =>
  (g_gA h5 p1 4 1).bind fun v9 =>
  (g_gA h5 a0 4 1).bind fun v13 =>
  (f_X7_copyRow h5 v9 v13).bind fun h16 =>
  (g_gA h16 p1 4 2).bind fun v20 =>
  (g_gA h16 a0 4 2).bind fun v24 =>
  (f_X7_copyRow h16 v20 v24).bind fun h27 =>
  (g_gA h27 p1 4 3).bind fun v31 =>
  (g_gA h27 a0 4 3).bind fun v35 =>
  (f_X7_copyRow h27 v31 v35).bind fun h38 =>
  some h38
set_option maxRecDepth 100000 in
theorem ct_X4_copyFrom {l : Launch} {G : gG} {h : gH} {a0 : Nat} {p1 : Nat} {h1 : gH} (e : f_X4_copyFrom h a0 p1 = some h1) : Ct l G M_X4_copyFrom [.ref a0, .ref p1] h none h1 := by
  refine Ct_of (L := [some (.ref a0), some (.ref p1)]) ok_X4_copyFrom (by decide +kernel) rfl rfl rfl (ρ := g_wU) (F := f_X4_copyFrom h a0 p1) ?_ e rfl
  unfold f_X4_copyFrom
  refine X_aload_n rfl rfl rfl ?_
  refine X_aload_n rfl rfl rfl ?_
  refine X_getI rfl rfl (fun v2 => ?_)
  refine X_put rfl rfl rfl rfl rfl (fun h5 => ?_)
  refine X_aload_n rfl rfl rfl ?_
  refine X_getA rfl rfl (fun v9 => ?_)
  refine X_aload_n rfl rfl rfl ?_
  refine X_getA rfl rfl (fun v13 => ?_)
  refine X_callSN_UW (M' := M_X7_copyRow) (nA := 2) (As := [.ref v9, .ref v13]) (st := []) rfl rfl (by decide +kernel) rfl rfl rfl rfl rfl rfl rfl (fun _ e => ct_X7_copyRow e) (fun h16 => ?_)
  refine X_aload_n rfl rfl rfl ?_
  refine X_getA rfl rfl (fun v20 => ?_)
  refine X_aload_n rfl rfl rfl ?_
  refine X_getA rfl rfl (fun v24 => ?_)
  refine X_callSN_UW (M' := M_X7_copyRow) (nA := 2) (As := [.ref v20, .ref v24]) (st := []) rfl rfl (by decide +kernel) rfl rfl rfl rfl rfl rfl rfl (fun _ e => ct_X7_copyRow e) (fun h27 => ?_)
  refine X_aload_n rfl rfl rfl ?_
  refine X_getA rfl rfl (fun v31 => ?_)
  refine X_aload_n rfl rfl rfl ?_
  refine X_getA rfl rfl (fun v35 => ?_)
  refine X_callSN_UW (M' := M_X7_copyRow) (nA := 2) (As := [.ref v31, .ref v35]) (st := []) rfl rfl (by decide +kernel) rfl rfl rfl rfl rfl rfl rfl (fun _ e => ct_X7_copyRow e) (fun h38 => ?_)
  exact X_vret rfl rfl rfl rfl rfl rfl
def f_X4_isFull (h : gH) (a0 : Nat) : Option (Int32) :=
  (g_gI h a0 4 0).bind fun v1 =>
  (if 12 ≤ v1 then
    some 1
  else
    some 0)
set_option maxRecDepth 100000 in
theorem ct_X4_isFull {l : Launch} {G : gG} {h : gH} {a0 : Nat} {r : Int32} (e : f_X4_isFull h a0 = some r) : Ct l G M_X4_isFull [.ref a0] h (some (.int r)) h := by
  refine Ct_of (L := [some (.ref a0)]) ok_X4_isFull (by decide +kernel) rfl rfl rfl (ρ := (g_rI h)) (F := f_X4_isFull h a0) ?_ e rfl
  unfold f_X4_isFull
  refine X_aload_n rfl rfl rfl ?_
  refine X_getI rfl rfl (fun v1 => ?_)
  refine X_bipush (v := 12) rfl rfl (by decide) ?_
  refine X_bicmp_lt rfl rfl (fun _ => ?_) (fun _ => ?_)
  · refine X_iconst (v := 1) rfl rfl (by decide) ?_
    refine X_goto rfl rfl ?_
    exact X_iret rfl rfl rfl rfl rfl rfl rfl
  · refine X_iconst (v := 0) rfl rfl (by decide) ?_
    exact X_iret rfl rfl rfl rfl rfl rfl rfl
def f_X4_add (h : gH) (a0 : Nat) (p1 : Int32) (p2 : Int32) (p3 : Int32) : Option gH :=
  bif g_is h a0 4 then
  (f_X4_isFull h a0).bind fun v1 =>
  (if v1 = 0 then
    (g_gA h a0 4 1).bind fun v9 =>
    (g_gI h a0 4 0).bind fun v13 =>
    (f_X7_setAt h v9 v13 p1).bind fun h17 =>
    (g_gA h17 a0 4 2).bind fun v21 =>
    (g_gI h17 a0 4 0).bind fun v25 =>
    (f_X7_setAt h17 v21 v25 p2).bind fun h29 =>
    (g_gA h29 a0 4 3).bind fun v33 =>
    (g_gI h29 a0 4 0).bind fun v37 =>
    (f_X7_setAt h29 v33 v37 p3).bind fun h41 =>
    (g_gI h41 a0 4 0).bind fun v46 =>
    (g_put h41 a0 4 0 (.int (v46 + 1))).bind fun h51 =>
    some h51
  else
    some h)
  else none
set_option maxRecDepth 100000 in
theorem ct_X4_add {l : Launch} {G : gG} {h : gH} {a0 : Nat} {p1 : Int32} {p2 : Int32} {p3 : Int32} {h1 : gH} (e : f_X4_add h a0 p1 p2 p3 = some h1) : Ct l G M_X4_add [.ref a0, .int p1, .int p2, .int p3] h none h1 := by
  refine Ct_of (L := [some (.ref a0), some (.int p1), some (.int p2), some (.int p3)]) ok_X4_add (by decide +kernel) rfl rfl rfl (ρ := g_wU) (F := f_X4_add h a0 p1 p2 p3) ?_ e rfl
  unfold f_X4_add
  refine X_aload_n rfl rfl rfl ?_
  refine X_callV_IR (M' := M_X4_isFull) (nA := 0) (As := []) (st := []) (b := a0) (ci := 4) rfl rfl (by decide +kernel) rfl rfl rfl rfl rfl rfl rfl rfl (fun _ e => ct_X4_isFull e) (fun v1 => ?_)
  refine X_bif_eq rfl rfl (fun _ => ?_) (fun _ => ?_)
  · refine X_aload_n rfl rfl rfl ?_
    refine X_getA rfl rfl (fun v9 => ?_)
    refine X_aload_n rfl rfl rfl ?_
    refine X_getI rfl rfl (fun v13 => ?_)
    refine X_iload_n rfl rfl rfl ?_
    refine X_callSN_UW (M' := M_X7_setAt) (nA := 3) (As := [.ref v9, .int v13, .int p1]) (st := []) rfl rfl (by decide +kernel) rfl rfl rfl rfl rfl rfl rfl (fun _ e => ct_X7_setAt e) (fun h17 => ?_)
    refine X_aload_n rfl rfl rfl ?_
    refine X_getA rfl rfl (fun v21 => ?_)
    refine X_aload_n rfl rfl rfl ?_
    refine X_getI rfl rfl (fun v25 => ?_)
    refine X_iload_n rfl rfl rfl ?_
    refine X_callSN_UW (M' := M_X7_setAt) (nA := 3) (As := [.ref v21, .int v25, .int p2]) (st := []) rfl rfl (by decide +kernel) rfl rfl rfl rfl rfl rfl rfl (fun _ e => ct_X7_setAt e) (fun h29 => ?_)
    refine X_aload_n rfl rfl rfl ?_
    refine X_getA rfl rfl (fun v33 => ?_)
    refine X_aload_n rfl rfl rfl ?_
    refine X_getI rfl rfl (fun v37 => ?_)
    refine X_iload_n rfl rfl rfl ?_
    refine X_callSN_UW (M' := M_X7_setAt) (nA := 3) (As := [.ref v33, .int v37, .int p3]) (st := []) rfl rfl (by decide +kernel) rfl rfl rfl rfl rfl rfl rfl (fun _ e => ct_X7_setAt e) (fun h41 => ?_)
    refine X_aload_n rfl rfl rfl ?_
    refine X_dup rfl rfl rfl ?_
    refine X_getI rfl rfl (fun v46 => ?_)
    refine X_iconst (v := 1) rfl rfl (by decide) ?_
    refine X_iadd rfl rfl ?_
    refine X_put rfl rfl rfl rfl rfl (fun h51 => ?_)
    exact X_vret rfl rfl rfl rfl rfl rfl
  · exact X_vret rfl rfl rfl rfl rfl rfl
def f_X4_levelAt_b44 (h : gH) (K7 : Nat → Int32 → Int32 → Option (Int32)) (l0 : Nat) (l1 : Int32) (l2 : Int32) : Option (Int32) :=
  K7 l0 l1 (l2 + (-1))
def f_X4_levelAt_b7 (h : gH) : Nat → Nat → Int32 → Int32 → Option (Int32)
  | 0, _, _, _ => none
  | n + 1, l0, l1, l2 =>
    (if 0 ≤ l2 then
      (g_gA h l0 4 1).bind fun v13 =>
      (f_X7_valueAt h v13 l2).bind fun v17 =>
      (if v17 ≤ l1 then
        (g_gA h l0 4 2).bind fun v25 =>
        (f_X7_valueAt h v25 l2).bind fun v29 =>
        (if l1 ≤ v29 then
          (g_gA h l0 4 3).bind fun v36 =>
          (f_X7_valueAt h v36 l2).bind fun v40 =>
          some v40
        else
          f_X4_levelAt_b44 h (f_X4_levelAt_b7 h n) l0 l1 l2)
      else
        f_X4_levelAt_b44 h (f_X4_levelAt_b7 h n) l0 l1 l2)
    else
      some 0)
def f_X4_levelAt (h : gH) (a0 : Nat) (p1 : Int32) : Option (Int32) :=
  (g_gI h a0 4 0).bind fun v1 =>
  f_X4_levelAt_b7 h g_N a0 p1 (v1 - 1)
set_option maxRecDepth 100000 in
theorem b_X4_levelAt_b44 {l : Launch} {G : gG} {h : gH} {K7 : Nat → Int32 → Int32 → Option (Int32)} (hK7 : ∀ (l0 : Nat) (l1 : Int32) (l2 : Int32), GX l G M_X4_levelAt (g_phi G (g_rI h) (m_R M_X4_levelAt).cells (m_R M_X4_levelAt).slots) 0 0 7 [some (.ref l0), some (.int l1), some (.int l2)] [] h (K7 l0 l1 l2)) (l0 : Nat) (l1 : Int32) (l2 : Int32) : GX l G M_X4_levelAt (g_phi G (g_rI h) (m_R M_X4_levelAt).cells (m_R M_X4_levelAt).slots) 0 0 44 [some (.ref l0), some (.int l1), some (.int l2)] [] h (f_X4_levelAt_b44 h K7 l0 l1 l2) := by
  unfold f_X4_levelAt_b44
  refine X_iinc (v := l2 + (-1)) rfl rfl rfl (congrArg (fun z => l2 + z) (by decide : Int32.ofInt (-1) = (-1))) rfl ?_
  refine X_goto rfl rfl ?_
  exact X_sub (g_sub_s (g_sub_s (g_sub_s g_sub_0))) (hK7 _ _ _)
set_option maxRecDepth 100000 in
theorem b_X4_levelAt_b7 {l : Launch} {G : gG} {h : gH} : ∀ (n : Nat) (l0 : Nat) (l1 : Int32) (l2 : Int32), GX l G M_X4_levelAt (g_phi G (g_rI h) (m_R M_X4_levelAt).cells (m_R M_X4_levelAt).slots) 0 0 7 [some (.ref l0), some (.int l1), some (.int l2)] [] h (f_X4_levelAt_b7 h n l0 l1 l2) := by
  intro n
  induction n with
  | zero => intros; exact X_none
  | succ n ih =>
    intro l0 l1 l2
    rw [f_X4_levelAt_b7]
    refine X_iload_n rfl rfl rfl ?_
    refine X_bif_lt rfl rfl (fun _ => ?_) (fun _ => ?_)
    · refine X_iload_n rfl rfl rfl ?_
      refine X_aload_n rfl rfl rfl ?_
      refine X_getA rfl rfl (fun v13 => ?_)
      refine X_iload_n rfl rfl rfl ?_
      refine X_callSN_IR (M' := M_X7_valueAt) (nA := 2) (As := [.ref v13, .int l2]) (st := [.int l1]) rfl rfl (by decide +kernel) rfl rfl rfl rfl rfl rfl rfl (fun _ e => ct_X7_valueAt e) (fun v17 => ?_)
      refine X_bicmp_lt rfl rfl (fun _ => ?_) (fun _ => ?_)
      · refine X_iload_n rfl rfl rfl ?_
        refine X_aload_n rfl rfl rfl ?_
        refine X_getA rfl rfl (fun v25 => ?_)
        refine X_iload_n rfl rfl rfl ?_
        refine X_callSN_IR (M' := M_X7_valueAt) (nA := 2) (As := [.ref v25, .int l2]) (st := [.int l1]) rfl rfl (by decide +kernel) rfl rfl rfl rfl rfl rfl rfl (fun _ e => ct_X7_valueAt e) (fun v29 => ?_)
        refine X_bicmp_gt rfl rfl (fun _ => ?_) (fun _ => ?_)
        · refine X_aload_n rfl rfl rfl ?_
          refine X_getA rfl rfl (fun v36 => ?_)
          refine X_iload_n rfl rfl rfl ?_
          refine X_callSN_IR (M' := M_X7_valueAt) (nA := 2) (As := [.ref v36, .int l2]) (st := []) rfl rfl (by decide +kernel) rfl rfl rfl rfl rfl rfl rfl (fun _ e => ct_X7_valueAt e) (fun v40 => ?_)
          exact X_iret rfl rfl rfl rfl rfl rfl rfl
        · exact X_sub (g_sub_s (g_sub_s (g_sub_s g_sub_0))) (b_X4_levelAt_b44 ih _ _ _)
      · exact X_sub (g_sub_s (g_sub_s (g_sub_s g_sub_0))) (b_X4_levelAt_b44 ih _ _ _)
    · refine X_iconst (v := 0) rfl rfl (by decide) ?_
      exact X_iret rfl rfl rfl rfl rfl rfl rfl
set_option maxRecDepth 100000 in
theorem ct_X4_levelAt {l : Launch} {G : gG} {h : gH} {a0 : Nat} {p1 : Int32} {r : Int32} (e : f_X4_levelAt h a0 p1 = some r) : Ct l G M_X4_levelAt [.ref a0, .int p1] h (some (.int r)) h := by
  refine Ct_of (L := [some (.ref a0), some (.int p1), none]) ok_X4_levelAt (by decide +kernel) rfl rfl rfl (ρ := (g_rI h)) (F := f_X4_levelAt h a0 p1) ?_ e rfl
  unfold f_X4_levelAt
  refine X_aload_n rfl rfl rfl ?_
  refine X_getI rfl rfl (fun v1 => ?_)
  refine X_iconst (v := 1) rfl rfl (by decide) ?_
  refine X_isub rfl rfl ?_
  refine X_istore_n rfl rfl rfl rfl ?_
  exact X_sub (g_sub_s (g_sub_s (g_sub_s g_sub_0))) (b_X4_levelAt_b7  _ _ _ _)
def f_X2_copyFrom (h : gH) (a0 : Nat) (p1 : Nat) : Option gH :=
  (g_gI h p1 2 0).bind fun v2 =>
  (g_put h a0 2 0 (.int v2)).bind fun h5 =>
  (g_gA h5 p1 2 1).bind fun v9 =>
  (g_gA h5 a0 2 1).bind fun v13 =>
  (f_X7_copyRow h5 v9 v13).bind fun h16 =>
  (g_gA h16 p1 2 2).bind fun v20 =>
  (g_gA h16 a0 2 2).bind fun v24 =>
  (f_X7_copyRow h16 v20 v24).bind fun h27 =>
  some h27
set_option maxRecDepth 100000 in
theorem ct_X2_copyFrom {l : Launch} {G : gG} {h : gH} {a0 : Nat} {p1 : Nat} {h1 : gH} (e : f_X2_copyFrom h a0 p1 = some h1) : Ct l G M_X2_copyFrom [.ref a0, .ref p1] h none h1 := by
  refine Ct_of (L := [some (.ref a0), some (.ref p1)]) ok_X2_copyFrom (by decide +kernel) rfl rfl rfl (ρ := g_wU) (F := f_X2_copyFrom h a0 p1) ?_ e rfl
  unfold f_X2_copyFrom
  refine X_aload_n rfl rfl rfl ?_
  refine X_aload_n rfl rfl rfl ?_
  refine X_getI rfl rfl (fun v2 => ?_)
  refine X_put rfl rfl rfl rfl rfl (fun h5 => ?_)
  refine X_aload_n rfl rfl rfl ?_
  refine X_getA rfl rfl (fun v9 => ?_)
  refine X_aload_n rfl rfl rfl ?_
  refine X_getA rfl rfl (fun v13 => ?_)
  refine X_callSN_UW (M' := M_X7_copyRow) (nA := 2) (As := [.ref v9, .ref v13]) (st := []) rfl rfl (by decide +kernel) rfl rfl rfl rfl rfl rfl rfl (fun _ e => ct_X7_copyRow e) (fun h16 => ?_)
  refine X_aload_n rfl rfl rfl ?_
  refine X_getA rfl rfl (fun v20 => ?_)
  refine X_aload_n rfl rfl rfl ?_
  refine X_getA rfl rfl (fun v24 => ?_)
  refine X_callSN_UW (M' := M_X7_copyRow) (nA := 2) (As := [.ref v20, .ref v24]) (st := []) rfl rfl (by decide +kernel) rfl rfl rfl rfl rfl rfl rfl (fun _ e => ct_X7_copyRow e) (fun h27 => ?_)
  exact X_vret rfl rfl rfl rfl rfl rfl
def f_X2_isFull (h : gH) (a0 : Nat) : Option (Int32) :=
  (g_gI h a0 2 0).bind fun v1 =>
  (if 8 ≤ v1 then
    some 1
  else
    some 0)
set_option maxRecDepth 100000 in
theorem ct_X2_isFull {l : Launch} {G : gG} {h : gH} {a0 : Nat} {r : Int32} (e : f_X2_isFull h a0 = some r) : Ct l G M_X2_isFull [.ref a0] h (some (.int r)) h := by
  refine Ct_of (L := [some (.ref a0)]) ok_X2_isFull (by decide +kernel) rfl rfl rfl (ρ := (g_rI h)) (F := f_X2_isFull h a0) ?_ e rfl
  unfold f_X2_isFull
  refine X_aload_n rfl rfl rfl ?_
  refine X_getI rfl rfl (fun v1 => ?_)
  refine X_bipush (v := 8) rfl rfl (by decide) ?_
  refine X_bicmp_lt rfl rfl (fun _ => ?_) (fun _ => ?_)
  · refine X_iconst (v := 1) rfl rfl (by decide) ?_
    refine X_goto rfl rfl ?_
    exact X_iret rfl rfl rfl rfl rfl rfl rfl
  · refine X_iconst (v := 0) rfl rfl (by decide) ?_
    exact X_iret rfl rfl rfl rfl rfl rfl rfl
def f_X2_placeOf_b2 (h : gH) : Nat → Nat → Int32 → Int32 → Option (Int32)
  | 0, _, _, _ => none
  | n + 1, l0, l1, l2 =>
    (g_gI h l0 2 0).bind fun v4 =>
    (if l2 < v4 then
      (g_gA h l0 2 1).bind fun v11 =>
      (f_X7_valueAt h v11 l2).bind fun v15 =>
      (if v15 = l1 then
        some l2
      else
        f_X2_placeOf_b2 h n l0 l1 (l2 + 1))
    else
      (g_gI h l0 2 0).bind fun v31 =>
      some v31)
def f_X2_placeOf (h : gH) (a0 : Nat) (p1 : Int32) : Option (Int32) :=
  f_X2_placeOf_b2 h g_N a0 p1 0
set_option maxRecDepth 100000 in
theorem b_X2_placeOf_b2 {l : Launch} {G : gG} {h : gH} : ∀ (n : Nat) (l0 : Nat) (l1 : Int32) (l2 : Int32), GX l G M_X2_placeOf (g_phi G (g_rI h) (m_R M_X2_placeOf).cells (m_R M_X2_placeOf).slots) 0 0 2 [some (.ref l0), some (.int l1), some (.int l2)] [] h (f_X2_placeOf_b2 h n l0 l1 l2) := by
  intro n
  induction n with
  | zero => intros; exact X_none
  | succ n ih =>
    intro l0 l1 l2
    rw [f_X2_placeOf_b2]
    refine X_iload_n rfl rfl rfl ?_
    refine X_aload_n rfl rfl rfl ?_
    refine X_getI rfl rfl (fun v4 => ?_)
    refine X_bicmp_ge rfl rfl (fun _ => ?_) (fun _ => ?_)
    · refine X_aload_n rfl rfl rfl ?_
      refine X_getA rfl rfl (fun v11 => ?_)
      refine X_iload_n rfl rfl rfl ?_
      refine X_callSN_IR (M' := M_X7_valueAt) (nA := 2) (As := [.ref v11, .int l2]) (st := []) rfl rfl (by decide +kernel) rfl rfl rfl rfl rfl rfl rfl (fun _ e => ct_X7_valueAt e) (fun v15 => ?_)
      refine X_iload_n rfl rfl rfl ?_
      refine X_bicmp_ne rfl rfl (fun _ => ?_) (fun _ => ?_)
      · refine X_iload_n rfl rfl rfl ?_
        exact X_iret rfl rfl rfl rfl rfl rfl rfl
      · refine X_iinc (v := l2 + 1) rfl rfl rfl (congrArg (fun z => l2 + z) (by decide : Int32.ofInt 1 = 1)) rfl ?_
        refine X_goto rfl rfl ?_
        exact X_sub (g_sub_s (g_sub_s (g_sub_s g_sub_0))) (ih _ _ _)
    · refine X_aload_n rfl rfl rfl ?_
      refine X_getI rfl rfl (fun v31 => ?_)
      exact X_iret rfl rfl rfl rfl rfl rfl rfl
set_option maxRecDepth 100000 in
theorem ct_X2_placeOf {l : Launch} {G : gG} {h : gH} {a0 : Nat} {p1 : Int32} {r : Int32} (e : f_X2_placeOf h a0 p1 = some r) : Ct l G M_X2_placeOf [.ref a0, .int p1] h (some (.int r)) h := by
  refine Ct_of (L := [some (.ref a0), some (.int p1), none]) ok_X2_placeOf (by decide +kernel) rfl rfl rfl (ρ := (g_rI h)) (F := f_X2_placeOf h a0 p1) ?_ e rfl
  unfold f_X2_placeOf
  refine X_iconst (v := 0) rfl rfl (by decide) ?_
  refine X_istore_n rfl rfl rfl rfl ?_
  exact X_sub (g_sub_s (g_sub_s (g_sub_s g_sub_0))) (b_X2_placeOf_b2  _ _ _ _)
def f_X2_hasOneAt (h : gH) (a0 : Nat) (p1 : Int32) : Option (Int32) :=
  bif g_is h a0 2 then
  (f_X2_placeOf h a0 p1).bind fun v2 =>
  (g_gI h a0 2 0).bind fun v6 =>
  (if v2 < v6 then
    some 1
  else
    some 0)
  else none
set_option maxRecDepth 100000 in
theorem ct_X2_hasOneAt {l : Launch} {G : gG} {h : gH} {a0 : Nat} {p1 : Int32} {r : Int32} (e : f_X2_hasOneAt h a0 p1 = some r) : Ct l G M_X2_hasOneAt [.ref a0, .int p1] h (some (.int r)) h := by
  refine Ct_of (L := [some (.ref a0), some (.int p1)]) ok_X2_hasOneAt (by decide +kernel) rfl rfl rfl (ρ := (g_rI h)) (F := f_X2_hasOneAt h a0 p1) ?_ e rfl
  unfold f_X2_hasOneAt
  refine X_aload_n rfl rfl rfl ?_
  refine X_iload_n rfl rfl rfl ?_
  refine X_callV_IR (M' := M_X2_placeOf) (nA := 1) (As := [.int p1]) (st := []) (b := a0) (ci := 2) rfl rfl (by decide +kernel) rfl rfl rfl rfl rfl rfl rfl rfl (fun _ e => ct_X2_placeOf e) (fun v2 => ?_)
  refine X_aload_n rfl rfl rfl ?_
  refine X_getI rfl rfl (fun v6 => ?_)
  refine X_bicmp_ge rfl rfl (fun _ => ?_) (fun _ => ?_)
  · refine X_iconst (v := 1) rfl rfl (by decide) ?_
    refine X_goto rfl rfl ?_
    exact X_iret rfl rfl rfl rfl rfl rfl rfl
  · refine X_iconst (v := 0) rfl rfl (by decide) ?_
    exact X_iret rfl rfl rfl rfl rfl rfl rfl
def f_X2_come (h : gH) (a0 : Nat) (p1 : Int32) (p2 : Int32) : Option gH :=
  bif g_is h a0 2 then
  (f_X2_placeOf h a0 p1).bind fun v2 =>
  (if 8 ≤ v2 then
    some h
  else
    (g_gA h a0 2 1).bind fun v14 =>
    (f_X7_setAt h v14 v2 p1).bind fun h19 =>
    (g_gA h19 a0 2 2).bind fun v23 =>
    (f_X7_setAt h19 v23 v2 p2).bind fun h28 =>
    (g_gI h28 a0 2 0).bind fun v33 =>
    (g_put h28 a0 2 0 (.int (g_max v33 (v2 + 1)))).bind fun h42 =>
    some h42)
  else none
set_option maxRecDepth 100000 in
theorem ct_X2_come {l : Launch} {G : gG} {h : gH} {a0 : Nat} {p1 : Int32} {p2 : Int32} {h1 : gH} (e : f_X2_come h a0 p1 p2 = some h1) : Ct l G M_X2_come [.ref a0, .int p1, .int p2] h none h1 := by
  refine Ct_of (L := [some (.ref a0), some (.int p1), some (.int p2), none]) ok_X2_come (by decide +kernel) rfl rfl rfl (ρ := g_wU) (F := f_X2_come h a0 p1 p2) ?_ e rfl
  unfold f_X2_come
  refine X_aload_n rfl rfl rfl ?_
  refine X_iload_n rfl rfl rfl ?_
  refine X_callV_IR (M' := M_X2_placeOf) (nA := 1) (As := [.int p1]) (st := []) (b := a0) (ci := 2) rfl rfl (by decide +kernel) rfl rfl rfl rfl rfl rfl rfl rfl (fun _ e => ct_X2_placeOf e) (fun v2 => ?_)
  refine X_istore_n rfl rfl rfl rfl ?_
  refine X_iload_n rfl rfl rfl ?_
  refine X_bipush (v := 8) rfl rfl (by decide) ?_
  refine X_bicmp_lt rfl rfl (fun _ => ?_) (fun _ => ?_)
  · exact X_vret rfl rfl rfl rfl rfl rfl
  · refine X_aload_n rfl rfl rfl ?_
    refine X_getA rfl rfl (fun v14 => ?_)
    refine X_iload_n rfl rfl rfl ?_
    refine X_iload_n rfl rfl rfl ?_
    refine X_callSN_UW (M' := M_X7_setAt) (nA := 3) (As := [.ref v14, .int v2, .int p1]) (st := []) rfl rfl (by decide +kernel) rfl rfl rfl rfl rfl rfl rfl (fun _ e => ct_X7_setAt e) (fun h19 => ?_)
    refine X_aload_n rfl rfl rfl ?_
    refine X_getA rfl rfl (fun v23 => ?_)
    refine X_iload_n rfl rfl rfl ?_
    refine X_iload_n rfl rfl rfl ?_
    refine X_callSN_UW (M' := M_X7_setAt) (nA := 3) (As := [.ref v23, .int v2, .int p2]) (st := []) rfl rfl (by decide +kernel) rfl rfl rfl rfl rfl rfl rfl (fun _ e => ct_X7_setAt e) (fun h28 => ?_)
    refine X_aload_n rfl rfl rfl ?_
    refine X_aload_n rfl rfl rfl ?_
    refine X_getI rfl rfl (fun v33 => ?_)
    refine X_iload_n rfl rfl rfl ?_
    refine X_iconst (v := 1) rfl rfl (by decide) ?_
    refine X_iadd rfl rfl ?_
    refine X_mmax rfl rfl (by decide +kernel) (by decide +kernel) (by decide +kernel) (by decide +kernel) rfl rfl rfl rfl ?_
    refine X_put rfl rfl rfl rfl rfl (fun h42 => ?_)
    exact X_vret rfl rfl rfl rfl rfl rfl
def f_X2_keyAt_b52 (h : gH) (K7 : Nat → Int32 → Int32 → Int32 → Int32 → Option (Int32)) (l0 : Nat) (l1 : Int32) (l2 : Int32) (l3 : Int32) (l4 : Int32) : Option (Int32) :=
  K7 l0 l1 l2 l3 (l4 + 1)
def f_X2_keyAt_b7 (h : gH) : Nat → Nat → Int32 → Int32 → Int32 → Int32 → Option (Int32)
  | 0, _, _, _, _, _ => none
  | n + 1, l0, l1, l2, l3, l4 =>
    (g_gI h l0 2 0).bind fun v10 =>
    (if l4 < v10 then
      (g_gA h l0 2 1).bind fun v17 =>
      (f_X7_valueAt h v17 l4).bind fun v22 =>
      (if v22 ≤ l1 then
        (if l2 < v22 then
          (g_gA h l0 2 2).bind fun v43 =>
          (f_X7_valueAt h v43 l4).bind fun v48 =>
          f_X2_keyAt_b52 h (f_X2_keyAt_b7 h n) l0 l1 v22 v48 l4
        else
          f_X2_keyAt_b52 h (f_X2_keyAt_b7 h n) l0 l1 l2 l3 l4)
      else
        f_X2_keyAt_b52 h (f_X2_keyAt_b7 h n) l0 l1 l2 l3 l4)
    else
      some l3)
def f_X2_keyAt (h : gH) (a0 : Nat) (p1 : Int32) : Option (Int32) :=
  f_X2_keyAt_b7 h g_N a0 p1 (-1) 0 0
set_option maxRecDepth 100000 in
theorem b_X2_keyAt_b52 {l : Launch} {G : gG} {h : gH} {K7 : Nat → Int32 → Int32 → Int32 → Int32 → Option (Int32)} (hK7 : ∀ (l0 : Nat) (l1 : Int32) (l2 : Int32) (l3 : Int32) (l4 : Int32), GX l G M_X2_keyAt (g_phi G (g_rI h) (m_R M_X2_keyAt).cells (m_R M_X2_keyAt).slots) 0 0 7 [some (.ref l0), some (.int l1), some (.int l2), some (.int l3), some (.int l4), none] [] h (K7 l0 l1 l2 l3 l4)) (l0 : Nat) (l1 : Int32) (l2 : Int32) (l3 : Int32) (l4 : Int32) : GX l G M_X2_keyAt (g_phi G (g_rI h) (m_R M_X2_keyAt).cells (m_R M_X2_keyAt).slots) 0 0 52 [some (.ref l0), some (.int l1), some (.int l2), some (.int l3), some (.int l4), none] [] h (f_X2_keyAt_b52 h K7 l0 l1 l2 l3 l4) := by
  unfold f_X2_keyAt_b52
  refine X_iinc (v := l4 + 1) rfl rfl rfl (congrArg (fun z => l4 + z) (by decide : Int32.ofInt 1 = 1)) rfl ?_
  refine X_goto rfl rfl ?_
  exact X_sub (g_sub_s (g_sub_s (g_sub_s (g_sub_s (g_sub_s (g_sub_n g_sub_0)))))) (hK7 _ _ _ _ _)
set_option maxRecDepth 100000 in
theorem b_X2_keyAt_b7 {l : Launch} {G : gG} {h : gH} : ∀ (n : Nat) (l0 : Nat) (l1 : Int32) (l2 : Int32) (l3 : Int32) (l4 : Int32), GX l G M_X2_keyAt (g_phi G (g_rI h) (m_R M_X2_keyAt).cells (m_R M_X2_keyAt).slots) 0 0 7 [some (.ref l0), some (.int l1), some (.int l2), some (.int l3), some (.int l4), none] [] h (f_X2_keyAt_b7 h n l0 l1 l2 l3 l4) := by
  intro n
  induction n with
  | zero => intros; exact X_none
  | succ n ih =>
    intro l0 l1 l2 l3 l4
    rw [f_X2_keyAt_b7]
    refine X_iload rfl rfl rfl ?_
    refine X_aload_n rfl rfl rfl ?_
    refine X_getI rfl rfl (fun v10 => ?_)
    refine X_bicmp_ge rfl rfl (fun _ => ?_) (fun _ => ?_)
    · refine X_aload_n rfl rfl rfl ?_
      refine X_getA rfl rfl (fun v17 => ?_)
      refine X_iload rfl rfl rfl ?_
      refine X_callSN_IR (M' := M_X7_valueAt) (nA := 2) (As := [.ref v17, .int l4]) (st := []) rfl rfl (by decide +kernel) rfl rfl rfl rfl rfl rfl rfl (fun _ e => ct_X7_valueAt e) (fun v22 => ?_)
      refine X_istore rfl rfl rfl rfl ?_
      refine X_iload rfl rfl rfl ?_
      refine X_iload_n rfl rfl rfl ?_
      refine X_bicmp_gt rfl rfl (fun _ => ?_) (fun _ => ?_)
      · refine X_iload rfl rfl rfl ?_
        refine X_iload_n rfl rfl rfl ?_
        refine X_bicmp_le rfl rfl (fun _ => ?_) (fun _ => ?_)
        · refine X_iload rfl rfl rfl ?_
          refine X_istore_n rfl rfl rfl rfl ?_
          refine X_aload_n rfl rfl rfl ?_
          refine X_getA rfl rfl (fun v43 => ?_)
          refine X_iload rfl rfl rfl ?_
          refine X_callSN_IR (M' := M_X7_valueAt) (nA := 2) (As := [.ref v43, .int l4]) (st := []) rfl rfl (by decide +kernel) rfl rfl rfl rfl rfl rfl rfl (fun _ e => ct_X7_valueAt e) (fun v48 => ?_)
          refine X_istore_n rfl rfl rfl rfl ?_
          exact X_sub (g_sub_s (g_sub_s (g_sub_s (g_sub_s (g_sub_s (g_sub_n g_sub_0)))))) (b_X2_keyAt_b52 ih _ _ _ _ _)
        · exact X_sub (g_sub_s (g_sub_s (g_sub_s (g_sub_s (g_sub_s (g_sub_n g_sub_0)))))) (b_X2_keyAt_b52 ih _ _ _ _ _)
      · exact X_sub (g_sub_s (g_sub_s (g_sub_s (g_sub_s (g_sub_s (g_sub_n g_sub_0)))))) (b_X2_keyAt_b52 ih _ _ _ _ _)
    · refine X_iload_n rfl rfl rfl ?_
      exact X_iret rfl rfl rfl rfl rfl rfl rfl
set_option maxRecDepth 100000 in
theorem ct_X2_keyAt {l : Launch} {G : gG} {h : gH} {a0 : Nat} {p1 : Int32} {r : Int32} (e : f_X2_keyAt h a0 p1 = some r) : Ct l G M_X2_keyAt [.ref a0, .int p1] h (some (.int r)) h := by
  refine Ct_of (L := [some (.ref a0), some (.int p1), none, none, none, none]) ok_X2_keyAt (by decide +kernel) rfl rfl rfl (ρ := (g_rI h)) (F := f_X2_keyAt h a0 p1) ?_ e rfl
  unfold f_X2_keyAt
  refine X_iconst (v := -1) rfl rfl (by decide) ?_
  refine X_istore_n rfl rfl rfl rfl ?_
  refine X_iconst (v := 0) rfl rfl (by decide) ?_
  refine X_istore_n rfl rfl rfl rfl ?_
  refine X_iconst (v := 0) rfl rfl (by decide) ?_
  refine X_istore rfl rfl rfl rfl ?_
  exact X_sub (g_sub_s (g_sub_s (g_sub_s (g_sub_s (g_sub_s (g_sub_n g_sub_0)))))) (b_X2_keyAt_b7  _ _ _ _ _ _)
def f_X0_take (h : gH) (a0 : Nat) (p1 : Int32) : Option gH :=
  (g_put h a0 0 3 (.int p1)).bind fun h2 =>
  (g_put h2 a0 0 4 (.int 0)).bind fun h7 =>
  (g_put h7 a0 0 5 (.int 0)).bind fun h12 =>
  (g_put h12 a0 0 6 (.int 0)).bind fun h17 =>
  (g_put h17 a0 0 8 (.int 0)).bind fun h22 =>
  (g_put h22 a0 0 9 (.int 0)).bind fun h27 =>
  some h27
set_option maxRecDepth 100000 in
theorem ct_X0_take {l : Launch} {G : gG} {h : gH} {a0 : Nat} {p1 : Int32} {h1 : gH} (e : f_X0_take h a0 p1 = some h1) : Ct l G M_X0_take [.ref a0, .int p1] h none h1 := by
  refine Ct_of (L := [some (.ref a0), some (.int p1)]) ok_X0_take (by decide +kernel) rfl rfl rfl (ρ := g_wU) (F := f_X0_take h a0 p1) ?_ e rfl
  unfold f_X0_take
  refine X_aload_n rfl rfl rfl ?_
  refine X_iload_n rfl rfl rfl ?_
  refine X_put rfl rfl rfl rfl rfl (fun h2 => ?_)
  refine X_aload_n rfl rfl rfl ?_
  refine X_iconst (v := 0) rfl rfl (by decide) ?_
  refine X_put rfl rfl rfl rfl rfl (fun h7 => ?_)
  refine X_aload_n rfl rfl rfl ?_
  refine X_iconst (v := 0) rfl rfl (by decide) ?_
  refine X_put rfl rfl rfl rfl rfl (fun h12 => ?_)
  refine X_aload_n rfl rfl rfl ?_
  refine X_iconst (v := 0) rfl rfl (by decide) ?_
  refine X_put rfl rfl rfl rfl rfl (fun h17 => ?_)
  refine X_aload_n rfl rfl rfl ?_
  refine X_iconst (v := 0) rfl rfl (by decide) ?_
  refine X_put rfl rfl rfl rfl rfl (fun h22 => ?_)
  refine X_aload_n rfl rfl rfl ?_
  refine X_iconst (v := 0) rfl rfl (by decide) ?_
  refine X_put rfl rfl rfl rfl rfl (fun h27 => ?_)
  exact X_vret rfl rfl rfl rfl rfl rfl
def f_X0_becomeIdle (h : gH) (a0 : Nat) : Option gH :=
  bif g_is h a0 0 then
  (f_X0_take h a0 (-1)).bind fun h2 =>
  some h2
  else none
set_option maxRecDepth 100000 in
theorem ct_X0_becomeIdle {l : Launch} {G : gG} {h : gH} {a0 : Nat} {h1 : gH} (e : f_X0_becomeIdle h a0 = some h1) : Ct l G M_X0_becomeIdle [.ref a0] h none h1 := by
  refine Ct_of (L := [some (.ref a0)]) ok_X0_becomeIdle (by decide +kernel) rfl rfl rfl (ρ := g_wU) (F := f_X0_becomeIdle h a0) ?_ e rfl
  unfold f_X0_becomeIdle
  refine X_aload_n rfl rfl rfl ?_
  refine X_iconst (v := -1) rfl rfl (by decide) ?_
  refine X_callV_UW (M' := M_X0_take) (nA := 1) (As := [.int (-1)]) (st := []) (b := a0) (ci := 0) rfl rfl (by decide +kernel) rfl rfl rfl rfl rfl rfl rfl rfl (fun _ e => ct_X0_take e) (fun h2 => ?_)
  exact X_vret rfl rfl rfl rfl rfl rfl
def f_X0_clear (h : gH) (a0 : Nat) : Option gH :=
  (g_put h a0 0 0 (.int 5)).bind fun h2 =>
  (g_put h2 a0 0 1 (.int 0)).bind fun h7 =>
  (g_put h7 a0 0 2 (.int 0)).bind fun h12 =>
  bif g_is h12 a0 0 then
  (f_X0_becomeIdle h12 a0).bind fun h16 =>
  some h16
  else none
set_option maxRecDepth 100000 in
theorem ct_X0_clear {l : Launch} {G : gG} {h : gH} {a0 : Nat} {h1 : gH} (e : f_X0_clear h a0 = some h1) : Ct l G M_X0_clear [.ref a0] h none h1 := by
  refine Ct_of (L := [some (.ref a0)]) ok_X0_clear (by decide +kernel) rfl rfl rfl (ρ := g_wU) (F := f_X0_clear h a0) ?_ e rfl
  unfold f_X0_clear
  refine X_aload_n rfl rfl rfl ?_
  refine X_iconst (v := 5) rfl rfl (by decide) ?_
  refine X_put rfl rfl rfl rfl rfl (fun h2 => ?_)
  refine X_aload_n rfl rfl rfl ?_
  refine X_iconst (v := 0) rfl rfl (by decide) ?_
  refine X_put rfl rfl rfl rfl rfl (fun h7 => ?_)
  refine X_aload_n rfl rfl rfl ?_
  refine X_iconst (v := 0) rfl rfl (by decide) ?_
  refine X_put rfl rfl rfl rfl rfl (fun h12 => ?_)
  refine X_aload_n rfl rfl rfl ?_
  refine X_callV_UW (M' := M_X0_becomeIdle) (nA := 0) (As := []) (st := []) (b := a0) (ci := 0) rfl rfl (by decide +kernel) rfl rfl rfl rfl rfl rfl rfl rfl (fun _ e => ct_X0_becomeIdle e) (fun h16 => ?_)
  exact X_vret rfl rfl rfl rfl rfl rfl
def f_X0_copyFrom (h : gH) (a0 : Nat) (p1 : Nat) : Option gH :=
  (g_gI h p1 0 0).bind fun v2 =>
  (g_put h a0 0 0 (.int v2)).bind fun h5 =>
  (g_gI h5 p1 0 1).bind fun v10 =>
  (g_put h5 a0 0 1 (.int v10)).bind fun h13 =>
  (g_gI h13 p1 0 2).bind fun v18 =>
  (g_put h13 a0 0 2 (.int v18)).bind fun h21 =>
  (g_gI h21 p1 0 3).bind fun v26 =>
  (g_put h21 a0 0 3 (.int v26)).bind fun h29 =>
  (g_gI h29 p1 0 4).bind fun v34 =>
  (g_put h29 a0 0 4 (.int v34)).bind fun h37 =>
  (g_gI h37 p1 0 5).bind fun v42 =>
  (g_put h37 a0 0 5 (.int v42)).bind fun h45 =>
  (g_gI h45 p1 0 6).bind fun v50 =>
  (g_put h45 a0 0 6 (.int v50)).bind fun h53 =>
  (g_gA h53 p1 0 7).bind fun v57 =>
  (g_gA h53 a0 0 7).bind fun v61 =>
  (f_X7_copyRow h53 v57 v61).bind fun h64 =>
  (g_gI h64 p1 0 8).bind fun v69 =>
  (g_z v69).bind fun z72 =>
  (g_put h64 a0 0 8 (.int v69)).bind fun h72 =>
  (g_gI h72 p1 0 9).bind fun v77 =>
  (g_z v77).bind fun z80 =>
  (g_put h72 a0 0 9 (.int v77)).bind fun h80 =>
  some h80
set_option maxRecDepth 100000 in
theorem ct_X0_copyFrom {l : Launch} {G : gG} {h : gH} {a0 : Nat} {p1 : Nat} {h1 : gH} (e : f_X0_copyFrom h a0 p1 = some h1) : Ct l G M_X0_copyFrom [.ref a0, .ref p1] h none h1 := by
  refine Ct_of (L := [some (.ref a0), some (.ref p1)]) ok_X0_copyFrom (by decide +kernel) rfl rfl rfl (ρ := g_wU) (F := f_X0_copyFrom h a0 p1) ?_ e rfl
  unfold f_X0_copyFrom
  refine X_aload_n rfl rfl rfl ?_
  refine X_aload_n rfl rfl rfl ?_
  refine X_getI rfl rfl (fun v2 => ?_)
  refine X_put rfl rfl rfl rfl rfl (fun h5 => ?_)
  refine X_aload_n rfl rfl rfl ?_
  refine X_aload_n rfl rfl rfl ?_
  refine X_getI rfl rfl (fun v10 => ?_)
  refine X_put rfl rfl rfl rfl rfl (fun h13 => ?_)
  refine X_aload_n rfl rfl rfl ?_
  refine X_aload_n rfl rfl rfl ?_
  refine X_getI rfl rfl (fun v18 => ?_)
  refine X_put rfl rfl rfl rfl rfl (fun h21 => ?_)
  refine X_aload_n rfl rfl rfl ?_
  refine X_aload_n rfl rfl rfl ?_
  refine X_getI rfl rfl (fun v26 => ?_)
  refine X_put rfl rfl rfl rfl rfl (fun h29 => ?_)
  refine X_aload_n rfl rfl rfl ?_
  refine X_aload_n rfl rfl rfl ?_
  refine X_getI rfl rfl (fun v34 => ?_)
  refine X_put rfl rfl rfl rfl rfl (fun h37 => ?_)
  refine X_aload_n rfl rfl rfl ?_
  refine X_aload_n rfl rfl rfl ?_
  refine X_getI rfl rfl (fun v42 => ?_)
  refine X_put rfl rfl rfl rfl rfl (fun h45 => ?_)
  refine X_aload_n rfl rfl rfl ?_
  refine X_aload_n rfl rfl rfl ?_
  refine X_getI rfl rfl (fun v50 => ?_)
  refine X_put rfl rfl rfl rfl rfl (fun h53 => ?_)
  refine X_aload_n rfl rfl rfl ?_
  refine X_getA rfl rfl (fun v57 => ?_)
  refine X_aload_n rfl rfl rfl ?_
  refine X_getA rfl rfl (fun v61 => ?_)
  refine X_callSN_UW (M' := M_X7_copyRow) (nA := 2) (As := [.ref v57, .ref v61]) (st := []) rfl rfl (by decide +kernel) rfl rfl rfl rfl rfl rfl rfl (fun _ e => ct_X7_copyRow e) (fun h64 => ?_)
  refine X_aload_n rfl rfl rfl ?_
  refine X_aload_n rfl rfl rfl ?_
  refine X_getI rfl rfl (fun v69 => ?_)
  refine X_zb (fun z72 zz72 => ?_)
  refine X_put rfl rfl rfl (g_znar zz72) (g_zfit zz72) (fun h72 => ?_)
  refine X_aload_n rfl rfl rfl ?_
  refine X_aload_n rfl rfl rfl ?_
  refine X_getI rfl rfl (fun v77 => ?_)
  refine X_zb (fun z80 zz80 => ?_)
  refine X_put rfl rfl rfl (g_znar zz80) (g_zfit zz80) (fun h80 => ?_)
  exact X_vret rfl rfl rfl rfl rfl rfl
def f_X0_isOpenAt_b65 (h : gH) : Option (Int32) :=
  some 1
def f_X0_isOpenAt (h : gH) (a0 : Nat) (p1 : Int32) : Option (Int32) :=
  (g_gI h a0 0 1).bind fun v6 =>
  (g_gI h a0 0 2).bind fun v10 =>
  (if v6 < v10 then
    (g_gI h a0 0 1).bind fun v18 =>
    (if v18 ≤ (g_rem p1 24) then
      (g_gI h a0 0 2).bind fun v26 =>
      (if (g_rem p1 24) < v26 then
        some 1
      else
        some 0)
    else
      some 0)
  else
    (g_gI h a0 0 1).bind fun v39 =>
    (g_gI h a0 0 2).bind fun v43 =>
    (if v39 = v43 then
      f_X0_isOpenAt_b65 h
    else
      (g_gI h a0 0 1).bind fun v51 =>
      (if (g_rem p1 24) < v51 then
        (g_gI h a0 0 2).bind fun v59 =>
        (if (g_rem p1 24) < v59 then
          f_X0_isOpenAt_b65 h
        else
          some 0)
      else
        f_X0_isOpenAt_b65 h)))
set_option maxRecDepth 100000 in
theorem b_X0_isOpenAt_b65 {l : Launch} {G : gG} {h : gH} : GX l G M_X0_isOpenAt (g_phi G (g_rI h) (m_R M_X0_isOpenAt).cells (m_R M_X0_isOpenAt).slots) 0 0 65 [none, none, none] [] h (f_X0_isOpenAt_b65 h) := by
  unfold f_X0_isOpenAt_b65
  refine X_iconst (v := 1) rfl rfl (by decide) ?_
  refine X_goto rfl rfl ?_
  exact X_iret rfl rfl rfl rfl rfl rfl rfl
set_option maxRecDepth 100000 in
theorem ct_X0_isOpenAt {l : Launch} {G : gG} {h : gH} {a0 : Nat} {p1 : Int32} {r : Int32} (e : f_X0_isOpenAt h a0 p1 = some r) : Ct l G M_X0_isOpenAt [.ref a0, .int p1] h (some (.int r)) h := by
  refine Ct_of (L := [some (.ref a0), some (.int p1), none]) ok_X0_isOpenAt (by decide +kernel) rfl rfl rfl (ρ := (g_rI h)) (F := f_X0_isOpenAt h a0 p1) ?_ e rfl
  unfold f_X0_isOpenAt
  refine X_iload_n rfl rfl rfl ?_
  refine X_bipush (v := 24) rfl rfl (by decide) ?_
  refine X_irem (v := g_rem p1 24) rfl rfl rfl (by decide) ?_
  refine X_istore_n rfl rfl rfl rfl ?_
  refine X_aload_n rfl rfl rfl ?_
  refine X_getI rfl rfl (fun v6 => ?_)
  refine X_aload_n rfl rfl rfl ?_
  refine X_getI rfl rfl (fun v10 => ?_)
  refine X_bicmp_ge rfl rfl (fun _ => ?_) (fun _ => ?_)
  · refine X_iload_n rfl rfl rfl ?_
    refine X_aload_n rfl rfl rfl ?_
    refine X_getI rfl rfl (fun v18 => ?_)
    refine X_bicmp_lt rfl rfl (fun _ => ?_) (fun _ => ?_)
    · refine X_iload_n rfl rfl rfl ?_
      refine X_aload_n rfl rfl rfl ?_
      refine X_getI rfl rfl (fun v26 => ?_)
      refine X_bicmp_ge rfl rfl (fun _ => ?_) (fun _ => ?_)
      · refine X_iconst (v := 1) rfl rfl (by decide) ?_
        refine X_goto rfl rfl ?_
        exact X_iret rfl rfl rfl rfl rfl rfl rfl
      · refine X_iconst (v := 0) rfl rfl (by decide) ?_
        exact X_iret rfl rfl rfl rfl rfl rfl rfl
    · refine X_iconst (v := 0) rfl rfl (by decide) ?_
      exact X_iret rfl rfl rfl rfl rfl rfl rfl
  · refine X_aload_n rfl rfl rfl ?_
    refine X_getI rfl rfl (fun v39 => ?_)
    refine X_aload_n rfl rfl rfl ?_
    refine X_getI rfl rfl (fun v43 => ?_)
    refine X_bicmp_eq rfl rfl (fun _ => ?_) (fun _ => ?_)
    · exact X_sub (g_sub_n (g_sub_n (g_sub_n g_sub_0))) (b_X0_isOpenAt_b65  )
    · refine X_iload_n rfl rfl rfl ?_
      refine X_aload_n rfl rfl rfl ?_
      refine X_getI rfl rfl (fun v51 => ?_)
      refine X_bicmp_ge rfl rfl (fun _ => ?_) (fun _ => ?_)
      · refine X_iload_n rfl rfl rfl ?_
        refine X_aload_n rfl rfl rfl ?_
        refine X_getI rfl rfl (fun v59 => ?_)
        refine X_bicmp_ge rfl rfl (fun _ => ?_) (fun _ => ?_)
        · exact X_sub (g_sub_n (g_sub_n (g_sub_n g_sub_0))) (b_X0_isOpenAt_b65  )
        · refine X_iconst (v := 0) rfl rfl (by decide) ?_
          exact X_iret rfl rfl rfl rfl rfl rfl rfl
      · exact X_sub (g_sub_n (g_sub_n (g_sub_n g_sub_0))) (b_X0_isOpenAt_b65  )
def f_X0_isIdle (h : gH) (a0 : Nat) : Option (Int32) :=
  (g_gI h a0 0 3).bind fun v1 =>
  (if v1 = (-1) then
    some 1
  else
    some 0)
set_option maxRecDepth 100000 in
theorem ct_X0_isIdle {l : Launch} {G : gG} {h : gH} {a0 : Nat} {r : Int32} (e : f_X0_isIdle h a0 = some r) : Ct l G M_X0_isIdle [.ref a0] h (some (.int r)) h := by
  refine Ct_of (L := [some (.ref a0)]) ok_X0_isIdle (by decide +kernel) rfl rfl rfl (ρ := (g_rI h)) (F := f_X0_isIdle h a0) ?_ e rfl
  unfold f_X0_isIdle
  refine X_aload_n rfl rfl rfl ?_
  refine X_getI rfl rfl (fun v1 => ?_)
  refine X_iconst (v := -1) rfl rfl (by decide) ?_
  refine X_bicmp_ne rfl rfl (fun _ => ?_) (fun _ => ?_)
  · refine X_iconst (v := 1) rfl rfl (by decide) ?_
    refine X_goto rfl rfl ?_
    exact X_iret rfl rfl rfl rfl rfl rfl rfl
  · refine X_iconst (v := 0) rfl rfl (by decide) ?_
    exact X_iret rfl rfl rfl rfl rfl rfl rfl
def f_X0_figure (h : gH) (a0 : Nat) (p1 : Int32) (p2 : Int32) : Option (Int32) :=
  (if p1 = 0 then
    (g_gI h a0 0 0).bind fun v37 =>
    some v37
  else
    (if p1 = 1 then
      (g_gI h a0 0 1).bind fun v42 =>
      some v42
    else
      (if p1 = 2 then
        (g_gI h a0 0 2).bind fun v47 =>
        some v47
      else
        (if p1 = 3 then
          bif g_is h a0 0 then
          (f_X0_isOpenAt h a0 p2).bind fun v53 =>
          (if v53 = 0 then
            some 0
          else
            some 1)
          else none
        else
          (if p1 = 4 then
            (g_gI h a0 0 3).bind fun v66 =>
            some v66
          else
            bif g_is h a0 0 then
            (f_X0_isIdle h a0).bind fun v71 =>
            (if v71 = 0 then
              (g_gI h a0 0 4).bind fun v82 =>
              some v82
            else
              some (-1))
            else none)))))
set_option maxRecDepth 100000 in
theorem ct_X0_figure {l : Launch} {G : gG} {h : gH} {a0 : Nat} {p1 : Int32} {p2 : Int32} {r : Int32} (e : f_X0_figure h a0 p1 p2 = some r) : Ct l G M_X0_figure [.ref a0, .int p1, .int p2] h (some (.int r)) h := by
  refine Ct_of (L := [some (.ref a0), some (.int p1), some (.int p2)]) ok_X0_figure (by decide +kernel) rfl rfl rfl (ρ := (g_rI h)) (F := f_X0_figure h a0 p1 p2) ?_ e rfl
  unfold f_X0_figure
  refine X_iload_n rfl rfl rfl ?_
  refine X_if (fun c1_0 => ?_) (fun c1_0 => ?_)
  · refine X_tswIn (v := 0) (len := 35) (tgt := 36) (off := 35) rfl rfl c1_0 (by decide) (by decide) rfl rfl ?_
    refine X_aload_n rfl rfl rfl ?_
    refine X_getI rfl rfl (fun v37 => ?_)
    exact X_iret rfl rfl rfl rfl rfl rfl rfl
  · refine X_if (fun c1_1 => ?_) (fun c1_1 => ?_)
    · refine X_tswIn (v := 1) (len := 35) (tgt := 41) (off := 40) rfl rfl c1_1 (by decide) (by decide) rfl rfl ?_
      refine X_aload_n rfl rfl rfl ?_
      refine X_getI rfl rfl (fun v42 => ?_)
      exact X_iret rfl rfl rfl rfl rfl rfl rfl
    · refine X_if (fun c1_2 => ?_) (fun c1_2 => ?_)
      · refine X_tswIn (v := 2) (len := 35) (tgt := 46) (off := 45) rfl rfl c1_2 (by decide) (by decide) rfl rfl ?_
        refine X_aload_n rfl rfl rfl ?_
        refine X_getI rfl rfl (fun v47 => ?_)
        exact X_iret rfl rfl rfl rfl rfl rfl rfl
      · refine X_if (fun c1_3 => ?_) (fun c1_3 => ?_)
        · refine X_tswIn (v := 3) (len := 35) (tgt := 51) (off := 50) rfl rfl c1_3 (by decide) (by decide) rfl rfl ?_
          refine X_aload_n rfl rfl rfl ?_
          refine X_iload_n rfl rfl rfl ?_
          refine X_callV_IR (M' := M_X0_isOpenAt) (nA := 1) (As := [.int p2]) (st := []) (b := a0) (ci := 0) rfl rfl (by decide +kernel) rfl rfl rfl rfl rfl rfl rfl rfl (fun _ e => ct_X0_isOpenAt e) (fun v53 => ?_)
          refine X_bif_eq rfl rfl (fun _ => ?_) (fun _ => ?_)
          · refine X_iconst (v := 0) rfl rfl (by decide) ?_
            exact X_iret rfl rfl rfl rfl rfl rfl rfl
          · refine X_iconst (v := 1) rfl rfl (by decide) ?_
            refine X_goto rfl rfl ?_
            exact X_iret rfl rfl rfl rfl rfl rfl rfl
        · refine X_if (fun c1_4 => ?_) (fun c1_4 => ?_)
          · refine X_tswIn (v := 4) (len := 35) (tgt := 65) (off := 64) rfl rfl c1_4 (by decide) (by decide) rfl rfl ?_
            refine X_aload_n rfl rfl rfl ?_
            refine X_getI rfl rfl (fun v66 => ?_)
            exact X_iret rfl rfl rfl rfl rfl rfl rfl
          · refine X_tswOut (len := 35) (tgt := 70) rfl rfl (by have := g_neI c1_0 (show Int32.toInt (0) = 0 by decide) ; have := g_neI c1_1 (show Int32.toInt (1) = 1 by decide) ; have := g_neI c1_2 (show Int32.toInt (2) = 2 by decide) ; have := g_neI c1_3 (show Int32.toInt (3) = 3 by decide) ; have := g_neI c1_4 (show Int32.toInt (4) = 4 by decide); omega) rfl ?_
            refine X_aload_n rfl rfl rfl ?_
            refine X_callV_IR (M' := M_X0_isIdle) (nA := 0) (As := []) (st := []) (b := a0) (ci := 0) rfl rfl (by decide +kernel) rfl rfl rfl rfl rfl rfl rfl rfl (fun _ e => ct_X0_isIdle e) (fun v71 => ?_)
            refine X_bif_eq rfl rfl (fun _ => ?_) (fun _ => ?_)
            · refine X_aload_n rfl rfl rfl ?_
              refine X_getI rfl rfl (fun v82 => ?_)
              exact X_iret rfl rfl rfl rfl rfl rfl rfl
            · refine X_iconst (v := -1) rfl rfl (by decide) ?_
              refine X_goto rfl rfl ?_
              exact X_iret rfl rfl rfl rfl rfl rfl rfl
def f_X0_hear (h : gH) (a0 : Nat) (p1 : Int32) : Option gH :=
  (g_gA h a0 0 7).bind fun v1 =>
  (g_gI h a0 0 6).bind fun v5 =>
  (f_X7_setAt h v1 v5 p1).bind fun h9 =>
  (g_gI h9 a0 0 6).bind fun v14 =>
  (g_put h9 a0 0 6 (.int (v14 + 1))).bind fun h19 =>
  some h19
set_option maxRecDepth 100000 in
theorem ct_X0_hear {l : Launch} {G : gG} {h : gH} {a0 : Nat} {p1 : Int32} {h1 : gH} (e : f_X0_hear h a0 p1 = some h1) : Ct l G M_X0_hear [.ref a0, .int p1] h none h1 := by
  refine Ct_of (L := [some (.ref a0), some (.int p1)]) ok_X0_hear (by decide +kernel) rfl rfl rfl (ρ := g_wU) (F := f_X0_hear h a0 p1) ?_ e rfl
  unfold f_X0_hear
  refine X_aload_n rfl rfl rfl ?_
  refine X_getA rfl rfl (fun v1 => ?_)
  refine X_aload_n rfl rfl rfl ?_
  refine X_getI rfl rfl (fun v5 => ?_)
  refine X_iload_n rfl rfl rfl ?_
  refine X_callSN_UW (M' := M_X7_setAt) (nA := 3) (As := [.ref v1, .int v5, .int p1]) (st := []) rfl rfl (by decide +kernel) rfl rfl rfl rfl rfl rfl rfl (fun _ e => ct_X7_setAt e) (fun h9 => ?_)
  refine X_aload_n rfl rfl rfl ?_
  refine X_dup rfl rfl rfl ?_
  refine X_getI rfl rfl (fun v14 => ?_)
  refine X_iconst (v := 1) rfl rfl (by decide) ?_
  refine X_iadd rfl rfl ?_
  refine X_put rfl rfl rfl rfl rfl (fun h19 => ?_)
  exact X_vret rfl rfl rfl rfl rfl rfl
def f_X0_judge_b53 (h : gH) (s0 : Int32) (s1 : Nat) : Option gH :=
  (g_z s0).bind fun z53 =>
  (g_put h s1 0 9 (.int s0)).bind fun h53 =>
  some h53
def f_X0_judge_b52 (h : gH) (s0 : Nat) : Option gH :=
  f_X0_judge_b53 h 0 s0
def f_X0_judge_b8 : Nat → gH → Nat → Int32 → Int32 → Int32 → Int32 → Option gH
  | 0, _, _, _, _, _, _ => none
  | n + 1, h, l0, l1, l2, l3, l4 =>
    (if l4 < l1 then
      (g_gA h l0 0 7).bind fun v16 =>
      (f_X7_valueAt h v16 l4).bind fun v21 =>
      f_X0_judge_b8  n h l0 l1 l2 (l3 + v21) (l4 + 1)
    else
      (g_gI h l0 0 8).bind fun v34 =>
      (if v34 = 0 then
        (if (g_rem l3 26) = l2 then
          f_X0_judge_b53 h 1 l0
        else
          f_X0_judge_b52 h l0)
      else
        f_X0_judge_b52 h l0))
def f_X0_judge (h : gH) (a0 : Nat) (p1 : Int32) (p2 : Int32) : Option gH :=
  (g_gI h a0 0 5).bind fun v1 =>
  f_X0_judge_b8 g_N h a0 p1 p2 v1 0
set_option maxRecDepth 100000 in
theorem b_X0_judge_b53 {l : Launch} {G : gG} (h : gH) (s0 : Int32) (s1 : Nat) : GX l G M_X0_judge (g_phi G g_wU (m_R M_X0_judge).cells (m_R M_X0_judge).slots) 0 0 53 [none, none, none, none, none] [.int s0, .ref s1] h (f_X0_judge_b53 h s0 s1) := by
  unfold f_X0_judge_b53
  refine X_zb (fun z53 zz53 => ?_)
  refine X_put rfl rfl rfl (g_znar zz53) (g_zfit zz53) (fun h53 => ?_)
  exact X_vret rfl rfl rfl rfl rfl rfl
set_option maxRecDepth 100000 in
theorem b_X0_judge_b52 {l : Launch} {G : gG} (h : gH) (s0 : Nat) : GX l G M_X0_judge (g_phi G g_wU (m_R M_X0_judge).cells (m_R M_X0_judge).slots) 0 0 52 [none, none, none, none, none] [.ref s0] h (f_X0_judge_b52 h s0) := by
  unfold f_X0_judge_b52
  refine X_iconst (v := 0) rfl rfl (by decide) ?_
  exact X_sub (g_sub_n (g_sub_n (g_sub_n (g_sub_n (g_sub_n g_sub_0))))) (b_X0_judge_b53  _ _ _)
set_option maxRecDepth 100000 in
theorem b_X0_judge_b8 {l : Launch} {G : gG} : ∀ (n : Nat) (h : gH) (l0 : Nat) (l1 : Int32) (l2 : Int32) (l3 : Int32) (l4 : Int32), GX l G M_X0_judge (g_phi G g_wU (m_R M_X0_judge).cells (m_R M_X0_judge).slots) 0 0 8 [some (.ref l0), some (.int l1), some (.int l2), some (.int l3), some (.int l4)] [] h (f_X0_judge_b8 n h l0 l1 l2 l3 l4) := by
  intro n
  induction n with
  | zero => intros; exact X_none
  | succ n ih =>
    intro h l0 l1 l2 l3 l4
    rw [f_X0_judge_b8]
    refine X_iload rfl rfl rfl ?_
    refine X_iload_n rfl rfl rfl ?_
    refine X_bicmp_ge rfl rfl (fun _ => ?_) (fun _ => ?_)
    · refine X_iload_n rfl rfl rfl ?_
      refine X_aload_n rfl rfl rfl ?_
      refine X_getA rfl rfl (fun v16 => ?_)
      refine X_iload rfl rfl rfl ?_
      refine X_callSN_IR (M' := M_X7_valueAt) (nA := 2) (As := [.ref v16, .int l4]) (st := [.int l3]) rfl rfl (by decide +kernel) rfl rfl rfl rfl rfl rfl rfl (fun _ e => ct_X7_valueAt e) (fun v21 => ?_)
      refine X_iadd rfl rfl ?_
      refine X_istore_n rfl rfl rfl rfl ?_
      refine X_iinc (v := l4 + 1) rfl rfl rfl (congrArg (fun z => l4 + z) (by decide : Int32.ofInt 1 = 1)) rfl ?_
      refine X_goto rfl rfl ?_
      exact X_sub (g_sub_s (g_sub_s (g_sub_s (g_sub_s (g_sub_s g_sub_0))))) (ih _ _ _ _ _ _)
    · refine X_aload_n rfl rfl rfl ?_
      refine X_aload_n rfl rfl rfl ?_
      refine X_getI rfl rfl (fun v34 => ?_)
      refine X_bif_ne rfl rfl (fun _ => ?_) (fun _ => ?_)
      · refine X_iload_n rfl rfl rfl ?_
        refine X_bipush (v := 26) rfl rfl (by decide) ?_
        refine X_irem (v := g_rem l3 26) rfl rfl rfl (by decide) ?_
        refine X_iload_n rfl rfl rfl ?_
        refine X_bicmp_ne rfl rfl (fun _ => ?_) (fun _ => ?_)
        · refine X_iconst (v := 1) rfl rfl (by decide) ?_
          refine X_goto rfl rfl ?_
          exact X_sub (g_sub_n (g_sub_n (g_sub_n (g_sub_n (g_sub_n g_sub_0))))) (b_X0_judge_b53  _ _ _)
        · exact X_sub (g_sub_n (g_sub_n (g_sub_n (g_sub_n (g_sub_n g_sub_0))))) (b_X0_judge_b52  _ _)
      · exact X_sub (g_sub_n (g_sub_n (g_sub_n (g_sub_n (g_sub_n g_sub_0))))) (b_X0_judge_b52  _ _)
set_option maxRecDepth 100000 in
theorem ct_X0_judge {l : Launch} {G : gG} {h : gH} {a0 : Nat} {p1 : Int32} {p2 : Int32} {h1 : gH} (e : f_X0_judge h a0 p1 p2 = some h1) : Ct l G M_X0_judge [.ref a0, .int p1, .int p2] h none h1 := by
  refine Ct_of (L := [some (.ref a0), some (.int p1), some (.int p2), none, none]) ok_X0_judge (by decide +kernel) rfl rfl rfl (ρ := g_wU) (F := f_X0_judge h a0 p1 p2) ?_ e rfl
  unfold f_X0_judge
  refine X_aload_n rfl rfl rfl ?_
  refine X_getI rfl rfl (fun v1 => ?_)
  refine X_istore_n rfl rfl rfl rfl ?_
  refine X_iconst (v := 0) rfl rfl (by decide) ?_
  refine X_istore rfl rfl rfl rfl ?_
  exact X_sub (g_sub_s (g_sub_s (g_sub_s (g_sub_s (g_sub_s g_sub_0))))) (b_X0_judge_b8  _ _ _ _ _ _ _)
end
section
def f_X3_become_b33 : Nat → gH → Nat → Int32 → Option gH
  | 0, _, _, _ => none
  | n + 1, h, l0, l4 =>
    (if l4 < 24 then
      (g_gA h l0 3 10).bind fun v41 =>
      (f_X7_setAt h v41 l4 (-1)).bind fun h47 =>
      (g_gA h47 l0 3 11).bind fun v51 =>
      (f_X7_setAt h47 v51 l4 0).bind fun h57 =>
      (g_gA h57 l0 3 12).bind fun v61 =>
      (f_X7_setAt h57 v61 l4 0).bind fun h67 =>
      f_X3_become_b33  n h67 l0 (l4 + 1)
    else
      some h)
def f_X3_become (h : gH) (a0 : Nat) (p1 : Int32) (p2 : Int32) (p3 : Int32) : Option gH :=
  (g_put h a0 3 0 (.int p1)).bind fun h2 =>
  (g_put h2 a0 3 1 (.int p2)).bind fun h7 =>
  (g_put h7 a0 3 3 (.int p3)).bind fun h12 =>
  (g_put h12 a0 3 5 (.int 0)).bind fun h17 =>
  (g_put h17 a0 3 6 (.int (-1))).bind fun h22 =>
  (g_put h22 a0 3 7 (.int (-1))).bind fun h27 =>
  f_X3_become_b33 g_N h27 a0 0
set_option maxRecDepth 100000 in
theorem b_X3_become_b33 {l : Launch} {G : gG} : ∀ (n : Nat) (h : gH) (l0 : Nat) (l4 : Int32), GX l G M_X3_become (g_phi G g_wU (m_R M_X3_become).cells (m_R M_X3_become).slots) 0 0 33 [some (.ref l0), none, none, none, some (.int l4)] [] h (f_X3_become_b33 n h l0 l4) := by
  intro n
  induction n with
  | zero => intros; exact X_none
  | succ n ih =>
    intro h l0 l4
    rw [f_X3_become_b33]
    refine X_iload rfl rfl rfl ?_
    refine X_bipush (v := 24) rfl rfl (by decide) ?_
    refine X_bicmp_ge rfl rfl (fun _ => ?_) (fun _ => ?_)
    · refine X_aload_n rfl rfl rfl ?_
      refine X_getA rfl rfl (fun v41 => ?_)
      refine X_iload rfl rfl rfl ?_
      refine X_iconst (v := -1) rfl rfl (by decide) ?_
      refine X_callSN_UW (M' := M_X7_setAt) (nA := 3) (As := [.ref v41, .int l4, .int (-1)]) (st := []) rfl rfl (by decide +kernel) rfl rfl rfl rfl rfl rfl rfl (fun _ e => ct_X7_setAt e) (fun h47 => ?_)
      refine X_aload_n rfl rfl rfl ?_
      refine X_getA rfl rfl (fun v51 => ?_)
      refine X_iload rfl rfl rfl ?_
      refine X_iconst (v := 0) rfl rfl (by decide) ?_
      refine X_callSN_UW (M' := M_X7_setAt) (nA := 3) (As := [.ref v51, .int l4, .int 0]) (st := []) rfl rfl (by decide +kernel) rfl rfl rfl rfl rfl rfl rfl (fun _ e => ct_X7_setAt e) (fun h57 => ?_)
      refine X_aload_n rfl rfl rfl ?_
      refine X_getA rfl rfl (fun v61 => ?_)
      refine X_iload rfl rfl rfl ?_
      refine X_iconst (v := 0) rfl rfl (by decide) ?_
      refine X_callSN_UW (M' := M_X7_setAt) (nA := 3) (As := [.ref v61, .int l4, .int 0]) (st := []) rfl rfl (by decide +kernel) rfl rfl rfl rfl rfl rfl rfl (fun _ e => ct_X7_setAt e) (fun h67 => ?_)
      refine X_iinc (v := l4 + 1) rfl rfl rfl (congrArg (fun z => l4 + z) (by decide : Int32.ofInt 1 = 1)) rfl ?_
      refine X_goto rfl rfl ?_
      exact X_sub (g_sub_s (g_sub_n (g_sub_n (g_sub_n (g_sub_s g_sub_0))))) (ih _ _ _)
    · exact X_vret rfl rfl rfl rfl rfl rfl
set_option maxRecDepth 100000 in
theorem ct_X3_become {l : Launch} {G : gG} {h : gH} {a0 : Nat} {p1 : Int32} {p2 : Int32} {p3 : Int32} {h1 : gH} (e : f_X3_become h a0 p1 p2 p3 = some h1) : Ct l G M_X3_become [.ref a0, .int p1, .int p2, .int p3] h none h1 := by
  refine Ct_of (L := [some (.ref a0), some (.int p1), some (.int p2), some (.int p3), none]) ok_X3_become (by decide +kernel) rfl rfl rfl (ρ := g_wU) (F := f_X3_become h a0 p1 p2 p3) ?_ e rfl
  unfold f_X3_become
  refine X_aload_n rfl rfl rfl ?_
  refine X_iload_n rfl rfl rfl ?_
  refine X_put rfl rfl rfl rfl rfl (fun h2 => ?_)
  refine X_aload_n rfl rfl rfl ?_
  refine X_iload_n rfl rfl rfl ?_
  refine X_put rfl rfl rfl rfl rfl (fun h7 => ?_)
  refine X_aload_n rfl rfl rfl ?_
  refine X_iload_n rfl rfl rfl ?_
  refine X_put rfl rfl rfl rfl rfl (fun h12 => ?_)
  refine X_aload_n rfl rfl rfl ?_
  refine X_iconst (v := 0) rfl rfl (by decide) ?_
  refine X_put rfl rfl rfl rfl rfl (fun h17 => ?_)
  refine X_aload_n rfl rfl rfl ?_
  refine X_iconst (v := -1) rfl rfl (by decide) ?_
  refine X_put rfl rfl rfl rfl rfl (fun h22 => ?_)
  refine X_aload_n rfl rfl rfl ?_
  refine X_iconst (v := -1) rfl rfl (by decide) ?_
  refine X_put rfl rfl rfl rfl rfl (fun h27 => ?_)
  refine X_iconst (v := 0) rfl rfl (by decide) ?_
  refine X_istore rfl rfl rfl rfl ?_
  exact X_sub (g_sub_s (g_sub_n (g_sub_n (g_sub_n (g_sub_s g_sub_0))))) (b_X3_become_b33  _ _ _ _)
def f_X3_takeLetters_b56 (K13 : gH → Nat → Nat → Int32 → Int32 → Option gH) (h : gH) (l0 : Nat) (l1 : Nat) (l2 : Int32) (l4 : Int32) : Option gH :=
  K13 h l0 l1 l2 (l4 + 1)
def f_X3_takeLetters_b91 (h : gH) (l0 : Nat) (s0 : Int32) (s1 : Nat) : Option gH :=
  (g_put h s1 3 4 (.int s0)).bind fun h91 =>
  (g_gI h91 l0 3 4).bind fun v96 =>
  (g_put h91 l0 3 8 (.int v96)).bind fun h99 =>
  some h99
def f_X3_takeLetters_b13 : Nat → gH → Nat → Nat → Int32 → Int32 → Option gH
  | 0, _, _, _, _, _ => none
  | n + 1, h, l0, l1, l2, l4 =>
    (g_gI h l0 3 2).bind fun v16 =>
    (if l4 < v16 then
      (if 0 ≤ (l2 + l4) then
        (g_aln h l1).bind fun v36 =>
        (if (l2 + l4) < v36 then
          (g_gA h l0 3 9).bind fun v41 =>
          (g_bld h l1 (l2 + l4)).bind fun v49 =>
          (f_X7_setAt h v41 l4 (v49 - 97)).bind fun h53 =>
          f_X3_takeLetters_b56 (f_X3_takeLetters_b13  n) h53 l0 l1 l2 l4
        else
          f_X3_takeLetters_b56 (f_X3_takeLetters_b13  n) h l0 l1 l2 l4)
      else
        f_X3_takeLetters_b56 (f_X3_takeLetters_b13  n) h l0 l1 l2 l4)
    else
      (g_gI h l0 3 3).bind fun v64 =>
      (if v64 < 1 then
        f_X3_takeLetters_b91 h l0 0 l0
      else
        (g_gI h l0 3 2).bind fun v76 =>
        (g_gI h l0 3 3).bind fun v80 =>
        (g_gI h l0 3 3).bind fun v87 =>
        if v87 = 0 then none else
        f_X3_takeLetters_b91 h l0 (((v76 + v80) - 1) / v87) l0))
def f_X3_takeLetters (h : gH) (a0 : Nat) (p1 : Nat) (p2 : Int32) (p3 : Int32) : Option gH :=
  (g_put h a0 3 2 (.int (g_min p3 24))).bind fun h7 =>
  f_X3_takeLetters_b13 g_N h7 a0 p1 p2 0
set_option maxRecDepth 100000 in
theorem b_X3_takeLetters_b56 {l : Launch} {G : gG} {K13 : gH → Nat → Nat → Int32 → Int32 → Option gH} (hK13 : ∀ (h : gH) (l0 : Nat) (l1 : Nat) (l2 : Int32) (l4 : Int32), GX l G M_X3_takeLetters (g_phi G g_wU (m_R M_X3_takeLetters).cells (m_R M_X3_takeLetters).slots) 0 0 13 [some (.ref l0), some (.ref l1), some (.int l2), none, some (.int l4), none] [] h (K13 h l0 l1 l2 l4)) (h : gH) (l0 : Nat) (l1 : Nat) (l2 : Int32) (l4 : Int32) : GX l G M_X3_takeLetters (g_phi G g_wU (m_R M_X3_takeLetters).cells (m_R M_X3_takeLetters).slots) 0 0 56 [some (.ref l0), some (.ref l1), some (.int l2), none, some (.int l4), none] [] h (f_X3_takeLetters_b56 K13 h l0 l1 l2 l4) := by
  unfold f_X3_takeLetters_b56
  refine X_iinc (v := l4 + 1) rfl rfl rfl (congrArg (fun z => l4 + z) (by decide : Int32.ofInt 1 = 1)) rfl ?_
  refine X_goto rfl rfl ?_
  exact X_sub (g_sub_s (g_sub_s (g_sub_s (g_sub_n (g_sub_s (g_sub_n g_sub_0)))))) (hK13 _ _ _ _ _)
set_option maxRecDepth 100000 in
theorem b_X3_takeLetters_b91 {l : Launch} {G : gG} (h : gH) (l0 : Nat) (s0 : Int32) (s1 : Nat) : GX l G M_X3_takeLetters (g_phi G g_wU (m_R M_X3_takeLetters).cells (m_R M_X3_takeLetters).slots) 0 0 91 [some (.ref l0), none, none, none, none, none] [.int s0, .ref s1] h (f_X3_takeLetters_b91 h l0 s0 s1) := by
  unfold f_X3_takeLetters_b91
  refine X_put rfl rfl rfl rfl rfl (fun h91 => ?_)
  refine X_aload_n rfl rfl rfl ?_
  refine X_aload_n rfl rfl rfl ?_
  refine X_getI rfl rfl (fun v96 => ?_)
  refine X_put rfl rfl rfl rfl rfl (fun h99 => ?_)
  exact X_vret rfl rfl rfl rfl rfl rfl
set_option maxRecDepth 100000 in
theorem b_X3_takeLetters_b13 {l : Launch} {G : gG} : ∀ (n : Nat) (h : gH) (l0 : Nat) (l1 : Nat) (l2 : Int32) (l4 : Int32), GX l G M_X3_takeLetters (g_phi G g_wU (m_R M_X3_takeLetters).cells (m_R M_X3_takeLetters).slots) 0 0 13 [some (.ref l0), some (.ref l1), some (.int l2), none, some (.int l4), none] [] h (f_X3_takeLetters_b13 n h l0 l1 l2 l4) := by
  intro n
  induction n with
  | zero => intros; exact X_none
  | succ n ih =>
    intro h l0 l1 l2 l4
    rw [f_X3_takeLetters_b13]
    refine X_iload rfl rfl rfl ?_
    refine X_aload_n rfl rfl rfl ?_
    refine X_getI rfl rfl (fun v16 => ?_)
    refine X_bicmp_ge rfl rfl (fun _ => ?_) (fun _ => ?_)
    · refine X_iload_n rfl rfl rfl ?_
      refine X_iload rfl rfl rfl ?_
      refine X_iadd rfl rfl ?_
      refine X_istore rfl rfl rfl rfl ?_
      refine X_iload rfl rfl rfl ?_
      refine X_bif_lt rfl rfl (fun _ => ?_) (fun _ => ?_)
      · refine X_iload rfl rfl rfl ?_
        refine X_aload_n rfl rfl rfl ?_
        refine X_aln rfl rfl (fun v36 => ?_)
        refine X_bicmp_ge rfl rfl (fun _ => ?_) (fun _ => ?_)
        · refine X_aload_n rfl rfl rfl ?_
          refine X_getA rfl rfl (fun v41 => ?_)
          refine X_iload rfl rfl rfl ?_
          refine X_aload_n rfl rfl rfl ?_
          refine X_iload rfl rfl rfl ?_
          refine X_bld rfl rfl (fun v49 => ?_)
          refine X_bipush (v := 97) rfl rfl (by decide) ?_
          refine X_isub rfl rfl ?_
          refine X_callSN_UW (M' := M_X7_setAt) (nA := 3) (As := [.ref v41, .int l4, .int (v49 - 97)]) (st := []) rfl rfl (by decide +kernel) rfl rfl rfl rfl rfl rfl rfl (fun _ e => ct_X7_setAt e) (fun h53 => ?_)
          exact X_sub (g_sub_s (g_sub_s (g_sub_s (g_sub_n (g_sub_s (g_sub_n g_sub_0)))))) (b_X3_takeLetters_b56 ih _ _ _ _ _)
        · exact X_sub (g_sub_s (g_sub_s (g_sub_s (g_sub_n (g_sub_s (g_sub_n g_sub_0)))))) (b_X3_takeLetters_b56 ih _ _ _ _ _)
      · exact X_sub (g_sub_s (g_sub_s (g_sub_s (g_sub_n (g_sub_s (g_sub_n g_sub_0)))))) (b_X3_takeLetters_b56 ih _ _ _ _ _)
    · refine X_aload_n rfl rfl rfl ?_
      refine X_aload_n rfl rfl rfl ?_
      refine X_getI rfl rfl (fun v64 => ?_)
      refine X_iconst (v := 1) rfl rfl (by decide) ?_
      refine X_bicmp_ge rfl rfl (fun _ => ?_) (fun _ => ?_)
      · refine X_iconst (v := 0) rfl rfl (by decide) ?_
        refine X_goto rfl rfl ?_
        exact X_sub (g_sub_s (g_sub_n (g_sub_n (g_sub_n (g_sub_n (g_sub_n g_sub_0)))))) (b_X3_takeLetters_b91  _ _ _ _)
      · refine X_aload_n rfl rfl rfl ?_
        refine X_getI rfl rfl (fun v76 => ?_)
        refine X_aload_n rfl rfl rfl ?_
        refine X_getI rfl rfl (fun v80 => ?_)
        refine X_iadd rfl rfl ?_
        refine X_iconst (v := 1) rfl rfl (by decide) ?_
        refine X_isub rfl rfl ?_
        refine X_aload_n rfl rfl rfl ?_
        refine X_getI rfl rfl (fun v87 => ?_)
        refine X_if (fun _ => X_none) (fun hz => ?_)
        refine X_idiv (v := ((v76 + v80) - 1) / v87) rfl rfl rfl hz ?_
        exact X_sub (g_sub_s (g_sub_n (g_sub_n (g_sub_n (g_sub_n (g_sub_n g_sub_0)))))) (b_X3_takeLetters_b91  _ _ _ _)
set_option maxRecDepth 100000 in
theorem ct_X3_takeLetters {l : Launch} {G : gG} {h : gH} {a0 : Nat} {p1 : Nat} {p2 : Int32} {p3 : Int32} {h1 : gH} (e : f_X3_takeLetters h a0 p1 p2 p3 = some h1) : Ct l G M_X3_takeLetters [.ref a0, .ref p1, .int p2, .int p3] h none h1 := by
  refine Ct_of (L := [some (.ref a0), some (.ref p1), some (.int p2), some (.int p3), none, none]) ok_X3_takeLetters (by decide +kernel) rfl rfl rfl (ρ := g_wU) (F := f_X3_takeLetters h a0 p1 p2 p3) ?_ e rfl
  unfold f_X3_takeLetters
  refine X_aload_n rfl rfl rfl ?_
  refine X_iload_n rfl rfl rfl ?_
  refine X_bipush (v := 24) rfl rfl (by decide) ?_
  refine X_mmin rfl rfl (by decide +kernel) (by decide +kernel) (by decide +kernel) (by decide +kernel) rfl rfl rfl rfl ?_
  refine X_put rfl rfl rfl rfl rfl (fun h7 => ?_)
  refine X_iconst (v := 0) rfl rfl (by decide) ?_
  refine X_istore rfl rfl rfl rfl ?_
  exact X_sub (g_sub_s (g_sub_s (g_sub_s (g_sub_n (g_sub_s (g_sub_n g_sub_0)))))) (b_X3_takeLetters_b13  _ _ _ _ _ _)
def f_X3_copyFrom (h : gH) (a0 : Nat) (p1 : Nat) : Option gH :=
  (g_gI h p1 3 0).bind fun v2 =>
  (g_put h a0 3 0 (.int v2)).bind fun h5 =>
  (g_gI h5 p1 3 1).bind fun v10 =>
  (g_put h5 a0 3 1 (.int v10)).bind fun h13 =>
  (g_gI h13 p1 3 2).bind fun v18 =>
  (g_put h13 a0 3 2 (.int v18)).bind fun h21 =>
  (g_gI h21 p1 3 3).bind fun v26 =>
  (g_put h21 a0 3 3 (.int v26)).bind fun h29 =>
  (g_gI h29 p1 3 4).bind fun v34 =>
  (g_put h29 a0 3 4 (.int v34)).bind fun h37 =>
  (g_gI h37 p1 3 5).bind fun v42 =>
  (g_put h37 a0 3 5 (.int v42)).bind fun h45 =>
  (g_gI h45 p1 3 6).bind fun v50 =>
  (g_put h45 a0 3 6 (.int v50)).bind fun h53 =>
  (g_gI h53 p1 3 7).bind fun v58 =>
  (g_put h53 a0 3 7 (.int v58)).bind fun h61 =>
  (g_gI h61 p1 3 8).bind fun v66 =>
  (g_put h61 a0 3 8 (.int v66)).bind fun h69 =>
  (g_gA h69 p1 3 9).bind fun v73 =>
  (g_gA h69 a0 3 9).bind fun v77 =>
  (f_X7_copyRow h69 v73 v77).bind fun h80 =>
  (g_gA h80 p1 3 10).bind fun v84 =>
  (g_gA h80 a0 3 10).bind fun v88 =>
  (f_X7_copyRow h80 v84 v88).bind fun h91 =>
  (g_gA h91 p1 3 11).bind fun v95 =>
  (g_gA h91 a0 3 11).bind fun v99 =>
  (f_X7_copyRow h91 v95 v99).bind fun h102 =>
  (g_gA h102 p1 3 12).bind fun v106 =>
  (g_gA h102 a0 3 12).bind fun v110 =>
  (f_X7_copyRow h102 v106 v110).bind fun h113 =>
  some h113
set_option maxRecDepth 100000 in
theorem ct_X3_copyFrom {l : Launch} {G : gG} {h : gH} {a0 : Nat} {p1 : Nat} {h1 : gH} (e : f_X3_copyFrom h a0 p1 = some h1) : Ct l G M_X3_copyFrom [.ref a0, .ref p1] h none h1 := by
  refine Ct_of (L := [some (.ref a0), some (.ref p1)]) ok_X3_copyFrom (by decide +kernel) rfl rfl rfl (ρ := g_wU) (F := f_X3_copyFrom h a0 p1) ?_ e rfl
  unfold f_X3_copyFrom
  refine X_aload_n rfl rfl rfl ?_
  refine X_aload_n rfl rfl rfl ?_
  refine X_getI rfl rfl (fun v2 => ?_)
  refine X_put rfl rfl rfl rfl rfl (fun h5 => ?_)
  refine X_aload_n rfl rfl rfl ?_
  refine X_aload_n rfl rfl rfl ?_
  refine X_getI rfl rfl (fun v10 => ?_)
  refine X_put rfl rfl rfl rfl rfl (fun h13 => ?_)
  refine X_aload_n rfl rfl rfl ?_
  refine X_aload_n rfl rfl rfl ?_
  refine X_getI rfl rfl (fun v18 => ?_)
  refine X_put rfl rfl rfl rfl rfl (fun h21 => ?_)
  refine X_aload_n rfl rfl rfl ?_
  refine X_aload_n rfl rfl rfl ?_
  refine X_getI rfl rfl (fun v26 => ?_)
  refine X_put rfl rfl rfl rfl rfl (fun h29 => ?_)
  refine X_aload_n rfl rfl rfl ?_
  refine X_aload_n rfl rfl rfl ?_
  refine X_getI rfl rfl (fun v34 => ?_)
  refine X_put rfl rfl rfl rfl rfl (fun h37 => ?_)
  refine X_aload_n rfl rfl rfl ?_
  refine X_aload_n rfl rfl rfl ?_
  refine X_getI rfl rfl (fun v42 => ?_)
  refine X_put rfl rfl rfl rfl rfl (fun h45 => ?_)
  refine X_aload_n rfl rfl rfl ?_
  refine X_aload_n rfl rfl rfl ?_
  refine X_getI rfl rfl (fun v50 => ?_)
  refine X_put rfl rfl rfl rfl rfl (fun h53 => ?_)
  refine X_aload_n rfl rfl rfl ?_
  refine X_aload_n rfl rfl rfl ?_
  refine X_getI rfl rfl (fun v58 => ?_)
  refine X_put rfl rfl rfl rfl rfl (fun h61 => ?_)
  refine X_aload_n rfl rfl rfl ?_
  refine X_aload_n rfl rfl rfl ?_
  refine X_getI rfl rfl (fun v66 => ?_)
  refine X_put rfl rfl rfl rfl rfl (fun h69 => ?_)
  refine X_aload_n rfl rfl rfl ?_
  refine X_getA rfl rfl (fun v73 => ?_)
  refine X_aload_n rfl rfl rfl ?_
  refine X_getA rfl rfl (fun v77 => ?_)
  refine X_callSN_UW (M' := M_X7_copyRow) (nA := 2) (As := [.ref v73, .ref v77]) (st := []) rfl rfl (by decide +kernel) rfl rfl rfl rfl rfl rfl rfl (fun _ e => ct_X7_copyRow e) (fun h80 => ?_)
  refine X_aload_n rfl rfl rfl ?_
  refine X_getA rfl rfl (fun v84 => ?_)
  refine X_aload_n rfl rfl rfl ?_
  refine X_getA rfl rfl (fun v88 => ?_)
  refine X_callSN_UW (M' := M_X7_copyRow) (nA := 2) (As := [.ref v84, .ref v88]) (st := []) rfl rfl (by decide +kernel) rfl rfl rfl rfl rfl rfl rfl (fun _ e => ct_X7_copyRow e) (fun h91 => ?_)
  refine X_aload_n rfl rfl rfl ?_
  refine X_getA rfl rfl (fun v95 => ?_)
  refine X_aload_n rfl rfl rfl ?_
  refine X_getA rfl rfl (fun v99 => ?_)
  refine X_callSN_UW (M' := M_X7_copyRow) (nA := 2) (As := [.ref v95, .ref v99]) (st := []) rfl rfl (by decide +kernel) rfl rfl rfl rfl rfl rfl rfl (fun _ e => ct_X7_copyRow e) (fun h102 => ?_)
  refine X_aload_n rfl rfl rfl ?_
  refine X_getA rfl rfl (fun v106 => ?_)
  refine X_aload_n rfl rfl rfl ?_
  refine X_getA rfl rfl (fun v110 => ?_)
  refine X_callSN_UW (M' := M_X7_copyRow) (nA := 2) (As := [.ref v106, .ref v110]) (st := []) rfl rfl (by decide +kernel) rfl rfl rfl rfl rfl rfl rfl (fun _ e => ct_X7_copyRow e) (fun h113 => ?_)
  exact X_vret rfl rfl rfl rfl rfl rfl
def f_X3_loggedAt (h : gH) (a0 : Nat) (p1 : Int32) : Option (Int32) :=
  (g_gA h a0 3 10).bind fun v1 =>
  (f_X7_valueAt h v1 p1).bind fun v5 =>
  some v5
set_option maxRecDepth 100000 in
theorem ct_X3_loggedAt {l : Launch} {G : gG} {h : gH} {a0 : Nat} {p1 : Int32} {r : Int32} (e : f_X3_loggedAt h a0 p1 = some r) : Ct l G M_X3_loggedAt [.ref a0, .int p1] h (some (.int r)) h := by
  refine Ct_of (L := [some (.ref a0), some (.int p1)]) ok_X3_loggedAt (by decide +kernel) rfl rfl rfl (ρ := (g_rI h)) (F := f_X3_loggedAt h a0 p1) ?_ e rfl
  unfold f_X3_loggedAt
  refine X_aload_n rfl rfl rfl ?_
  refine X_getA rfl rfl (fun v1 => ?_)
  refine X_iload_n rfl rfl rfl ?_
  refine X_callSN_IR (M' := M_X7_valueAt) (nA := 2) (As := [.ref v1, .int p1]) (st := []) rfl rfl (by decide +kernel) rfl rfl rfl rfl rfl rfl rfl (fun _ e => ct_X7_valueAt e) (fun v5 => ?_)
  exact X_iret rfl rfl rfl rfl rfl rfl rfl
def f_X3_emptyPlaces_b24 (h : gH) (K4 : Nat → Int32 → Int32 → Option (Int32)) (l0 : Nat) (l1 : Int32) (l2 : Int32) : Option (Int32) :=
  K4 l0 l1 (l2 + 1)
def f_X3_emptyPlaces_b4 (h : gH) : Nat → Nat → Int32 → Int32 → Option (Int32)
  | 0, _, _, _ => none
  | n + 1, l0, l1, l2 =>
    (g_gI h l0 3 2).bind fun v6 =>
    (if l2 < v6 then
      bif g_is h l0 3 then
      (f_X3_loggedAt h l0 l2).bind fun v14 =>
      (if v14 = (-1) then
        f_X3_emptyPlaces_b24 h (f_X3_emptyPlaces_b4 h n) l0 (l1 + 1) l2
      else
        f_X3_emptyPlaces_b24 h (f_X3_emptyPlaces_b4 h n) l0 l1 l2)
      else none
    else
      some l1)
def f_X3_emptyPlaces (h : gH) (a0 : Nat) : Option (Int32) :=
  f_X3_emptyPlaces_b4 h g_N a0 0 0
set_option maxRecDepth 100000 in
theorem b_X3_emptyPlaces_b24 {l : Launch} {G : gG} {h : gH} {K4 : Nat → Int32 → Int32 → Option (Int32)} (hK4 : ∀ (l0 : Nat) (l1 : Int32) (l2 : Int32), GX l G M_X3_emptyPlaces (g_phi G (g_rI h) (m_R M_X3_emptyPlaces).cells (m_R M_X3_emptyPlaces).slots) 0 0 4 [some (.ref l0), some (.int l1), some (.int l2)] [] h (K4 l0 l1 l2)) (l0 : Nat) (l1 : Int32) (l2 : Int32) : GX l G M_X3_emptyPlaces (g_phi G (g_rI h) (m_R M_X3_emptyPlaces).cells (m_R M_X3_emptyPlaces).slots) 0 0 24 [some (.ref l0), some (.int l1), some (.int l2)] [] h (f_X3_emptyPlaces_b24 h K4 l0 l1 l2) := by
  unfold f_X3_emptyPlaces_b24
  refine X_iinc (v := l2 + 1) rfl rfl rfl (congrArg (fun z => l2 + z) (by decide : Int32.ofInt 1 = 1)) rfl ?_
  refine X_goto rfl rfl ?_
  exact X_sub (g_sub_s (g_sub_s (g_sub_s g_sub_0))) (hK4 _ _ _)
set_option maxRecDepth 100000 in
theorem b_X3_emptyPlaces_b4 {l : Launch} {G : gG} {h : gH} : ∀ (n : Nat) (l0 : Nat) (l1 : Int32) (l2 : Int32), GX l G M_X3_emptyPlaces (g_phi G (g_rI h) (m_R M_X3_emptyPlaces).cells (m_R M_X3_emptyPlaces).slots) 0 0 4 [some (.ref l0), some (.int l1), some (.int l2)] [] h (f_X3_emptyPlaces_b4 h n l0 l1 l2) := by
  intro n
  induction n with
  | zero => intros; exact X_none
  | succ n ih =>
    intro l0 l1 l2
    rw [f_X3_emptyPlaces_b4]
    refine X_iload_n rfl rfl rfl ?_
    refine X_aload_n rfl rfl rfl ?_
    refine X_getI rfl rfl (fun v6 => ?_)
    refine X_bicmp_ge rfl rfl (fun _ => ?_) (fun _ => ?_)
    · refine X_aload_n rfl rfl rfl ?_
      refine X_iload_n rfl rfl rfl ?_
      refine X_callV_IR (M' := M_X3_loggedAt) (nA := 1) (As := [.int l2]) (st := []) (b := l0) (ci := 3) rfl rfl (by decide +kernel) rfl rfl rfl rfl rfl rfl rfl rfl (fun _ e => ct_X3_loggedAt e) (fun v14 => ?_)
      refine X_iconst (v := -1) rfl rfl (by decide) ?_
      refine X_bicmp_ne rfl rfl (fun _ => ?_) (fun _ => ?_)
      · refine X_iinc (v := l1 + 1) rfl rfl rfl (congrArg (fun z => l1 + z) (by decide : Int32.ofInt 1 = 1)) rfl ?_
        exact X_sub (g_sub_s (g_sub_s (g_sub_s g_sub_0))) (b_X3_emptyPlaces_b24 ih _ _ _)
      · exact X_sub (g_sub_s (g_sub_s (g_sub_s g_sub_0))) (b_X3_emptyPlaces_b24 ih _ _ _)
    · refine X_iload_n rfl rfl rfl ?_
      exact X_iret rfl rfl rfl rfl rfl rfl rfl
set_option maxRecDepth 100000 in
theorem ct_X3_emptyPlaces {l : Launch} {G : gG} {h : gH} {a0 : Nat} {r : Int32} (e : f_X3_emptyPlaces h a0 = some r) : Ct l G M_X3_emptyPlaces [.ref a0] h (some (.int r)) h := by
  refine Ct_of (L := [some (.ref a0), none, none]) ok_X3_emptyPlaces (by decide +kernel) rfl rfl rfl (ρ := (g_rI h)) (F := f_X3_emptyPlaces h a0) ?_ e rfl
  unfold f_X3_emptyPlaces
  refine X_iconst (v := 0) rfl rfl (by decide) ?_
  refine X_istore_n rfl rfl rfl rfl ?_
  refine X_iconst (v := 0) rfl rfl (by decide) ?_
  refine X_istore_n rfl rfl rfl rfl ?_
  exact X_sub (g_sub_s (g_sub_s (g_sub_s g_sub_0))) (b_X3_emptyPlaces_b4  _ _ _ _)
def f_X3_letterAt (h : gH) (a0 : Nat) (p1 : Int32) : Option (Int32) :=
  (g_gA h a0 3 9).bind fun v1 =>
  (f_X7_valueAt h v1 p1).bind fun v5 =>
  some v5
set_option maxRecDepth 100000 in
theorem ct_X3_letterAt {l : Launch} {G : gG} {h : gH} {a0 : Nat} {p1 : Int32} {r : Int32} (e : f_X3_letterAt h a0 p1 = some r) : Ct l G M_X3_letterAt [.ref a0, .int p1] h (some (.int r)) h := by
  refine Ct_of (L := [some (.ref a0), some (.int p1)]) ok_X3_letterAt (by decide +kernel) rfl rfl rfl (ρ := (g_rI h)) (F := f_X3_letterAt h a0 p1) ?_ e rfl
  unfold f_X3_letterAt
  refine X_aload_n rfl rfl rfl ?_
  refine X_getA rfl rfl (fun v1 => ?_)
  refine X_iload_n rfl rfl rfl ?_
  refine X_callSN_IR (M' := M_X7_valueAt) (nA := 2) (As := [.ref v1, .int p1]) (st := []) rfl rfl (by decide +kernel) rfl rfl rfl rfl rfl rfl rfl (fun _ e => ct_X7_valueAt e) (fun v5 => ?_)
  exact X_iret rfl rfl rfl rfl rfl rfl rfl
def f_X3_wrongPlaces_b37 (h : gH) (K4 : Nat → Int32 → Int32 → Option (Int32)) (l0 : Nat) (l1 : Int32) (l2 : Int32) : Option (Int32) :=
  K4 l0 l1 (l2 + 1)
def f_X3_wrongPlaces_b4 (h : gH) : Nat → Nat → Int32 → Int32 → Option (Int32)
  | 0, _, _, _ => none
  | n + 1, l0, l1, l2 =>
    (g_gI h l0 3 2).bind fun v6 =>
    (if l2 < v6 then
      bif g_is h l0 3 then
      (f_X3_loggedAt h l0 l2).bind fun v14 =>
      (if v14 = (-1) then
        f_X3_wrongPlaces_b37 h (f_X3_wrongPlaces_b4 h n) l0 l1 l2
      else
        bif g_is h l0 3 then
        (f_X3_loggedAt h l0 l2).bind fun v23 =>
        bif g_is h l0 3 then
        (f_X3_letterAt h l0 l2).bind fun v28 =>
        (if v23 = v28 then
          f_X3_wrongPlaces_b37 h (f_X3_wrongPlaces_b4 h n) l0 l1 l2
        else
          f_X3_wrongPlaces_b37 h (f_X3_wrongPlaces_b4 h n) l0 (l1 + 1) l2)
        else none
        else none)
      else none
    else
      some l1)
def f_X3_wrongPlaces (h : gH) (a0 : Nat) : Option (Int32) :=
  f_X3_wrongPlaces_b4 h g_N a0 0 0
set_option maxRecDepth 100000 in
theorem b_X3_wrongPlaces_b37 {l : Launch} {G : gG} {h : gH} {K4 : Nat → Int32 → Int32 → Option (Int32)} (hK4 : ∀ (l0 : Nat) (l1 : Int32) (l2 : Int32), GX l G M_X3_wrongPlaces (g_phi G (g_rI h) (m_R M_X3_wrongPlaces).cells (m_R M_X3_wrongPlaces).slots) 0 0 4 [some (.ref l0), some (.int l1), some (.int l2)] [] h (K4 l0 l1 l2)) (l0 : Nat) (l1 : Int32) (l2 : Int32) : GX l G M_X3_wrongPlaces (g_phi G (g_rI h) (m_R M_X3_wrongPlaces).cells (m_R M_X3_wrongPlaces).slots) 0 0 37 [some (.ref l0), some (.int l1), some (.int l2)] [] h (f_X3_wrongPlaces_b37 h K4 l0 l1 l2) := by
  unfold f_X3_wrongPlaces_b37
  refine X_iinc (v := l2 + 1) rfl rfl rfl (congrArg (fun z => l2 + z) (by decide : Int32.ofInt 1 = 1)) rfl ?_
  refine X_goto rfl rfl ?_
  exact X_sub (g_sub_s (g_sub_s (g_sub_s g_sub_0))) (hK4 _ _ _)
set_option maxRecDepth 100000 in
theorem b_X3_wrongPlaces_b4 {l : Launch} {G : gG} {h : gH} : ∀ (n : Nat) (l0 : Nat) (l1 : Int32) (l2 : Int32), GX l G M_X3_wrongPlaces (g_phi G (g_rI h) (m_R M_X3_wrongPlaces).cells (m_R M_X3_wrongPlaces).slots) 0 0 4 [some (.ref l0), some (.int l1), some (.int l2)] [] h (f_X3_wrongPlaces_b4 h n l0 l1 l2) := by
  intro n
  induction n with
  | zero => intros; exact X_none
  | succ n ih =>
    intro l0 l1 l2
    rw [f_X3_wrongPlaces_b4]
    refine X_iload_n rfl rfl rfl ?_
    refine X_aload_n rfl rfl rfl ?_
    refine X_getI rfl rfl (fun v6 => ?_)
    refine X_bicmp_ge rfl rfl (fun _ => ?_) (fun _ => ?_)
    · refine X_aload_n rfl rfl rfl ?_
      refine X_iload_n rfl rfl rfl ?_
      refine X_callV_IR (M' := M_X3_loggedAt) (nA := 1) (As := [.int l2]) (st := []) (b := l0) (ci := 3) rfl rfl (by decide +kernel) rfl rfl rfl rfl rfl rfl rfl rfl (fun _ e => ct_X3_loggedAt e) (fun v14 => ?_)
      refine X_iconst (v := -1) rfl rfl (by decide) ?_
      refine X_bicmp_eq rfl rfl (fun _ => ?_) (fun _ => ?_)
      · exact X_sub (g_sub_s (g_sub_s (g_sub_s g_sub_0))) (b_X3_wrongPlaces_b37 ih _ _ _)
      · refine X_aload_n rfl rfl rfl ?_
        refine X_iload_n rfl rfl rfl ?_
        refine X_callV_IR (M' := M_X3_loggedAt) (nA := 1) (As := [.int l2]) (st := []) (b := l0) (ci := 3) rfl rfl (by decide +kernel) rfl rfl rfl rfl rfl rfl rfl rfl (fun _ e => ct_X3_loggedAt e) (fun v23 => ?_)
        refine X_aload_n rfl rfl rfl ?_
        refine X_iload_n rfl rfl rfl ?_
        refine X_callV_IR (M' := M_X3_letterAt) (nA := 1) (As := [.int l2]) (st := [.int v23]) (b := l0) (ci := 3) rfl rfl (by decide +kernel) rfl rfl rfl rfl rfl rfl rfl rfl (fun _ e => ct_X3_letterAt e) (fun v28 => ?_)
        refine X_bicmp_eq rfl rfl (fun _ => ?_) (fun _ => ?_)
        · exact X_sub (g_sub_s (g_sub_s (g_sub_s g_sub_0))) (b_X3_wrongPlaces_b37 ih _ _ _)
        · refine X_iinc (v := l1 + 1) rfl rfl rfl (congrArg (fun z => l1 + z) (by decide : Int32.ofInt 1 = 1)) rfl ?_
          exact X_sub (g_sub_s (g_sub_s (g_sub_s g_sub_0))) (b_X3_wrongPlaces_b37 ih _ _ _)
    · refine X_iload_n rfl rfl rfl ?_
      exact X_iret rfl rfl rfl rfl rfl rfl rfl
set_option maxRecDepth 100000 in
theorem ct_X3_wrongPlaces {l : Launch} {G : gG} {h : gH} {a0 : Nat} {r : Int32} (e : f_X3_wrongPlaces h a0 = some r) : Ct l G M_X3_wrongPlaces [.ref a0] h (some (.int r)) h := by
  refine Ct_of (L := [some (.ref a0), none, none]) ok_X3_wrongPlaces (by decide +kernel) rfl rfl rfl (ρ := (g_rI h)) (F := f_X3_wrongPlaces h a0) ?_ e rfl
  unfold f_X3_wrongPlaces
  refine X_iconst (v := 0) rfl rfl (by decide) ?_
  refine X_istore_n rfl rfl rfl rfl ?_
  refine X_iconst (v := 0) rfl rfl (by decide) ?_
  refine X_istore_n rfl rfl rfl rfl ?_
  exact X_sub (g_sub_s (g_sub_s (g_sub_s g_sub_0))) (b_X3_wrongPlaces_b4  _ _ _ _)
def f_X3_allTries_b4 (h : gH) : Nat → Nat → Int32 → Int32 → Option (Int32)
  | 0, _, _, _ => none
  | n + 1, l0, l1, l2 =>
    (g_gI h l0 3 4).bind fun v6 =>
    (if l2 < v6 then
      (g_gA h l0 3 12).bind fun v14 =>
      (f_X7_valueAt h v14 l2).bind fun v18 =>
      f_X3_allTries_b4 h n l0 (l1 + v18) (l2 + 1)
    else
      some l1)
def f_X3_allTries (h : gH) (a0 : Nat) : Option (Int32) :=
  f_X3_allTries_b4 h g_N a0 0 0
set_option maxRecDepth 100000 in
theorem b_X3_allTries_b4 {l : Launch} {G : gG} {h : gH} : ∀ (n : Nat) (l0 : Nat) (l1 : Int32) (l2 : Int32), GX l G M_X3_allTries (g_phi G (g_rI h) (m_R M_X3_allTries).cells (m_R M_X3_allTries).slots) 0 0 4 [some (.ref l0), some (.int l1), some (.int l2)] [] h (f_X3_allTries_b4 h n l0 l1 l2) := by
  intro n
  induction n with
  | zero => intros; exact X_none
  | succ n ih =>
    intro l0 l1 l2
    rw [f_X3_allTries_b4]
    refine X_iload_n rfl rfl rfl ?_
    refine X_aload_n rfl rfl rfl ?_
    refine X_getI rfl rfl (fun v6 => ?_)
    refine X_bicmp_ge rfl rfl (fun _ => ?_) (fun _ => ?_)
    · refine X_iload_n rfl rfl rfl ?_
      refine X_aload_n rfl rfl rfl ?_
      refine X_getA rfl rfl (fun v14 => ?_)
      refine X_iload_n rfl rfl rfl ?_
      refine X_callSN_IR (M' := M_X7_valueAt) (nA := 2) (As := [.ref v14, .int l2]) (st := [.int l1]) rfl rfl (by decide +kernel) rfl rfl rfl rfl rfl rfl rfl (fun _ e => ct_X7_valueAt e) (fun v18 => ?_)
      refine X_iadd rfl rfl ?_
      refine X_istore_n rfl rfl rfl rfl ?_
      refine X_iinc (v := l2 + 1) rfl rfl rfl (congrArg (fun z => l2 + z) (by decide : Int32.ofInt 1 = 1)) rfl ?_
      refine X_goto rfl rfl ?_
      exact X_sub (g_sub_s (g_sub_s (g_sub_s g_sub_0))) (ih _ _ _)
    · refine X_iload_n rfl rfl rfl ?_
      exact X_iret rfl rfl rfl rfl rfl rfl rfl
set_option maxRecDepth 100000 in
theorem ct_X3_allTries {l : Launch} {G : gG} {h : gH} {a0 : Nat} {r : Int32} (e : f_X3_allTries h a0 = some r) : Ct l G M_X3_allTries [.ref a0] h (some (.int r)) h := by
  refine Ct_of (L := [some (.ref a0), none, none]) ok_X3_allTries (by decide +kernel) rfl rfl rfl (ρ := (g_rI h)) (F := f_X3_allTries h a0) ?_ e rfl
  unfold f_X3_allTries
  refine X_iconst (v := 0) rfl rfl (by decide) ?_
  refine X_istore_n rfl rfl rfl rfl ?_
  refine X_iconst (v := 0) rfl rfl (by decide) ?_
  refine X_istore_n rfl rfl rfl rfl ?_
  exact X_sub (g_sub_s (g_sub_s (g_sub_s g_sub_0))) (b_X3_allTries_b4  _ _ _ _)
def f_X3_figure (h : gH) (a0 : Nat) (p1 : Int32) : Option (Int32) :=
  (if p1 = 0 then
    (g_gI h a0 3 0).bind fun v53 =>
    some v53
  else
    (if p1 = 1 then
      (g_gI h a0 3 1).bind fun v58 =>
      some v58
    else
      (if p1 = 2 then
        (g_gI h a0 3 2).bind fun v63 =>
        some v63
      else
        (if p1 = 3 then
          (g_gI h a0 3 4).bind fun v68 =>
          some v68
        else
          (if p1 = 4 then
            (g_gI h a0 3 5).bind fun v73 =>
            some v73
          else
            (if p1 = 5 then
              bif g_is h a0 3 then
              (f_X3_emptyPlaces h a0).bind fun v78 =>
              some v78
              else none
            else
              (if p1 = 6 then
                bif g_is h a0 3 then
                (f_X3_wrongPlaces h a0).bind fun v83 =>
                some v83
                else none
              else
                (if p1 = 7 then
                  bif g_is h a0 3 then
                  (f_X3_allTries h a0).bind fun v88 =>
                  some v88
                  else none
                else
                  (if p1 = 8 then
                    (g_gI h a0 3 6).bind fun v93 =>
                    some v93
                  else
                    (g_gI h a0 3 7).bind fun v98 =>
                    some v98)))))))))
set_option maxRecDepth 100000 in
theorem ct_X3_figure {l : Launch} {G : gG} {h : gH} {a0 : Nat} {p1 : Int32} {r : Int32} (e : f_X3_figure h a0 p1 = some r) : Ct l G M_X3_figure [.ref a0, .int p1] h (some (.int r)) h := by
  refine Ct_of (L := [some (.ref a0), some (.int p1)]) ok_X3_figure (by decide +kernel) rfl rfl rfl (ρ := (g_rI h)) (F := f_X3_figure h a0 p1) ?_ e rfl
  unfold f_X3_figure
  refine X_iload_n rfl rfl rfl ?_
  refine X_if (fun c1_0 => ?_) (fun c1_0 => ?_)
  · refine X_tswIn (v := 0) (len := 51) (tgt := 52) (off := 51) rfl rfl c1_0 (by decide) (by decide) rfl rfl ?_
    refine X_aload_n rfl rfl rfl ?_
    refine X_getI rfl rfl (fun v53 => ?_)
    exact X_iret rfl rfl rfl rfl rfl rfl rfl
  · refine X_if (fun c1_1 => ?_) (fun c1_1 => ?_)
    · refine X_tswIn (v := 1) (len := 51) (tgt := 57) (off := 56) rfl rfl c1_1 (by decide) (by decide) rfl rfl ?_
      refine X_aload_n rfl rfl rfl ?_
      refine X_getI rfl rfl (fun v58 => ?_)
      exact X_iret rfl rfl rfl rfl rfl rfl rfl
    · refine X_if (fun c1_2 => ?_) (fun c1_2 => ?_)
      · refine X_tswIn (v := 2) (len := 51) (tgt := 62) (off := 61) rfl rfl c1_2 (by decide) (by decide) rfl rfl ?_
        refine X_aload_n rfl rfl rfl ?_
        refine X_getI rfl rfl (fun v63 => ?_)
        exact X_iret rfl rfl rfl rfl rfl rfl rfl
      · refine X_if (fun c1_3 => ?_) (fun c1_3 => ?_)
        · refine X_tswIn (v := 3) (len := 51) (tgt := 67) (off := 66) rfl rfl c1_3 (by decide) (by decide) rfl rfl ?_
          refine X_aload_n rfl rfl rfl ?_
          refine X_getI rfl rfl (fun v68 => ?_)
          exact X_iret rfl rfl rfl rfl rfl rfl rfl
        · refine X_if (fun c1_4 => ?_) (fun c1_4 => ?_)
          · refine X_tswIn (v := 4) (len := 51) (tgt := 72) (off := 71) rfl rfl c1_4 (by decide) (by decide) rfl rfl ?_
            refine X_aload_n rfl rfl rfl ?_
            refine X_getI rfl rfl (fun v73 => ?_)
            exact X_iret rfl rfl rfl rfl rfl rfl rfl
          · refine X_if (fun c1_5 => ?_) (fun c1_5 => ?_)
            · refine X_tswIn (v := 5) (len := 51) (tgt := 77) (off := 76) rfl rfl c1_5 (by decide) (by decide) rfl rfl ?_
              refine X_aload_n rfl rfl rfl ?_
              refine X_callV_IR (M' := M_X3_emptyPlaces) (nA := 0) (As := []) (st := []) (b := a0) (ci := 3) rfl rfl (by decide +kernel) rfl rfl rfl rfl rfl rfl rfl rfl (fun _ e => ct_X3_emptyPlaces e) (fun v78 => ?_)
              exact X_iret rfl rfl rfl rfl rfl rfl rfl
            · refine X_if (fun c1_6 => ?_) (fun c1_6 => ?_)
              · refine X_tswIn (v := 6) (len := 51) (tgt := 82) (off := 81) rfl rfl c1_6 (by decide) (by decide) rfl rfl ?_
                refine X_aload_n rfl rfl rfl ?_
                refine X_callV_IR (M' := M_X3_wrongPlaces) (nA := 0) (As := []) (st := []) (b := a0) (ci := 3) rfl rfl (by decide +kernel) rfl rfl rfl rfl rfl rfl rfl rfl (fun _ e => ct_X3_wrongPlaces e) (fun v83 => ?_)
                exact X_iret rfl rfl rfl rfl rfl rfl rfl
              · refine X_if (fun c1_7 => ?_) (fun c1_7 => ?_)
                · refine X_tswIn (v := 7) (len := 51) (tgt := 87) (off := 86) rfl rfl c1_7 (by decide) (by decide) rfl rfl ?_
                  refine X_aload_n rfl rfl rfl ?_
                  refine X_callV_IR (M' := M_X3_allTries) (nA := 0) (As := []) (st := []) (b := a0) (ci := 3) rfl rfl (by decide +kernel) rfl rfl rfl rfl rfl rfl rfl rfl (fun _ e => ct_X3_allTries e) (fun v88 => ?_)
                  exact X_iret rfl rfl rfl rfl rfl rfl rfl
                · refine X_if (fun c1_8 => ?_) (fun c1_8 => ?_)
                  · refine X_tswIn (v := 8) (len := 51) (tgt := 92) (off := 91) rfl rfl c1_8 (by decide) (by decide) rfl rfl ?_
                    refine X_aload_n rfl rfl rfl ?_
                    refine X_getI rfl rfl (fun v93 => ?_)
                    exact X_iret rfl rfl rfl rfl rfl rfl rfl
                  · refine X_tswOut (len := 51) (tgt := 97) rfl rfl (by have := g_neI c1_0 (show Int32.toInt (0) = 0 by decide) ; have := g_neI c1_1 (show Int32.toInt (1) = 1 by decide) ; have := g_neI c1_2 (show Int32.toInt (2) = 2 by decide) ; have := g_neI c1_3 (show Int32.toInt (3) = 3 by decide) ; have := g_neI c1_4 (show Int32.toInt (4) = 4 by decide) ; have := g_neI c1_5 (show Int32.toInt (5) = 5 by decide) ; have := g_neI c1_6 (show Int32.toInt (6) = 6 by decide) ; have := g_neI c1_7 (show Int32.toInt (7) = 7 by decide) ; have := g_neI c1_8 (show Int32.toInt (8) = 8 by decide); omega) rfl ?_
                    refine X_aload_n rfl rfl rfl ?_
                    refine X_getI rfl rfl (fun v98 => ?_)
                    exact X_iret rfl rfl rfl rfl rfl rfl rfl
def f_X3_agrees (h : gH) (a0 : Nat) : Option (Int32) :=
  (g_gI h a0 3 5).bind fun v1 =>
  (if v1 = 2 then
    bif g_is h a0 3 then
    (f_X3_emptyPlaces h a0).bind fun v9 =>
    (if v9 = 0 then
      bif g_is h a0 3 then
      (f_X3_wrongPlaces h a0).bind fun v16 =>
      (if v16 = 0 then
        some 1
      else
        some 0)
      else none
    else
      some 0)
    else none
  else
    some 0)
set_option maxRecDepth 100000 in
theorem ct_X3_agrees {l : Launch} {G : gG} {h : gH} {a0 : Nat} {r : Int32} (e : f_X3_agrees h a0 = some r) : Ct l G M_X3_agrees [.ref a0] h (some (.int r)) h := by
  refine Ct_of (L := [some (.ref a0)]) ok_X3_agrees (by decide +kernel) rfl rfl rfl (ρ := (g_rI h)) (F := f_X3_agrees h a0) ?_ e rfl
  unfold f_X3_agrees
  refine X_aload_n rfl rfl rfl ?_
  refine X_getI rfl rfl (fun v1 => ?_)
  refine X_iconst (v := 2) rfl rfl (by decide) ?_
  refine X_bicmp_ne rfl rfl (fun _ => ?_) (fun _ => ?_)
  · refine X_aload_n rfl rfl rfl ?_
    refine X_callV_IR (M' := M_X3_emptyPlaces) (nA := 0) (As := []) (st := []) (b := a0) (ci := 3) rfl rfl (by decide +kernel) rfl rfl rfl rfl rfl rfl rfl rfl (fun _ e => ct_X3_emptyPlaces e) (fun v9 => ?_)
    refine X_bif_ne rfl rfl (fun _ => ?_) (fun _ => ?_)
    · refine X_aload_n rfl rfl rfl ?_
      refine X_callV_IR (M' := M_X3_wrongPlaces) (nA := 0) (As := []) (st := []) (b := a0) (ci := 3) rfl rfl (by decide +kernel) rfl rfl rfl rfl rfl rfl rfl rfl (fun _ e => ct_X3_wrongPlaces e) (fun v16 => ?_)
      refine X_bif_ne rfl rfl (fun _ => ?_) (fun _ => ?_)
      · refine X_iconst (v := 1) rfl rfl (by decide) ?_
        refine X_goto rfl rfl ?_
        exact X_iret rfl rfl rfl rfl rfl rfl rfl
      · refine X_iconst (v := 0) rfl rfl (by decide) ?_
        exact X_iret rfl rfl rfl rfl rfl rfl rfl
    · refine X_iconst (v := 0) rfl rfl (by decide) ?_
      exact X_iret rfl rfl rfl rfl rfl rfl rfl
  · refine X_iconst (v := 0) rfl rfl (by decide) ?_
    exact X_iret rfl rfl rfl rfl rfl rfl rfl
def f_X3_canBeCancelled_b15 (h : gH) : Option (Int32) :=
  some 1
def f_X3_canBeCancelled (h : gH) (a0 : Nat) : Option (Int32) :=
  (g_gI h a0 3 5).bind fun v1 =>
  (if v1 = 0 then
    f_X3_canBeCancelled_b15 h
  else
    (g_gI h a0 3 5).bind fun v8 =>
    (if v8 = 1 then
      f_X3_canBeCancelled_b15 h
    else
      some 0))
set_option maxRecDepth 100000 in
theorem b_X3_canBeCancelled_b15 {l : Launch} {G : gG} {h : gH} : GX l G M_X3_canBeCancelled (g_phi G (g_rI h) (m_R M_X3_canBeCancelled).cells (m_R M_X3_canBeCancelled).slots) 0 0 15 [none] [] h (f_X3_canBeCancelled_b15 h) := by
  unfold f_X3_canBeCancelled_b15
  refine X_iconst (v := 1) rfl rfl (by decide) ?_
  refine X_goto rfl rfl ?_
  exact X_iret rfl rfl rfl rfl rfl rfl rfl
set_option maxRecDepth 100000 in
theorem ct_X3_canBeCancelled {l : Launch} {G : gG} {h : gH} {a0 : Nat} {r : Int32} (e : f_X3_canBeCancelled h a0 = some r) : Ct l G M_X3_canBeCancelled [.ref a0] h (some (.int r)) h := by
  refine Ct_of (L := [some (.ref a0)]) ok_X3_canBeCancelled (by decide +kernel) rfl rfl rfl (ρ := (g_rI h)) (F := f_X3_canBeCancelled h a0) ?_ e rfl
  unfold f_X3_canBeCancelled
  refine X_aload_n rfl rfl rfl ?_
  refine X_getI rfl rfl (fun v1 => ?_)
  refine X_bif_eq rfl rfl (fun _ => ?_) (fun _ => ?_)
  · exact X_sub (g_sub_n g_sub_0) (b_X3_canBeCancelled_b15  )
  · refine X_aload_n rfl rfl rfl ?_
    refine X_getI rfl rfl (fun v8 => ?_)
    refine X_iconst (v := 1) rfl rfl (by decide) ?_
    refine X_bicmp_ne rfl rfl (fun _ => ?_) (fun _ => ?_)
    · exact X_sub (g_sub_n g_sub_0) (b_X3_canBeCancelled_b15  )
    · refine X_iconst (v := 0) rfl rfl (by decide) ?_
      exact X_iret rfl rfl rfl rfl rfl rfl rfl
def f_X3_hasPlace (h : gH) (a0 : Nat) (p1 : Int32) : Option (Int32) :=
  (if 0 ≤ p1 then
    (g_gI h a0 3 2).bind fun v6 =>
    (if p1 < v6 then
      some 1
    else
      some 0)
  else
    some 0)
set_option maxRecDepth 100000 in
theorem ct_X3_hasPlace {l : Launch} {G : gG} {h : gH} {a0 : Nat} {p1 : Int32} {r : Int32} (e : f_X3_hasPlace h a0 p1 = some r) : Ct l G M_X3_hasPlace [.ref a0, .int p1] h (some (.int r)) h := by
  refine Ct_of (L := [some (.ref a0), some (.int p1)]) ok_X3_hasPlace (by decide +kernel) rfl rfl rfl (ρ := (g_rI h)) (F := f_X3_hasPlace h a0 p1) ?_ e rfl
  unfold f_X3_hasPlace
  refine X_iload_n rfl rfl rfl ?_
  refine X_bif_lt rfl rfl (fun _ => ?_) (fun _ => ?_)
  · refine X_iload_n rfl rfl rfl ?_
    refine X_aload_n rfl rfl rfl ?_
    refine X_getI rfl rfl (fun v6 => ?_)
    refine X_bicmp_ge rfl rfl (fun _ => ?_) (fun _ => ?_)
    · refine X_iconst (v := 1) rfl rfl (by decide) ?_
      refine X_goto rfl rfl ?_
      exact X_iret rfl rfl rfl rfl rfl rfl rfl
    · refine X_iconst (v := 0) rfl rfl (by decide) ?_
      exact X_iret rfl rfl rfl rfl rfl rfl rfl
  · refine X_iconst (v := 0) rfl rfl (by decide) ?_
    exact X_iret rfl rfl rfl rfl rfl rfl rfl
def f_X3_reasonAt_b61 (h : gH) : Option (Int32) :=
  some 1
def f_X3_reasonAt_b51 (h : gH) (s0 : Int32) : Option (Int32) :=
  (if s0 = 0 then
    f_X3_reasonAt_b61 h
  else
    (if s0 = 1 then
      f_X3_reasonAt_b61 h
    else
      some 2))
def f_X3_reasonAt (h : gH) (a0 : Nat) (p1 : Int32) : Option (Int32) :=
  bif g_is h a0 3 then
  (f_X3_loggedAt h a0 p1).bind fun v2 =>
  bif g_is h a0 3 then
  (f_X3_letterAt h a0 p1).bind fun v7 =>
  (if v2 = v7 then
    some 0
  else
    bif g_is h a0 3 then
    (f_X3_loggedAt h a0 p1).bind fun v17 =>
    (if v17 = (-1) then
      (g_gI h a0 3 3).bind fun v27 =>
      (if v27 < 1 then
        f_X3_reasonAt_b51 h 0
      else
        (g_gA h a0 3 11).bind fun v39 =>
        (g_gI h a0 3 3).bind fun v44 =>
        if v44 = 0 then none else
        (f_X7_valueAt h v39 (p1 / v44)).bind fun v48 =>
        f_X3_reasonAt_b51 h v48)
    else
      some 3)
    else none)
  else none
  else none
set_option maxRecDepth 100000 in
theorem b_X3_reasonAt_b61 {l : Launch} {G : gG} {h : gH} : GX l G M_X3_reasonAt (g_phi G (g_rI h) (m_R M_X3_reasonAt).cells (m_R M_X3_reasonAt).slots) 0 0 61 [none, none, none] [] h (f_X3_reasonAt_b61 h) := by
  unfold f_X3_reasonAt_b61
  refine X_iconst (v := 1) rfl rfl (by decide) ?_
  refine X_goto rfl rfl ?_
  exact X_iret rfl rfl rfl rfl rfl rfl rfl
set_option maxRecDepth 100000 in
theorem b_X3_reasonAt_b51 {l : Launch} {G : gG} {h : gH} (s0 : Int32) : GX l G M_X3_reasonAt (g_phi G (g_rI h) (m_R M_X3_reasonAt).cells (m_R M_X3_reasonAt).slots) 0 0 51 [none, none, none] [.int s0] h (f_X3_reasonAt_b51 h s0) := by
  unfold f_X3_reasonAt_b51
  refine X_istore_n rfl rfl rfl rfl ?_
  refine X_iload_n rfl rfl rfl ?_
  refine X_bif_eq rfl rfl (fun _ => ?_) (fun _ => ?_)
  · exact X_sub (g_sub_n (g_sub_n (g_sub_n g_sub_0))) (b_X3_reasonAt_b61  )
  · refine X_iload_n rfl rfl rfl ?_
    refine X_iconst (v := 1) rfl rfl (by decide) ?_
    refine X_bicmp_ne rfl rfl (fun _ => ?_) (fun _ => ?_)
    · exact X_sub (g_sub_n (g_sub_n (g_sub_n g_sub_0))) (b_X3_reasonAt_b61  )
    · refine X_iconst (v := 2) rfl rfl (by decide) ?_
      exact X_iret rfl rfl rfl rfl rfl rfl rfl
set_option maxRecDepth 100000 in
theorem ct_X3_reasonAt {l : Launch} {G : gG} {h : gH} {a0 : Nat} {p1 : Int32} {r : Int32} (e : f_X3_reasonAt h a0 p1 = some r) : Ct l G M_X3_reasonAt [.ref a0, .int p1] h (some (.int r)) h := by
  refine Ct_of (L := [some (.ref a0), some (.int p1), none]) ok_X3_reasonAt (by decide +kernel) rfl rfl rfl (ρ := (g_rI h)) (F := f_X3_reasonAt h a0 p1) ?_ e rfl
  unfold f_X3_reasonAt
  refine X_aload_n rfl rfl rfl ?_
  refine X_iload_n rfl rfl rfl ?_
  refine X_callV_IR (M' := M_X3_loggedAt) (nA := 1) (As := [.int p1]) (st := []) (b := a0) (ci := 3) rfl rfl (by decide +kernel) rfl rfl rfl rfl rfl rfl rfl rfl (fun _ e => ct_X3_loggedAt e) (fun v2 => ?_)
  refine X_aload_n rfl rfl rfl ?_
  refine X_iload_n rfl rfl rfl ?_
  refine X_callV_IR (M' := M_X3_letterAt) (nA := 1) (As := [.int p1]) (st := [.int v2]) (b := a0) (ci := 3) rfl rfl (by decide +kernel) rfl rfl rfl rfl rfl rfl rfl rfl (fun _ e => ct_X3_letterAt e) (fun v7 => ?_)
  refine X_bicmp_ne rfl rfl (fun _ => ?_) (fun _ => ?_)
  · refine X_iconst (v := 0) rfl rfl (by decide) ?_
    exact X_iret rfl rfl rfl rfl rfl rfl rfl
  · refine X_aload_n rfl rfl rfl ?_
    refine X_iload_n rfl rfl rfl ?_
    refine X_callV_IR (M' := M_X3_loggedAt) (nA := 1) (As := [.int p1]) (st := []) (b := a0) (ci := 3) rfl rfl (by decide +kernel) rfl rfl rfl rfl rfl rfl rfl rfl (fun _ e => ct_X3_loggedAt e) (fun v17 => ?_)
    refine X_iconst (v := -1) rfl rfl (by decide) ?_
    refine X_bicmp_eq rfl rfl (fun _ => ?_) (fun _ => ?_)
    · refine X_aload_n rfl rfl rfl ?_
      refine X_getI rfl rfl (fun v27 => ?_)
      refine X_iconst (v := 1) rfl rfl (by decide) ?_
      refine X_bicmp_ge rfl rfl (fun _ => ?_) (fun _ => ?_)
      · refine X_iconst (v := 0) rfl rfl (by decide) ?_
        refine X_goto rfl rfl ?_
        exact X_sub (g_sub_n (g_sub_n (g_sub_n g_sub_0))) (b_X3_reasonAt_b51  _)
      · refine X_aload_n rfl rfl rfl ?_
        refine X_getA rfl rfl (fun v39 => ?_)
        refine X_iload_n rfl rfl rfl ?_
        refine X_aload_n rfl rfl rfl ?_
        refine X_getI rfl rfl (fun v44 => ?_)
        refine X_if (fun _ => X_none) (fun hz => ?_)
        refine X_idiv (v := p1 / v44) rfl rfl rfl hz ?_
        refine X_callSN_IR (M' := M_X7_valueAt) (nA := 2) (As := [.ref v39, .int (p1 / v44)]) (st := []) rfl rfl (by decide +kernel) rfl rfl rfl rfl rfl rfl rfl (fun _ e => ct_X7_valueAt e) (fun v48 => ?_)
        exact X_sub (g_sub_n (g_sub_n (g_sub_n g_sub_0))) (b_X3_reasonAt_b51  _)
    · refine X_iconst (v := 3) rfl rfl (by decide) ?_
      exact X_iret rfl rfl rfl rfl rfl rfl rfl
def f_X3_addedTo_b35 (h : gH) : Nat → Nat → Int64 → Int32 → Option (Int64)
  | 0, _, _, _ => none
  | n + 1, l0, l3, l5 =>
    (g_gI h l0 3 2).bind fun v38 =>
    (if l5 < v38 then
      bif g_is h l0 3 then
      (f_X3_loggedAt h l0 l5).bind fun v52 =>
      bif g_is h l0 3 then
      (f_X3_reasonAt h l0 l5).bind fun v66 =>
      f_X3_addedTo_b35 h n l0 ((31 * ((31 * l3) + (Int32.toInt64 v52))) + (Int32.toInt64 v66)) (l5 + 1)
      else none
      else none
    else
      some l3)
def f_X3_addedTo_b5 (h : gH) : Nat → Nat → Int64 → Int32 → Option (Int64)
  | 0, _, _, _ => none
  | n + 1, l0, l3, l5 =>
    (if l5 < 10 then
      bif g_is h l0 3 then
      (f_X3_figure h l0 l5).bind fun v20 =>
      f_X3_addedTo_b5 h n l0 ((31 * l3) + (Int32.toInt64 v20)) (l5 + 1)
      else none
    else
      f_X3_addedTo_b35 h g_N l0 l3 0)
def f_X3_addedTo (h : gH) (a0 : Nat) (p1 : Int64) : Option (Int64) :=
  f_X3_addedTo_b5 h g_N a0 p1 0
set_option maxRecDepth 100000 in
theorem b_X3_addedTo_b35 {l : Launch} {G : gG} {h : gH} : ∀ (n : Nat) (l0 : Nat) (l3 : Int64) (l5 : Int32), GX l G M_X3_addedTo (g_phi G (g_rL h) (m_R M_X3_addedTo).cells (m_R M_X3_addedTo).slots) 0 0 35 [some (.ref l0), none, none, some (.long l3), none, some (.int l5)] [] h (f_X3_addedTo_b35 h n l0 l3 l5) := by
  intro n
  induction n with
  | zero => intros; exact X_none
  | succ n ih =>
    intro l0 l3 l5
    rw [f_X3_addedTo_b35]
    refine X_iload rfl rfl rfl ?_
    refine X_aload_n rfl rfl rfl ?_
    refine X_getI rfl rfl (fun v38 => ?_)
    refine X_bicmp_ge rfl rfl (fun _ => ?_) (fun _ => ?_)
    · refine X_ldc2 (v := 31) rfl rfl (by decide +kernel) ?_
      refine X_lload_n rfl rfl rfl ?_
      refine X_lmul rfl rfl ?_
      refine X_aload_n rfl rfl rfl ?_
      refine X_iload rfl rfl rfl ?_
      refine X_callV_IR (M' := M_X3_loggedAt) (nA := 1) (As := [.int l5]) (st := [.long (31 * l3)]) (b := l0) (ci := 3) rfl rfl (by decide +kernel) rfl rfl rfl rfl rfl rfl rfl rfl (fun _ e => ct_X3_loggedAt e) (fun v52 => ?_)
      refine X_i2l rfl rfl ?_
      refine X_ladd rfl rfl ?_
      refine X_lstore_n rfl rfl rfl rfl ?_
      refine X_ldc2 (v := 31) rfl rfl (by decide +kernel) ?_
      refine X_lload_n rfl rfl rfl ?_
      refine X_lmul rfl rfl ?_
      refine X_aload_n rfl rfl rfl ?_
      refine X_iload rfl rfl rfl ?_
      refine X_callV_IR (M' := M_X3_reasonAt) (nA := 1) (As := [.int l5]) (st := [.long (31 * ((31 * l3) + (Int32.toInt64 v52)))]) (b := l0) (ci := 3) rfl rfl (by decide +kernel) rfl rfl rfl rfl rfl rfl rfl rfl (fun _ e => ct_X3_reasonAt e) (fun v66 => ?_)
      refine X_i2l rfl rfl ?_
      refine X_ladd rfl rfl ?_
      refine X_lstore_n rfl rfl rfl rfl ?_
      refine X_iinc (v := l5 + 1) rfl rfl rfl (congrArg (fun z => l5 + z) (by decide : Int32.ofInt 1 = 1)) rfl ?_
      refine X_goto rfl rfl ?_
      exact X_sub (g_sub_s (g_sub_n (g_sub_n (g_sub_s (g_sub_n (g_sub_s g_sub_0)))))) (ih _ _ _)
    · refine X_lload_n rfl rfl rfl ?_
      exact X_lret rfl rfl rfl rfl rfl rfl
set_option maxRecDepth 100000 in
theorem b_X3_addedTo_b5 {l : Launch} {G : gG} {h : gH} : ∀ (n : Nat) (l0 : Nat) (l3 : Int64) (l5 : Int32), GX l G M_X3_addedTo (g_phi G (g_rL h) (m_R M_X3_addedTo).cells (m_R M_X3_addedTo).slots) 0 0 5 [some (.ref l0), none, none, some (.long l3), none, some (.int l5)] [] h (f_X3_addedTo_b5 h n l0 l3 l5) := by
  intro n
  induction n with
  | zero => intros; exact X_none
  | succ n ih =>
    intro l0 l3 l5
    rw [f_X3_addedTo_b5]
    refine X_iload rfl rfl rfl ?_
    refine X_bipush (v := 10) rfl rfl (by decide) ?_
    refine X_bicmp_ge rfl rfl (fun _ => ?_) (fun _ => ?_)
    · refine X_ldc2 (v := 31) rfl rfl (by decide +kernel) ?_
      refine X_lload_n rfl rfl rfl ?_
      refine X_lmul rfl rfl ?_
      refine X_aload_n rfl rfl rfl ?_
      refine X_iload rfl rfl rfl ?_
      refine X_callV_IR (M' := M_X3_figure) (nA := 1) (As := [.int l5]) (st := [.long (31 * l3)]) (b := l0) (ci := 3) rfl rfl (by decide +kernel) rfl rfl rfl rfl rfl rfl rfl rfl (fun _ e => ct_X3_figure e) (fun v20 => ?_)
      refine X_i2l rfl rfl ?_
      refine X_ladd rfl rfl ?_
      refine X_lstore_n rfl rfl rfl rfl ?_
      refine X_iinc (v := l5 + 1) rfl rfl rfl (congrArg (fun z => l5 + z) (by decide : Int32.ofInt 1 = 1)) rfl ?_
      refine X_goto rfl rfl ?_
      exact X_sub (g_sub_s (g_sub_n (g_sub_n (g_sub_s (g_sub_n (g_sub_s g_sub_0)))))) (ih _ _ _)
    · refine X_iconst (v := 0) rfl rfl (by decide) ?_
      refine X_istore rfl rfl rfl rfl ?_
      exact X_sub (g_sub_s (g_sub_n (g_sub_n (g_sub_s (g_sub_n (g_sub_s g_sub_0)))))) (b_X3_addedTo_b35  _ _ _ _)
set_option maxRecDepth 100000 in
theorem ct_X3_addedTo {l : Launch} {G : gG} {h : gH} {a0 : Nat} {p1 : Int64} {r : Int64} (e : f_X3_addedTo h a0 p1 = some r) : Ct l G M_X3_addedTo [.ref a0, .long p1] h (some (.long r)) h := by
  refine Ct_of (L := [some (.ref a0), some (.long p1), none, none, none, none]) ok_X3_addedTo (by decide +kernel) rfl rfl rfl (ρ := (g_rL h)) (F := f_X3_addedTo h a0 p1) ?_ e rfl
  unfold f_X3_addedTo
  refine X_lload_n rfl rfl rfl ?_
  refine X_lstore_n rfl rfl rfl rfl ?_
  refine X_iconst (v := 0) rfl rfl (by decide) ?_
  refine X_istore rfl rfl rfl rfl ?_
  exact X_sub (g_sub_s (g_sub_n (g_sub_n (g_sub_s (g_sub_n (g_sub_s g_sub_0)))))) (b_X3_addedTo_b5  _ _ _ _)
def f_X3_start (h : gH) (a0 : Nat) (p1 : Int32) : Option gH :=
  (g_put h a0 3 5 (.int 1)).bind fun h2 =>
  (g_put h2 a0 3 6 (.int p1)).bind fun h7 =>
  some h7
set_option maxRecDepth 100000 in
theorem ct_X3_start {l : Launch} {G : gG} {h : gH} {a0 : Nat} {p1 : Int32} {h1 : gH} (e : f_X3_start h a0 p1 = some h1) : Ct l G M_X3_start [.ref a0, .int p1] h none h1 := by
  refine Ct_of (L := [some (.ref a0), some (.int p1)]) ok_X3_start (by decide +kernel) rfl rfl rfl (ρ := g_wU) (F := f_X3_start h a0 p1) ?_ e rfl
  unfold f_X3_start
  refine X_aload_n rfl rfl rfl ?_
  refine X_iconst (v := 1) rfl rfl (by decide) ?_
  refine X_put rfl rfl rfl rfl rfl (fun h2 => ?_)
  refine X_aload_n rfl rfl rfl ?_
  refine X_iload_n rfl rfl rfl ?_
  refine X_put rfl rfl rfl rfl rfl (fun h7 => ?_)
  exact X_vret rfl rfl rfl rfl rfl rfl
def f_X3_end (h : gH) (a0 : Nat) (p1 : Int32) (p2 : Int32) : Option gH :=
  (g_put h a0 3 5 (.int p1)).bind fun h2 =>
  (g_put h2 a0 3 7 (.int p2)).bind fun h7 =>
  some h7
set_option maxRecDepth 100000 in
theorem ct_X3_end {l : Launch} {G : gG} {h : gH} {a0 : Nat} {p1 : Int32} {p2 : Int32} {h1 : gH} (e : f_X3_end h a0 p1 p2 = some h1) : Ct l G M_X3_end [.ref a0, .int p1, .int p2] h none h1 := by
  refine Ct_of (L := [some (.ref a0), some (.int p1), some (.int p2)]) ok_X3_end (by decide +kernel) rfl rfl rfl (ρ := g_wU) (F := f_X3_end h a0 p1 p2) ?_ e rfl
  unfold f_X3_end
  refine X_aload_n rfl rfl rfl ?_
  refine X_iload_n rfl rfl rfl ?_
  refine X_put rfl rfl rfl rfl rfl (fun h2 => ?_)
  refine X_aload_n rfl rfl rfl ?_
  refine X_iload_n rfl rfl rfl ?_
  refine X_put rfl rfl rfl rfl rfl (fun h7 => ?_)
  exact X_vret rfl rfl rfl rfl rfl rfl
def f_X3_takeOpenFrame_b2 : Nat → gH → Nat → Int32 → Option (Int32 × gH)
  | 0, _, _, _ => none
  | n + 1, h, l0, l1 =>
    (g_gI h l0 3 4).bind fun v4 =>
    (if l1 < v4 then
      (g_gA h l0 3 11).bind fun v11 =>
      (f_X7_valueAt h v11 l1).bind fun v15 =>
      (if v15 = 0 then
        (g_gA h l0 3 11).bind fun v22 =>
        (f_X7_setAt h v22 l1 1).bind fun h27 =>
        some (l1, h27)
      else
        f_X3_takeOpenFrame_b2  n h l0 (l1 + 1))
    else
      some (-1, h))
def f_X3_takeOpenFrame (h : gH) (a0 : Nat) : Option (Int32 × gH) :=
  f_X3_takeOpenFrame_b2 g_N h a0 0
set_option maxRecDepth 100000 in
theorem b_X3_takeOpenFrame_b2 {l : Launch} {G : gG} : ∀ (n : Nat) (h : gH) (l0 : Nat) (l1 : Int32), GX l G M_X3_takeOpenFrame (g_phi G g_wI (m_R M_X3_takeOpenFrame).cells (m_R M_X3_takeOpenFrame).slots) 0 0 2 [some (.ref l0), some (.int l1)] [] h (f_X3_takeOpenFrame_b2 n h l0 l1) := by
  intro n
  induction n with
  | zero => intros; exact X_none
  | succ n ih =>
    intro h l0 l1
    rw [f_X3_takeOpenFrame_b2]
    refine X_iload_n rfl rfl rfl ?_
    refine X_aload_n rfl rfl rfl ?_
    refine X_getI rfl rfl (fun v4 => ?_)
    refine X_bicmp_ge rfl rfl (fun _ => ?_) (fun _ => ?_)
    · refine X_aload_n rfl rfl rfl ?_
      refine X_getA rfl rfl (fun v11 => ?_)
      refine X_iload_n rfl rfl rfl ?_
      refine X_callSN_IR (M' := M_X7_valueAt) (nA := 2) (As := [.ref v11, .int l1]) (st := []) rfl rfl (by decide +kernel) rfl rfl rfl rfl rfl rfl rfl (fun _ e => ct_X7_valueAt e) (fun v15 => ?_)
      refine X_bif_ne rfl rfl (fun _ => ?_) (fun _ => ?_)
      · refine X_aload_n rfl rfl rfl ?_
        refine X_getA rfl rfl (fun v22 => ?_)
        refine X_iload_n rfl rfl rfl ?_
        refine X_iconst (v := 1) rfl rfl (by decide) ?_
        refine X_callSN_UW (M' := M_X7_setAt) (nA := 3) (As := [.ref v22, .int l1, .int 1]) (st := []) rfl rfl (by decide +kernel) rfl rfl rfl rfl rfl rfl rfl (fun _ e => ct_X7_setAt e) (fun h27 => ?_)
        refine X_iload_n rfl rfl rfl ?_
        exact X_iret rfl rfl rfl rfl rfl rfl rfl
      · refine X_iinc (v := l1 + 1) rfl rfl rfl (congrArg (fun z => l1 + z) (by decide : Int32.ofInt 1 = 1)) rfl ?_
        refine X_goto rfl rfl ?_
        exact X_sub (g_sub_s (g_sub_s g_sub_0)) (ih _ _ _)
    · refine X_iconst (v := -1) rfl rfl (by decide) ?_
      exact X_iret rfl rfl rfl rfl rfl rfl rfl
set_option maxRecDepth 100000 in
theorem ct_X3_takeOpenFrame {l : Launch} {G : gG} {h : gH} {a0 : Nat} {r : Int32} {h1 : gH} (e : f_X3_takeOpenFrame h a0 = some (r, h1)) : Ct l G M_X3_takeOpenFrame [.ref a0] h (some (.int r)) h1 := by
  refine Ct_of (L := [some (.ref a0), none]) ok_X3_takeOpenFrame (by decide +kernel) rfl rfl rfl (ρ := g_wI) (F := f_X3_takeOpenFrame h a0) ?_ e rfl
  unfold f_X3_takeOpenFrame
  refine X_iconst (v := 0) rfl rfl (by decide) ?_
  refine X_istore_n rfl rfl rfl rfl ?_
  exact X_sub (g_sub_s (g_sub_s g_sub_0)) (b_X3_takeOpenFrame_b2  _ _ _ _)
def f_X3_firstPlaceOf (h : gH) (a0 : Nat) (p1 : Int32) : Option (Int32) :=
  (g_gI h a0 3 3).bind fun v2 =>
  some (p1 * v2)
set_option maxRecDepth 100000 in
theorem ct_X3_firstPlaceOf {l : Launch} {G : gG} {h : gH} {a0 : Nat} {p1 : Int32} {r : Int32} (e : f_X3_firstPlaceOf h a0 p1 = some r) : Ct l G M_X3_firstPlaceOf [.ref a0, .int p1] h (some (.int r)) h := by
  refine Ct_of (L := [some (.ref a0), some (.int p1)]) ok_X3_firstPlaceOf (by decide +kernel) rfl rfl rfl (ρ := (g_rI h)) (F := f_X3_firstPlaceOf h a0 p1) ?_ e rfl
  unfold f_X3_firstPlaceOf
  refine X_iload_n rfl rfl rfl ?_
  refine X_aload_n rfl rfl rfl ?_
  refine X_getI rfl rfl (fun v2 => ?_)
  refine X_imul rfl rfl ?_
  exact X_iret rfl rfl rfl rfl rfl rfl rfl
def f_X3_lettersIn (h : gH) (a0 : Nat) (p1 : Int32) : Option (Int32) :=
  (g_gI h a0 3 3).bind fun v1 =>
  (g_gI h a0 3 2).bind fun v5 =>
  bif g_is h a0 3 then
  (f_X3_firstPlaceOf h a0 p1).bind fun v10 =>
  some (g_min v1 (v5 - v10))
  else none
set_option maxRecDepth 100000 in
theorem ct_X3_lettersIn {l : Launch} {G : gG} {h : gH} {a0 : Nat} {p1 : Int32} {r : Int32} (e : f_X3_lettersIn h a0 p1 = some r) : Ct l G M_X3_lettersIn [.ref a0, .int p1] h (some (.int r)) h := by
  refine Ct_of (L := [some (.ref a0), some (.int p1)]) ok_X3_lettersIn (by decide +kernel) rfl rfl rfl (ρ := (g_rI h)) (F := f_X3_lettersIn h a0 p1) ?_ e rfl
  unfold f_X3_lettersIn
  refine X_aload_n rfl rfl rfl ?_
  refine X_getI rfl rfl (fun v1 => ?_)
  refine X_aload_n rfl rfl rfl ?_
  refine X_getI rfl rfl (fun v5 => ?_)
  refine X_aload_n rfl rfl rfl ?_
  refine X_iload_n rfl rfl rfl ?_
  refine X_callV_IR (M' := M_X3_firstPlaceOf) (nA := 1) (As := [.int p1]) (st := [.int v5, .int v1]) (b := a0) (ci := 3) rfl rfl (by decide +kernel) rfl rfl rfl rfl rfl rfl rfl rfl (fun _ e => ct_X3_firstPlaceOf e) (fun v10 => ?_)
  refine X_isub rfl rfl ?_
  refine X_mmin rfl rfl (by decide +kernel) (by decide +kernel) (by decide +kernel) (by decide +kernel) rfl rfl rfl rfl ?_
  exact X_iret rfl rfl rfl rfl rfl rfl rfl
def f_X3_checkOf_b11 (h : gH) : Nat → Nat → Int32 → Int32 → Int32 → Int32 → Option (Int32)
  | 0, _, _, _, _, _ => none
  | n + 1, l0, l1, l2, l3, l4 =>
    bif g_is h l0 3 then
    (f_X3_lettersIn h l0 l1).bind fun v15 =>
    (if l4 < v15 then
      bif g_is h l0 3 then
      (f_X3_letterAt h l0 (l3 + l4)).bind fun v27 =>
      f_X3_checkOf_b11 h n l0 l1 (l2 + v27) l3 (l4 + 1)
      else none
    else
      some (g_rem l2 26))
    else none
def f_X3_checkOf (h : gH) (a0 : Nat) (p1 : Int32) : Option (Int32) :=
  bif g_is h a0 3 then
  (f_X3_firstPlaceOf h a0 p1).bind fun v4 =>
  f_X3_checkOf_b11 h g_N a0 p1 p1 v4 0
  else none
set_option maxRecDepth 100000 in
theorem b_X3_checkOf_b11 {l : Launch} {G : gG} {h : gH} : ∀ (n : Nat) (l0 : Nat) (l1 : Int32) (l2 : Int32) (l3 : Int32) (l4 : Int32), GX l G M_X3_checkOf (g_phi G (g_rI h) (m_R M_X3_checkOf).cells (m_R M_X3_checkOf).slots) 0 0 11 [some (.ref l0), some (.int l1), some (.int l2), some (.int l3), some (.int l4)] [] h (f_X3_checkOf_b11 h n l0 l1 l2 l3 l4) := by
  intro n
  induction n with
  | zero => intros; exact X_none
  | succ n ih =>
    intro l0 l1 l2 l3 l4
    rw [f_X3_checkOf_b11]
    refine X_iload rfl rfl rfl ?_
    refine X_aload_n rfl rfl rfl ?_
    refine X_iload_n rfl rfl rfl ?_
    refine X_callV_IR (M' := M_X3_lettersIn) (nA := 1) (As := [.int l1]) (st := [.int l4]) (b := l0) (ci := 3) rfl rfl (by decide +kernel) rfl rfl rfl rfl rfl rfl rfl rfl (fun _ e => ct_X3_lettersIn e) (fun v15 => ?_)
    refine X_bicmp_ge rfl rfl (fun _ => ?_) (fun _ => ?_)
    · refine X_iload_n rfl rfl rfl ?_
      refine X_aload_n rfl rfl rfl ?_
      refine X_iload_n rfl rfl rfl ?_
      refine X_iload rfl rfl rfl ?_
      refine X_iadd rfl rfl ?_
      refine X_callV_IR (M' := M_X3_letterAt) (nA := 1) (As := [.int (l3 + l4)]) (st := [.int l2]) (b := l0) (ci := 3) rfl rfl (by decide +kernel) rfl rfl rfl rfl rfl rfl rfl rfl (fun _ e => ct_X3_letterAt e) (fun v27 => ?_)
      refine X_iadd rfl rfl ?_
      refine X_istore_n rfl rfl rfl rfl ?_
      refine X_iinc (v := l4 + 1) rfl rfl rfl (congrArg (fun z => l4 + z) (by decide : Int32.ofInt 1 = 1)) rfl ?_
      refine X_goto rfl rfl ?_
      exact X_sub (g_sub_s (g_sub_s (g_sub_s (g_sub_s (g_sub_s g_sub_0))))) (ih _ _ _ _ _)
    · refine X_iload_n rfl rfl rfl ?_
      refine X_bipush (v := 26) rfl rfl (by decide) ?_
      refine X_irem (v := g_rem l2 26) rfl rfl rfl (by decide) ?_
      exact X_iret rfl rfl rfl rfl rfl rfl rfl
set_option maxRecDepth 100000 in
theorem ct_X3_checkOf {l : Launch} {G : gG} {h : gH} {a0 : Nat} {p1 : Int32} {r : Int32} (e : f_X3_checkOf h a0 p1 = some r) : Ct l G M_X3_checkOf [.ref a0, .int p1] h (some (.int r)) h := by
  refine Ct_of (L := [some (.ref a0), some (.int p1), none, none, none]) ok_X3_checkOf (by decide +kernel) rfl rfl rfl (ρ := (g_rI h)) (F := f_X3_checkOf h a0 p1) ?_ e rfl
  unfold f_X3_checkOf
  refine X_iload_n rfl rfl rfl ?_
  refine X_istore_n rfl rfl rfl rfl ?_
  refine X_aload_n rfl rfl rfl ?_
  refine X_iload_n rfl rfl rfl ?_
  refine X_callV_IR (M' := M_X3_firstPlaceOf) (nA := 1) (As := [.int p1]) (st := []) (b := a0) (ci := 3) rfl rfl (by decide +kernel) rfl rfl rfl rfl rfl rfl rfl rfl (fun _ e => ct_X3_firstPlaceOf e) (fun v4 => ?_)
  refine X_istore_n rfl rfl rfl rfl ?_
  refine X_iconst (v := 0) rfl rfl (by decide) ?_
  refine X_istore rfl rfl rfl rfl ?_
  exact X_sub (g_sub_s (g_sub_s (g_sub_s (g_sub_s (g_sub_s g_sub_0))))) (b_X3_checkOf_b11  _ _ _ _ _ _)
def f_X3_writeDown_b68 (K19 : gH → Nat → Nat → Int32 → Int32 → Int32 → Option gH) (h : gH) (l0 : Nat) (l2 : Nat) (l3 : Int32) (l4 : Int32) (l5 : Int32) : Option gH :=
  K19 h l0 l2 l3 l4 (l5 + 1)
def f_X3_writeDown_b19 : Nat → gH → Nat → Nat → Int32 → Int32 → Int32 → Option gH
  | 0, _, _, _, _, _, _ => none
  | n + 1, h, l0, l2, l3, l4, l5 =>
    (if l5 < l3 then
      bif g_is h l0 3 then
      (f_X3_hasPlace h l0 (l4 + l5)).bind fun v31 =>
      (if v31 = 0 then
        f_X3_writeDown_b68 (f_X3_writeDown_b19  n) h l0 l2 l3 l4 l5
      else
        bif g_is h l0 3 then
        (f_X3_loggedAt h l0 (l4 + l5)).bind fun v43 =>
        (if v43 = (-1) then
          (g_gA h l0 3 10).bind fun v51 =>
          (f_X7_valueAt h l2 l5).bind fun v62 =>
          (f_X7_setAt h v51 (l4 + l5) v62).bind fun h65 =>
          f_X3_writeDown_b68 (f_X3_writeDown_b19  n) h65 l0 l2 l3 l4 l5
        else
          f_X3_writeDown_b68 (f_X3_writeDown_b19  n) h l0 l2 l3 l4 l5)
        else none)
      else none
    else
      some h)
def f_X3_writeDown (h : gH) (a0 : Nat) (p1 : Int32) (p2 : Nat) (p3 : Int32) : Option gH :=
  (g_gI h a0 3 4).bind fun v2 =>
  (if v2 ≤ p1 then
    some h
  else
    bif g_is h a0 3 then
    (f_X3_firstPlaceOf h a0 p1).bind fun v11 =>
    f_X3_writeDown_b19 g_N h a0 p2 p3 v11 0
    else none)
set_option maxRecDepth 100000 in
theorem b_X3_writeDown_b68 {l : Launch} {G : gG} {K19 : gH → Nat → Nat → Int32 → Int32 → Int32 → Option gH} (hK19 : ∀ (h : gH) (l0 : Nat) (l2 : Nat) (l3 : Int32) (l4 : Int32) (l5 : Int32), GX l G M_X3_writeDown (g_phi G g_wU (m_R M_X3_writeDown).cells (m_R M_X3_writeDown).slots) 0 0 19 [some (.ref l0), none, some (.ref l2), some (.int l3), some (.int l4), some (.int l5)] [] h (K19 h l0 l2 l3 l4 l5)) (h : gH) (l0 : Nat) (l2 : Nat) (l3 : Int32) (l4 : Int32) (l5 : Int32) : GX l G M_X3_writeDown (g_phi G g_wU (m_R M_X3_writeDown).cells (m_R M_X3_writeDown).slots) 0 0 68 [some (.ref l0), none, some (.ref l2), some (.int l3), some (.int l4), some (.int l5)] [] h (f_X3_writeDown_b68 K19 h l0 l2 l3 l4 l5) := by
  unfold f_X3_writeDown_b68
  refine X_iinc (v := l5 + 1) rfl rfl rfl (congrArg (fun z => l5 + z) (by decide : Int32.ofInt 1 = 1)) rfl ?_
  refine X_goto rfl rfl ?_
  exact X_sub (g_sub_s (g_sub_n (g_sub_s (g_sub_s (g_sub_s (g_sub_s g_sub_0)))))) (hK19 _ _ _ _ _ _)
set_option maxRecDepth 100000 in
theorem b_X3_writeDown_b19 {l : Launch} {G : gG} : ∀ (n : Nat) (h : gH) (l0 : Nat) (l2 : Nat) (l3 : Int32) (l4 : Int32) (l5 : Int32), GX l G M_X3_writeDown (g_phi G g_wU (m_R M_X3_writeDown).cells (m_R M_X3_writeDown).slots) 0 0 19 [some (.ref l0), none, some (.ref l2), some (.int l3), some (.int l4), some (.int l5)] [] h (f_X3_writeDown_b19 n h l0 l2 l3 l4 l5) := by
  intro n
  induction n with
  | zero => intros; exact X_none
  | succ n ih =>
    intro h l0 l2 l3 l4 l5
    rw [f_X3_writeDown_b19]
    refine X_iload rfl rfl rfl ?_
    refine X_iload_n rfl rfl rfl ?_
    refine X_bicmp_ge rfl rfl (fun _ => ?_) (fun _ => ?_)
    · refine X_aload_n rfl rfl rfl ?_
      refine X_iload rfl rfl rfl ?_
      refine X_iload rfl rfl rfl ?_
      refine X_iadd rfl rfl ?_
      refine X_callV_IR (M' := M_X3_hasPlace) (nA := 1) (As := [.int (l4 + l5)]) (st := []) (b := l0) (ci := 3) rfl rfl (by decide +kernel) rfl rfl rfl rfl rfl rfl rfl rfl (fun _ e => ct_X3_hasPlace e) (fun v31 => ?_)
      refine X_bif_eq rfl rfl (fun _ => ?_) (fun _ => ?_)
      · exact X_sub (g_sub_s (g_sub_n (g_sub_s (g_sub_s (g_sub_s (g_sub_s g_sub_0)))))) (b_X3_writeDown_b68 ih _ _ _ _ _ _)
      · refine X_aload_n rfl rfl rfl ?_
        refine X_iload rfl rfl rfl ?_
        refine X_iload rfl rfl rfl ?_
        refine X_iadd rfl rfl ?_
        refine X_callV_IR (M' := M_X3_loggedAt) (nA := 1) (As := [.int (l4 + l5)]) (st := []) (b := l0) (ci := 3) rfl rfl (by decide +kernel) rfl rfl rfl rfl rfl rfl rfl rfl (fun _ e => ct_X3_loggedAt e) (fun v43 => ?_)
        refine X_iconst (v := -1) rfl rfl (by decide) ?_
        refine X_bicmp_ne rfl rfl (fun _ => ?_) (fun _ => ?_)
        · refine X_aload_n rfl rfl rfl ?_
          refine X_getA rfl rfl (fun v51 => ?_)
          refine X_iload rfl rfl rfl ?_
          refine X_iload rfl rfl rfl ?_
          refine X_iadd rfl rfl ?_
          refine X_aload_n rfl rfl rfl ?_
          refine X_iload rfl rfl rfl ?_
          refine X_callSN_IR (M' := M_X7_valueAt) (nA := 2) (As := [.ref l2, .int l5]) (st := [.int (l4 + l5), .ref v51]) rfl rfl (by decide +kernel) rfl rfl rfl rfl rfl rfl rfl (fun _ e => ct_X7_valueAt e) (fun v62 => ?_)
          refine X_callSN_UW (M' := M_X7_setAt) (nA := 3) (As := [.ref v51, .int (l4 + l5), .int v62]) (st := []) rfl rfl (by decide +kernel) rfl rfl rfl rfl rfl rfl rfl (fun _ e => ct_X7_setAt e) (fun h65 => ?_)
          exact X_sub (g_sub_s (g_sub_n (g_sub_s (g_sub_s (g_sub_s (g_sub_s g_sub_0)))))) (b_X3_writeDown_b68 ih _ _ _ _ _ _)
        · exact X_sub (g_sub_s (g_sub_n (g_sub_s (g_sub_s (g_sub_s (g_sub_s g_sub_0)))))) (b_X3_writeDown_b68 ih _ _ _ _ _ _)
    · exact X_vret rfl rfl rfl rfl rfl rfl
set_option maxRecDepth 100000 in
theorem ct_X3_writeDown {l : Launch} {G : gG} {h : gH} {a0 : Nat} {p1 : Int32} {p2 : Nat} {p3 : Int32} {h1 : gH} (e : f_X3_writeDown h a0 p1 p2 p3 = some h1) : Ct l G M_X3_writeDown [.ref a0, .int p1, .ref p2, .int p3] h none h1 := by
  refine Ct_of (L := [some (.ref a0), some (.int p1), some (.ref p2), some (.int p3), none, none]) ok_X3_writeDown (by decide +kernel) rfl rfl rfl (ρ := g_wU) (F := f_X3_writeDown h a0 p1 p2 p3) ?_ e rfl
  unfold f_X3_writeDown
  refine X_iload_n rfl rfl rfl ?_
  refine X_aload_n rfl rfl rfl ?_
  refine X_getI rfl rfl (fun v2 => ?_)
  refine X_bicmp_lt rfl rfl (fun _ => ?_) (fun _ => ?_)
  · exact X_vret rfl rfl rfl rfl rfl rfl
  · refine X_aload_n rfl rfl rfl ?_
    refine X_iload_n rfl rfl rfl ?_
    refine X_callV_IR (M' := M_X3_firstPlaceOf) (nA := 1) (As := [.int p1]) (st := []) (b := a0) (ci := 3) rfl rfl (by decide +kernel) rfl rfl rfl rfl rfl rfl rfl rfl (fun _ e => ct_X3_firstPlaceOf e) (fun v11 => ?_)
    refine X_istore rfl rfl rfl rfl ?_
    refine X_iconst (v := 0) rfl rfl (by decide) ?_
    refine X_istore rfl rfl rfl rfl ?_
    exact X_sub (g_sub_s (g_sub_n (g_sub_s (g_sub_s (g_sub_s (g_sub_s g_sub_0)))))) (b_X3_writeDown_b19  _ _ _ _ _ _ _)
def f_X3_endTry (h : gH) (a0 : Nat) (p1 : Int32) (p2 : Int32) (p3 : Int32) : Option (Int32 × gH) :=
  (if p2 = 0 then
    (g_gA h a0 3 12).bind fun v26 =>
    (f_X7_valueAt h v26 p1).bind fun v30 =>
    (g_gA h a0 3 12).bind fun v38 =>
    (f_X7_setAt h v38 p1 (v30 + 1)).bind fun h44 =>
    (if (v30 + 1) < p3 then
      (g_gA h44 a0 3 11).bind fun v54 =>
      (f_X7_setAt h44 v54 p1 0).bind fun h59 =>
      some (0, h59)
    else
      (g_gA h44 a0 3 11).bind fun v65 =>
      (f_X7_setAt h44 v65 p1 3).bind fun h70 =>
      (g_gI h70 a0 3 8).bind fun v75 =>
      (g_put h70 a0 3 8 (.int (v75 - 1))).bind fun h80 =>
      some (1, h80))
  else
    (g_gA h a0 3 11).bind fun v5 =>
    (f_X7_setAt h v5 p1 2).bind fun h10 =>
    (g_gI h10 a0 3 8).bind fun v15 =>
    (g_put h10 a0 3 8 (.int (v15 - 1))).bind fun h20 =>
    some (0, h20))
set_option maxRecDepth 100000 in
theorem ct_X3_endTry {l : Launch} {G : gG} {h : gH} {a0 : Nat} {p1 : Int32} {p2 : Int32} {p3 : Int32} {r : Int32} {h1 : gH} (e : f_X3_endTry h a0 p1 p2 p3 = some (r, h1)) : Ct l G M_X3_endTry [.ref a0, .int p1, .int p2, .int p3] h (some (.int r)) h1 := by
  refine Ct_of (L := [some (.ref a0), some (.int p1), some (.int p2), some (.int p3), none]) ok_X3_endTry (by decide +kernel) rfl rfl rfl (ρ := g_wI) (F := f_X3_endTry h a0 p1 p2 p3) ?_ e rfl
  unfold f_X3_endTry
  refine X_iload_n rfl rfl rfl ?_
  refine X_bif_eq rfl rfl (fun _ => ?_) (fun _ => ?_)
  · refine X_aload_n rfl rfl rfl ?_
    refine X_getA rfl rfl (fun v26 => ?_)
    refine X_iload_n rfl rfl rfl ?_
    refine X_callSN_IR (M' := M_X7_valueAt) (nA := 2) (As := [.ref v26, .int p1]) (st := []) rfl rfl (by decide +kernel) rfl rfl rfl rfl rfl rfl rfl (fun _ e => ct_X7_valueAt e) (fun v30 => ?_)
    refine X_iconst (v := 1) rfl rfl (by decide) ?_
    refine X_iadd rfl rfl ?_
    refine X_istore rfl rfl rfl rfl ?_
    refine X_aload_n rfl rfl rfl ?_
    refine X_getA rfl rfl (fun v38 => ?_)
    refine X_iload_n rfl rfl rfl ?_
    refine X_iload rfl rfl rfl ?_
    refine X_callSN_UW (M' := M_X7_setAt) (nA := 3) (As := [.ref v38, .int p1, .int (v30 + 1)]) (st := []) rfl rfl (by decide +kernel) rfl rfl rfl rfl rfl rfl rfl (fun _ e => ct_X7_setAt e) (fun h44 => ?_)
    refine X_iload rfl rfl rfl ?_
    refine X_iload_n rfl rfl rfl ?_
    refine X_bicmp_ge rfl rfl (fun _ => ?_) (fun _ => ?_)
    · refine X_aload_n rfl rfl rfl ?_
      refine X_getA rfl rfl (fun v54 => ?_)
      refine X_iload_n rfl rfl rfl ?_
      refine X_iconst (v := 0) rfl rfl (by decide) ?_
      refine X_callSN_UW (M' := M_X7_setAt) (nA := 3) (As := [.ref v54, .int p1, .int 0]) (st := []) rfl rfl (by decide +kernel) rfl rfl rfl rfl rfl rfl rfl (fun _ e => ct_X7_setAt e) (fun h59 => ?_)
      refine X_iconst (v := 0) rfl rfl (by decide) ?_
      exact X_iret rfl rfl rfl rfl rfl rfl rfl
    · refine X_aload_n rfl rfl rfl ?_
      refine X_getA rfl rfl (fun v65 => ?_)
      refine X_iload_n rfl rfl rfl ?_
      refine X_iconst (v := 3) rfl rfl (by decide) ?_
      refine X_callSN_UW (M' := M_X7_setAt) (nA := 3) (As := [.ref v65, .int p1, .int 3]) (st := []) rfl rfl (by decide +kernel) rfl rfl rfl rfl rfl rfl rfl (fun _ e => ct_X7_setAt e) (fun h70 => ?_)
      refine X_aload_n rfl rfl rfl ?_
      refine X_dup rfl rfl rfl ?_
      refine X_getI rfl rfl (fun v75 => ?_)
      refine X_iconst (v := 1) rfl rfl (by decide) ?_
      refine X_isub rfl rfl ?_
      refine X_put rfl rfl rfl rfl rfl (fun h80 => ?_)
      refine X_iconst (v := 1) rfl rfl (by decide) ?_
      exact X_iret rfl rfl rfl rfl rfl rfl rfl
  · refine X_aload_n rfl rfl rfl ?_
    refine X_getA rfl rfl (fun v5 => ?_)
    refine X_iload_n rfl rfl rfl ?_
    refine X_iconst (v := 2) rfl rfl (by decide) ?_
    refine X_callSN_UW (M' := M_X7_setAt) (nA := 3) (As := [.ref v5, .int p1, .int 2]) (st := []) rfl rfl (by decide +kernel) rfl rfl rfl rfl rfl rfl rfl (fun _ e => ct_X7_setAt e) (fun h10 => ?_)
    refine X_aload_n rfl rfl rfl ?_
    refine X_dup rfl rfl rfl ?_
    refine X_getI rfl rfl (fun v15 => ?_)
    refine X_iconst (v := 1) rfl rfl (by decide) ?_
    refine X_isub rfl rfl ?_
    refine X_put rfl rfl rfl rfl rfl (fun h20 => ?_)
    refine X_iconst (v := 0) rfl rfl (by decide) ?_
    exact X_iret rfl rfl rfl rfl rfl rfl rfl
end
section
def f_X6_clear (h : gH) (a0 : Nat) (p1 : Int32) (p2 : Int32) : Option gH :=
  (g_put h a0 6 0 (.int 0)).bind fun h2 =>
  (g_put h2 a0 6 1 (.int 0)).bind fun h7 =>
  (g_put h7 a0 6 2 (.int (-1))).bind fun h12 =>
  (g_put h12 a0 6 3 (.int p1)).bind fun h17 =>
  (g_put h17 a0 6 4 (.int p2)).bind fun h22 =>
  (g_put h22 a0 6 5 (.int 0)).bind fun h27 =>
  (g_put h27 a0 6 6 (.int 0)).bind fun h32 =>
  (g_put h32 a0 6 7 (.int 0)).bind fun h37 =>
  (g_put h37 a0 6 8 (.int 0)).bind fun h42 =>
  (g_gA h42 a0 6 11).bind fun v46 =>
  bif g_is h42 v46 0 then
  (f_X0_clear h42 v46).bind fun h49 =>
  (g_gA h49 a0 6 12).bind fun v53 =>
  bif g_is h49 v53 0 then
  (f_X0_clear h49 v53).bind fun h56 =>
  (g_gA h56 a0 6 13).bind fun v60 =>
  (g_put h56 v60 2 0 (.int 0)).bind fun h64 =>
  (g_gA h64 a0 6 14).bind fun v68 =>
  (g_put h64 v68 2 0 (.int 0)).bind fun h72 =>
  (g_gA h72 a0 6 15).bind fun v76 =>
  (g_put h72 v76 4 0 (.int 0)).bind fun h80 =>
  some h80
  else none
  else none
set_option maxRecDepth 100000 in
theorem ct_X6_clear {l : Launch} {G : gG} {h : gH} {a0 : Nat} {p1 : Int32} {p2 : Int32} {h1 : gH} (e : f_X6_clear h a0 p1 p2 = some h1) : Ct l G M_X6_clear [.ref a0, .int p1, .int p2] h none h1 := by
  refine Ct_of (L := [some (.ref a0), some (.int p1), some (.int p2)]) ok_X6_clear (by decide +kernel) rfl rfl rfl (ρ := g_wU) (F := f_X6_clear h a0 p1 p2) ?_ e rfl
  unfold f_X6_clear
  refine X_aload_n rfl rfl rfl ?_
  refine X_iconst (v := 0) rfl rfl (by decide) ?_
  refine X_put rfl rfl rfl rfl rfl (fun h2 => ?_)
  refine X_aload_n rfl rfl rfl ?_
  refine X_iconst (v := 0) rfl rfl (by decide) ?_
  refine X_put rfl rfl rfl rfl rfl (fun h7 => ?_)
  refine X_aload_n rfl rfl rfl ?_
  refine X_iconst (v := -1) rfl rfl (by decide) ?_
  refine X_put rfl rfl rfl rfl rfl (fun h12 => ?_)
  refine X_aload_n rfl rfl rfl ?_
  refine X_iload_n rfl rfl rfl ?_
  refine X_put rfl rfl rfl rfl rfl (fun h17 => ?_)
  refine X_aload_n rfl rfl rfl ?_
  refine X_iload_n rfl rfl rfl ?_
  refine X_put rfl rfl rfl rfl rfl (fun h22 => ?_)
  refine X_aload_n rfl rfl rfl ?_
  refine X_iconst (v := 0) rfl rfl (by decide) ?_
  refine X_put rfl rfl rfl rfl rfl (fun h27 => ?_)
  refine X_aload_n rfl rfl rfl ?_
  refine X_iconst (v := 0) rfl rfl (by decide) ?_
  refine X_put rfl rfl rfl rfl rfl (fun h32 => ?_)
  refine X_aload_n rfl rfl rfl ?_
  refine X_iconst (v := 0) rfl rfl (by decide) ?_
  refine X_put rfl rfl rfl rfl rfl (fun h37 => ?_)
  refine X_aload_n rfl rfl rfl ?_
  refine X_iconst (v := 0) rfl rfl (by decide) ?_
  refine X_put rfl rfl rfl rfl rfl (fun h42 => ?_)
  refine X_aload_n rfl rfl rfl ?_
  refine X_getA rfl rfl (fun v46 => ?_)
  refine X_callV_UW (M' := M_X0_clear) (nA := 0) (As := []) (st := []) (b := v46) (ci := 0) rfl rfl (by decide +kernel) rfl rfl rfl rfl rfl rfl rfl rfl (fun _ e => ct_X0_clear e) (fun h49 => ?_)
  refine X_aload_n rfl rfl rfl ?_
  refine X_getA rfl rfl (fun v53 => ?_)
  refine X_callV_UW (M' := M_X0_clear) (nA := 0) (As := []) (st := []) (b := v53) (ci := 0) rfl rfl (by decide +kernel) rfl rfl rfl rfl rfl rfl rfl rfl (fun _ e => ct_X0_clear e) (fun h56 => ?_)
  refine X_aload_n rfl rfl rfl ?_
  refine X_getA rfl rfl (fun v60 => ?_)
  refine X_iconst (v := 0) rfl rfl (by decide) ?_
  refine X_put rfl rfl rfl rfl rfl (fun h64 => ?_)
  refine X_aload_n rfl rfl rfl ?_
  refine X_getA rfl rfl (fun v68 => ?_)
  refine X_iconst (v := 0) rfl rfl (by decide) ?_
  refine X_put rfl rfl rfl rfl rfl (fun h72 => ?_)
  refine X_aload_n rfl rfl rfl ?_
  refine X_getA rfl rfl (fun v76 => ?_)
  refine X_iconst (v := 0) rfl rfl (by decide) ?_
  refine X_put rfl rfl rfl rfl rfl (fun h80 => ?_)
  exact X_vret rfl rfl rfl rfl rfl rfl
def f_X6_messageNumbered_b23 (h : gH) (l0 : Nat) (s0 : Option Nat) : Option (Nat) :=
  (Option.elim s0
    ((g_gA h l0 6 10).bind fun v29 =>
    some v29)
    (fun a25 =>
      some a25))
def f_X6_messageNumbered_b22 (h : gH) (l0 : Nat) : Option (Nat) :=
  f_X6_messageNumbered_b23 h l0 none
def f_X6_messageNumbered (h : gH) (a0 : Nat) (p1 : Int32) : Option (Nat) :=
  (if 0 ≤ p1 then
    (g_gA h a0 6 9).bind fun v6 =>
    (g_aln h v6).bind fun v9 =>
    (if p1 < v9 then
      (g_gA h a0 6 9).bind fun v14 =>
      (g_qld h v14 4 p1).bind fun v18 =>
      f_X6_messageNumbered_b23 h a0 v18
    else
      f_X6_messageNumbered_b22 h a0)
  else
    f_X6_messageNumbered_b22 h a0)
set_option maxRecDepth 100000 in
theorem b_X6_messageNumbered_b23 {l : Launch} {G : gG} {h : gH} (l0 : Nat) (s0 : Option Nat) : GX l G M_X6_messageNumbered (g_phi G (g_rA h) (m_R M_X6_messageNumbered).cells (m_R M_X6_messageNumbered).slots) 0 0 23 [some (.ref l0), none, none] [va_rf s0] h (f_X6_messageNumbered_b23 h l0 s0) := by
  unfold f_X6_messageNumbered_b23
  refine X_astoreQ_n (x := s0) rfl rfl rfl rfl ?_
  refine X_aloadQ_n (x := s0) rfl rfl rfl ?_
  refine X_bnonnull rfl rfl (fun _ => ?_) (fun a25 e25 => ?_)
  · refine X_aload_n rfl rfl rfl ?_
    refine X_getA rfl rfl (fun v29 => ?_)
    refine X_goto rfl rfl ?_
    exact X_aretA rfl rfl rfl rfl rfl rfl
  · subst e25
    refine X_aload_n rfl rfl rfl ?_
    exact X_aretA rfl rfl rfl rfl rfl rfl
set_option maxRecDepth 100000 in
theorem b_X6_messageNumbered_b22 {l : Launch} {G : gG} {h : gH} (l0 : Nat) : GX l G M_X6_messageNumbered (g_phi G (g_rA h) (m_R M_X6_messageNumbered).cells (m_R M_X6_messageNumbered).slots) 0 0 22 [some (.ref l0), none, none] [] h (f_X6_messageNumbered_b22 h l0) := by
  unfold f_X6_messageNumbered_b22
  refine X_null rfl rfl ?_
  refine X_rfl (st' := va_rf none :: []) rfl ?_
  exact X_sub (g_sub_s (g_sub_n (g_sub_n g_sub_0))) (b_X6_messageNumbered_b23  _ _)
set_option maxRecDepth 100000 in
theorem ct_X6_messageNumbered {l : Launch} {G : gG} {h : gH} {a0 : Nat} {p1 : Int32} {r : Nat} (e : f_X6_messageNumbered h a0 p1 = some r) : Ct l G M_X6_messageNumbered [.ref a0, .int p1] h (some (.ref r)) h := by
  refine Ct_of (L := [some (.ref a0), some (.int p1), none]) ok_X6_messageNumbered (by decide +kernel) rfl rfl rfl (ρ := (g_rA h)) (F := f_X6_messageNumbered h a0 p1) ?_ e rfl
  unfold f_X6_messageNumbered
  refine X_iload_n rfl rfl rfl ?_
  refine X_bif_lt rfl rfl (fun _ => ?_) (fun _ => ?_)
  · refine X_iload_n rfl rfl rfl ?_
    refine X_aload_n rfl rfl rfl ?_
    refine X_getA rfl rfl (fun v6 => ?_)
    refine X_aln rfl rfl (fun v9 => ?_)
    refine X_bicmp_ge rfl rfl (fun _ => ?_) (fun _ => ?_)
    · refine X_aload_n rfl rfl rfl ?_
      refine X_getA rfl rfl (fun v14 => ?_)
      refine X_iload_n rfl rfl rfl ?_
      refine X_qld (t := 4) rfl rfl (by simp) (fun v18 => ?_)
      refine X_goto rfl rfl ?_
      exact X_sub (g_sub_s (g_sub_n (g_sub_n g_sub_0))) (b_X6_messageNumbered_b23  _ _)
    · exact X_sub (g_sub_s (g_sub_n (g_sub_n g_sub_0))) (b_X6_messageNumbered_b22  _)
  · exact X_sub (g_sub_s (g_sub_n (g_sub_n g_sub_0))) (b_X6_messageNumbered_b22  _)
def f_X6_copyFrom_b74 : Nat → gH → Nat → Nat → Int32 → Option gH
  | 0, _, _, _, _ => none
  | n + 1, h, l0, l1, l2 =>
    (g_gI h l0 6 1).bind fun v76 =>
    (if l2 < v76 then
      bif g_is h l0 6 then
      (f_X6_messageNumbered h l0 l2).bind fun v84 =>
      bif g_is h l1 6 then
      (f_X6_messageNumbered h l1 l2).bind fun v89 =>
      bif g_is h v84 3 then
      (f_X3_copyFrom h v84 v89).bind fun h92 =>
      f_X6_copyFrom_b74  n h92 l0 l1 (l2 + 1)
      else none
      else none
      else none
    else
      (g_gA h l0 6 11).bind fun v102 =>
      (g_gA h l1 6 11).bind fun v106 =>
      bif g_is h v102 0 then
      (f_X0_copyFrom h v102 v106).bind fun h109 =>
      (g_gA h109 l0 6 12).bind fun v113 =>
      (g_gA h109 l1 6 12).bind fun v117 =>
      bif g_is h109 v113 0 then
      (f_X0_copyFrom h109 v113 v117).bind fun h120 =>
      (g_gA h120 l0 6 13).bind fun v124 =>
      (g_gA h120 l1 6 13).bind fun v128 =>
      bif g_is h120 v124 2 then
      (f_X2_copyFrom h120 v124 v128).bind fun h131 =>
      (g_gA h131 l0 6 14).bind fun v135 =>
      (g_gA h131 l1 6 14).bind fun v139 =>
      bif g_is h131 v135 2 then
      (f_X2_copyFrom h131 v135 v139).bind fun h142 =>
      (g_gA h142 l0 6 15).bind fun v146 =>
      (g_gA h142 l1 6 15).bind fun v150 =>
      bif g_is h142 v146 4 then
      (f_X4_copyFrom h142 v146 v150).bind fun h153 =>
      some h153
      else none
      else none
      else none
      else none
      else none)
def f_X6_copyFrom (h : gH) (a0 : Nat) (p1 : Nat) : Option gH :=
  (g_gI h p1 6 0).bind fun v2 =>
  (g_put h a0 6 0 (.int v2)).bind fun h5 =>
  (g_gI h5 p1 6 1).bind fun v10 =>
  (g_put h5 a0 6 1 (.int v10)).bind fun h13 =>
  (g_gI h13 p1 6 2).bind fun v18 =>
  (g_put h13 a0 6 2 (.int v18)).bind fun h21 =>
  (g_gI h21 p1 6 3).bind fun v26 =>
  (g_put h21 a0 6 3 (.int v26)).bind fun h29 =>
  (g_gI h29 p1 6 4).bind fun v34 =>
  (g_put h29 a0 6 4 (.int v34)).bind fun h37 =>
  (g_gI h37 p1 6 5).bind fun v42 =>
  (g_put h37 a0 6 5 (.int v42)).bind fun h45 =>
  (g_gI h45 p1 6 6).bind fun v50 =>
  (g_put h45 a0 6 6 (.int v50)).bind fun h53 =>
  (g_gI h53 p1 6 7).bind fun v58 =>
  (g_put h53 a0 6 7 (.int v58)).bind fun h61 =>
  (g_gI h61 p1 6 8).bind fun v66 =>
  (g_put h61 a0 6 8 (.int v66)).bind fun h69 =>
  f_X6_copyFrom_b74 g_N h69 a0 p1 0
set_option maxRecDepth 100000 in
theorem b_X6_copyFrom_b74 {l : Launch} {G : gG} : ∀ (n : Nat) (h : gH) (l0 : Nat) (l1 : Nat) (l2 : Int32), GX l G M_X6_copyFrom (g_phi G g_wU (m_R M_X6_copyFrom).cells (m_R M_X6_copyFrom).slots) 0 0 74 [some (.ref l0), some (.ref l1), some (.int l2)] [] h (f_X6_copyFrom_b74 n h l0 l1 l2) := by
  intro n
  induction n with
  | zero => intros; exact X_none
  | succ n ih =>
    intro h l0 l1 l2
    rw [f_X6_copyFrom_b74]
    refine X_iload_n rfl rfl rfl ?_
    refine X_aload_n rfl rfl rfl ?_
    refine X_getI rfl rfl (fun v76 => ?_)
    refine X_bicmp_ge rfl rfl (fun _ => ?_) (fun _ => ?_)
    · refine X_aload_n rfl rfl rfl ?_
      refine X_iload_n rfl rfl rfl ?_
      refine X_callV_AR (M' := M_X6_messageNumbered) (nA := 1) (As := [.int l2]) (st := []) (b := l0) (ci := 6) rfl rfl (by decide +kernel) rfl rfl rfl rfl rfl rfl rfl rfl (fun _ e => ct_X6_messageNumbered e) (fun v84 => ?_)
      refine X_aload_n rfl rfl rfl ?_
      refine X_iload_n rfl rfl rfl ?_
      refine X_callV_AR (M' := M_X6_messageNumbered) (nA := 1) (As := [.int l2]) (st := [.ref v84]) (b := l1) (ci := 6) rfl rfl (by decide +kernel) rfl rfl rfl rfl rfl rfl rfl rfl (fun _ e => ct_X6_messageNumbered e) (fun v89 => ?_)
      refine X_callV_UW (M' := M_X3_copyFrom) (nA := 1) (As := [.ref v89]) (st := []) (b := v84) (ci := 3) rfl rfl (by decide +kernel) rfl rfl rfl rfl rfl rfl rfl rfl (fun _ e => ct_X3_copyFrom e) (fun h92 => ?_)
      refine X_iinc (v := l2 + 1) rfl rfl rfl (congrArg (fun z => l2 + z) (by decide : Int32.ofInt 1 = 1)) rfl ?_
      refine X_goto rfl rfl ?_
      exact X_sub (g_sub_s (g_sub_s (g_sub_s g_sub_0))) (ih _ _ _ _)
    · refine X_aload_n rfl rfl rfl ?_
      refine X_getA rfl rfl (fun v102 => ?_)
      refine X_aload_n rfl rfl rfl ?_
      refine X_getA rfl rfl (fun v106 => ?_)
      refine X_callV_UW (M' := M_X0_copyFrom) (nA := 1) (As := [.ref v106]) (st := []) (b := v102) (ci := 0) rfl rfl (by decide +kernel) rfl rfl rfl rfl rfl rfl rfl rfl (fun _ e => ct_X0_copyFrom e) (fun h109 => ?_)
      refine X_aload_n rfl rfl rfl ?_
      refine X_getA rfl rfl (fun v113 => ?_)
      refine X_aload_n rfl rfl rfl ?_
      refine X_getA rfl rfl (fun v117 => ?_)
      refine X_callV_UW (M' := M_X0_copyFrom) (nA := 1) (As := [.ref v117]) (st := []) (b := v113) (ci := 0) rfl rfl (by decide +kernel) rfl rfl rfl rfl rfl rfl rfl rfl (fun _ e => ct_X0_copyFrom e) (fun h120 => ?_)
      refine X_aload_n rfl rfl rfl ?_
      refine X_getA rfl rfl (fun v124 => ?_)
      refine X_aload_n rfl rfl rfl ?_
      refine X_getA rfl rfl (fun v128 => ?_)
      refine X_callV_UW (M' := M_X2_copyFrom) (nA := 1) (As := [.ref v128]) (st := []) (b := v124) (ci := 2) rfl rfl (by decide +kernel) rfl rfl rfl rfl rfl rfl rfl rfl (fun _ e => ct_X2_copyFrom e) (fun h131 => ?_)
      refine X_aload_n rfl rfl rfl ?_
      refine X_getA rfl rfl (fun v135 => ?_)
      refine X_aload_n rfl rfl rfl ?_
      refine X_getA rfl rfl (fun v139 => ?_)
      refine X_callV_UW (M' := M_X2_copyFrom) (nA := 1) (As := [.ref v139]) (st := []) (b := v135) (ci := 2) rfl rfl (by decide +kernel) rfl rfl rfl rfl rfl rfl rfl rfl (fun _ e => ct_X2_copyFrom e) (fun h142 => ?_)
      refine X_aload_n rfl rfl rfl ?_
      refine X_getA rfl rfl (fun v146 => ?_)
      refine X_aload_n rfl rfl rfl ?_
      refine X_getA rfl rfl (fun v150 => ?_)
      refine X_callV_UW (M' := M_X4_copyFrom) (nA := 1) (As := [.ref v150]) (st := []) (b := v146) (ci := 4) rfl rfl (by decide +kernel) rfl rfl rfl rfl rfl rfl rfl rfl (fun _ e => ct_X4_copyFrom e) (fun h153 => ?_)
      exact X_vret rfl rfl rfl rfl rfl rfl
set_option maxRecDepth 100000 in
theorem ct_X6_copyFrom {l : Launch} {G : gG} {h : gH} {a0 : Nat} {p1 : Nat} {h1 : gH} (e : f_X6_copyFrom h a0 p1 = some h1) : Ct l G M_X6_copyFrom [.ref a0, .ref p1] h none h1 := by
  refine Ct_of (L := [some (.ref a0), some (.ref p1), none]) ok_X6_copyFrom (by decide +kernel) rfl rfl rfl (ρ := g_wU) (F := f_X6_copyFrom h a0 p1) ?_ e rfl
  unfold f_X6_copyFrom
  refine X_aload_n rfl rfl rfl ?_
  refine X_aload_n rfl rfl rfl ?_
  refine X_getI rfl rfl (fun v2 => ?_)
  refine X_put rfl rfl rfl rfl rfl (fun h5 => ?_)
  refine X_aload_n rfl rfl rfl ?_
  refine X_aload_n rfl rfl rfl ?_
  refine X_getI rfl rfl (fun v10 => ?_)
  refine X_put rfl rfl rfl rfl rfl (fun h13 => ?_)
  refine X_aload_n rfl rfl rfl ?_
  refine X_aload_n rfl rfl rfl ?_
  refine X_getI rfl rfl (fun v18 => ?_)
  refine X_put rfl rfl rfl rfl rfl (fun h21 => ?_)
  refine X_aload_n rfl rfl rfl ?_
  refine X_aload_n rfl rfl rfl ?_
  refine X_getI rfl rfl (fun v26 => ?_)
  refine X_put rfl rfl rfl rfl rfl (fun h29 => ?_)
  refine X_aload_n rfl rfl rfl ?_
  refine X_aload_n rfl rfl rfl ?_
  refine X_getI rfl rfl (fun v34 => ?_)
  refine X_put rfl rfl rfl rfl rfl (fun h37 => ?_)
  refine X_aload_n rfl rfl rfl ?_
  refine X_aload_n rfl rfl rfl ?_
  refine X_getI rfl rfl (fun v42 => ?_)
  refine X_put rfl rfl rfl rfl rfl (fun h45 => ?_)
  refine X_aload_n rfl rfl rfl ?_
  refine X_aload_n rfl rfl rfl ?_
  refine X_getI rfl rfl (fun v50 => ?_)
  refine X_put rfl rfl rfl rfl rfl (fun h53 => ?_)
  refine X_aload_n rfl rfl rfl ?_
  refine X_aload_n rfl rfl rfl ?_
  refine X_getI rfl rfl (fun v58 => ?_)
  refine X_put rfl rfl rfl rfl rfl (fun h61 => ?_)
  refine X_aload_n rfl rfl rfl ?_
  refine X_aload_n rfl rfl rfl ?_
  refine X_getI rfl rfl (fun v66 => ?_)
  refine X_put rfl rfl rfl rfl rfl (fun h69 => ?_)
  refine X_iconst (v := 0) rfl rfl (by decide) ?_
  refine X_istore_n rfl rfl rfl rfl ?_
  exact X_sub (g_sub_s (g_sub_s (g_sub_s g_sub_0))) (b_X6_copyFrom_b74  _ _ _ _ _)
def f_X6_hasMessage (h : gH) (a0 : Nat) (p1 : Int32) : Option (Int32) :=
  (if 0 ≤ p1 then
    (g_gI h a0 6 1).bind fun v6 =>
    (if p1 < v6 then
      some 1
    else
      some 0)
  else
    some 0)
set_option maxRecDepth 100000 in
theorem ct_X6_hasMessage {l : Launch} {G : gG} {h : gH} {a0 : Nat} {p1 : Int32} {r : Int32} (e : f_X6_hasMessage h a0 p1 = some r) : Ct l G M_X6_hasMessage [.ref a0, .int p1] h (some (.int r)) h := by
  refine Ct_of (L := [some (.ref a0), some (.int p1)]) ok_X6_hasMessage (by decide +kernel) rfl rfl rfl (ρ := (g_rI h)) (F := f_X6_hasMessage h a0 p1) ?_ e rfl
  unfold f_X6_hasMessage
  refine X_iload_n rfl rfl rfl ?_
  refine X_bif_lt rfl rfl (fun _ => ?_) (fun _ => ?_)
  · refine X_iload_n rfl rfl rfl ?_
    refine X_aload_n rfl rfl rfl ?_
    refine X_getI rfl rfl (fun v6 => ?_)
    refine X_bicmp_ge rfl rfl (fun _ => ?_) (fun _ => ?_)
    · refine X_iconst (v := 1) rfl rfl (by decide) ?_
      refine X_goto rfl rfl ?_
      exact X_iret rfl rfl rfl rfl rfl rfl rfl
    · refine X_iconst (v := 0) rfl rfl (by decide) ?_
      exact X_iret rfl rfl rfl rfl rfl rfl rfl
  · refine X_iconst (v := 0) rfl rfl (by decide) ?_
    exact X_iret rfl rfl rfl rfl rfl rfl rfl
def f_X6_channelNumbered (h : gH) (a0 : Nat) (p1 : Int32) : Option (Nat) :=
  (if p1 = 0 then
    (g_gA h a0 6 11).bind fun v5 =>
    some v5
  else
    (g_gA h a0 6 12).bind fun v12 =>
    some v12)
set_option maxRecDepth 100000 in
theorem ct_X6_channelNumbered {l : Launch} {G : gG} {h : gH} {a0 : Nat} {p1 : Int32} {r : Nat} (e : f_X6_channelNumbered h a0 p1 = some r) : Ct l G M_X6_channelNumbered [.ref a0, .int p1] h (some (.ref r)) h := by
  refine Ct_of (L := [some (.ref a0), some (.int p1)]) ok_X6_channelNumbered (by decide +kernel) rfl rfl rfl (ρ := (g_rA h)) (F := f_X6_channelNumbered h a0 p1) ?_ e rfl
  unfold f_X6_channelNumbered
  refine X_iload_n rfl rfl rfl ?_
  refine X_bif_ne rfl rfl (fun _ => ?_) (fun _ => ?_)
  · refine X_aload_n rfl rfl rfl ?_
    refine X_getA rfl rfl (fun v5 => ?_)
    refine X_goto rfl rfl ?_
    exact X_aretA rfl rfl rfl rfl rfl rfl
  · refine X_aload_n rfl rfl rfl ?_
    refine X_getA rfl rfl (fun v12 => ?_)
    exact X_aretA rfl rfl rfl rfl rfl rfl
def f_X6_keepersOf (h : gH) (a0 : Nat) (p1 : Int32) : Option (Nat) :=
  (if p1 = 0 then
    (g_gA h a0 6 13).bind fun v5 =>
    some v5
  else
    (g_gA h a0 6 14).bind fun v12 =>
    some v12)
set_option maxRecDepth 100000 in
theorem ct_X6_keepersOf {l : Launch} {G : gG} {h : gH} {a0 : Nat} {p1 : Int32} {r : Nat} (e : f_X6_keepersOf h a0 p1 = some r) : Ct l G M_X6_keepersOf [.ref a0, .int p1] h (some (.ref r)) h := by
  refine Ct_of (L := [some (.ref a0), some (.int p1)]) ok_X6_keepersOf (by decide +kernel) rfl rfl rfl (ρ := (g_rA h)) (F := f_X6_keepersOf h a0 p1) ?_ e rfl
  unfold f_X6_keepersOf
  refine X_iload_n rfl rfl rfl ?_
  refine X_bif_ne rfl rfl (fun _ => ?_) (fun _ => ?_)
  · refine X_aload_n rfl rfl rfl ?_
    refine X_getA rfl rfl (fun v5 => ?_)
    refine X_goto rfl rfl ?_
    exact X_aretA rfl rfl rfl rfl rfl rfl
  · refine X_aload_n rfl rfl rfl ?_
    refine X_getA rfl rfl (fun v12 => ?_)
    exact X_aretA rfl rfl rfl rfl rfl rfl
def f_X6_addMessage (h : gH) (a0 : Nat) (p1 : Int32) (p2 : Int32) (p3 : Nat) (p4 : Int32) (p5 : Int32) : Option gH :=
  (g_gI h a0 6 1).bind fun v1 =>
  (if v1 < 8 then
    (g_gI h a0 6 1).bind fun v11 =>
    bif g_is h a0 6 then
    (f_X6_messageNumbered h a0 v11).bind fun v14 =>
    (g_gI h a0 6 3).bind fun v20 =>
    bif g_is h v14 3 then
    (f_X3_become h v14 p1 p2 v20).bind fun h23 =>
    (g_gI h23 a0 6 1).bind fun v28 =>
    bif g_is h23 a0 6 then
    (f_X6_messageNumbered h23 a0 v28).bind fun v31 =>
    bif g_is h23 v31 3 then
    (f_X3_takeLetters h23 v31 p3 p4 p5).bind fun h39 =>
    (g_gI h39 a0 6 1).bind fun v44 =>
    (g_put h39 a0 6 1 (.int (v44 + 1))).bind fun h49 =>
    some h49
    else none
    else none
    else none
    else none
  else
    some h)
set_option maxRecDepth 100000 in
theorem ct_X6_addMessage {l : Launch} {G : gG} {h : gH} {a0 : Nat} {p1 : Int32} {p2 : Int32} {p3 : Nat} {p4 : Int32} {p5 : Int32} {h1 : gH} (e : f_X6_addMessage h a0 p1 p2 p3 p4 p5 = some h1) : Ct l G M_X6_addMessage [.ref a0, .int p1, .int p2, .ref p3, .int p4, .int p5] h none h1 := by
  refine Ct_of (L := [some (.ref a0), some (.int p1), some (.int p2), some (.ref p3), some (.int p4), some (.int p5)]) ok_X6_addMessage (by decide +kernel) rfl rfl rfl (ρ := g_wU) (F := f_X6_addMessage h a0 p1 p2 p3 p4 p5) ?_ e rfl
  unfold f_X6_addMessage
  refine X_aload_n rfl rfl rfl ?_
  refine X_getI rfl rfl (fun v1 => ?_)
  refine X_bipush (v := 8) rfl rfl (by decide) ?_
  refine X_bicmp_ge rfl rfl (fun _ => ?_) (fun _ => ?_)
  · refine X_aload_n rfl rfl rfl ?_
    refine X_aload_n rfl rfl rfl ?_
    refine X_getI rfl rfl (fun v11 => ?_)
    refine X_callV_AR (M' := M_X6_messageNumbered) (nA := 1) (As := [.int v11]) (st := []) (b := a0) (ci := 6) rfl rfl (by decide +kernel) rfl rfl rfl rfl rfl rfl rfl rfl (fun _ e => ct_X6_messageNumbered e) (fun v14 => ?_)
    refine X_iload_n rfl rfl rfl ?_
    refine X_iload_n rfl rfl rfl ?_
    refine X_aload_n rfl rfl rfl ?_
    refine X_getI rfl rfl (fun v20 => ?_)
    refine X_callV_UW (M' := M_X3_become) (nA := 3) (As := [.int p1, .int p2, .int v20]) (st := []) (b := v14) (ci := 3) rfl rfl (by decide +kernel) rfl rfl rfl rfl rfl rfl rfl rfl (fun _ e => ct_X3_become e) (fun h23 => ?_)
    refine X_aload_n rfl rfl rfl ?_
    refine X_aload_n rfl rfl rfl ?_
    refine X_getI rfl rfl (fun v28 => ?_)
    refine X_callV_AR (M' := M_X6_messageNumbered) (nA := 1) (As := [.int v28]) (st := []) (b := a0) (ci := 6) rfl rfl (by decide +kernel) rfl rfl rfl rfl rfl rfl rfl rfl (fun _ e => ct_X6_messageNumbered e) (fun v31 => ?_)
    refine X_aload_n rfl rfl rfl ?_
    refine X_iload rfl rfl rfl ?_
    refine X_iload rfl rfl rfl ?_
    refine X_callV_UW (M' := M_X3_takeLetters) (nA := 3) (As := [.ref p3, .int p4, .int p5]) (st := []) (b := v31) (ci := 3) rfl rfl (by decide +kernel) rfl rfl rfl rfl rfl rfl rfl rfl (fun _ e => ct_X3_takeLetters e) (fun h39 => ?_)
    refine X_aload_n rfl rfl rfl ?_
    refine X_dup rfl rfl rfl ?_
    refine X_getI rfl rfl (fun v44 => ?_)
    refine X_iconst (v := 1) rfl rfl (by decide) ?_
    refine X_iadd rfl rfl ?_
    refine X_put rfl rfl rfl rfl rfl (fun h49 => ?_)
    exact X_vret rfl rfl rfl rfl rfl rfl
  · exact X_vret rfl rfl rfl rfl rfl rfl
def f_X6_messagesIn_b27 (h : gH) (K4 : Nat → Int32 → Int32 → Int32 → Option (Int32)) (l0 : Nat) (l1 : Int32) (l2 : Int32) (l3 : Int32) : Option (Int32) :=
  K4 l0 l1 l2 (l3 + 1)
def f_X6_messagesIn_b4 (h : gH) : Nat → Nat → Int32 → Int32 → Int32 → Option (Int32)
  | 0, _, _, _, _ => none
  | n + 1, l0, l1, l2, l3 =>
    (g_gI h l0 6 1).bind fun v6 =>
    (if l3 < v6 then
      bif g_is h l0 6 then
      (f_X6_messageNumbered h l0 l3).bind fun v14 =>
      (g_gI h v14 3 5).bind fun v17 =>
      (if v17 = l1 then
        f_X6_messagesIn_b27 h (f_X6_messagesIn_b4 h n) l0 l1 (l2 + 1) l3
      else
        f_X6_messagesIn_b27 h (f_X6_messagesIn_b4 h n) l0 l1 l2 l3)
      else none
    else
      some l2)
def f_X6_messagesIn (h : gH) (a0 : Nat) (p1 : Int32) : Option (Int32) :=
  f_X6_messagesIn_b4 h g_N a0 p1 0 0
set_option maxRecDepth 100000 in
theorem b_X6_messagesIn_b27 {l : Launch} {G : gG} {h : gH} {K4 : Nat → Int32 → Int32 → Int32 → Option (Int32)} (hK4 : ∀ (l0 : Nat) (l1 : Int32) (l2 : Int32) (l3 : Int32), GX l G M_X6_messagesIn (g_phi G (g_rI h) (m_R M_X6_messagesIn).cells (m_R M_X6_messagesIn).slots) 0 0 4 [some (.ref l0), some (.int l1), some (.int l2), some (.int l3)] [] h (K4 l0 l1 l2 l3)) (l0 : Nat) (l1 : Int32) (l2 : Int32) (l3 : Int32) : GX l G M_X6_messagesIn (g_phi G (g_rI h) (m_R M_X6_messagesIn).cells (m_R M_X6_messagesIn).slots) 0 0 27 [some (.ref l0), some (.int l1), some (.int l2), some (.int l3)] [] h (f_X6_messagesIn_b27 h K4 l0 l1 l2 l3) := by
  unfold f_X6_messagesIn_b27
  refine X_iinc (v := l3 + 1) rfl rfl rfl (congrArg (fun z => l3 + z) (by decide : Int32.ofInt 1 = 1)) rfl ?_
  refine X_goto rfl rfl ?_
  exact X_sub (g_sub_s (g_sub_s (g_sub_s (g_sub_s g_sub_0)))) (hK4 _ _ _ _)
set_option maxRecDepth 100000 in
theorem b_X6_messagesIn_b4 {l : Launch} {G : gG} {h : gH} : ∀ (n : Nat) (l0 : Nat) (l1 : Int32) (l2 : Int32) (l3 : Int32), GX l G M_X6_messagesIn (g_phi G (g_rI h) (m_R M_X6_messagesIn).cells (m_R M_X6_messagesIn).slots) 0 0 4 [some (.ref l0), some (.int l1), some (.int l2), some (.int l3)] [] h (f_X6_messagesIn_b4 h n l0 l1 l2 l3) := by
  intro n
  induction n with
  | zero => intros; exact X_none
  | succ n ih =>
    intro l0 l1 l2 l3
    rw [f_X6_messagesIn_b4]
    refine X_iload_n rfl rfl rfl ?_
    refine X_aload_n rfl rfl rfl ?_
    refine X_getI rfl rfl (fun v6 => ?_)
    refine X_bicmp_ge rfl rfl (fun _ => ?_) (fun _ => ?_)
    · refine X_aload_n rfl rfl rfl ?_
      refine X_iload_n rfl rfl rfl ?_
      refine X_callV_AR (M' := M_X6_messageNumbered) (nA := 1) (As := [.int l3]) (st := []) (b := l0) (ci := 6) rfl rfl (by decide +kernel) rfl rfl rfl rfl rfl rfl rfl rfl (fun _ e => ct_X6_messageNumbered e) (fun v14 => ?_)
      refine X_getI rfl rfl (fun v17 => ?_)
      refine X_iload_n rfl rfl rfl ?_
      refine X_bicmp_ne rfl rfl (fun _ => ?_) (fun _ => ?_)
      · refine X_iinc (v := l2 + 1) rfl rfl rfl (congrArg (fun z => l2 + z) (by decide : Int32.ofInt 1 = 1)) rfl ?_
        exact X_sub (g_sub_s (g_sub_s (g_sub_s (g_sub_s g_sub_0)))) (b_X6_messagesIn_b27 ih _ _ _ _)
      · exact X_sub (g_sub_s (g_sub_s (g_sub_s (g_sub_s g_sub_0)))) (b_X6_messagesIn_b27 ih _ _ _ _)
    · refine X_iload_n rfl rfl rfl ?_
      exact X_iret rfl rfl rfl rfl rfl rfl rfl
set_option maxRecDepth 100000 in
theorem ct_X6_messagesIn {l : Launch} {G : gG} {h : gH} {a0 : Nat} {p1 : Int32} {r : Int32} (e : f_X6_messagesIn h a0 p1 = some r) : Ct l G M_X6_messagesIn [.ref a0, .int p1] h (some (.int r)) h := by
  refine Ct_of (L := [some (.ref a0), some (.int p1), none, none]) ok_X6_messagesIn (by decide +kernel) rfl rfl rfl (ρ := (g_rI h)) (F := f_X6_messagesIn h a0 p1) ?_ e rfl
  unfold f_X6_messagesIn
  refine X_iconst (v := 0) rfl rfl (by decide) ?_
  refine X_istore_n rfl rfl rfl rfl ?_
  refine X_iconst (v := 0) rfl rfl (by decide) ?_
  refine X_istore_n rfl rfl rfl rfl ?_
  exact X_sub (g_sub_s (g_sub_s (g_sub_s (g_sub_s g_sub_0)))) (b_X6_messagesIn_b4  _ _ _ _ _)
def f_X6_agreeing_b26 (h : gH) (K4 : Nat → Int32 → Int32 → Option (Int32)) (l0 : Nat) (l1 : Int32) (l2 : Int32) : Option (Int32) :=
  K4 l0 l1 (l2 + 1)
def f_X6_agreeing_b4 (h : gH) : Nat → Nat → Int32 → Int32 → Option (Int32)
  | 0, _, _, _ => none
  | n + 1, l0, l1, l2 =>
    (g_gI h l0 6 1).bind fun v6 =>
    (if l2 < v6 then
      bif g_is h l0 6 then
      (f_X6_messageNumbered h l0 l2).bind fun v14 =>
      bif g_is h v14 3 then
      (f_X3_agrees h v14).bind fun v17 =>
      (if v17 = 0 then
        f_X6_agreeing_b26 h (f_X6_agreeing_b4 h n) l0 l1 l2
      else
        f_X6_agreeing_b26 h (f_X6_agreeing_b4 h n) l0 (l1 + 1) l2)
      else none
      else none
    else
      some l1)
def f_X6_agreeing (h : gH) (a0 : Nat) : Option (Int32) :=
  f_X6_agreeing_b4 h g_N a0 0 0
set_option maxRecDepth 100000 in
theorem b_X6_agreeing_b26 {l : Launch} {G : gG} {h : gH} {K4 : Nat → Int32 → Int32 → Option (Int32)} (hK4 : ∀ (l0 : Nat) (l1 : Int32) (l2 : Int32), GX l G M_X6_agreeing (g_phi G (g_rI h) (m_R M_X6_agreeing).cells (m_R M_X6_agreeing).slots) 0 0 4 [some (.ref l0), some (.int l1), some (.int l2)] [] h (K4 l0 l1 l2)) (l0 : Nat) (l1 : Int32) (l2 : Int32) : GX l G M_X6_agreeing (g_phi G (g_rI h) (m_R M_X6_agreeing).cells (m_R M_X6_agreeing).slots) 0 0 26 [some (.ref l0), some (.int l1), some (.int l2)] [] h (f_X6_agreeing_b26 h K4 l0 l1 l2) := by
  unfold f_X6_agreeing_b26
  refine X_iinc (v := l2 + 1) rfl rfl rfl (congrArg (fun z => l2 + z) (by decide : Int32.ofInt 1 = 1)) rfl ?_
  refine X_goto rfl rfl ?_
  exact X_sub (g_sub_s (g_sub_s (g_sub_s g_sub_0))) (hK4 _ _ _)
set_option maxRecDepth 100000 in
theorem b_X6_agreeing_b4 {l : Launch} {G : gG} {h : gH} : ∀ (n : Nat) (l0 : Nat) (l1 : Int32) (l2 : Int32), GX l G M_X6_agreeing (g_phi G (g_rI h) (m_R M_X6_agreeing).cells (m_R M_X6_agreeing).slots) 0 0 4 [some (.ref l0), some (.int l1), some (.int l2)] [] h (f_X6_agreeing_b4 h n l0 l1 l2) := by
  intro n
  induction n with
  | zero => intros; exact X_none
  | succ n ih =>
    intro l0 l1 l2
    rw [f_X6_agreeing_b4]
    refine X_iload_n rfl rfl rfl ?_
    refine X_aload_n rfl rfl rfl ?_
    refine X_getI rfl rfl (fun v6 => ?_)
    refine X_bicmp_ge rfl rfl (fun _ => ?_) (fun _ => ?_)
    · refine X_aload_n rfl rfl rfl ?_
      refine X_iload_n rfl rfl rfl ?_
      refine X_callV_AR (M' := M_X6_messageNumbered) (nA := 1) (As := [.int l2]) (st := []) (b := l0) (ci := 6) rfl rfl (by decide +kernel) rfl rfl rfl rfl rfl rfl rfl rfl (fun _ e => ct_X6_messageNumbered e) (fun v14 => ?_)
      refine X_callV_IR (M' := M_X3_agrees) (nA := 0) (As := []) (st := []) (b := v14) (ci := 3) rfl rfl (by decide +kernel) rfl rfl rfl rfl rfl rfl rfl rfl (fun _ e => ct_X3_agrees e) (fun v17 => ?_)
      refine X_bif_eq rfl rfl (fun _ => ?_) (fun _ => ?_)
      · exact X_sub (g_sub_s (g_sub_s (g_sub_s g_sub_0))) (b_X6_agreeing_b26 ih _ _ _)
      · refine X_iinc (v := l1 + 1) rfl rfl rfl (congrArg (fun z => l1 + z) (by decide : Int32.ofInt 1 = 1)) rfl ?_
        exact X_sub (g_sub_s (g_sub_s (g_sub_s g_sub_0))) (b_X6_agreeing_b26 ih _ _ _)
    · refine X_iload_n rfl rfl rfl ?_
      exact X_iret rfl rfl rfl rfl rfl rfl rfl
set_option maxRecDepth 100000 in
theorem ct_X6_agreeing {l : Launch} {G : gG} {h : gH} {a0 : Nat} {r : Int32} (e : f_X6_agreeing h a0 = some r) : Ct l G M_X6_agreeing [.ref a0] h (some (.int r)) h := by
  refine Ct_of (L := [some (.ref a0), none, none]) ok_X6_agreeing (by decide +kernel) rfl rfl rfl (ρ := (g_rI h)) (F := f_X6_agreeing h a0) ?_ e rfl
  unfold f_X6_agreeing
  refine X_iconst (v := 0) rfl rfl (by decide) ?_
  refine X_istore_n rfl rfl rfl rfl ?_
  refine X_iconst (v := 0) rfl rfl (by decide) ?_
  refine X_istore_n rfl rfl rfl rfl ?_
  exact X_sub (g_sub_s (g_sub_s (g_sub_s g_sub_0))) (b_X6_agreeing_b4  _ _ _ _)
def f_X6_figure (h : gH) (a0 : Nat) (p1 : Int32) : Option (Int32) :=
  (if p1 = 0 then
    (g_gI h a0 6 0).bind fun v65 =>
    some v65
  else
    (if p1 = 1 then
      (g_gI h a0 6 1).bind fun v70 =>
      some v70
    else
      (if p1 = 2 then
        (g_gI h a0 6 2).bind fun v75 =>
        some v75
      else
        (if p1 = 3 then
          bif g_is h a0 6 then
          (f_X6_messagesIn h a0 0).bind fun v81 =>
          some v81
          else none
        else
          (if p1 = 4 then
            bif g_is h a0 6 then
            (f_X6_messagesIn h a0 2).bind fun v87 =>
            some v87
            else none
          else
            (if p1 = 5 then
              bif g_is h a0 6 then
              (f_X6_agreeing h a0).bind fun v92 =>
              some v92
              else none
            else
              (if p1 = 6 then
                (g_gI h a0 6 5).bind fun v97 =>
                some v97
              else
                (if p1 = 7 then
                  (g_gI h a0 6 6).bind fun v102 =>
                  some v102
                else
                  (if p1 = 8 then
                    (g_gI h a0 6 7).bind fun v107 =>
                    some v107
                  else
                    (if p1 = 9 then
                      (g_gI h a0 6 8).bind fun v112 =>
                      some v112
                    else
                      (if p1 = 10 then
                        (g_gA h a0 6 15).bind fun v117 =>
                        (g_gI h v117 4 0).bind fun v120 =>
                        some v120
                      else
                        (if p1 = 11 then
                          (g_gI h a0 6 3).bind fun v125 =>
                          some v125
                        else
                          (g_gI h a0 6 4).bind fun v130 =>
                          some v130))))))))))))
set_option maxRecDepth 100000 in
theorem ct_X6_figure {l : Launch} {G : gG} {h : gH} {a0 : Nat} {p1 : Int32} {r : Int32} (e : f_X6_figure h a0 p1 = some r) : Ct l G M_X6_figure [.ref a0, .int p1] h (some (.int r)) h := by
  refine Ct_of (L := [some (.ref a0), some (.int p1)]) ok_X6_figure (by decide +kernel) rfl rfl rfl (ρ := (g_rI h)) (F := f_X6_figure h a0 p1) ?_ e rfl
  unfold f_X6_figure
  refine X_iload_n rfl rfl rfl ?_
  refine X_if (fun c1_0 => ?_) (fun c1_0 => ?_)
  · refine X_tswIn (v := 0) (len := 63) (tgt := 64) (off := 63) rfl rfl c1_0 (by decide) (by decide) rfl rfl ?_
    refine X_aload_n rfl rfl rfl ?_
    refine X_getI rfl rfl (fun v65 => ?_)
    exact X_iret rfl rfl rfl rfl rfl rfl rfl
  · refine X_if (fun c1_1 => ?_) (fun c1_1 => ?_)
    · refine X_tswIn (v := 1) (len := 63) (tgt := 69) (off := 68) rfl rfl c1_1 (by decide) (by decide) rfl rfl ?_
      refine X_aload_n rfl rfl rfl ?_
      refine X_getI rfl rfl (fun v70 => ?_)
      exact X_iret rfl rfl rfl rfl rfl rfl rfl
    · refine X_if (fun c1_2 => ?_) (fun c1_2 => ?_)
      · refine X_tswIn (v := 2) (len := 63) (tgt := 74) (off := 73) rfl rfl c1_2 (by decide) (by decide) rfl rfl ?_
        refine X_aload_n rfl rfl rfl ?_
        refine X_getI rfl rfl (fun v75 => ?_)
        exact X_iret rfl rfl rfl rfl rfl rfl rfl
      · refine X_if (fun c1_3 => ?_) (fun c1_3 => ?_)
        · refine X_tswIn (v := 3) (len := 63) (tgt := 79) (off := 78) rfl rfl c1_3 (by decide) (by decide) rfl rfl ?_
          refine X_aload_n rfl rfl rfl ?_
          refine X_iconst (v := 0) rfl rfl (by decide) ?_
          refine X_callV_IR (M' := M_X6_messagesIn) (nA := 1) (As := [.int 0]) (st := []) (b := a0) (ci := 6) rfl rfl (by decide +kernel) rfl rfl rfl rfl rfl rfl rfl rfl (fun _ e => ct_X6_messagesIn e) (fun v81 => ?_)
          exact X_iret rfl rfl rfl rfl rfl rfl rfl
        · refine X_if (fun c1_4 => ?_) (fun c1_4 => ?_)
          · refine X_tswIn (v := 4) (len := 63) (tgt := 85) (off := 84) rfl rfl c1_4 (by decide) (by decide) rfl rfl ?_
            refine X_aload_n rfl rfl rfl ?_
            refine X_iconst (v := 2) rfl rfl (by decide) ?_
            refine X_callV_IR (M' := M_X6_messagesIn) (nA := 1) (As := [.int 2]) (st := []) (b := a0) (ci := 6) rfl rfl (by decide +kernel) rfl rfl rfl rfl rfl rfl rfl rfl (fun _ e => ct_X6_messagesIn e) (fun v87 => ?_)
            exact X_iret rfl rfl rfl rfl rfl rfl rfl
          · refine X_if (fun c1_5 => ?_) (fun c1_5 => ?_)
            · refine X_tswIn (v := 5) (len := 63) (tgt := 91) (off := 90) rfl rfl c1_5 (by decide) (by decide) rfl rfl ?_
              refine X_aload_n rfl rfl rfl ?_
              refine X_callV_IR (M' := M_X6_agreeing) (nA := 0) (As := []) (st := []) (b := a0) (ci := 6) rfl rfl (by decide +kernel) rfl rfl rfl rfl rfl rfl rfl rfl (fun _ e => ct_X6_agreeing e) (fun v92 => ?_)
              exact X_iret rfl rfl rfl rfl rfl rfl rfl
            · refine X_if (fun c1_6 => ?_) (fun c1_6 => ?_)
              · refine X_tswIn (v := 6) (len := 63) (tgt := 96) (off := 95) rfl rfl c1_6 (by decide) (by decide) rfl rfl ?_
                refine X_aload_n rfl rfl rfl ?_
                refine X_getI rfl rfl (fun v97 => ?_)
                exact X_iret rfl rfl rfl rfl rfl rfl rfl
              · refine X_if (fun c1_7 => ?_) (fun c1_7 => ?_)
                · refine X_tswIn (v := 7) (len := 63) (tgt := 101) (off := 100) rfl rfl c1_7 (by decide) (by decide) rfl rfl ?_
                  refine X_aload_n rfl rfl rfl ?_
                  refine X_getI rfl rfl (fun v102 => ?_)
                  exact X_iret rfl rfl rfl rfl rfl rfl rfl
                · refine X_if (fun c1_8 => ?_) (fun c1_8 => ?_)
                  · refine X_tswIn (v := 8) (len := 63) (tgt := 106) (off := 105) rfl rfl c1_8 (by decide) (by decide) rfl rfl ?_
                    refine X_aload_n rfl rfl rfl ?_
                    refine X_getI rfl rfl (fun v107 => ?_)
                    exact X_iret rfl rfl rfl rfl rfl rfl rfl
                  · refine X_if (fun c1_9 => ?_) (fun c1_9 => ?_)
                    · refine X_tswIn (v := 9) (len := 63) (tgt := 111) (off := 110) rfl rfl c1_9 (by decide) (by decide) rfl rfl ?_
                      refine X_aload_n rfl rfl rfl ?_
                      refine X_getI rfl rfl (fun v112 => ?_)
                      exact X_iret rfl rfl rfl rfl rfl rfl rfl
                    · refine X_if (fun c1_10 => ?_) (fun c1_10 => ?_)
                      · refine X_tswIn (v := 10) (len := 63) (tgt := 116) (off := 115) rfl rfl c1_10 (by decide) (by decide) rfl rfl ?_
                        refine X_aload_n rfl rfl rfl ?_
                        refine X_getA rfl rfl (fun v117 => ?_)
                        refine X_getI rfl rfl (fun v120 => ?_)
                        exact X_iret rfl rfl rfl rfl rfl rfl rfl
                      · refine X_if (fun c1_11 => ?_) (fun c1_11 => ?_)
                        · refine X_tswIn (v := 11) (len := 63) (tgt := 124) (off := 123) rfl rfl c1_11 (by decide) (by decide) rfl rfl ?_
                          refine X_aload_n rfl rfl rfl ?_
                          refine X_getI rfl rfl (fun v125 => ?_)
                          exact X_iret rfl rfl rfl rfl rfl rfl rfl
                        · refine X_tswOut (len := 63) (tgt := 129) rfl rfl (by have := g_neI c1_0 (show Int32.toInt (0) = 0 by decide) ; have := g_neI c1_1 (show Int32.toInt (1) = 1 by decide) ; have := g_neI c1_2 (show Int32.toInt (2) = 2 by decide) ; have := g_neI c1_3 (show Int32.toInt (3) = 3 by decide) ; have := g_neI c1_4 (show Int32.toInt (4) = 4 by decide) ; have := g_neI c1_5 (show Int32.toInt (5) = 5 by decide) ; have := g_neI c1_6 (show Int32.toInt (6) = 6 by decide) ; have := g_neI c1_7 (show Int32.toInt (7) = 7 by decide) ; have := g_neI c1_8 (show Int32.toInt (8) = 8 by decide) ; have := g_neI c1_9 (show Int32.toInt (9) = 9 by decide) ; have := g_neI c1_10 (show Int32.toInt (10) = 10 by decide) ; have := g_neI c1_11 (show Int32.toInt (11) = 11 by decide); omega) rfl ?_
                          refine X_aload_n rfl rfl rfl ?_
                          refine X_getI rfl rfl (fun v130 => ?_)
                          exact X_iret rfl rfl rfl rfl rfl rfl rfl
def f_X6_isBusy_b16 (h : gH) : Option (Int32) :=
  some 1
def f_X6_isBusy (h : gH) (a0 : Nat) : Option (Int32) :=
  (g_gI h a0 6 2).bind fun v1 =>
  (if v1 = (-1) then
    bif g_is h a0 6 then
    (f_X6_messagesIn h a0 0).bind fun v10 =>
    (if 0 < v10 then
      f_X6_isBusy_b16 h
    else
      some 0)
    else none
  else
    f_X6_isBusy_b16 h)
set_option maxRecDepth 100000 in
theorem b_X6_isBusy_b16 {l : Launch} {G : gG} {h : gH} : GX l G M_X6_isBusy (g_phi G (g_rI h) (m_R M_X6_isBusy).cells (m_R M_X6_isBusy).slots) 0 0 16 [none] [] h (f_X6_isBusy_b16 h) := by
  unfold f_X6_isBusy_b16
  refine X_iconst (v := 1) rfl rfl (by decide) ?_
  refine X_goto rfl rfl ?_
  exact X_iret rfl rfl rfl rfl rfl rfl rfl
set_option maxRecDepth 100000 in
theorem ct_X6_isBusy {l : Launch} {G : gG} {h : gH} {a0 : Nat} {r : Int32} (e : f_X6_isBusy h a0 = some r) : Ct l G M_X6_isBusy [.ref a0] h (some (.int r)) h := by
  refine Ct_of (L := [some (.ref a0)]) ok_X6_isBusy (by decide +kernel) rfl rfl rfl (ρ := (g_rI h)) (F := f_X6_isBusy h a0) ?_ e rfl
  unfold f_X6_isBusy
  refine X_aload_n rfl rfl rfl ?_
  refine X_getI rfl rfl (fun v1 => ?_)
  refine X_iconst (v := -1) rfl rfl (by decide) ?_
  refine X_bicmp_ne rfl rfl (fun _ => ?_) (fun _ => ?_)
  · refine X_aload_n rfl rfl rfl ?_
    refine X_iconst (v := 0) rfl rfl (by decide) ?_
    refine X_callV_IR (M' := M_X6_messagesIn) (nA := 1) (As := [.int 0]) (st := []) (b := a0) (ci := 6) rfl rfl (by decide +kernel) rfl rfl rfl rfl rfl rfl rfl rfl (fun _ e => ct_X6_messagesIn e) (fun v10 => ?_)
    refine X_bif_le rfl rfl (fun _ => ?_) (fun _ => ?_)
    · exact X_sub (g_sub_n g_sub_0) (b_X6_isBusy_b16  )
    · refine X_iconst (v := 0) rfl rfl (by decide) ?_
      exact X_iret rfl rfl rfl rfl rfl rfl rfl
  · exact X_sub (g_sub_n g_sub_0) (b_X6_isBusy_b16  )
def f_X6_servedBefore_b66 (h : gH) (K14 : Nat → Int32 → Int32 → Int32 → Int32 → Option (Int32)) (l0 : Nat) (l1 : Int32) (l2 : Int32) (l3 : Int32) (l4 : Int32) : Option (Int32) :=
  K14 l0 l1 l2 l3 (l4 + 1)
def f_X6_servedBefore_b63 (h : gH) (K14 : Nat → Int32 → Int32 → Int32 → Int32 → Option (Int32)) (l0 : Nat) (l1 : Int32) (l2 : Int32) (l3 : Int32) (l4 : Int32) : Option (Int32) :=
  f_X6_servedBefore_b66 h K14 l0 l1 l2 (l3 + 1) l4
def f_X6_servedBefore_b14 (h : gH) : Nat → Nat → Int32 → Int32 → Int32 → Int32 → Option (Int32)
  | 0, _, _, _, _, _ => none
  | n + 1, l0, l1, l2, l3, l4 =>
    (g_gI h l0 6 1).bind fun v17 =>
    (if l4 < v17 then
      bif g_is h l0 6 then
      (f_X6_messageNumbered h l0 l4).bind fun v26 =>
      (g_gI h v26 3 5).bind fun v33 =>
      (if v33 = 0 then
        (g_gI h v26 3 1).bind fun v41 =>
        (if v41 ≤ l2 then
          (g_gI h v26 3 1).bind fun v50 =>
          (if v50 = l2 then
            (if l4 < l1 then
              f_X6_servedBefore_b63 h (f_X6_servedBefore_b14 h n) l0 l1 l2 l3 l4
            else
              f_X6_servedBefore_b66 h (f_X6_servedBefore_b14 h n) l0 l1 l2 l3 l4)
          else
            f_X6_servedBefore_b66 h (f_X6_servedBefore_b14 h n) l0 l1 l2 l3 l4)
        else
          f_X6_servedBefore_b63 h (f_X6_servedBefore_b14 h n) l0 l1 l2 l3 l4)
      else
        f_X6_servedBefore_b66 h (f_X6_servedBefore_b14 h n) l0 l1 l2 l3 l4)
      else none
    else
      some l3)
def f_X6_servedBefore (h : gH) (a0 : Nat) (p1 : Int32) : Option (Int32) :=
  bif g_is h a0 6 then
  (f_X6_messageNumbered h a0 p1).bind fun v2 =>
  (g_gI h v2 3 1).bind fun v5 =>
  f_X6_servedBefore_b14 h g_N a0 p1 v5 0 0
  else none
set_option maxRecDepth 100000 in
theorem b_X6_servedBefore_b66 {l : Launch} {G : gG} {h : gH} {K14 : Nat → Int32 → Int32 → Int32 → Int32 → Option (Int32)} (hK14 : ∀ (l0 : Nat) (l1 : Int32) (l2 : Int32) (l3 : Int32) (l4 : Int32), GX l G M_X6_servedBefore (g_phi G (g_rI h) (m_R M_X6_servedBefore).cells (m_R M_X6_servedBefore).slots) 0 0 14 [some (.ref l0), some (.int l1), some (.int l2), some (.int l3), some (.int l4), none] [] h (K14 l0 l1 l2 l3 l4)) (l0 : Nat) (l1 : Int32) (l2 : Int32) (l3 : Int32) (l4 : Int32) : GX l G M_X6_servedBefore (g_phi G (g_rI h) (m_R M_X6_servedBefore).cells (m_R M_X6_servedBefore).slots) 0 0 66 [some (.ref l0), some (.int l1), some (.int l2), some (.int l3), some (.int l4), none] [] h (f_X6_servedBefore_b66 h K14 l0 l1 l2 l3 l4) := by
  unfold f_X6_servedBefore_b66
  refine X_iinc (v := l4 + 1) rfl rfl rfl (congrArg (fun z => l4 + z) (by decide : Int32.ofInt 1 = 1)) rfl ?_
  refine X_goto rfl rfl ?_
  exact X_sub (g_sub_s (g_sub_s (g_sub_s (g_sub_s (g_sub_s (g_sub_n g_sub_0)))))) (hK14 _ _ _ _ _)
set_option maxRecDepth 100000 in
theorem b_X6_servedBefore_b63 {l : Launch} {G : gG} {h : gH} {K14 : Nat → Int32 → Int32 → Int32 → Int32 → Option (Int32)} (hK14 : ∀ (l0 : Nat) (l1 : Int32) (l2 : Int32) (l3 : Int32) (l4 : Int32), GX l G M_X6_servedBefore (g_phi G (g_rI h) (m_R M_X6_servedBefore).cells (m_R M_X6_servedBefore).slots) 0 0 14 [some (.ref l0), some (.int l1), some (.int l2), some (.int l3), some (.int l4), none] [] h (K14 l0 l1 l2 l3 l4)) (l0 : Nat) (l1 : Int32) (l2 : Int32) (l3 : Int32) (l4 : Int32) : GX l G M_X6_servedBefore (g_phi G (g_rI h) (m_R M_X6_servedBefore).cells (m_R M_X6_servedBefore).slots) 0 0 63 [some (.ref l0), some (.int l1), some (.int l2), some (.int l3), some (.int l4), none] [] h (f_X6_servedBefore_b63 h K14 l0 l1 l2 l3 l4) := by
  unfold f_X6_servedBefore_b63
  refine X_iinc (v := l3 + 1) rfl rfl rfl (congrArg (fun z => l3 + z) (by decide : Int32.ofInt 1 = 1)) rfl ?_
  exact X_sub (g_sub_s (g_sub_s (g_sub_s (g_sub_s (g_sub_s (g_sub_n g_sub_0)))))) (b_X6_servedBefore_b66 hK14 _ _ _ _ _)
set_option maxRecDepth 100000 in
theorem b_X6_servedBefore_b14 {l : Launch} {G : gG} {h : gH} : ∀ (n : Nat) (l0 : Nat) (l1 : Int32) (l2 : Int32) (l3 : Int32) (l4 : Int32), GX l G M_X6_servedBefore (g_phi G (g_rI h) (m_R M_X6_servedBefore).cells (m_R M_X6_servedBefore).slots) 0 0 14 [some (.ref l0), some (.int l1), some (.int l2), some (.int l3), some (.int l4), none] [] h (f_X6_servedBefore_b14 h n l0 l1 l2 l3 l4) := by
  intro n
  induction n with
  | zero => intros; exact X_none
  | succ n ih =>
    intro l0 l1 l2 l3 l4
    rw [f_X6_servedBefore_b14]
    refine X_iload rfl rfl rfl ?_
    refine X_aload_n rfl rfl rfl ?_
    refine X_getI rfl rfl (fun v17 => ?_)
    refine X_bicmp_ge rfl rfl (fun _ => ?_) (fun _ => ?_)
    · refine X_aload_n rfl rfl rfl ?_
      refine X_iload rfl rfl rfl ?_
      refine X_callV_AR (M' := M_X6_messageNumbered) (nA := 1) (As := [.int l4]) (st := []) (b := l0) (ci := 6) rfl rfl (by decide +kernel) rfl rfl rfl rfl rfl rfl rfl rfl (fun _ e => ct_X6_messageNumbered e) (fun v26 => ?_)
      refine X_astore rfl rfl rfl rfl ?_
      refine X_aload rfl rfl rfl ?_
      refine X_getI rfl rfl (fun v33 => ?_)
      refine X_bif_ne rfl rfl (fun _ => ?_) (fun _ => ?_)
      · refine X_aload rfl rfl rfl ?_
        refine X_getI rfl rfl (fun v41 => ?_)
        refine X_iload_n rfl rfl rfl ?_
        refine X_bicmp_gt rfl rfl (fun _ => ?_) (fun _ => ?_)
        · refine X_aload rfl rfl rfl ?_
          refine X_getI rfl rfl (fun v50 => ?_)
          refine X_iload_n rfl rfl rfl ?_
          refine X_bicmp_ne rfl rfl (fun _ => ?_) (fun _ => ?_)
          · refine X_iload rfl rfl rfl ?_
            refine X_iload_n rfl rfl rfl ?_
            refine X_bicmp_ge rfl rfl (fun _ => ?_) (fun _ => ?_)
            · exact X_sub (g_sub_s (g_sub_s (g_sub_s (g_sub_s (g_sub_s (g_sub_n g_sub_0)))))) (b_X6_servedBefore_b63 ih _ _ _ _ _)
            · exact X_sub (g_sub_s (g_sub_s (g_sub_s (g_sub_s (g_sub_s (g_sub_n g_sub_0)))))) (b_X6_servedBefore_b66 ih _ _ _ _ _)
          · exact X_sub (g_sub_s (g_sub_s (g_sub_s (g_sub_s (g_sub_s (g_sub_n g_sub_0)))))) (b_X6_servedBefore_b66 ih _ _ _ _ _)
        · exact X_sub (g_sub_s (g_sub_s (g_sub_s (g_sub_s (g_sub_s (g_sub_n g_sub_0)))))) (b_X6_servedBefore_b63 ih _ _ _ _ _)
      · exact X_sub (g_sub_s (g_sub_s (g_sub_s (g_sub_s (g_sub_s (g_sub_n g_sub_0)))))) (b_X6_servedBefore_b66 ih _ _ _ _ _)
    · refine X_iload_n rfl rfl rfl ?_
      exact X_iret rfl rfl rfl rfl rfl rfl rfl
set_option maxRecDepth 100000 in
theorem ct_X6_servedBefore {l : Launch} {G : gG} {h : gH} {a0 : Nat} {p1 : Int32} {r : Int32} (e : f_X6_servedBefore h a0 p1 = some r) : Ct l G M_X6_servedBefore [.ref a0, .int p1] h (some (.int r)) h := by
  refine Ct_of (L := [some (.ref a0), some (.int p1), none, none, none, none]) ok_X6_servedBefore (by decide +kernel) rfl rfl rfl (ρ := (g_rI h)) (F := f_X6_servedBefore h a0 p1) ?_ e rfl
  unfold f_X6_servedBefore
  refine X_aload_n rfl rfl rfl ?_
  refine X_iload_n rfl rfl rfl ?_
  refine X_callV_AR (M' := M_X6_messageNumbered) (nA := 1) (As := [.int p1]) (st := []) (b := a0) (ci := 6) rfl rfl (by decide +kernel) rfl rfl rfl rfl rfl rfl rfl rfl (fun _ e => ct_X6_messageNumbered e) (fun v2 => ?_)
  refine X_getI rfl rfl (fun v5 => ?_)
  refine X_istore_n rfl rfl rfl rfl ?_
  refine X_iconst (v := 0) rfl rfl (by decide) ?_
  refine X_istore_n rfl rfl rfl rfl ?_
  refine X_iconst (v := 0) rfl rfl (by decide) ?_
  refine X_istore rfl rfl rfl rfl ?_
  exact X_sub (g_sub_s (g_sub_s (g_sub_s (g_sub_s (g_sub_s (g_sub_n g_sub_0)))))) (b_X6_servedBefore_b14  _ _ _ _ _ _)
def f_X6_servedAs_b32 (h : gH) (K2 : Nat → Int32 → Int32 → Option (Int32)) (l0 : Nat) (l1 : Int32) (l2 : Int32) : Option (Int32) :=
  K2 l0 l1 (l2 + 1)
def f_X6_servedAs_b2 (h : gH) : Nat → Nat → Int32 → Int32 → Option (Int32)
  | 0, _, _, _ => none
  | n + 1, l0, l1, l2 =>
    (g_gI h l0 6 1).bind fun v4 =>
    (if l2 < v4 then
      bif g_is h l0 6 then
      (f_X6_messageNumbered h l0 l2).bind fun v12 =>
      (g_gI h v12 3 5).bind fun v15 =>
      (if v15 = 0 then
        bif g_is h l0 6 then
        (f_X6_servedBefore h l0 l2).bind fun v23 =>
        (if v23 = l1 then
          some l2
        else
          f_X6_servedAs_b32 h (f_X6_servedAs_b2 h n) l0 l1 l2)
        else none
      else
        f_X6_servedAs_b32 h (f_X6_servedAs_b2 h n) l0 l1 l2)
      else none
    else
      some (-1))
def f_X6_servedAs (h : gH) (a0 : Nat) (p1 : Int32) : Option (Int32) :=
  f_X6_servedAs_b2 h g_N a0 p1 0
set_option maxRecDepth 100000 in
theorem b_X6_servedAs_b32 {l : Launch} {G : gG} {h : gH} {K2 : Nat → Int32 → Int32 → Option (Int32)} (hK2 : ∀ (l0 : Nat) (l1 : Int32) (l2 : Int32), GX l G M_X6_servedAs (g_phi G (g_rI h) (m_R M_X6_servedAs).cells (m_R M_X6_servedAs).slots) 0 0 2 [some (.ref l0), some (.int l1), some (.int l2)] [] h (K2 l0 l1 l2)) (l0 : Nat) (l1 : Int32) (l2 : Int32) : GX l G M_X6_servedAs (g_phi G (g_rI h) (m_R M_X6_servedAs).cells (m_R M_X6_servedAs).slots) 0 0 32 [some (.ref l0), some (.int l1), some (.int l2)] [] h (f_X6_servedAs_b32 h K2 l0 l1 l2) := by
  unfold f_X6_servedAs_b32
  refine X_iinc (v := l2 + 1) rfl rfl rfl (congrArg (fun z => l2 + z) (by decide : Int32.ofInt 1 = 1)) rfl ?_
  refine X_goto rfl rfl ?_
  exact X_sub (g_sub_s (g_sub_s (g_sub_s g_sub_0))) (hK2 _ _ _)
set_option maxRecDepth 100000 in
theorem b_X6_servedAs_b2 {l : Launch} {G : gG} {h : gH} : ∀ (n : Nat) (l0 : Nat) (l1 : Int32) (l2 : Int32), GX l G M_X6_servedAs (g_phi G (g_rI h) (m_R M_X6_servedAs).cells (m_R M_X6_servedAs).slots) 0 0 2 [some (.ref l0), some (.int l1), some (.int l2)] [] h (f_X6_servedAs_b2 h n l0 l1 l2) := by
  intro n
  induction n with
  | zero => intros; exact X_none
  | succ n ih =>
    intro l0 l1 l2
    rw [f_X6_servedAs_b2]
    refine X_iload_n rfl rfl rfl ?_
    refine X_aload_n rfl rfl rfl ?_
    refine X_getI rfl rfl (fun v4 => ?_)
    refine X_bicmp_ge rfl rfl (fun _ => ?_) (fun _ => ?_)
    · refine X_aload_n rfl rfl rfl ?_
      refine X_iload_n rfl rfl rfl ?_
      refine X_callV_AR (M' := M_X6_messageNumbered) (nA := 1) (As := [.int l2]) (st := []) (b := l0) (ci := 6) rfl rfl (by decide +kernel) rfl rfl rfl rfl rfl rfl rfl rfl (fun _ e => ct_X6_messageNumbered e) (fun v12 => ?_)
      refine X_getI rfl rfl (fun v15 => ?_)
      refine X_bif_ne rfl rfl (fun _ => ?_) (fun _ => ?_)
      · refine X_aload_n rfl rfl rfl ?_
        refine X_iload_n rfl rfl rfl ?_
        refine X_callV_IR (M' := M_X6_servedBefore) (nA := 1) (As := [.int l2]) (st := []) (b := l0) (ci := 6) rfl rfl (by decide +kernel) rfl rfl rfl rfl rfl rfl rfl rfl (fun _ e => ct_X6_servedBefore e) (fun v23 => ?_)
        refine X_iload_n rfl rfl rfl ?_
        refine X_bicmp_ne rfl rfl (fun _ => ?_) (fun _ => ?_)
        · refine X_iload_n rfl rfl rfl ?_
          exact X_iret rfl rfl rfl rfl rfl rfl rfl
        · exact X_sub (g_sub_s (g_sub_s (g_sub_s g_sub_0))) (b_X6_servedAs_b32 ih _ _ _)
      · exact X_sub (g_sub_s (g_sub_s (g_sub_s g_sub_0))) (b_X6_servedAs_b32 ih _ _ _)
    · refine X_iconst (v := -1) rfl rfl (by decide) ?_
      exact X_iret rfl rfl rfl rfl rfl rfl rfl
set_option maxRecDepth 100000 in
theorem ct_X6_servedAs {l : Launch} {G : gG} {h : gH} {a0 : Nat} {p1 : Int32} {r : Int32} (e : f_X6_servedAs h a0 p1 = some r) : Ct l G M_X6_servedAs [.ref a0, .int p1] h (some (.int r)) h := by
  refine Ct_of (L := [some (.ref a0), some (.int p1), none]) ok_X6_servedAs (by decide +kernel) rfl rfl rfl (ρ := (g_rI h)) (F := f_X6_servedAs h a0 p1) ?_ e rfl
  unfold f_X6_servedAs
  refine X_iconst (v := 0) rfl rfl (by decide) ?_
  refine X_istore_n rfl rfl rfl rfl ?_
  exact X_sub (g_sub_s (g_sub_s (g_sub_s g_sub_0))) (b_X6_servedAs_b2  _ _ _ _)
def f_X6_takeBack_b13 (h : gH) (l0 : Nat) (l1 : Int32) (s0 : Int32) : Option (Int32 × gH) :=
  bif g_is h l0 6 then
  (f_X6_messageNumbered h l0 l1).bind fun v16 =>
  (g_gI h l0 6 0).bind fun v21 =>
  bif g_is h v16 3 then
  (f_X3_end h v16 3 v21).bind fun h24 =>
  (if s0 = 0 then
    (g_z s0).bind fun z => some (s0, h24)
  else
    (g_put h24 l0 6 2 (.int (-1))).bind fun h33 =>
    (g_gA h33 l0 6 11).bind fun v37 =>
    bif g_is h33 v37 0 then
    (f_X0_becomeIdle h33 v37).bind fun h40 =>
    (g_gA h40 l0 6 12).bind fun v44 =>
    bif g_is h40 v44 0 then
    (f_X0_becomeIdle h40 v44).bind fun h47 =>
    (g_z s0).bind fun z => some (s0, h47)
    else none
    else none)
  else none
  else none
def f_X6_takeBack (h : gH) (a0 : Nat) (p1 : Int32) : Option (Int32 × gH) :=
  (g_gI h a0 6 2).bind fun v2 =>
  (if p1 = v2 then
    f_X6_takeBack_b13 h a0 p1 1
  else
    f_X6_takeBack_b13 h a0 p1 0)
set_option maxRecDepth 100000 in
theorem b_X6_takeBack_b13 {l : Launch} {G : gG} (h : gH) (l0 : Nat) (l1 : Int32) (s0 : Int32) : GX l G M_X6_takeBack (g_phi G g_wI (m_R M_X6_takeBack).cells (m_R M_X6_takeBack).slots) 0 0 13 [some (.ref l0), some (.int l1), none] [.int s0] h (f_X6_takeBack_b13 h l0 l1 s0) := by
  unfold f_X6_takeBack_b13
  refine X_istore_n rfl rfl rfl rfl ?_
  refine X_aload_n rfl rfl rfl ?_
  refine X_iload_n rfl rfl rfl ?_
  refine X_callV_AR (M' := M_X6_messageNumbered) (nA := 1) (As := [.int l1]) (st := []) (b := l0) (ci := 6) rfl rfl (by decide +kernel) rfl rfl rfl rfl rfl rfl rfl rfl (fun _ e => ct_X6_messageNumbered e) (fun v16 => ?_)
  refine X_iconst (v := 3) rfl rfl (by decide) ?_
  refine X_aload_n rfl rfl rfl ?_
  refine X_getI rfl rfl (fun v21 => ?_)
  refine X_callV_UW (M' := M_X3_end) (nA := 2) (As := [.int 3, .int v21]) (st := []) (b := v16) (ci := 3) rfl rfl (by decide +kernel) rfl rfl rfl rfl rfl rfl rfl rfl (fun _ e => ct_X3_end e) (fun h24 => ?_)
  refine X_iload_n rfl rfl rfl ?_
  refine X_bif_eq rfl rfl (fun _ => ?_) (fun _ => ?_)
  · refine X_iload_n rfl rfl rfl ?_
    exact X_zret rfl rfl rfl ⟨_, rfl, rfl⟩ rfl rfl
  · refine X_aload_n rfl rfl rfl ?_
    refine X_iconst (v := -1) rfl rfl (by decide) ?_
    refine X_put rfl rfl rfl rfl rfl (fun h33 => ?_)
    refine X_aload_n rfl rfl rfl ?_
    refine X_getA rfl rfl (fun v37 => ?_)
    refine X_callV_UW (M' := M_X0_becomeIdle) (nA := 0) (As := []) (st := []) (b := v37) (ci := 0) rfl rfl (by decide +kernel) rfl rfl rfl rfl rfl rfl rfl rfl (fun _ e => ct_X0_becomeIdle e) (fun h40 => ?_)
    refine X_aload_n rfl rfl rfl ?_
    refine X_getA rfl rfl (fun v44 => ?_)
    refine X_callV_UW (M' := M_X0_becomeIdle) (nA := 0) (As := []) (st := []) (b := v44) (ci := 0) rfl rfl (by decide +kernel) rfl rfl rfl rfl rfl rfl rfl rfl (fun _ e => ct_X0_becomeIdle e) (fun h47 => ?_)
    refine X_iload_n rfl rfl rfl ?_
    exact X_zret rfl rfl rfl ⟨_, rfl, rfl⟩ rfl rfl
set_option maxRecDepth 100000 in
theorem ct_X6_takeBack {l : Launch} {G : gG} {h : gH} {a0 : Nat} {p1 : Int32} {r : Int32} {h1 : gH} (e : f_X6_takeBack h a0 p1 = some (r, h1)) : Ct l G M_X6_takeBack [.ref a0, .int p1] h (some (.int r)) h1 := by
  refine Ct_of (L := [some (.ref a0), some (.int p1), none]) ok_X6_takeBack (by decide +kernel) rfl rfl rfl (ρ := g_wI) (F := f_X6_takeBack h a0 p1) ?_ e rfl
  unfold f_X6_takeBack
  refine X_iload_n rfl rfl rfl ?_
  refine X_aload_n rfl rfl rfl ?_
  refine X_getI rfl rfl (fun v2 => ?_)
  refine X_bicmp_ne rfl rfl (fun _ => ?_) (fun _ => ?_)
  · refine X_iconst (v := 1) rfl rfl (by decide) ?_
    refine X_goto rfl rfl ?_
    exact X_sub (g_sub_s (g_sub_s (g_sub_n g_sub_0))) (b_X6_takeBack_b13  _ _ _ _)
  · refine X_iconst (v := 0) rfl rfl (by decide) ?_
    exact X_sub (g_sub_s (g_sub_s (g_sub_n g_sub_0))) (b_X6_takeBack_b13  _ _ _ _)
def f_X6_startFirstWaiting (h : gH) (a0 : Nat) : Option gH :=
  bif g_is h a0 6 then
  (f_X6_servedAs h a0 0).bind fun v3 =>
  (g_put h a0 6 2 (.int v3)).bind fun h6 =>
  (g_gI h6 a0 6 2).bind fun v10 =>
  (if v10 = (-1) then
    some h6
  else
    (g_gI h6 a0 6 2).bind fun v19 =>
    bif g_is h6 a0 6 then
    (f_X6_messageNumbered h6 a0 v19).bind fun v22 =>
    (g_gI h6 a0 6 0).bind fun v26 =>
    bif g_is h6 v22 3 then
    (f_X3_start h6 v22 v26).bind fun h29 =>
    some h29
    else none
    else none)
  else none
set_option maxRecDepth 100000 in
theorem ct_X6_startFirstWaiting {l : Launch} {G : gG} {h : gH} {a0 : Nat} {h1 : gH} (e : f_X6_startFirstWaiting h a0 = some h1) : Ct l G M_X6_startFirstWaiting [.ref a0] h none h1 := by
  refine Ct_of (L := [some (.ref a0)]) ok_X6_startFirstWaiting (by decide +kernel) rfl rfl rfl (ρ := g_wU) (F := f_X6_startFirstWaiting h a0) ?_ e rfl
  unfold f_X6_startFirstWaiting
  refine X_aload_n rfl rfl rfl ?_
  refine X_aload_n rfl rfl rfl ?_
  refine X_iconst (v := 0) rfl rfl (by decide) ?_
  refine X_callV_IR (M' := M_X6_servedAs) (nA := 1) (As := [.int 0]) (st := [.ref a0]) (b := a0) (ci := 6) rfl rfl (by decide +kernel) rfl rfl rfl rfl rfl rfl rfl rfl (fun _ e => ct_X6_servedAs e) (fun v3 => ?_)
  refine X_put rfl rfl rfl rfl rfl (fun h6 => ?_)
  refine X_aload_n rfl rfl rfl ?_
  refine X_getI rfl rfl (fun v10 => ?_)
  refine X_iconst (v := -1) rfl rfl (by decide) ?_
  refine X_bicmp_eq rfl rfl (fun _ => ?_) (fun _ => ?_)
  · exact X_vret rfl rfl rfl rfl rfl rfl
  · refine X_aload_n rfl rfl rfl ?_
    refine X_aload_n rfl rfl rfl ?_
    refine X_getI rfl rfl (fun v19 => ?_)
    refine X_callV_AR (M' := M_X6_messageNumbered) (nA := 1) (As := [.int v19]) (st := []) (b := a0) (ci := 6) rfl rfl (by decide +kernel) rfl rfl rfl rfl rfl rfl rfl rfl (fun _ e => ct_X6_messageNumbered e) (fun v22 => ?_)
    refine X_aload_n rfl rfl rfl ?_
    refine X_getI rfl rfl (fun v26 => ?_)
    refine X_callV_UW (M' := M_X3_start) (nA := 1) (As := [.int v26]) (st := []) (b := v22) (ci := 3) rfl rfl (by decide +kernel) rfl rfl rfl rfl rfl rfl rfl rfl (fun _ e => ct_X3_start e) (fun h29 => ?_)
    exact X_vret rfl rfl rfl rfl rfl rfl
def f_X6_countSymbol_b24 (h : gH) (l0 : Nat) (l2 : Int32) : Option gH :=
  (if l2 = 0 then
    some h
  else
    (g_gI h l0 6 7).bind fun v30 =>
    (g_put h l0 6 7 (.int (v30 + 1))).bind fun h35 =>
    some h35)
def f_X6_countSymbol (h : gH) (a0 : Nat) (p1 : Int32) (p2 : Int32) : Option gH :=
  (g_gI h a0 6 5).bind fun v2 =>
  (g_put h a0 6 5 (.int (v2 + 1))).bind fun h7 =>
  (if p1 = 0 then
    f_X6_countSymbol_b24 h7 a0 p2
  else
    (g_gI h7 a0 6 6).bind fun v16 =>
    (g_put h7 a0 6 6 (.int (v16 + 1))).bind fun h21 =>
    f_X6_countSymbol_b24 h21 a0 p2)
set_option maxRecDepth 100000 in
theorem b_X6_countSymbol_b24 {l : Launch} {G : gG} (h : gH) (l0 : Nat) (l2 : Int32) : GX l G M_X6_countSymbol (g_phi G g_wU (m_R M_X6_countSymbol).cells (m_R M_X6_countSymbol).slots) 0 0 24 [some (.ref l0), none, some (.int l2)] [] h (f_X6_countSymbol_b24 h l0 l2) := by
  unfold f_X6_countSymbol_b24
  refine X_iload_n rfl rfl rfl ?_
  refine X_bif_eq rfl rfl (fun _ => ?_) (fun _ => ?_)
  · exact X_vret rfl rfl rfl rfl rfl rfl
  · refine X_aload_n rfl rfl rfl ?_
    refine X_dup rfl rfl rfl ?_
    refine X_getI rfl rfl (fun v30 => ?_)
    refine X_iconst (v := 1) rfl rfl (by decide) ?_
    refine X_iadd rfl rfl ?_
    refine X_put rfl rfl rfl rfl rfl (fun h35 => ?_)
    exact X_vret rfl rfl rfl rfl rfl rfl
set_option maxRecDepth 100000 in
theorem ct_X6_countSymbol {l : Launch} {G : gG} {h : gH} {a0 : Nat} {p1 : Int32} {p2 : Int32} {h1 : gH} (e : f_X6_countSymbol h a0 p1 p2 = some h1) : Ct l G M_X6_countSymbol [.ref a0, .int p1, .int p2] h none h1 := by
  refine Ct_of (L := [some (.ref a0), some (.int p1), some (.int p2)]) ok_X6_countSymbol (by decide +kernel) rfl rfl rfl (ρ := g_wU) (F := f_X6_countSymbol h a0 p1 p2) ?_ e rfl
  unfold f_X6_countSymbol
  refine X_aload_n rfl rfl rfl ?_
  refine X_dup rfl rfl rfl ?_
  refine X_getI rfl rfl (fun v2 => ?_)
  refine X_iconst (v := 1) rfl rfl (by decide) ?_
  refine X_iadd rfl rfl ?_
  refine X_put rfl rfl rfl rfl rfl (fun h7 => ?_)
  refine X_iload_n rfl rfl rfl ?_
  refine X_bif_eq rfl rfl (fun _ => ?_) (fun _ => ?_)
  · exact X_sub (g_sub_s (g_sub_n (g_sub_s g_sub_0))) (b_X6_countSymbol_b24  _ _ _)
  · refine X_aload_n rfl rfl rfl ?_
    refine X_dup rfl rfl rfl ?_
    refine X_getI rfl rfl (fun v16 => ?_)
    refine X_iconst (v := 1) rfl rfl (by decide) ?_
    refine X_iadd rfl rfl ?_
    refine X_put rfl rfl rfl rfl rfl (fun h21 => ?_)
    exact X_sub (g_sub_s (g_sub_n (g_sub_s g_sub_0))) (b_X6_countSymbol_b24  _ _ _)
def f_X6_makeStep_b55 (h : gH) (l0 : Nat) (l1 : Nat) (l2 : Nat) (l5 : Int32) (s0 : Int32) : Option gH :=
  bif g_is h l1 0 then
  (f_X0_becomeIdle h l1).bind fun h58 =>
  (g_gI h58 l0 6 4).bind fun v67 =>
  bif g_is h58 l2 3 then
  (f_X3_endTry h58 l2 l5 s0 v67).bind fun y70 =>
  (if y70.1 = 0 then
    some y70.2
  else
    (g_gI y70.2 l0 6 8).bind fun v78 =>
    (g_put y70.2 l0 6 8 (.int (v78 + 1))).bind fun h83 =>
    some h83)
  else none
  else none
def f_X6_makeStep_b54 (h : gH) (l0 : Nat) (l1 : Nat) (l2 : Nat) (l5 : Int32) : Option gH :=
  f_X6_makeStep_b55 h l0 l1 l2 l5 0
def f_X6_makeStep_b240 (h : gH) (l1 : Nat) : Option gH :=
  (g_gI h l1 0 4).bind fun v242 =>
  (g_put h l1 0 4 (.int (v242 + 1))).bind fun h247 =>
  some h247
def f_X6_makeStep_b96 (h : gH) (l0 : Nat) (l1 : Nat) (l2 : Nat) (l5 : Int32) (l6 : Int32) (l7 : Int32) : Option gH :=
  (g_gI h l1 0 4).bind fun v97 =>
  (if v97 = 0 then
    (g_put h l1 0 5 (.int (g_rem (l5 + l7) 26))).bind fun h112 =>
    f_X6_makeStep_b240 h112 l1
  else
    (g_gI h l1 0 4).bind fun v119 =>
    (if v119 ≤ l6 then
      bif g_is h l2 3 then
      (f_X3_firstPlaceOf h l2 l5).bind fun v131 =>
      (g_gI h l1 0 4).bind fun v135 =>
      bif g_is h l2 3 then
      (f_X3_letterAt h l2 ((v131 + v135) - 1)).bind fun v141 =>
      (g_gI h l2 3 0).bind fun v148 =>
      bif g_is h l0 6 then
      (f_X6_keepersOf h l0 v148).bind fun v151 =>
      (g_gI h l0 6 0).bind fun v155 =>
      bif g_is h v151 2 then
      (f_X2_keyAt h v151 v155).bind fun v158 =>
      (g_gI h l2 3 0).bind fun v164 =>
      bif g_is h l0 6 then
      (f_X6_keepersOf h l0 (1 - v164)).bind fun v168 =>
      (g_gI h l0 6 0).bind fun v172 =>
      bif g_is h v168 2 then
      (f_X2_keyAt h v168 v172).bind fun v175 =>
      (f_J9_floorMod_7cf53 h ((v141 + (v158 - v175)) + l7) 26).bind fun v192 =>
      bif g_is h l1 0 then
      (f_X0_hear h l1 v192).bind fun h195 =>
      f_X6_makeStep_b240 h195 l1
      else none
      else none
      else none
      else none
      else none
      else none
      else none
    else
      bif g_is h l2 3 then
      (f_X3_checkOf h l2 l5).bind fun v207 =>
      bif g_is h l1 0 then
      (f_X0_judge h l1 l6 (g_rem (v207 + l7) 26)).bind fun h216 =>
      (g_gI h216 l1 0 9).bind fun v220 =>
      (if v220 = 0 then
        f_X6_makeStep_b240 h216 l1
      else
        (g_gI h216 l1 0 5).bind fun v228 =>
        (g_gA h216 l1 0 7).bind fun v232 =>
        bif g_is h216 l2 3 then
        (f_X3_writeDown h216 l2 v228 v232 l6).bind fun h237 =>
        f_X6_makeStep_b240 h237 l1
        else none)
      else none
      else none))
def f_X6_makeStep_b24 (h : gH) (l0 : Nat) (l1 : Nat) (l2 : Nat) (l3 : Int32) (l4 : Int32) (l5 : Int32) (l6 : Int32) (s0 : Int32) : Option gH :=
  (g_gI h l1 0 4).bind fun v27 =>
  (if (l6 + 1) < v27 then
    (if l3 = 0 then
      (g_gI h l1 0 9).bind fun v42 =>
      (if v42 = l4 then
        f_X6_makeStep_b54 h l0 l1 l2 l5
      else
        f_X6_makeStep_b55 h l0 l1 l2 l5 1)
    else
      f_X6_makeStep_b54 h l0 l1 l2 l5)
  else
    (if l3 = 0 then
      f_X6_makeStep_b96 h l0 l1 l2 l5 l6 s0
    else
      (g_put h l1 0 8 (.int 1)).bind fun h93 =>
      f_X6_makeStep_b96 h93 l0 l1 l2 l5 l6 s0))
def f_X6_makeStep (h : gH) (a0 : Nat) (p1 : Nat) (p2 : Nat) (p3 : Int32) (p4 : Int32) : Option gH :=
  (g_gI h p1 0 3).bind fun v1 =>
  bif g_is h p2 3 then
  (f_X3_lettersIn h p2 v1).bind fun v9 =>
  (if p4 = 0 then
    f_X6_makeStep_b24 h a0 p1 p2 p3 p4 v1 v9 0
  else
    f_X6_makeStep_b24 h a0 p1 p2 p3 p4 v1 v9 1)
  else none
set_option maxRecDepth 100000 in
theorem b_X6_makeStep_b55 {l : Launch} {G : gG} (h : gH) (l0 : Nat) (l1 : Nat) (l2 : Nat) (l5 : Int32) (s0 : Int32) : GX l G M_X6_makeStep (g_phi G g_wU (m_R M_X6_makeStep).cells (m_R M_X6_makeStep).slots) 0 0 55 [some (.ref l0), some (.ref l1), some (.ref l2), none, none, some (.int l5), none, none, none, none] [.int s0] h (f_X6_makeStep_b55 h l0 l1 l2 l5 s0) := by
  unfold f_X6_makeStep_b55
  refine X_istore rfl rfl rfl rfl ?_
  refine X_aload_n rfl rfl rfl ?_
  refine X_callV_UW (M' := M_X0_becomeIdle) (nA := 0) (As := []) (st := []) (b := l1) (ci := 0) rfl rfl (by decide +kernel) rfl rfl rfl rfl rfl rfl rfl rfl (fun _ e => ct_X0_becomeIdle e) (fun h58 => ?_)
  refine X_aload_n rfl rfl rfl ?_
  refine X_iload rfl rfl rfl ?_
  refine X_iload rfl rfl rfl ?_
  refine X_aload_n rfl rfl rfl ?_
  refine X_getI rfl rfl (fun v67 => ?_)
  refine X_callV_IW (M' := M_X3_endTry) (nA := 3) (As := [.int l5, .int s0, .int v67]) (st := []) (b := l2) (ci := 3) rfl rfl (by decide +kernel) rfl rfl rfl rfl rfl rfl rfl rfl (fun _ _ e => ct_X3_endTry e) (fun y70 => ?_)
  refine X_bif_eq rfl rfl (fun _ => ?_) (fun _ => ?_)
  · exact X_vret rfl rfl rfl rfl rfl rfl
  · refine X_aload_n rfl rfl rfl ?_
    refine X_dup rfl rfl rfl ?_
    refine X_getI rfl rfl (fun v78 => ?_)
    refine X_iconst (v := 1) rfl rfl (by decide) ?_
    refine X_iadd rfl rfl ?_
    refine X_put rfl rfl rfl rfl rfl (fun h83 => ?_)
    exact X_vret rfl rfl rfl rfl rfl rfl
set_option maxRecDepth 100000 in
theorem b_X6_makeStep_b54 {l : Launch} {G : gG} (h : gH) (l0 : Nat) (l1 : Nat) (l2 : Nat) (l5 : Int32) : GX l G M_X6_makeStep (g_phi G g_wU (m_R M_X6_makeStep).cells (m_R M_X6_makeStep).slots) 0 0 54 [some (.ref l0), some (.ref l1), some (.ref l2), none, none, some (.int l5), none, none, none, none] [] h (f_X6_makeStep_b54 h l0 l1 l2 l5) := by
  unfold f_X6_makeStep_b54
  refine X_iconst (v := 0) rfl rfl (by decide) ?_
  exact X_sub (g_sub_s (g_sub_s (g_sub_s (g_sub_n (g_sub_n (g_sub_s (g_sub_n (g_sub_n (g_sub_n (g_sub_n g_sub_0)))))))))) (b_X6_makeStep_b55  _ _ _ _ _ _)
set_option maxRecDepth 100000 in
theorem b_X6_makeStep_b240 {l : Launch} {G : gG} (h : gH) (l1 : Nat) : GX l G M_X6_makeStep (g_phi G g_wU (m_R M_X6_makeStep).cells (m_R M_X6_makeStep).slots) 0 0 240 [none, some (.ref l1), none, none, none, none, none, none, none, none] [] h (f_X6_makeStep_b240 h l1) := by
  unfold f_X6_makeStep_b240
  refine X_aload_n rfl rfl rfl ?_
  refine X_dup rfl rfl rfl ?_
  refine X_getI rfl rfl (fun v242 => ?_)
  refine X_iconst (v := 1) rfl rfl (by decide) ?_
  refine X_iadd rfl rfl ?_
  refine X_put rfl rfl rfl rfl rfl (fun h247 => ?_)
  exact X_vret rfl rfl rfl rfl rfl rfl
set_option maxRecDepth 100000 in
theorem b_X6_makeStep_b96 {l : Launch} {G : gG} (h : gH) (l0 : Nat) (l1 : Nat) (l2 : Nat) (l5 : Int32) (l6 : Int32) (l7 : Int32) : GX l G M_X6_makeStep (g_phi G g_wU (m_R M_X6_makeStep).cells (m_R M_X6_makeStep).slots) 0 0 96 [some (.ref l0), some (.ref l1), some (.ref l2), none, none, some (.int l5), some (.int l6), some (.int l7), none, none] [] h (f_X6_makeStep_b96 h l0 l1 l2 l5 l6 l7) := by
  unfold f_X6_makeStep_b96
  refine X_aload_n rfl rfl rfl ?_
  refine X_getI rfl rfl (fun v97 => ?_)
  refine X_bif_ne rfl rfl (fun _ => ?_) (fun _ => ?_)
  · refine X_aload_n rfl rfl rfl ?_
    refine X_iload rfl rfl rfl ?_
    refine X_iload rfl rfl rfl ?_
    refine X_iadd rfl rfl ?_
    refine X_bipush (v := 26) rfl rfl (by decide) ?_
    refine X_irem (v := g_rem (l5 + l7) 26) rfl rfl rfl (by decide) ?_
    refine X_put rfl rfl rfl rfl rfl (fun h112 => ?_)
    refine X_goto rfl rfl ?_
    exact X_sub (g_sub_n (g_sub_s (g_sub_n (g_sub_n (g_sub_n (g_sub_n (g_sub_n (g_sub_n (g_sub_n (g_sub_n g_sub_0)))))))))) (b_X6_makeStep_b240  _ _)
  · refine X_aload_n rfl rfl rfl ?_
    refine X_getI rfl rfl (fun v119 => ?_)
    refine X_iload rfl rfl rfl ?_
    refine X_bicmp_gt rfl rfl (fun _ => ?_) (fun _ => ?_)
    · refine X_aload_n rfl rfl rfl ?_
      refine X_aload_n rfl rfl rfl ?_
      refine X_iload rfl rfl rfl ?_
      refine X_callV_IR (M' := M_X3_firstPlaceOf) (nA := 1) (As := [.int l5]) (st := [.ref l2]) (b := l2) (ci := 3) rfl rfl (by decide +kernel) rfl rfl rfl rfl rfl rfl rfl rfl (fun _ e => ct_X3_firstPlaceOf e) (fun v131 => ?_)
      refine X_aload_n rfl rfl rfl ?_
      refine X_getI rfl rfl (fun v135 => ?_)
      refine X_iadd rfl rfl ?_
      refine X_iconst (v := 1) rfl rfl (by decide) ?_
      refine X_isub rfl rfl ?_
      refine X_callV_IR (M' := M_X3_letterAt) (nA := 1) (As := [.int ((v131 + v135) - 1)]) (st := []) (b := l2) (ci := 3) rfl rfl (by decide +kernel) rfl rfl rfl rfl rfl rfl rfl rfl (fun _ e => ct_X3_letterAt e) (fun v141 => ?_)
      refine X_istore rfl rfl rfl rfl ?_
      refine X_aload_n rfl rfl rfl ?_
      refine X_aload_n rfl rfl rfl ?_
      refine X_getI rfl rfl (fun v148 => ?_)
      refine X_callV_AR (M' := M_X6_keepersOf) (nA := 1) (As := [.int v148]) (st := []) (b := l0) (ci := 6) rfl rfl (by decide +kernel) rfl rfl rfl rfl rfl rfl rfl rfl (fun _ e => ct_X6_keepersOf e) (fun v151 => ?_)
      refine X_aload_n rfl rfl rfl ?_
      refine X_getI rfl rfl (fun v155 => ?_)
      refine X_callV_IR (M' := M_X2_keyAt) (nA := 1) (As := [.int v155]) (st := []) (b := v151) (ci := 2) rfl rfl (by decide +kernel) rfl rfl rfl rfl rfl rfl rfl rfl (fun _ e => ct_X2_keyAt e) (fun v158 => ?_)
      refine X_aload_n rfl rfl rfl ?_
      refine X_iconst (v := 1) rfl rfl (by decide) ?_
      refine X_aload_n rfl rfl rfl ?_
      refine X_getI rfl rfl (fun v164 => ?_)
      refine X_isub rfl rfl ?_
      refine X_callV_AR (M' := M_X6_keepersOf) (nA := 1) (As := [.int (1 - v164)]) (st := [.int v158]) (b := l0) (ci := 6) rfl rfl (by decide +kernel) rfl rfl rfl rfl rfl rfl rfl rfl (fun _ e => ct_X6_keepersOf e) (fun v168 => ?_)
      refine X_aload_n rfl rfl rfl ?_
      refine X_getI rfl rfl (fun v172 => ?_)
      refine X_callV_IR (M' := M_X2_keyAt) (nA := 1) (As := [.int v172]) (st := [.int v158]) (b := v168) (ci := 2) rfl rfl (by decide +kernel) rfl rfl rfl rfl rfl rfl rfl rfl (fun _ e => ct_X2_keyAt e) (fun v175 => ?_)
      refine X_isub rfl rfl ?_
      refine X_istore rfl rfl rfl rfl ?_
      refine X_aload_n rfl rfl rfl ?_
      refine X_iload rfl rfl rfl ?_
      refine X_iload rfl rfl rfl ?_
      refine X_iadd rfl rfl ?_
      refine X_iload rfl rfl rfl ?_
      refine X_iadd rfl rfl ?_
      refine X_bipush (v := 26) rfl rfl (by decide) ?_
      refine X_callS_IR (M' := M_J9_floorMod_7cf53) (nA := 2) (As := [.int ((v141 + (v158 - v175)) + l7), .int 26]) (st := [.ref l1]) rfl rfl (by decide +kernel) rfl rfl rfl rfl rfl rfl rfl (fun _ e => ct_J9_floorMod_7cf53 e) (fun v192 => ?_)
      refine X_callV_UW (M' := M_X0_hear) (nA := 1) (As := [.int v192]) (st := []) (b := l1) (ci := 0) rfl rfl (by decide +kernel) rfl rfl rfl rfl rfl rfl rfl rfl (fun _ e => ct_X0_hear e) (fun h195 => ?_)
      refine X_goto rfl rfl ?_
      exact X_sub (g_sub_n (g_sub_s (g_sub_n (g_sub_n (g_sub_n (g_sub_n (g_sub_n (g_sub_n (g_sub_n (g_sub_n g_sub_0)))))))))) (b_X6_makeStep_b240  _ _)
    · refine X_aload_n rfl rfl rfl ?_
      refine X_iload rfl rfl rfl ?_
      refine X_aload_n rfl rfl rfl ?_
      refine X_iload rfl rfl rfl ?_
      refine X_callV_IR (M' := M_X3_checkOf) (nA := 1) (As := [.int l5]) (st := [.int l6, .ref l1]) (b := l2) (ci := 3) rfl rfl (by decide +kernel) rfl rfl rfl rfl rfl rfl rfl rfl (fun _ e => ct_X3_checkOf e) (fun v207 => ?_)
      refine X_iload rfl rfl rfl ?_
      refine X_iadd rfl rfl ?_
      refine X_bipush (v := 26) rfl rfl (by decide) ?_
      refine X_irem (v := g_rem (v207 + l7) 26) rfl rfl rfl (by decide) ?_
      refine X_callV_UW (M' := M_X0_judge) (nA := 2) (As := [.int l6, .int (g_rem (v207 + l7) 26)]) (st := []) (b := l1) (ci := 0) rfl rfl (by decide +kernel) rfl rfl rfl rfl rfl rfl rfl rfl (fun _ e => ct_X0_judge e) (fun h216 => ?_)
      refine X_aload_n rfl rfl rfl ?_
      refine X_getI rfl rfl (fun v220 => ?_)
      refine X_bif_eq rfl rfl (fun _ => ?_) (fun _ => ?_)
      · exact X_sub (g_sub_n (g_sub_s (g_sub_n (g_sub_n (g_sub_n (g_sub_n (g_sub_n (g_sub_n (g_sub_n (g_sub_n g_sub_0)))))))))) (b_X6_makeStep_b240  _ _)
      · refine X_aload_n rfl rfl rfl ?_
        refine X_aload_n rfl rfl rfl ?_
        refine X_getI rfl rfl (fun v228 => ?_)
        refine X_aload_n rfl rfl rfl ?_
        refine X_getA rfl rfl (fun v232 => ?_)
        refine X_iload rfl rfl rfl ?_
        refine X_callV_UW (M' := M_X3_writeDown) (nA := 3) (As := [.int v228, .ref v232, .int l6]) (st := []) (b := l2) (ci := 3) rfl rfl (by decide +kernel) rfl rfl rfl rfl rfl rfl rfl rfl (fun _ e => ct_X3_writeDown e) (fun h237 => ?_)
        exact X_sub (g_sub_n (g_sub_s (g_sub_n (g_sub_n (g_sub_n (g_sub_n (g_sub_n (g_sub_n (g_sub_n (g_sub_n g_sub_0)))))))))) (b_X6_makeStep_b240  _ _)
set_option maxRecDepth 100000 in
theorem b_X6_makeStep_b24 {l : Launch} {G : gG} (h : gH) (l0 : Nat) (l1 : Nat) (l2 : Nat) (l3 : Int32) (l4 : Int32) (l5 : Int32) (l6 : Int32) (s0 : Int32) : GX l G M_X6_makeStep (g_phi G g_wU (m_R M_X6_makeStep).cells (m_R M_X6_makeStep).slots) 0 0 24 [some (.ref l0), some (.ref l1), some (.ref l2), some (.int l3), some (.int l4), some (.int l5), some (.int l6), none, none, none] [.int s0] h (f_X6_makeStep_b24 h l0 l1 l2 l3 l4 l5 l6 s0) := by
  unfold f_X6_makeStep_b24
  refine X_istore rfl rfl rfl rfl ?_
  refine X_aload_n rfl rfl rfl ?_
  refine X_getI rfl rfl (fun v27 => ?_)
  refine X_iload rfl rfl rfl ?_
  refine X_iconst (v := 1) rfl rfl (by decide) ?_
  refine X_iadd rfl rfl ?_
  refine X_bicmp_le rfl rfl (fun _ => ?_) (fun _ => ?_)
  · refine X_iload_n rfl rfl rfl ?_
    refine X_bif_ne rfl rfl (fun _ => ?_) (fun _ => ?_)
    · refine X_aload_n rfl rfl rfl ?_
      refine X_getI rfl rfl (fun v42 => ?_)
      refine X_iload rfl rfl rfl ?_
      refine X_bicmp_eq rfl rfl (fun _ => ?_) (fun _ => ?_)
      · exact X_sub (g_sub_s (g_sub_s (g_sub_s (g_sub_n (g_sub_n (g_sub_s (g_sub_n (g_sub_n (g_sub_n (g_sub_n g_sub_0)))))))))) (b_X6_makeStep_b54  _ _ _ _ _)
      · refine X_iconst (v := 1) rfl rfl (by decide) ?_
        refine X_goto rfl rfl ?_
        exact X_sub (g_sub_s (g_sub_s (g_sub_s (g_sub_n (g_sub_n (g_sub_s (g_sub_n (g_sub_n (g_sub_n (g_sub_n g_sub_0)))))))))) (b_X6_makeStep_b55  _ _ _ _ _ _)
    · exact X_sub (g_sub_s (g_sub_s (g_sub_s (g_sub_n (g_sub_n (g_sub_s (g_sub_n (g_sub_n (g_sub_n (g_sub_n g_sub_0)))))))))) (b_X6_makeStep_b54  _ _ _ _ _)
  · refine X_iload_n rfl rfl rfl ?_
    refine X_bif_eq rfl rfl (fun _ => ?_) (fun _ => ?_)
    · exact X_sub (g_sub_s (g_sub_s (g_sub_s (g_sub_n (g_sub_n (g_sub_s (g_sub_s (g_sub_s (g_sub_n (g_sub_n g_sub_0)))))))))) (b_X6_makeStep_b96  _ _ _ _ _ _ _)
    · refine X_aload_n rfl rfl rfl ?_
      refine X_iconst (v := 1) rfl rfl (by decide) ?_
      refine X_put rfl rfl rfl rfl rfl (fun h93 => ?_)
      exact X_sub (g_sub_s (g_sub_s (g_sub_s (g_sub_n (g_sub_n (g_sub_s (g_sub_s (g_sub_s (g_sub_n (g_sub_n g_sub_0)))))))))) (b_X6_makeStep_b96  _ _ _ _ _ _ _)
set_option maxRecDepth 100000 in
theorem ct_X6_makeStep {l : Launch} {G : gG} {h : gH} {a0 : Nat} {p1 : Nat} {p2 : Nat} {p3 : Int32} {p4 : Int32} {h1 : gH} (e : f_X6_makeStep h a0 p1 p2 p3 p4 = some h1) : Ct l G M_X6_makeStep [.ref a0, .ref p1, .ref p2, .int p3, .int p4] h none h1 := by
  refine Ct_of (L := [some (.ref a0), some (.ref p1), some (.ref p2), some (.int p3), some (.int p4), none, none, none, none, none]) ok_X6_makeStep (by decide +kernel) rfl rfl rfl (ρ := g_wU) (F := f_X6_makeStep h a0 p1 p2 p3 p4) ?_ e rfl
  unfold f_X6_makeStep
  refine X_aload_n rfl rfl rfl ?_
  refine X_getI rfl rfl (fun v1 => ?_)
  refine X_istore rfl rfl rfl rfl ?_
  refine X_aload_n rfl rfl rfl ?_
  refine X_iload rfl rfl rfl ?_
  refine X_callV_IR (M' := M_X3_lettersIn) (nA := 1) (As := [.int v1]) (st := []) (b := p2) (ci := 3) rfl rfl (by decide +kernel) rfl rfl rfl rfl rfl rfl rfl rfl (fun _ e => ct_X3_lettersIn e) (fun v9 => ?_)
  refine X_istore rfl rfl rfl rfl ?_
  refine X_iload rfl rfl rfl ?_
  refine X_bif_eq rfl rfl (fun _ => ?_) (fun _ => ?_)
  · refine X_iconst (v := 0) rfl rfl (by decide) ?_
    exact X_sub (g_sub_s (g_sub_s (g_sub_s (g_sub_s (g_sub_s (g_sub_s (g_sub_s (g_sub_n (g_sub_n (g_sub_n g_sub_0)))))))))) (b_X6_makeStep_b24  _ _ _ _ _ _ _ _ _)
  · refine X_iconst (v := 1) rfl rfl (by decide) ?_
    refine X_goto rfl rfl ?_
    exact X_sub (g_sub_s (g_sub_s (g_sub_s (g_sub_s (g_sub_s (g_sub_s (g_sub_s (g_sub_n (g_sub_n (g_sub_n g_sub_0)))))))))) (b_X6_makeStep_b24  _ _ _ _ _ _ _ _ _)
def f_X6_serve_b80 (h : gH) (l0 : Nat) (l1 : Nat) (l3 : Nat) (l4 : Int32) (s0 : Int32) : Option gH :=
  bif g_is h l0 6 then
  (f_X6_countSymbol h l0 l4 s0).bind fun h87 =>
  bif g_is h87 l0 6 then
  (f_X6_makeStep h87 l0 l1 l3 l4 s0).bind fun h97 =>
  (g_gI h97 l3 3 8).bind fun v101 =>
  (if v101 = 0 then
    (g_gI h97 l0 6 0).bind fun v110 =>
    bif g_is h97 l3 3 then
    (f_X3_end h97 l3 2 v110).bind fun h113 =>
    (g_put h113 l0 6 2 (.int (-1))).bind fun h118 =>
    some h118
    else none
  else
    some h97)
  else none
  else none
def f_X6_serve_b65 (h : gH) (l0 : Nat) (l1 : Nat) (l2 : Int32) (l3 : Nat) (s0 : Int32) : Option gH :=
  (g_gI h l1 0 0).bind fun v69 =>
  (if l2 = v69 then
    f_X6_serve_b80 h l0 l1 l3 s0 1
  else
    f_X6_serve_b80 h l0 l1 l3 s0 0)
def f_X6_serve_b44 (h : gH) (l0 : Nat) (l1 : Nat) (l2 : Int32) (l3 : Nat) : Option gH :=
  bif g_is h l1 0 then
  (f_X0_isIdle h l1).bind fun v45 =>
  (if v45 = 0 then
    (g_gI h l1 0 0).bind fun v54 =>
    (if v54 < l2 then
      f_X6_serve_b65 h l0 l1 l2 l3 1
    else
      f_X6_serve_b65 h l0 l1 l2 l3 0)
  else
    some h)
  else none
def f_X6_serve (h : gH) (a0 : Nat) (p1 : Nat) (p2 : Int32) : Option gH :=
  (g_gI h a0 6 2).bind fun v1 =>
  (if v1 = (-1) then
    some h
  else
    (g_gI h a0 6 0).bind fun v10 =>
    bif g_is h p1 0 then
    (f_X0_isOpenAt h p1 v10).bind fun v13 =>
    (if v13 = 0 then
      some h
    else
      (g_gI h a0 6 2).bind fun v22 =>
      bif g_is h a0 6 then
      (f_X6_messageNumbered h a0 v22).bind fun v25 =>
      bif g_is h p1 0 then
      (f_X0_isIdle h p1).bind fun v30 =>
      (if v30 = 0 then
        f_X6_serve_b44 h a0 p1 p2 v25
      else
        bif g_is h v25 3 then
        (f_X3_takeOpenFrame h v25).bind fun y38 =>
        bif g_is y38.2 p1 0 then
        (f_X0_take y38.2 p1 y38.1).bind fun h41 =>
        f_X6_serve_b44 h41 a0 p1 p2 v25
        else none
        else none)
      else none
      else none)
    else none)
set_option maxRecDepth 100000 in
theorem b_X6_serve_b80 {l : Launch} {G : gG} (h : gH) (l0 : Nat) (l1 : Nat) (l3 : Nat) (l4 : Int32) (s0 : Int32) : GX l G M_X6_serve (g_phi G g_wU (m_R M_X6_serve).cells (m_R M_X6_serve).slots) 0 0 80 [some (.ref l0), some (.ref l1), none, some (.ref l3), some (.int l4), none] [.int s0] h (f_X6_serve_b80 h l0 l1 l3 l4 s0) := by
  unfold f_X6_serve_b80
  refine X_istore rfl rfl rfl rfl ?_
  refine X_aload_n rfl rfl rfl ?_
  refine X_iload rfl rfl rfl ?_
  refine X_iload rfl rfl rfl ?_
  refine X_callV_UW (M' := M_X6_countSymbol) (nA := 2) (As := [.int l4, .int s0]) (st := []) (b := l0) (ci := 6) rfl rfl (by decide +kernel) rfl rfl rfl rfl rfl rfl rfl rfl (fun _ e => ct_X6_countSymbol e) (fun h87 => ?_)
  refine X_aload_n rfl rfl rfl ?_
  refine X_aload_n rfl rfl rfl ?_
  refine X_aload_n rfl rfl rfl ?_
  refine X_iload rfl rfl rfl ?_
  refine X_iload rfl rfl rfl ?_
  refine X_callV_UW (M' := M_X6_makeStep) (nA := 4) (As := [.ref l1, .ref l3, .int l4, .int s0]) (st := []) (b := l0) (ci := 6) rfl rfl (by decide +kernel) rfl rfl rfl rfl rfl rfl rfl rfl (fun _ e => ct_X6_makeStep e) (fun h97 => ?_)
  refine X_aload_n rfl rfl rfl ?_
  refine X_getI rfl rfl (fun v101 => ?_)
  refine X_bif_ne rfl rfl (fun _ => ?_) (fun _ => ?_)
  · refine X_aload_n rfl rfl rfl ?_
    refine X_iconst (v := 2) rfl rfl (by decide) ?_
    refine X_aload_n rfl rfl rfl ?_
    refine X_getI rfl rfl (fun v110 => ?_)
    refine X_callV_UW (M' := M_X3_end) (nA := 2) (As := [.int 2, .int v110]) (st := []) (b := l3) (ci := 3) rfl rfl (by decide +kernel) rfl rfl rfl rfl rfl rfl rfl rfl (fun _ e => ct_X3_end e) (fun h113 => ?_)
    refine X_aload_n rfl rfl rfl ?_
    refine X_iconst (v := -1) rfl rfl (by decide) ?_
    refine X_put rfl rfl rfl rfl rfl (fun h118 => ?_)
    exact X_vret rfl rfl rfl rfl rfl rfl
  · exact X_vret rfl rfl rfl rfl rfl rfl
set_option maxRecDepth 100000 in
theorem b_X6_serve_b65 {l : Launch} {G : gG} (h : gH) (l0 : Nat) (l1 : Nat) (l2 : Int32) (l3 : Nat) (s0 : Int32) : GX l G M_X6_serve (g_phi G g_wU (m_R M_X6_serve).cells (m_R M_X6_serve).slots) 0 0 65 [some (.ref l0), some (.ref l1), some (.int l2), some (.ref l3), none, none] [.int s0] h (f_X6_serve_b65 h l0 l1 l2 l3 s0) := by
  unfold f_X6_serve_b65
  refine X_istore rfl rfl rfl rfl ?_
  refine X_iload_n rfl rfl rfl ?_
  refine X_aload_n rfl rfl rfl ?_
  refine X_getI rfl rfl (fun v69 => ?_)
  refine X_bicmp_ne rfl rfl (fun _ => ?_) (fun _ => ?_)
  · refine X_iconst (v := 1) rfl rfl (by decide) ?_
    refine X_goto rfl rfl ?_
    exact X_sub (g_sub_s (g_sub_s (g_sub_n (g_sub_s (g_sub_s (g_sub_n g_sub_0)))))) (b_X6_serve_b80  _ _ _ _ _ _)
  · refine X_iconst (v := 0) rfl rfl (by decide) ?_
    exact X_sub (g_sub_s (g_sub_s (g_sub_n (g_sub_s (g_sub_s (g_sub_n g_sub_0)))))) (b_X6_serve_b80  _ _ _ _ _ _)
set_option maxRecDepth 100000 in
theorem b_X6_serve_b44 {l : Launch} {G : gG} (h : gH) (l0 : Nat) (l1 : Nat) (l2 : Int32) (l3 : Nat) : GX l G M_X6_serve (g_phi G g_wU (m_R M_X6_serve).cells (m_R M_X6_serve).slots) 0 0 44 [some (.ref l0), some (.ref l1), some (.int l2), some (.ref l3), none, none] [] h (f_X6_serve_b44 h l0 l1 l2 l3) := by
  unfold f_X6_serve_b44
  refine X_aload_n rfl rfl rfl ?_
  refine X_callV_IR (M' := M_X0_isIdle) (nA := 0) (As := []) (st := []) (b := l1) (ci := 0) rfl rfl (by decide +kernel) rfl rfl rfl rfl rfl rfl rfl rfl (fun _ e => ct_X0_isIdle e) (fun v45 => ?_)
  refine X_bif_eq rfl rfl (fun _ => ?_) (fun _ => ?_)
  · refine X_iload_n rfl rfl rfl ?_
    refine X_aload_n rfl rfl rfl ?_
    refine X_getI rfl rfl (fun v54 => ?_)
    refine X_bicmp_le rfl rfl (fun _ => ?_) (fun _ => ?_)
    · refine X_iconst (v := 1) rfl rfl (by decide) ?_
      refine X_goto rfl rfl ?_
      exact X_sub (g_sub_s (g_sub_s (g_sub_s (g_sub_s (g_sub_n (g_sub_n g_sub_0)))))) (b_X6_serve_b65  _ _ _ _ _ _)
    · refine X_iconst (v := 0) rfl rfl (by decide) ?_
      exact X_sub (g_sub_s (g_sub_s (g_sub_s (g_sub_s (g_sub_n (g_sub_n g_sub_0)))))) (b_X6_serve_b65  _ _ _ _ _ _)
  · exact X_vret rfl rfl rfl rfl rfl rfl
set_option maxRecDepth 100000 in
theorem ct_X6_serve {l : Launch} {G : gG} {h : gH} {a0 : Nat} {p1 : Nat} {p2 : Int32} {h1 : gH} (e : f_X6_serve h a0 p1 p2 = some h1) : Ct l G M_X6_serve [.ref a0, .ref p1, .int p2] h none h1 := by
  refine Ct_of (L := [some (.ref a0), some (.ref p1), some (.int p2), none, none, none]) ok_X6_serve (by decide +kernel) rfl rfl rfl (ρ := g_wU) (F := f_X6_serve h a0 p1 p2) ?_ e rfl
  unfold f_X6_serve
  refine X_aload_n rfl rfl rfl ?_
  refine X_getI rfl rfl (fun v1 => ?_)
  refine X_iconst (v := -1) rfl rfl (by decide) ?_
  refine X_bicmp_eq rfl rfl (fun _ => ?_) (fun _ => ?_)
  · exact X_vret rfl rfl rfl rfl rfl rfl
  · refine X_aload_n rfl rfl rfl ?_
    refine X_aload_n rfl rfl rfl ?_
    refine X_getI rfl rfl (fun v10 => ?_)
    refine X_callV_IR (M' := M_X0_isOpenAt) (nA := 1) (As := [.int v10]) (st := []) (b := p1) (ci := 0) rfl rfl (by decide +kernel) rfl rfl rfl rfl rfl rfl rfl rfl (fun _ e => ct_X0_isOpenAt e) (fun v13 => ?_)
    refine X_bif_ne rfl rfl (fun _ => ?_) (fun _ => ?_)
    · exact X_vret rfl rfl rfl rfl rfl rfl
    · refine X_aload_n rfl rfl rfl ?_
      refine X_aload_n rfl rfl rfl ?_
      refine X_getI rfl rfl (fun v22 => ?_)
      refine X_callV_AR (M' := M_X6_messageNumbered) (nA := 1) (As := [.int v22]) (st := []) (b := a0) (ci := 6) rfl rfl (by decide +kernel) rfl rfl rfl rfl rfl rfl rfl rfl (fun _ e => ct_X6_messageNumbered e) (fun v25 => ?_)
      refine X_astore_n rfl rfl rfl rfl ?_
      refine X_aload_n rfl rfl rfl ?_
      refine X_callV_IR (M' := M_X0_isIdle) (nA := 0) (As := []) (st := []) (b := p1) (ci := 0) rfl rfl (by decide +kernel) rfl rfl rfl rfl rfl rfl rfl rfl (fun _ e => ct_X0_isIdle e) (fun v30 => ?_)
      refine X_bif_eq rfl rfl (fun _ => ?_) (fun _ => ?_)
      · exact X_sub (g_sub_s (g_sub_s (g_sub_s (g_sub_s (g_sub_n (g_sub_n g_sub_0)))))) (b_X6_serve_b44  _ _ _ _ _)
      · refine X_aload_n rfl rfl rfl ?_
        refine X_aload_n rfl rfl rfl ?_
        refine X_callV_IW (M' := M_X3_takeOpenFrame) (nA := 0) (As := []) (st := [.ref p1]) (b := v25) (ci := 3) rfl rfl (by decide +kernel) rfl rfl rfl rfl rfl rfl rfl rfl (fun _ _ e => ct_X3_takeOpenFrame e) (fun y38 => ?_)
        refine X_callV_UW (M' := M_X0_take) (nA := 1) (As := [.int y38.1]) (st := []) (b := p1) (ci := 0) rfl rfl (by decide +kernel) rfl rfl rfl rfl rfl rfl rfl rfl (fun _ e => ct_X0_take e) (fun h41 => ?_)
        exact X_sub (g_sub_s (g_sub_s (g_sub_s (g_sub_s (g_sub_n (g_sub_n g_sub_0)))))) (b_X6_serve_b44  _ _ _ _ _)
def f_X6_letTickPass_b52 (h : gH) (l0 : Nat) (l1 : Int32) : Option (Int32 × gH) :=
  (g_gI h l0 6 0).bind fun v54 =>
  (g_put h l0 6 0 (.int (v54 + 1))).bind fun h59 =>
  (g_gI h59 l0 6 2).bind fun v63 =>
  (if v63 = (-1) then
    some (l1, h59)
  else
    some (-1, h59))
def f_X6_letTickPass_b12 (h : gH) (l0 : Nat) : Option (Int32 × gH) :=
  (g_gI h l0 6 2).bind fun v13 =>
  (if v13 = (-1) then
    f_X6_letTickPass_b52 h l0 v13
  else
    (g_gA h l0 6 15).bind fun v23 =>
    (g_gI h l0 6 0).bind fun v27 =>
    bif g_is h v23 4 then
    (f_X4_levelAt h v23 v27).bind fun v30 =>
    (g_gA h l0 6 11).bind fun v36 =>
    bif g_is h l0 6 then
    (f_X6_serve h l0 v36 v30).bind fun h40 =>
    (g_gA h40 l0 6 12).bind fun v45 =>
    bif g_is h40 l0 6 then
    (f_X6_serve h40 l0 v45 v30).bind fun h49 =>
    f_X6_letTickPass_b52 h49 l0 v13
    else none
    else none
    else none)
def f_X6_letTickPass (h : gH) (a0 : Nat) : Option (Int32 × gH) :=
  (g_gI h a0 6 2).bind fun v1 =>
  (if v1 = (-1) then
    bif g_is h a0 6 then
    (f_X6_startFirstWaiting h a0).bind fun h9 =>
    f_X6_letTickPass_b12 h9 a0
    else none
  else
    f_X6_letTickPass_b12 h a0)
set_option maxRecDepth 100000 in
theorem b_X6_letTickPass_b52 {l : Launch} {G : gG} (h : gH) (l0 : Nat) (l1 : Int32) : GX l G M_X6_letTickPass (g_phi G g_wI (m_R M_X6_letTickPass).cells (m_R M_X6_letTickPass).slots) 0 0 52 [some (.ref l0), some (.int l1), none] [] h (f_X6_letTickPass_b52 h l0 l1) := by
  unfold f_X6_letTickPass_b52
  refine X_aload_n rfl rfl rfl ?_
  refine X_dup rfl rfl rfl ?_
  refine X_getI rfl rfl (fun v54 => ?_)
  refine X_iconst (v := 1) rfl rfl (by decide) ?_
  refine X_iadd rfl rfl ?_
  refine X_put rfl rfl rfl rfl rfl (fun h59 => ?_)
  refine X_aload_n rfl rfl rfl ?_
  refine X_getI rfl rfl (fun v63 => ?_)
  refine X_iconst (v := -1) rfl rfl (by decide) ?_
  refine X_bicmp_ne rfl rfl (fun _ => ?_) (fun _ => ?_)
  · refine X_iload_n rfl rfl rfl ?_
    refine X_goto rfl rfl ?_
    exact X_iret rfl rfl rfl rfl rfl rfl rfl
  · refine X_iconst (v := -1) rfl rfl (by decide) ?_
    exact X_iret rfl rfl rfl rfl rfl rfl rfl
set_option maxRecDepth 100000 in
theorem b_X6_letTickPass_b12 {l : Launch} {G : gG} (h : gH) (l0 : Nat) : GX l G M_X6_letTickPass (g_phi G g_wI (m_R M_X6_letTickPass).cells (m_R M_X6_letTickPass).slots) 0 0 12 [some (.ref l0), none, none] [] h (f_X6_letTickPass_b12 h l0) := by
  unfold f_X6_letTickPass_b12
  refine X_aload_n rfl rfl rfl ?_
  refine X_getI rfl rfl (fun v13 => ?_)
  refine X_istore_n rfl rfl rfl rfl ?_
  refine X_iload_n rfl rfl rfl ?_
  refine X_iconst (v := -1) rfl rfl (by decide) ?_
  refine X_bicmp_eq rfl rfl (fun _ => ?_) (fun _ => ?_)
  · exact X_sub (g_sub_s (g_sub_s (g_sub_n g_sub_0))) (b_X6_letTickPass_b52  _ _ _)
  · refine X_aload_n rfl rfl rfl ?_
    refine X_getA rfl rfl (fun v23 => ?_)
    refine X_aload_n rfl rfl rfl ?_
    refine X_getI rfl rfl (fun v27 => ?_)
    refine X_callV_IR (M' := M_X4_levelAt) (nA := 1) (As := [.int v27]) (st := []) (b := v23) (ci := 4) rfl rfl (by decide +kernel) rfl rfl rfl rfl rfl rfl rfl rfl (fun _ e => ct_X4_levelAt e) (fun v30 => ?_)
    refine X_istore_n rfl rfl rfl rfl ?_
    refine X_aload_n rfl rfl rfl ?_
    refine X_aload_n rfl rfl rfl ?_
    refine X_getA rfl rfl (fun v36 => ?_)
    refine X_iload_n rfl rfl rfl ?_
    refine X_callV_UW (M' := M_X6_serve) (nA := 2) (As := [.ref v36, .int v30]) (st := []) (b := l0) (ci := 6) rfl rfl (by decide +kernel) rfl rfl rfl rfl rfl rfl rfl rfl (fun _ e => ct_X6_serve e) (fun h40 => ?_)
    refine X_aload_n rfl rfl rfl ?_
    refine X_aload_n rfl rfl rfl ?_
    refine X_getA rfl rfl (fun v45 => ?_)
    refine X_iload_n rfl rfl rfl ?_
    refine X_callV_UW (M' := M_X6_serve) (nA := 2) (As := [.ref v45, .int v30]) (st := []) (b := l0) (ci := 6) rfl rfl (by decide +kernel) rfl rfl rfl rfl rfl rfl rfl rfl (fun _ e => ct_X6_serve e) (fun h49 => ?_)
    exact X_sub (g_sub_s (g_sub_s (g_sub_n g_sub_0))) (b_X6_letTickPass_b52  _ _ _)
set_option maxRecDepth 100000 in
theorem ct_X6_letTickPass {l : Launch} {G : gG} {h : gH} {a0 : Nat} {r : Int32} {h1 : gH} (e : f_X6_letTickPass h a0 = some (r, h1)) : Ct l G M_X6_letTickPass [.ref a0] h (some (.int r)) h1 := by
  refine Ct_of (L := [some (.ref a0), none, none]) ok_X6_letTickPass (by decide +kernel) rfl rfl rfl (ρ := g_wI) (F := f_X6_letTickPass h a0) ?_ e rfl
  unfold f_X6_letTickPass
  refine X_aload_n rfl rfl rfl ?_
  refine X_getI rfl rfl (fun v1 => ?_)
  refine X_iconst (v := -1) rfl rfl (by decide) ?_
  refine X_bicmp_ne rfl rfl (fun _ => ?_) (fun _ => ?_)
  · refine X_aload_n rfl rfl rfl ?_
    refine X_callV_UW (M' := M_X6_startFirstWaiting) (nA := 0) (As := []) (st := []) (b := a0) (ci := 6) rfl rfl (by decide +kernel) rfl rfl rfl rfl rfl rfl rfl rfl (fun _ e => ct_X6_startFirstWaiting e) (fun h9 => ?_)
    exact X_sub (g_sub_s (g_sub_n (g_sub_n g_sub_0))) (b_X6_letTickPass_b12  _ _)
  · exact X_sub (g_sub_s (g_sub_n (g_sub_n g_sub_0))) (b_X6_letTickPass_b12  _ _)
def f_X6_letForetoldTicksPass_b49 (h : gH) (l0 : Nat) : Option (Int32 × gH) :=
  bif g_is h l0 6 then
  (f_X6_isBusy h l0).bind fun v50 =>
  (if v50 = 0 then
    some (1, h)
  else
    some (0, h))
  else none
def f_X6_letForetoldTicksPass_b43 (K2 : gH → Nat → Int32 → Int32 → Option (Int32 × gH)) (h : gH) (l0 : Nat) (l1 : Int32) (l2 : Int32) : Option (Int32 × gH) :=
  K2 h l0 l1 (l2 + 1)
def f_X6_letForetoldTicksPass_b2 : Nat → gH → Nat → Int32 → Int32 → Option (Int32 × gH)
  | 0, _, _, _, _ => none
  | n + 1, h, l0, l1, l2 =>
    (if l2 < 1000 then
      bif g_is h l0 6 then
      (f_X6_isBusy h l0).bind fun v10 =>
      (if v10 = 0 then
        f_X6_letForetoldTicksPass_b49 h l0
      else
        bif g_is h l0 6 then
        (f_X6_letTickPass h l0).bind fun y17 =>
        (if l1 = 0 then
          f_X6_letForetoldTicksPass_b43 (f_X6_letForetoldTicksPass_b2  n) y17.2 l0 l1 l2
        else
          (if y17.1 = (-1) then
            f_X6_letForetoldTicksPass_b43 (f_X6_letForetoldTicksPass_b2  n) y17.2 l0 l1 l2
          else
            bif g_is y17.2 l0 6 then
            (f_X6_messageNumbered y17.2 l0 y17.1).bind fun v32 =>
            bif g_is y17.2 v32 3 then
            (f_X3_agrees y17.2 v32).bind fun v35 =>
            (if v35 = 0 then
              some (0, y17.2)
            else
              f_X6_letForetoldTicksPass_b43 (f_X6_letForetoldTicksPass_b2  n) y17.2 l0 l1 l2)
            else none
            else none))
        else none)
      else none
    else
      f_X6_letForetoldTicksPass_b49 h l0)
def f_X6_letForetoldTicksPass (h : gH) (a0 : Nat) (p1 : Int32) : Option (Int32 × gH) :=
  f_X6_letForetoldTicksPass_b2 g_N h a0 p1 0
set_option maxRecDepth 100000 in
theorem b_X6_letForetoldTicksPass_b49 {l : Launch} {G : gG} (h : gH) (l0 : Nat) : GX l G M_X6_letForetoldTicksPass (g_phi G g_wI (m_R M_X6_letForetoldTicksPass).cells (m_R M_X6_letForetoldTicksPass).slots) 0 0 49 [some (.ref l0), none, none, none] [] h (f_X6_letForetoldTicksPass_b49 h l0) := by
  unfold f_X6_letForetoldTicksPass_b49
  refine X_aload_n rfl rfl rfl ?_
  refine X_callV_IR (M' := M_X6_isBusy) (nA := 0) (As := []) (st := []) (b := l0) (ci := 6) rfl rfl (by decide +kernel) rfl rfl rfl rfl rfl rfl rfl rfl (fun _ e => ct_X6_isBusy e) (fun v50 => ?_)
  refine X_bif_ne rfl rfl (fun _ => ?_) (fun _ => ?_)
  · refine X_iconst (v := 1) rfl rfl (by decide) ?_
    refine X_goto rfl rfl ?_
    exact X_iret rfl rfl rfl rfl rfl rfl rfl
  · refine X_iconst (v := 0) rfl rfl (by decide) ?_
    exact X_iret rfl rfl rfl rfl rfl rfl rfl
set_option maxRecDepth 100000 in
theorem b_X6_letForetoldTicksPass_b43 {l : Launch} {G : gG} {K2 : gH → Nat → Int32 → Int32 → Option (Int32 × gH)} (hK2 : ∀ (h : gH) (l0 : Nat) (l1 : Int32) (l2 : Int32), GX l G M_X6_letForetoldTicksPass (g_phi G g_wI (m_R M_X6_letForetoldTicksPass).cells (m_R M_X6_letForetoldTicksPass).slots) 0 0 2 [some (.ref l0), some (.int l1), some (.int l2), none] [] h (K2 h l0 l1 l2)) (h : gH) (l0 : Nat) (l1 : Int32) (l2 : Int32) : GX l G M_X6_letForetoldTicksPass (g_phi G g_wI (m_R M_X6_letForetoldTicksPass).cells (m_R M_X6_letForetoldTicksPass).slots) 0 0 43 [some (.ref l0), some (.int l1), some (.int l2), none] [] h (f_X6_letForetoldTicksPass_b43 K2 h l0 l1 l2) := by
  unfold f_X6_letForetoldTicksPass_b43
  refine X_iinc (v := l2 + 1) rfl rfl rfl (congrArg (fun z => l2 + z) (by decide : Int32.ofInt 1 = 1)) rfl ?_
  refine X_goto rfl rfl ?_
  exact X_sub (g_sub_s (g_sub_s (g_sub_s (g_sub_n g_sub_0)))) (hK2 _ _ _ _)
set_option maxRecDepth 100000 in
theorem b_X6_letForetoldTicksPass_b2 {l : Launch} {G : gG} : ∀ (n : Nat) (h : gH) (l0 : Nat) (l1 : Int32) (l2 : Int32), GX l G M_X6_letForetoldTicksPass (g_phi G g_wI (m_R M_X6_letForetoldTicksPass).cells (m_R M_X6_letForetoldTicksPass).slots) 0 0 2 [some (.ref l0), some (.int l1), some (.int l2), none] [] h (f_X6_letForetoldTicksPass_b2 n h l0 l1 l2) := by
  intro n
  induction n with
  | zero => intros; exact X_none
  | succ n ih =>
    intro h l0 l1 l2
    rw [f_X6_letForetoldTicksPass_b2]
    refine X_iload_n rfl rfl rfl ?_
    refine X_sipush (v := 1000) rfl rfl (by decide) ?_
    refine X_bicmp_ge rfl rfl (fun _ => ?_) (fun _ => ?_)
    · refine X_aload_n rfl rfl rfl ?_
      refine X_callV_IR (M' := M_X6_isBusy) (nA := 0) (As := []) (st := []) (b := l0) (ci := 6) rfl rfl (by decide +kernel) rfl rfl rfl rfl rfl rfl rfl rfl (fun _ e => ct_X6_isBusy e) (fun v10 => ?_)
      refine X_bif_eq rfl rfl (fun _ => ?_) (fun _ => ?_)
      · exact X_sub (g_sub_s (g_sub_n (g_sub_n (g_sub_n g_sub_0)))) (b_X6_letForetoldTicksPass_b49  _ _)
      · refine X_aload_n rfl rfl rfl ?_
        refine X_callV_IW (M' := M_X6_letTickPass) (nA := 0) (As := []) (st := []) (b := l0) (ci := 6) rfl rfl (by decide +kernel) rfl rfl rfl rfl rfl rfl rfl rfl (fun _ _ e => ct_X6_letTickPass e) (fun y17 => ?_)
        refine X_istore_n rfl rfl rfl rfl ?_
        refine X_iload_n rfl rfl rfl ?_
        refine X_bif_eq rfl rfl (fun _ => ?_) (fun _ => ?_)
        · exact X_sub (g_sub_s (g_sub_s (g_sub_s (g_sub_n g_sub_0)))) (b_X6_letForetoldTicksPass_b43 ih _ _ _ _)
        · refine X_iload_n rfl rfl rfl ?_
          refine X_iconst (v := -1) rfl rfl (by decide) ?_
          refine X_bicmp_eq rfl rfl (fun _ => ?_) (fun _ => ?_)
          · exact X_sub (g_sub_s (g_sub_s (g_sub_s (g_sub_n g_sub_0)))) (b_X6_letForetoldTicksPass_b43 ih _ _ _ _)
          · refine X_aload_n rfl rfl rfl ?_
            refine X_iload_n rfl rfl rfl ?_
            refine X_callV_AR (M' := M_X6_messageNumbered) (nA := 1) (As := [.int y17.1]) (st := []) (b := l0) (ci := 6) rfl rfl (by decide +kernel) rfl rfl rfl rfl rfl rfl rfl rfl (fun _ e => ct_X6_messageNumbered e) (fun v32 => ?_)
            refine X_callV_IR (M' := M_X3_agrees) (nA := 0) (As := []) (st := []) (b := v32) (ci := 3) rfl rfl (by decide +kernel) rfl rfl rfl rfl rfl rfl rfl rfl (fun _ e => ct_X3_agrees e) (fun v35 => ?_)
            refine X_bif_ne rfl rfl (fun _ => ?_) (fun _ => ?_)
            · refine X_iconst (v := 0) rfl rfl (by decide) ?_
              exact X_iret rfl rfl rfl rfl rfl rfl rfl
            · exact X_sub (g_sub_s (g_sub_s (g_sub_s (g_sub_n g_sub_0)))) (b_X6_letForetoldTicksPass_b43 ih _ _ _ _)
    · exact X_sub (g_sub_s (g_sub_n (g_sub_n (g_sub_n g_sub_0)))) (b_X6_letForetoldTicksPass_b49  _ _)
set_option maxRecDepth 100000 in
theorem ct_X6_letForetoldTicksPass {l : Launch} {G : gG} {h : gH} {a0 : Nat} {p1 : Int32} {r : Int32} {h1 : gH} (e : f_X6_letForetoldTicksPass h a0 p1 = some (r, h1)) : Ct l G M_X6_letForetoldTicksPass [.ref a0, .int p1] h (some (.int r)) h1 := by
  refine Ct_of (L := [some (.ref a0), some (.int p1), none, none]) ok_X6_letForetoldTicksPass (by decide +kernel) rfl rfl rfl (ρ := g_wI) (F := f_X6_letForetoldTicksPass h a0 p1) ?_ e rfl
  unfold f_X6_letForetoldTicksPass
  refine X_iconst (v := 0) rfl rfl (by decide) ?_
  refine X_istore_n rfl rfl rfl rfl ?_
  exact X_sub (g_sub_s (g_sub_s (g_sub_s (g_sub_n g_sub_0)))) (b_X6_letForetoldTicksPass_b2  _ _ _ _ _)
def f_X1_keptAt (h : gH) (a0 : Nat) (p1 : Int32) : Option (Option Nat) :=
  (if 0 ≤ p1 then
    (g_gA h a0 1 0).bind fun v6 =>
    (g_aln h v6).bind fun v9 =>
    (if p1 < v9 then
      (g_gA h a0 1 0).bind fun v14 =>
      (g_qld h v14 5 p1).bind fun v18 =>
      some v18
    else
      some none)
  else
    some none)
set_option maxRecDepth 100000 in
theorem ct_X1_keptAt {l : Launch} {G : gG} {h : gH} {a0 : Nat} {p1 : Int32} {r : Option Nat} (e : f_X1_keptAt h a0 p1 = some r) : Ct l G M_X1_keptAt [.ref a0, .int p1] h (some (va_rf r)) h := by
  refine Ct_of (L := [some (.ref a0), some (.int p1)]) ok_X1_keptAt (by decide +kernel) rfl rfl rfl (ρ := (g_rQ h)) (F := f_X1_keptAt h a0 p1) ?_ e rfl
  unfold f_X1_keptAt
  refine X_iload_n rfl rfl rfl ?_
  refine X_bif_lt rfl rfl (fun _ => ?_) (fun _ => ?_)
  · refine X_iload_n rfl rfl rfl ?_
    refine X_aload_n rfl rfl rfl ?_
    refine X_getA rfl rfl (fun v6 => ?_)
    refine X_aln rfl rfl (fun v9 => ?_)
    refine X_bicmp_ge rfl rfl (fun _ => ?_) (fun _ => ?_)
    · refine X_aload_n rfl rfl rfl ?_
      refine X_getA rfl rfl (fun v14 => ?_)
      refine X_iload_n rfl rfl rfl ?_
      refine X_qld (t := 5) rfl rfl (by simp) (fun v18 => ?_)
      refine X_goto rfl rfl ?_
      exact X_aret (v := v18) rfl rfl rfl rfl rfl rfl
    · refine X_null rfl rfl ?_
      refine X_rfl (st' := va_rf none :: []) rfl ?_
      exact X_aret (v := none) rfl rfl rfl rfl rfl rfl
  · refine X_null rfl rfl ?_
    refine X_rfl (st' := va_rf none :: []) rfl ?_
    exact X_aret (v := none) rfl rfl rfl rfl rfl rfl
def f_X1_keep (h : gH) (a0 : Nat) (p1 : Nat) : Option gH :=
  (g_gI h a0 1 1).bind fun v2 =>
  bif g_is h a0 1 then
  (f_X1_keptAt h a0 v2).bind fun v5 =>
  (Option.elim v5
    (some h)
    (fun a10 =>
      bif g_is h a10 6 then
      (f_X6_copyFrom h a10 p1).bind fun h15 =>
      (g_gI h15 a0 1 1).bind fun v20 =>
      (g_put h15 a0 1 1 (.int (g_rem (v20 + 1) 8))).bind fun h28 =>
      (g_gI h28 a0 1 2).bind fun v33 =>
      (g_put h28 a0 1 2 (.int (g_min (v33 + 1) 8))).bind fun h43 =>
      some h43
      else none))
  else none
set_option maxRecDepth 100000 in
theorem ct_X1_keep {l : Launch} {G : gG} {h : gH} {a0 : Nat} {p1 : Nat} {h1 : gH} (e : f_X1_keep h a0 p1 = some h1) : Ct l G M_X1_keep [.ref a0, .ref p1] h none h1 := by
  refine Ct_of (L := [some (.ref a0), some (.ref p1), none]) ok_X1_keep (by decide +kernel) rfl rfl rfl (ρ := g_wU) (F := f_X1_keep h a0 p1) ?_ e rfl
  unfold f_X1_keep
  refine X_aload_n rfl rfl rfl ?_
  refine X_aload_n rfl rfl rfl ?_
  refine X_getI rfl rfl (fun v2 => ?_)
  refine X_callV_QR (M' := M_X1_keptAt) (nA := 1) (As := [.int v2]) (st := []) (b := a0) (ci := 1) rfl rfl (by decide +kernel) rfl rfl rfl rfl rfl rfl rfl rfl (fun _ e => ct_X1_keptAt e) (fun v5 => ?_)
  refine X_astoreQ_n (x := v5) rfl rfl rfl rfl ?_
  refine X_aloadQ_n (x := v5) rfl rfl rfl ?_
  refine X_bnull rfl rfl (fun _ => ?_) (fun a10 e10 => ?_)
  · exact X_vret rfl rfl rfl rfl rfl rfl
  · subst e10
    refine X_aload_n rfl rfl rfl ?_
    refine X_aload_n rfl rfl rfl ?_
    refine X_callV_UW (M' := M_X6_copyFrom) (nA := 1) (As := [.ref p1]) (st := []) (b := a10) (ci := 6) rfl rfl (by decide +kernel) rfl rfl rfl rfl rfl rfl rfl rfl (fun _ e => ct_X6_copyFrom e) (fun h15 => ?_)
    refine X_aload_n rfl rfl rfl ?_
    refine X_aload_n rfl rfl rfl ?_
    refine X_getI rfl rfl (fun v20 => ?_)
    refine X_iconst (v := 1) rfl rfl (by decide) ?_
    refine X_iadd rfl rfl ?_
    refine X_bipush (v := 8) rfl rfl (by decide) ?_
    refine X_irem (v := g_rem (v20 + 1) 8) rfl rfl rfl (by decide) ?_
    refine X_put rfl rfl rfl rfl rfl (fun h28 => ?_)
    refine X_aload_n rfl rfl rfl ?_
    refine X_aload_n rfl rfl rfl ?_
    refine X_getI rfl rfl (fun v33 => ?_)
    refine X_iconst (v := 1) rfl rfl (by decide) ?_
    refine X_iadd rfl rfl ?_
    refine X_bipush (v := 8) rfl rfl (by decide) ?_
    refine X_mmin rfl rfl (by decide +kernel) (by decide +kernel) (by decide +kernel) (by decide +kernel) rfl rfl rfl rfl ?_
    refine X_put rfl rfl rfl rfl rfl (fun h43 => ?_)
    exact X_vret rfl rfl rfl rfl rfl rfl
def f_X1_restore (h : gH) (a0 : Nat) (p1 : Nat) : Option (Int32 × gH) :=
  (g_gI h a0 1 1).bind fun v1 =>
  bif g_is h a0 1 then
  (f_X1_keptAt h a0 (g_rem ((v1 + 8) - 1) 8)).bind fun v15 =>
  (g_gI h a0 1 2).bind fun v20 =>
  (if v20 = 0 then
    some (0, h)
  else
    (Option.elim v15
      (some (0, h))
      (fun a27 =>
        bif g_is h p1 6 then
        (f_X6_copyFrom h p1 a27).bind fun h34 =>
        (g_put h34 a0 1 1 (.int (g_rem ((v1 + 8) - 1) 8))).bind fun h39 =>
        (g_gI h39 a0 1 2).bind fun v44 =>
        (g_put h39 a0 1 2 (.int (v44 - 1))).bind fun h49 =>
        some (1, h49)
        else none)))
  else none
set_option maxRecDepth 100000 in
theorem ct_X1_restore {l : Launch} {G : gG} {h : gH} {a0 : Nat} {p1 : Nat} {r : Int32} {h1 : gH} (e : f_X1_restore h a0 p1 = some (r, h1)) : Ct l G M_X1_restore [.ref a0, .ref p1] h (some (.int r)) h1 := by
  refine Ct_of (L := [some (.ref a0), some (.ref p1), none, none]) ok_X1_restore (by decide +kernel) rfl rfl rfl (ρ := g_wI) (F := f_X1_restore h a0 p1) ?_ e rfl
  unfold f_X1_restore
  refine X_aload_n rfl rfl rfl ?_
  refine X_getI rfl rfl (fun v1 => ?_)
  refine X_bipush (v := 8) rfl rfl (by decide) ?_
  refine X_iadd rfl rfl ?_
  refine X_iconst (v := 1) rfl rfl (by decide) ?_
  refine X_isub rfl rfl ?_
  refine X_bipush (v := 8) rfl rfl (by decide) ?_
  refine X_irem (v := g_rem ((v1 + 8) - 1) 8) rfl rfl rfl (by decide) ?_
  refine X_istore_n rfl rfl rfl rfl ?_
  refine X_aload_n rfl rfl rfl ?_
  refine X_iload_n rfl rfl rfl ?_
  refine X_callV_QR (M' := M_X1_keptAt) (nA := 1) (As := [.int (g_rem ((v1 + 8) - 1) 8)]) (st := []) (b := a0) (ci := 1) rfl rfl (by decide +kernel) rfl rfl rfl rfl rfl rfl rfl rfl (fun _ e => ct_X1_keptAt e) (fun v15 => ?_)
  refine X_astoreQ_n (x := v15) rfl rfl rfl rfl ?_
  refine X_aload_n rfl rfl rfl ?_
  refine X_getI rfl rfl (fun v20 => ?_)
  refine X_bif_eq rfl rfl (fun _ => ?_) (fun _ => ?_)
  · refine X_iconst (v := 0) rfl rfl (by decide) ?_
    exact X_iret rfl rfl rfl rfl rfl rfl rfl
  · refine X_aloadQ_n (x := v15) rfl rfl rfl ?_
    refine X_bnonnull rfl rfl (fun _ => ?_) (fun a27 e27 => ?_)
    · refine X_iconst (v := 0) rfl rfl (by decide) ?_
      exact X_iret rfl rfl rfl rfl rfl rfl rfl
    · subst e27
      refine X_aload_n rfl rfl rfl ?_
      refine X_aload_n rfl rfl rfl ?_
      refine X_callV_UW (M' := M_X6_copyFrom) (nA := 1) (As := [.ref a27]) (st := []) (b := p1) (ci := 6) rfl rfl (by decide +kernel) rfl rfl rfl rfl rfl rfl rfl rfl (fun _ e => ct_X6_copyFrom e) (fun h34 => ?_)
      refine X_aload_n rfl rfl rfl ?_
      refine X_iload_n rfl rfl rfl ?_
      refine X_put rfl rfl rfl rfl rfl (fun h39 => ?_)
      refine X_aload_n rfl rfl rfl ?_
      refine X_dup rfl rfl rfl ?_
      refine X_getI rfl rfl (fun v44 => ?_)
      refine X_iconst (v := 1) rfl rfl (by decide) ?_
      refine X_isub rfl rfl ?_
      refine X_put rfl rfl rfl rfl rfl (fun h49 => ?_)
      refine X_iconst (v := 1) rfl rfl (by decide) ?_
      exact X_iret rfl rfl rfl rfl rfl rfl rfl
end
section
/-! the methods as tuples (a program of mine wrote these and the next parts) -/
def M_X0_init : gMt := (yX0_init, cX0_init, 1, none, { frames := 1, cells := 1, slots := 8, locals := 20 }, [(0, .aload_n 0, 1, 0, 0), (1, .invokespecial 3, 4, 0, 0), (4, .aload_n 0, 5, 0, 0), (5, .bipush 8, 7, 0, 0), (7, .newarray .int, 9, 0, 0), (9, .putfield 9, 12, 0, 7), (12, .return_, 13, 0, 0)], [])
theorem ok_X0_init : g_ok M_X0_init := by
  show (m_code M_X0_init).all (g_ent M_X0_init) = true
  decide +kernel
def M_X2_init : gMt := (yX2_init, cX2_init, 1, none, { frames := 1, cells := 2, slots := 16, locals := 20 }, [(0, .aload_n 0, 1, 0, 0), (1, .invokespecial 3, 4, 0, 0), (4, .aload_n 0, 5, 0, 0), (5, .iconst 0, 6, 0, 0), (6, .putfield 9, 9, 2, 0), (9, .aload_n 0, 10, 0, 0), (10, .bipush 8, 12, 0, 0), (12, .newarray .int, 14, 0, 0), (14, .putfield 15, 17, 2, 1), (17, .aload_n 0, 18, 0, 0), (18, .bipush 8, 20, 0, 0), (20, .newarray .int, 22, 0, 0), (22, .putfield 19, 25, 2, 2), (25, .return_, 26, 0, 0)], [])
theorem ok_X2_init : g_ok M_X2_init := by
  show (m_code M_X2_init).all (g_ent M_X2_init) = true
  decide +kernel
def M_X4_init : gMt := (yX4_init, cX4_init, 1, none, { frames := 1, cells := 3, slots := 36, locals := 20 }, [(0, .aload_n 0, 1, 0, 0), (1, .invokespecial 3, 4, 0, 0), (4, .aload_n 0, 5, 0, 0), (5, .iconst 0, 6, 0, 0), (6, .putfield 9, 9, 4, 0), (9, .aload_n 0, 10, 0, 0), (10, .bipush 12, 12, 0, 0), (12, .newarray .int, 14, 0, 0), (14, .putfield 15, 17, 4, 1), (17, .aload_n 0, 18, 0, 0), (18, .bipush 12, 20, 0, 0), (20, .newarray .int, 22, 0, 0), (22, .putfield 19, 25, 4, 2), (25, .aload_n 0, 26, 0, 0), (26, .bipush 12, 28, 0, 0), (28, .newarray .int, 30, 0, 0), (30, .putfield 22, 33, 4, 3), (33, .return_, 34, 0, 0)], [])
theorem ok_X4_init : g_ok M_X4_init := by
  show (m_code M_X4_init).all (g_ent M_X4_init) = true
  decide +kernel
def M_X3_init : gMt := (yX3_init, cX3_init, 1, none, { frames := 1, cells := 4, slots := 96, locals := 20 }, [(0, .aload_n 0, 1, 0, 0), (1, .invokespecial 3, 4, 0, 0), (4, .aload_n 0, 5, 0, 0), (5, .bipush 24, 7, 0, 0), (7, .newarray .int, 9, 0, 0), (9, .putfield 9, 12, 3, 9), (12, .aload_n 0, 13, 0, 0), (13, .bipush 24, 15, 0, 0), (15, .newarray .int, 17, 0, 0), (17, .putfield 15, 20, 3, 10), (20, .aload_n 0, 21, 0, 0), (21, .bipush 24, 23, 0, 0), (23, .newarray .int, 25, 0, 0), (25, .putfield 18, 28, 3, 11), (28, .aload_n 0, 29, 0, 0), (29, .bipush 24, 31, 0, 0), (31, .newarray .int, 33, 0, 0), (33, .putfield 21, 36, 3, 12), (36, .return_, 37, 0, 0)], [])
theorem ok_X3_init : g_ok M_X3_init := by
  show (m_code M_X3_init).all (g_ent M_X3_init) = true
  decide +kernel
def M_X6_init : gMt := (yX6_init, cX6_init, 2, none, { frames := 4, cells := 60, slots := 1103, locals := 83 }, [(0, .aload_n 0, 1, 0, 0), (1, .invokespecial 3, 4, 0, 0), (4, .aload_n 0, 5, 0, 0), (5, .bipush 8, 7, 0, 0), (7, .anewarray 9, 10, 0, 0), (10, .putfield 11, 13, 6, 9), (13, .aload_n 0, 14, 0, 0), (14, .new 9, 17, 3, 0), (17, .dup, 18, 0, 0), (18, .invokespecial 17, 21, 0, 0), (21, .putfield 18, 24, 6, 10), (24, .aload_n 0, 25, 0, 0), (25, .new 22, 28, 0, 0), (28, .dup, 29, 0, 0), (29, .invokespecial 24, 32, 0, 0), (32, .putfield 25, 35, 6, 11), (35, .aload_n 0, 36, 0, 0), (36, .new 22, 39, 0, 0), (39, .dup, 40, 0, 0), (40, .invokespecial 24, 43, 0, 0), (43, .putfield 29, 46, 6, 12), (46, .aload_n 0, 47, 0, 0), (47, .new 32, 50, 2, 0), (50, .dup, 51, 0, 0), (51, .invokespecial 34, 54, 0, 0), (54, .putfield 35, 57, 6, 13), (57, .aload_n 0, 58, 0, 0), (58, .new 32, 61, 2, 0), (61, .dup, 62, 0, 0), (62, .invokespecial 34, 65, 0, 0), (65, .putfield 39, 68, 6, 14), (68, .aload_n 0, 69, 0, 0), (69, .new 42, 72, 4, 0), (72, .dup, 73, 0, 0), (73, .invokespecial 44, 76, 0, 0), (76, .putfield 45, 79, 6, 15), (79, .iconst 0, 80, 0, 0), (80, .istore_n 1, 81, 0, 0), (81, .iload_n 1, 82, 0, 0), (82, .aload_n 0, 83, 0, 0), (83, .getfield 11, 86, 6, 9), (86, .arraylength, 87, 0, 0), (87, .if_icmp .ge 22, 90, 109, 0), (90, .aload_n 0, 91, 0, 0), (91, .getfield 11, 94, 6, 9), (94, .iload_n 1, 95, 0, 0), (95, .new 9, 98, 3, 0), (98, .dup, 99, 0, 0), (99, .invokespecial 17, 102, 0, 0), (102, .aastore, 103, 0, 0), (103, .iinc 1 1, 106, 0, 0), (106, .goto (-25), 109, 81, 0), (109, .aload_n 0, 110, 0, 0), (110, .iconst 4, 111, 0, 0), (111, .iconst 3, 112, 0, 0), (112, .invokevirtual 49, 115, 0, 0), (115, .return_, 116, 0, 0)], [])
theorem ok_X6_init : g_ok M_X6_init := by
  show (m_code M_X6_init).all (g_ent M_X6_init) = true
  decide +kernel
def M_X1_init : gMt := (yX1_init, cX1_init, 2, none, { frames := 5, cells := 489, slots := 8960, locals := 104 }, [(0, .aload_n 0, 1, 0, 0), (1, .invokespecial 3, 4, 0, 0), (4, .aload_n 0, 5, 0, 0), (5, .bipush 8, 7, 0, 0), (7, .anewarray 9, 10, 0, 0), (10, .putfield 11, 13, 1, 0), (13, .aload_n 0, 14, 0, 0), (14, .iconst 0, 15, 0, 0), (15, .putfield 17, 18, 1, 1), (18, .aload_n 0, 19, 0, 0), (19, .iconst 0, 20, 0, 0), (20, .putfield 21, 23, 1, 2), (23, .iconst 0, 24, 0, 0), (24, .istore_n 1, 25, 0, 0), (25, .iload_n 1, 26, 0, 0), (26, .aload_n 0, 27, 0, 0), (27, .getfield 11, 30, 1, 0), (30, .arraylength, 31, 0, 0), (31, .if_icmp .ge 22, 34, 53, 0), (34, .aload_n 0, 35, 0, 0), (35, .getfield 11, 38, 1, 0), (38, .iload_n 1, 39, 0, 0), (39, .new 9, 42, 6, 0), (42, .dup, 43, 0, 0), (43, .invokespecial 24, 46, 0, 0), (46, .aastore, 47, 0, 0), (47, .iinc 1 1, 50, 0, 0), (50, .goto (-25), 53, 25, 0), (53, .return_, 54, 0, 0)], [])
theorem ok_X1_init : g_ok M_X1_init := by
  show (m_code M_X1_init).all (g_ent M_X1_init) = true
  decide +kernel
def M_X7_init : gMt := (yX7_init, cX7_init, 1, none, { frames := 6, cells := 613, slots := 11701, locals := 125 }, [(0, .aload_n 0, 1, 0, 0), (1, .invokespecial 1, 4, 0, 0), (4, .aload_n 0, 5, 0, 0), (5, .sipush 500, 8, 0, 0), (8, .newarray .byte, 10, 0, 0), (10, .putfield 9, 13, 7, 0), (13, .aload_n 0, 14, 0, 0), (14, .iconst 0, 15, 0, 0), (15, .putfield 13, 18, 7, 1), (18, .aload_n 0, 19, 0, 0), (19, .iconst (-1), 20, 0, 0), (20, .putfield 17, 23, 7, 2), (23, .aload_n 0, 24, 0, 0), (24, .new 20, 27, 6, 0), (27, .dup, 28, 0, 0), (28, .invokespecial 22, 31, 0, 0), (31, .putfield 23, 34, 7, 3), (34, .aload_n 0, 35, 0, 0), (35, .new 20, 38, 6, 0), (38, .dup, 39, 0, 0), (39, .invokespecial 22, 42, 0, 0), (42, .putfield 27, 45, 7, 4), (45, .aload_n 0, 46, 0, 0), (46, .new 30, 49, 1, 0), (49, .dup, 50, 0, 0), (50, .invokespecial 32, 53, 0, 0), (53, .putfield 33, 56, 7, 5), (56, .return_, 57, 0, 0)], [])
theorem ok_X7_init : g_ok M_X7_init := by
  show (m_code M_X7_init).all (g_ent M_X7_init) = true
  decide +kernel
def M_X5_init : gMt := (yX5_init, cX5_init, 3, none, { frames := 1, cells := 0, slots := 0, locals := 20 }, [(0, .aload_n 0, 1, 0, 0), (1, .invokespecial 3, 4, 0, 0), (4, .aload_n 0, 5, 0, 0), (5, .iconst 0, 6, 0, 0), (6, .putfield 9, 9, 5, 2), (9, .aload_n 0, 10, 0, 0), (10, .iconst 0, 11, 0, 0), (11, .putfield 15, 14, 5, 3), (14, .aload_n 0, 15, 0, 0), (15, .iconst 0, 16, 0, 0), (16, .putfield 18, 19, 5, 4), (19, .aload_n 0, 20, 0, 0), (20, .iconst 0, 21, 0, 0), (21, .putfield 21, 24, 5, 5), (24, .aload_n 0, 25, 0, 0), (25, .iconst (-1), 26, 0, 0), (26, .putfield 24, 29, 5, 6), (29, .aload_n 0, 30, 0, 0), (30, .aload_n 1, 31, 0, 0), (31, .putfield 27, 34, 5, 0), (34, .aload_n 0, 35, 0, 0), (35, .iload_n 2, 36, 0, 0), (36, .putfield 31, 39, 5, 1), (39, .return_, 40, 0, 0)], [])
theorem ok_X5_init : g_ok M_X5_init := by
  show (m_code M_X5_init).all (g_ent M_X5_init) = true
  decide +kernel
def M_X5_byteAt : gMt := (yX5_byteAt, cX5_byteAt, 2, (some .int), { frames := 0, cells := 0, slots := 0, locals := 0 }, [(0, .iload_n 1, 1, 0, 0), (1, .ifCond .lt 29, 4, 30, 0), (4, .iload_n 1, 5, 0, 0), (5, .aload_n 0, 6, 0, 0), (6, .getfield 31, 9, 5, 1), (9, .if_icmp .ge 21, 12, 30, 0), (12, .iload_n 1, 13, 0, 0), (13, .aload_n 0, 14, 0, 0), (14, .getfield 27, 17, 5, 0), (17, .arraylength, 18, 0, 0), (18, .if_icmp .ge 12, 21, 30, 0), (21, .aload_n 0, 22, 0, 0), (22, .getfield 27, 25, 5, 0), (25, .iload_n 1, 26, 0, 0), (26, .baload, 27, 0, 0), (27, .goto 4, 30, 31, 0), (30, .iconst (-1), 31, 0, 0), (31, .ireturn, 32, 0, 0)], [])
theorem ok_X5_byteAt : g_ok M_X5_byteAt := by
  show (m_code M_X5_byteAt).all (g_ent M_X5_byteAt) = true
  decide +kernel
def M_X5_findToken : gMt := (yX5_findToken, cX5_findToken, 1, (some .boolean), { frames := 1, cells := 0, slots := 0, locals := 21 }, [(0, .aload_n 0, 1, 0, 0), (1, .getfield 9, 4, 5, 2), (4, .aload_n 0, 5, 0, 0), (5, .getfield 31, 8, 5, 1), (8, .if_icmp .ge 29, 11, 37, 0), (11, .aload_n 0, 12, 0, 0), (12, .aload_n 0, 13, 0, 0), (13, .getfield 9, 16, 5, 2), (16, .invokevirtual 139, 19, 0, 0), (19, .bipush 32, 21, 0, 0), (21, .if_icmp .ne 16, 24, 37, 0), (24, .aload_n 0, 25, 0, 0), (25, .dup, 26, 0, 0), (26, .getfield 9, 29, 5, 2), (29, .iconst 1, 30, 0, 0), (30, .iadd, 31, 0, 0), (31, .putfield 9, 34, 5, 2), (34, .goto (-34), 37, 0, 0), (37, .aload_n 0, 38, 0, 0), (38, .aload_n 0, 39, 0, 0), (39, .getfield 9, 42, 5, 2), (42, .putfield 15, 45, 5, 3), (45, .aload_n 0, 46, 0, 0), (46, .getfield 9, 49, 5, 2), (49, .aload_n 0, 50, 0, 0), (50, .getfield 31, 53, 5, 1), (53, .if_icmp .ge 7, 56, 60, 0), (56, .iconst 1, 57, 0, 0), (57, .goto 4, 60, 61, 0), (60, .iconst 0, 61, 0, 0), (61, .ireturn, 62, 0, 0)], [])
theorem ok_X5_findToken : g_ok M_X5_findToken := by
  show (m_code M_X5_findToken).all (g_ent M_X5_findToken) = true
  decide +kernel
def M_X5_readWord : gMt := (yX5_readWord, cX5_readWord, 1, none, { frames := 2, cells := 0, slots := 0, locals := 41 }, [(0, .aload_n 0, 1, 0, 0), (1, .invokevirtual 38, 4, 0, 0), (4, .pop, 5, 0, 0), (5, .aload_n 0, 6, 0, 0), (6, .getfield 9, 9, 5, 2), (9, .aload_n 0, 10, 0, 0), (10, .getfield 31, 13, 5, 1), (13, .if_icmp .ge 34, 16, 47, 0), (16, .aload_n 0, 17, 0, 0), (17, .aload_n 0, 18, 0, 0), (18, .getfield 9, 21, 5, 2), (21, .invokevirtual 139, 24, 0, 0), (24, .bipush 97, 26, 0, 0), (26, .bipush 122, 28, 0, 0), (28, .invokestatic 143, 31, 0, 0), (31, .ifCond .eq 16, 34, 47, 0), (34, .aload_n 0, 35, 0, 0), (35, .dup, 36, 0, 0), (36, .getfield 9, 39, 5, 2), (39, .iconst 1, 40, 0, 0), (40, .iadd, 41, 0, 0), (41, .putfield 9, 44, 5, 2), (44, .goto (-39), 47, 5, 0), (47, .return_, 48, 0, 0)], [])
theorem ok_X5_readWord : g_ok M_X5_readWord := by
  show (m_code M_X5_readWord).all (g_ent M_X5_readWord) = true
  decide +kernel
def M_X5_isToken : gMt := (yX5_isToken, cX5_isToken, 3, (some .boolean), { frames := 4, cells := 0, slots := 0, locals := 85 }, [(0, .aload_n 0, 1, 0, 0), (1, .getfield 9, 4, 5, 2), (4, .aload_n 0, 5, 0, 0), (5, .getfield 15, 8, 5, 3), (8, .isub, 9, 0, 0), (9, .aload_n 1, 10, 0, 0), (10, .invokevirtual 153, 13, 0, 0), (13, .if_icmp .eq 5, 16, 18, 0), (16, .iconst 0, 17, 0, 0), (17, .ireturn, 18, 0, 0), (18, .iconst 0, 19, 0, 0), (19, .istore_n 2, 20, 0, 0), (20, .iload_n 2, 21, 0, 0), (21, .aload_n 1, 22, 0, 0), (22, .invokevirtual 153, 25, 0, 0), (25, .if_icmp .ge 29, 28, 54, 0), (28, .aload_n 0, 29, 0, 0), (29, .aload_n 0, 30, 0, 0), (30, .getfield 15, 33, 5, 3), (33, .iload_n 2, 34, 0, 0), (34, .iadd, 35, 0, 0), (35, .invokevirtual 139, 38, 0, 0), (38, .aload_n 1, 39, 0, 0), (39, .iload_n 2, 40, 0, 0), (40, .invokevirtual 158, 43, 0, 0), (43, .if_icmp .eq 5, 46, 48, 0), (46, .iconst 0, 47, 0, 0), (47, .ireturn, 48, 0, 0), (48, .iinc 2 1, 51, 0, 0), (51, .goto (-31), 54, 20, 0), (54, .iconst 1, 55, 0, 0), (55, .ireturn, 56, 0, 0)], [])
theorem ok_X5_isToken : g_ok M_X5_isToken := by
  show (m_code M_X5_isToken).all (g_ent M_X5_isToken) = true
  decide +kernel
def M_X5_isError : gMt := (yX5_isError, cX5_isError, 2, (some .boolean), { frames := 0, cells := 0, slots := 0, locals := 0 }, [(0, .aload_n 0, 1, 0, 0), (1, .iload_n 1, 2, 0, 0), (2, .putfield 21, 5, 5, 5), (5, .aload_n 0, 6, 0, 0), (6, .aload_n 0, 7, 0, 0), (7, .getfield 15, 10, 5, 3), (10, .putfield 24, 13, 5, 6), (13, .iconst 0, 14, 0, 0), (14, .ireturn, 15, 0, 0)], [])
theorem ok_X5_isError : g_ok M_X5_isError := by
  show (m_code M_X5_isError).all (g_ent M_X5_isError) = true
  decide +kernel
def M_X5_readNumber : gMt := (yX5_readNumber, cX5_readNumber, 4, (some .int), { frames := 2, cells := 0, slots := 0, locals := 41 }, [(0, .aload_n 0, 1, 0, 0), (1, .invokevirtual 38, 4, 0, 0), (4, .pop, 5, 0, 0), (5, .iconst 0, 6, 0, 0), (6, .istore_n 3, 7, 0, 0), (7, .aload_n 0, 8, 0, 0), (8, .getfield 9, 11, 5, 2), (11, .aload_n 0, 12, 0, 0), (12, .getfield 31, 15, 5, 1), (15, .if_icmp .ge 56, 18, 71, 0), (18, .aload_n 0, 19, 0, 0), (19, .aload_n 0, 20, 0, 0), (20, .getfield 9, 23, 5, 2), (23, .invokevirtual 139, 26, 0, 0), (26, .bipush 48, 28, 0, 0), (28, .bipush 57, 30, 0, 0), (30, .invokestatic 143, 33, 0, 0), (33, .ifCond .eq 38, 36, 71, 0), (36, .bipush 10, 38, 0, 0), (38, .iload_n 3, 39, 0, 0), (39, .imul, 40, 0, 0), (40, .aload_n 0, 41, 0, 0), (41, .aload_n 0, 42, 0, 0), (42, .getfield 9, 45, 5, 2), (45, .invokevirtual 139, 48, 0, 0), (48, .iadd, 49, 0, 0), (49, .bipush 48, 51, 0, 0), (51, .isub, 52, 0, 0), (52, .ldc 147, 54, 0, 0), (54, .invokestatic 148, 57, 0, 0), (57, .istore_n 3, 58, 0, 0), (58, .aload_n 0, 59, 0, 0), (59, .dup, 60, 0, 0), (60, .getfield 9, 63, 5, 2), (63, .iconst 1, 64, 0, 0), (64, .iadd, 65, 0, 0), (65, .putfield 9, 68, 5, 2), (68, .goto (-61), 71, 7, 0), (71, .aload_n 0, 72, 0, 0), (72, .getfield 9, 75, 5, 2), (75, .aload_n 0, 76, 0, 0), (76, .getfield 15, 79, 5, 3), (79, .if_icmp .ne 12, 82, 91, 0), (82, .aload_n 0, 83, 0, 0), (83, .bipush (-2), 85, 0, 0), (85, .invokevirtual 54, 88, 0, 0), (88, .pop, 89, 0, 0), (89, .iconst (-1), 90, 0, 0), (90, .ireturn, 91, 0, 0), (91, .iload_n 3, 92, 0, 0), (92, .iload_n 1, 93, 0, 0), (93, .iload_n 2, 94, 0, 0), (94, .invokestatic 143, 97, 0, 0), (97, .ifCond .ne 12, 100, 109, 0), (100, .aload_n 0, 101, 0, 0), (101, .bipush (-3), 103, 0, 0), (103, .invokevirtual 54, 106, 0, 0), (106, .pop, 107, 0, 0), (107, .iconst (-1), 108, 0, 0), (108, .ireturn, 109, 0, 0), (109, .iload_n 3, 110, 0, 0), (110, .ireturn, 111, 0, 0)], [])
theorem ok_X5_readNumber : g_ok M_X5_readNumber := by
  show (m_code M_X5_readNumber).all (g_ent M_X5_readNumber) = true
  decide +kernel
def M_X5_readSemicolon : gMt := (yX5_readSemicolon, cX5_readSemicolon, 1, (some .boolean), { frames := 2, cells := 0, slots := 0, locals := 41 }, [(0, .aload_n 0, 1, 0, 0), (1, .invokevirtual 38, 4, 0, 0), (4, .ifCond .eq 16, 7, 20, 0), (7, .aload_n 0, 8, 0, 0), (8, .aload_n 0, 9, 0, 0), (9, .getfield 9, 12, 5, 2), (12, .invokevirtual 139, 15, 0, 0), (15, .bipush 59, 17, 0, 0), (17, .if_icmp .eq 10, 20, 27, 0), (20, .aload_n 0, 21, 0, 0), (21, .bipush (-2), 23, 0, 0), (23, .invokevirtual 54, 26, 0, 0), (26, .ireturn, 27, 0, 0), (27, .aload_n 0, 28, 0, 0), (28, .dup, 29, 0, 0), (29, .getfield 9, 32, 5, 2), (32, .iconst 1, 33, 0, 0), (33, .iadd, 34, 0, 0), (34, .putfield 9, 37, 5, 2), (37, .iconst 1, 38, 0, 0), (38, .ireturn, 39, 0, 0)], [])
theorem ok_X5_readSemicolon : g_ok M_X5_readSemicolon := by
  show (m_code M_X5_readSemicolon).all (g_ent M_X5_readSemicolon) = true
  decide +kernel
def M_X5_readRelay : gMt := (yX5_readRelay, cX5_readRelay, 4, (some .boolean), { frames := 5, cells := 0, slots := 0, locals := 107 }, [(0, .aload_n 0, 1, 0, 0), (1, .invokevirtual 45, 4, 0, 0), (4, .aload_n 0, 5, 0, 0), (5, .ldc 48, 7, 0, 0), (7, .invokevirtual 50, 10, 0, 0), (10, .ifCond .ne 10, 13, 20, 0), (13, .aload_n 0, 14, 0, 0), (14, .bipush (-2), 16, 0, 0), (16, .invokevirtual 54, 19, 0, 0), (19, .ireturn, 20, 0, 0), (20, .aload_n 0, 21, 0, 0), (21, .iconst 1, 22, 0, 0), (22, .bipush 8, 24, 0, 0), (24, .invokevirtual 58, 27, 0, 0), (27, .istore_n 2, 28, 0, 0), (28, .iload_n 2, 29, 0, 0), (29, .iconst (-1), 30, 0, 0), (30, .if_icmp .ne 5, 33, 35, 0), (33, .iconst 0, 34, 0, 0), (34, .ireturn, 35, 0, 0), (35, .aload_n 0, 36, 0, 0), (36, .iconst 1, 37, 0, 0), (37, .bipush 9, 39, 0, 0), (39, .invokevirtual 58, 42, 0, 0), (42, .istore_n 3, 43, 0, 0), (43, .iload_n 3, 44, 0, 0), (44, .iconst (-1), 45, 0, 0), (45, .if_icmp .ne 5, 48, 50, 0), (48, .iconst 0, 49, 0, 0), (49, .ireturn, 50, 0, 0), (50, .aload_n 1, 51, 0, 0), (51, .iload_n 2, 52, 0, 0), (52, .iload_n 3, 53, 0, 0), (53, .invokevirtual 62, 56, 0, 0), (56, .aload_n 0, 57, 0, 0), (57, .invokevirtual 68, 60, 0, 0), (60, .ireturn, 61, 0, 0)], [])
theorem ok_X5_readRelay : g_ok M_X5_readRelay := by
  show (m_code M_X5_readRelay).all (g_ent M_X5_readRelay) = true
  decide +kernel
def M_X5_readChannel : gMt := (yX5_readChannel, cX5_readChannel, 5, (some .boolean), { frames := 3, cells := 0, slots := 0, locals := 64 }, [(0, .aload_n 0, 1, 0, 0), (1, .iconst 0, 2, 0, 0), (2, .iconst 1, 3, 0, 0), (3, .invokevirtual 58, 6, 0, 0), (6, .istore_n 2, 7, 0, 0), (7, .iload_n 2, 8, 0, 0), (8, .iconst (-1), 9, 0, 0), (9, .if_icmp .ne 5, 12, 14, 0), (12, .iconst 0, 13, 0, 0), (13, .ireturn, 14, 0, 0), (14, .iconst 1, 15, 0, 0), (15, .iload_n 2, 16, 0, 0), (16, .ishl, 17, 0, 0), (17, .istore_n 3, 18, 0, 0), (18, .aload_n 0, 19, 0, 0), (19, .getfield 18, 22, 5, 4), (22, .iload_n 3, 23, 0, 0), (23, .iand, 24, 0, 0), (24, .ifCond .eq 10, 27, 34, 0), (27, .aload_n 0, 28, 0, 0), (28, .bipush (-4), 30, 0, 0), (30, .invokevirtual 54, 33, 0, 0), (33, .ireturn, 34, 0, 0), (34, .aload_n 0, 35, 0, 0), (35, .dup, 36, 0, 0), (36, .getfield 18, 39, 5, 4), (39, .iload_n 3, 40, 0, 0), (40, .ior, 41, 0, 0), (41, .putfield 18, 44, 5, 4), (44, .aload_n 1, 45, 0, 0), (45, .iload_n 2, 46, 0, 0), (46, .invokevirtual 91, 49, 0, 0), (49, .astore 4, 51, 0, 0), (51, .aload 4, 53, 0, 0), (53, .aload_n 0, 54, 0, 0), (54, .iconst 0, 55, 0, 0), (55, .bipush 9, 57, 0, 0), (57, .invokevirtual 58, 60, 0, 0), (60, .putfield 95, 63, 0, 0), (63, .aload 4, 65, 0, 0), (65, .getfield 95, 68, 0, 0), (68, .iconst (-1), 69, 0, 0), (69, .if_icmp .ne 5, 72, 74, 0), (72, .iconst 0, 73, 0, 0), (73, .ireturn, 74, 0, 0), (74, .aload 4, 76, 0, 0), (76, .aload_n 0, 77, 0, 0), (77, .iconst 0, 78, 0, 0), (78, .bipush 23, 80, 0, 0), (80, .invokevirtual 58, 83, 0, 0), (83, .putfield 100, 86, 0, 1), (86, .aload 4, 88, 0, 0), (88, .getfield 100, 91, 0, 1), (91, .iconst (-1), 92, 0, 0), (92, .if_icmp .ne 5, 95, 97, 0), (95, .iconst 0, 96, 0, 0), (96, .ireturn, 97, 0, 0), (97, .aload 4, 99, 0, 0), (99, .aload_n 0, 100, 0, 0), (100, .iconst 0, 101, 0, 0), (101, .bipush 23, 103, 0, 0), (103, .invokevirtual 58, 106, 0, 0), (106, .putfield 103, 109, 0, 2), (109, .aload 4, 111, 0, 0), (111, .getfield 103, 114, 0, 2), (114, .iconst (-1), 115, 0, 0), (115, .if_icmp .eq 7, 118, 122, 0), (118, .iconst 1, 119, 0, 0), (119, .goto 4, 122, 123, 0), (122, .iconst 0, 123, 0, 0), (123, .ireturn, 124, 0, 0)], [])
theorem ok_X5_readChannel : g_ok M_X5_readChannel := by
  show (m_code M_X5_readChannel).all (g_ent M_X5_readChannel) = true
  decide +kernel
def M_X5_readKeeper : gMt := (yX5_readKeeper, cX5_readKeeper, 6, (some .boolean), { frames := 3, cells := 0, slots := 0, locals := 66 }, [(0, .aload_n 0, 1, 0, 0), (1, .iconst 0, 2, 0, 0), (2, .iconst 1, 3, 0, 0), (3, .invokevirtual 58, 6, 0, 0), (6, .istore_n 2, 7, 0, 0), (7, .iload_n 2, 8, 0, 0), (8, .iconst (-1), 9, 0, 0), (9, .if_icmp .ne 5, 12, 14, 0), (12, .iconst 0, 13, 0, 0), (13, .ireturn, 14, 0, 0), (14, .aload_n 1, 15, 0, 0), (15, .iload_n 2, 16, 0, 0), (16, .invokevirtual 106, 19, 0, 0), (19, .astore_n 3, 20, 0, 0), (20, .aload_n 3, 21, 0, 0), (21, .invokevirtual 110, 24, 0, 0), (24, .ifCond .eq 10, 27, 34, 0), (27, .aload_n 0, 28, 0, 0), (28, .bipush (-5), 30, 0, 0), (30, .invokevirtual 54, 33, 0, 0), (33, .ireturn, 34, 0, 0), (34, .aload_n 0, 35, 0, 0), (35, .iconst 0, 36, 0, 0), (36, .sipush 9999, 39, 0, 0), (39, .invokevirtual 58, 42, 0, 0), (42, .istore 4, 44, 0, 0), (44, .iload 4, 46, 0, 0), (46, .iconst (-1), 47, 0, 0), (47, .if_icmp .ne 5, 50, 52, 0), (50, .iconst 0, 51, 0, 0), (51, .ireturn, 52, 0, 0), (52, .aload_n 3, 53, 0, 0), (53, .iload 4, 55, 0, 0), (55, .invokevirtual 115, 58, 0, 0), (58, .ifCond .eq 10, 61, 68, 0), (61, .aload_n 0, 62, 0, 0), (62, .bipush (-4), 64, 0, 0), (64, .invokevirtual 54, 67, 0, 0), (67, .ireturn, 68, 0, 0), (68, .aload_n 0, 69, 0, 0), (69, .iconst 0, 70, 0, 0), (70, .bipush 25, 72, 0, 0), (72, .invokevirtual 58, 75, 0, 0), (75, .istore 5, 77, 0, 0), (77, .iload 5, 79, 0, 0), (79, .iconst (-1), 80, 0, 0), (80, .if_icmp .ne 5, 83, 85, 0), (83, .iconst 0, 84, 0, 0), (84, .ireturn, 85, 0, 0), (85, .aload_n 3, 86, 0, 0), (86, .iload 4, 88, 0, 0), (88, .iload 5, 90, 0, 0), (90, .invokevirtual 118, 93, 0, 0), (93, .iconst 1, 94, 0, 0), (94, .ireturn, 95, 0, 0)], [])
theorem ok_X5_readKeeper : g_ok M_X5_readKeeper := by
  show (m_code M_X5_readKeeper).all (g_ent M_X5_readKeeper) = true
  decide +kernel
def M_X5_readMist : gMt := (yX5_readMist, cX5_readMist, 5, (some .boolean), { frames := 3, cells := 0, slots := 0, locals := 64 }, [(0, .aload_n 1, 1, 0, 0), (1, .getfield 121, 4, 6, 15), (4, .invokevirtual 125, 7, 0, 0), (7, .ifCond .eq 10, 10, 17, 0), (10, .aload_n 0, 11, 0, 0), (11, .bipush (-5), 13, 0, 0), (13, .invokevirtual 54, 16, 0, 0), (16, .ireturn, 17, 0, 0), (17, .aload_n 0, 18, 0, 0), (18, .iconst 0, 19, 0, 0), (19, .sipush 9999, 22, 0, 0), (22, .invokevirtual 58, 25, 0, 0), (25, .istore_n 2, 26, 0, 0), (26, .iload_n 2, 27, 0, 0), (27, .iconst (-1), 28, 0, 0), (28, .if_icmp .ne 5, 31, 33, 0), (31, .iconst 0, 32, 0, 0), (32, .ireturn, 33, 0, 0), (33, .aload_n 0, 34, 0, 0), (34, .iload_n 2, 35, 0, 0), (35, .sipush 9999, 38, 0, 0), (38, .invokevirtual 58, 41, 0, 0), (41, .istore_n 3, 42, 0, 0), (42, .iload_n 3, 43, 0, 0), (43, .iconst (-1), 44, 0, 0), (44, .if_icmp .ne 5, 47, 49, 0), (47, .iconst 0, 48, 0, 0), (48, .ireturn, 49, 0, 0), (49, .aload_n 0, 50, 0, 0), (50, .iconst 0, 51, 0, 0), (51, .bipush 9, 53, 0, 0), (53, .invokevirtual 58, 56, 0, 0), (56, .istore 4, 58, 0, 0), (58, .iload 4, 60, 0, 0), (60, .iconst (-1), 61, 0, 0), (61, .if_icmp .ne 5, 64, 66, 0), (64, .iconst 0, 65, 0, 0), (65, .ireturn, 66, 0, 0), (66, .aload_n 1, 67, 0, 0), (67, .getfield 121, 70, 6, 15), (70, .iload_n 2, 71, 0, 0), (71, .iload_n 3, 72, 0, 0), (72, .iload 4, 74, 0, 0), (74, .invokevirtual 128, 77, 0, 0), (77, .iconst 1, 78, 0, 0), (78, .ireturn, 79, 0, 0)], [])
theorem ok_X5_readMist : g_ok M_X5_readMist := by
  show (m_code M_X5_readMist).all (g_ent M_X5_readMist) = true
  decide +kernel
def M_X5_readMessage : gMt := (yX5_readMessage, cX5_readMessage, 4, (some .boolean), { frames := 3, cells := 0, slots := 0, locals := 72 }, [(0, .aload_n 1, 1, 0, 0), (1, .getfield 132, 4, 6, 1), (4, .bipush 8, 6, 0, 0), (6, .if_icmp .lt 10, 9, 16, 0), (9, .aload_n 0, 10, 0, 0), (10, .bipush (-5), 12, 0, 0), (12, .invokevirtual 54, 15, 0, 0), (15, .ireturn, 16, 0, 0), (16, .aload_n 0, 17, 0, 0), (17, .iconst 0, 18, 0, 0), (18, .iconst 1, 19, 0, 0), (19, .invokevirtual 58, 22, 0, 0), (22, .istore_n 2, 23, 0, 0), (23, .iload_n 2, 24, 0, 0), (24, .iconst (-1), 25, 0, 0), (25, .if_icmp .ne 5, 28, 30, 0), (28, .iconst 0, 29, 0, 0), (29, .ireturn, 30, 0, 0), (30, .aload_n 0, 31, 0, 0), (31, .iconst 0, 32, 0, 0), (32, .bipush 9, 34, 0, 0), (34, .invokevirtual 58, 37, 0, 0), (37, .istore_n 3, 38, 0, 0), (38, .iload_n 3, 39, 0, 0), (39, .iconst (-1), 40, 0, 0), (40, .if_icmp .ne 5, 43, 45, 0), (43, .iconst 0, 44, 0, 0), (44, .ireturn, 45, 0, 0), (45, .aload_n 0, 46, 0, 0), (46, .invokevirtual 45, 49, 0, 0), (49, .aload_n 0, 50, 0, 0), (50, .getfield 9, 53, 5, 2), (53, .aload_n 0, 54, 0, 0), (54, .getfield 15, 57, 5, 3), (57, .if_icmp .ne 10, 60, 67, 0), (60, .aload_n 0, 61, 0, 0), (61, .bipush (-2), 63, 0, 0), (63, .invokevirtual 54, 66, 0, 0), (66, .ireturn, 67, 0, 0), (67, .aload_n 0, 68, 0, 0), (68, .getfield 9, 71, 5, 2), (71, .aload_n 0, 72, 0, 0), (72, .getfield 15, 75, 5, 3), (75, .isub, 76, 0, 0), (76, .bipush 24, 78, 0, 0), (78, .if_icmp .le 10, 81, 88, 0), (81, .aload_n 0, 82, 0, 0), (82, .bipush (-3), 84, 0, 0), (84, .invokevirtual 54, 87, 0, 0), (87, .ireturn, 88, 0, 0), (88, .aload_n 1, 89, 0, 0), (89, .iload_n 2, 90, 0, 0), (90, .iload_n 3, 91, 0, 0), (91, .aload_n 0, 92, 0, 0), (92, .getfield 27, 95, 5, 0), (95, .aload_n 0, 96, 0, 0), (96, .getfield 15, 99, 5, 3), (99, .aload_n 0, 100, 0, 0), (100, .getfield 9, 103, 5, 2), (103, .aload_n 0, 104, 0, 0), (104, .getfield 15, 107, 5, 3), (107, .isub, 108, 0, 0), (108, .invokevirtual 135, 111, 0, 0), (111, .iconst 1, 112, 0, 0), (112, .ireturn, 113, 0, 0)], [])
theorem ok_X5_readMessage : g_ok M_X5_readMessage := by
  show (m_code M_X5_readMessage).all (g_ent M_X5_readMessage) = true
  decide +kernel
def M_X5_readStatement : gMt := (yX5_readStatement, cX5_readStatement, 2, (some .boolean), { frames := 5, cells := 0, slots := 0, locals := 107 }, [(0, .aload_n 0, 1, 0, 0), (1, .invokevirtual 45, 4, 0, 0), (4, .aload_n 0, 5, 0, 0), (5, .ldc 71, 7, 0, 0), (7, .invokevirtual 50, 10, 0, 0), (10, .ifCond .eq 24, 13, 34, 0), (13, .aload_n 0, 14, 0, 0), (14, .aload_n 1, 15, 0, 0), (15, .invokevirtual 73, 18, 0, 0), (18, .ifCond .eq 14, 21, 32, 0), (21, .aload_n 0, 22, 0, 0), (22, .invokevirtual 68, 25, 0, 0), (25, .ifCond .eq 7, 28, 32, 0), (28, .iconst 1, 29, 0, 0), (29, .goto 4, 32, 33, 0), (32, .iconst 0, 33, 0, 0), (33, .ireturn, 34, 0, 0), (34, .aload_n 0, 35, 0, 0), (35, .ldc 76, 37, 0, 0), (37, .invokevirtual 50, 40, 0, 0), (40, .ifCond .eq 24, 43, 64, 0), (43, .aload_n 0, 44, 0, 0), (44, .aload_n 1, 45, 0, 0), (45, .invokevirtual 78, 48, 0, 0), (48, .ifCond .eq 14, 51, 62, 0), (51, .aload_n 0, 52, 0, 0), (52, .invokevirtual 68, 55, 0, 0), (55, .ifCond .eq 7, 58, 62, 0), (58, .iconst 1, 59, 0, 0), (59, .goto 4, 62, 63, 0), (62, .iconst 0, 63, 0, 0), (63, .ireturn, 64, 0, 0), (64, .aload_n 0, 65, 0, 0), (65, .ldc 81, 67, 0, 0), (67, .invokevirtual 50, 70, 0, 0), (70, .ifCond .eq 24, 73, 94, 0), (73, .aload_n 0, 74, 0, 0), (74, .aload_n 1, 75, 0, 0), (75, .invokevirtual 83, 78, 0, 0), (78, .ifCond .eq 14, 81, 92, 0), (81, .aload_n 0, 82, 0, 0), (82, .invokevirtual 68, 85, 0, 0), (85, .ifCond .eq 7, 88, 92, 0), (88, .iconst 1, 89, 0, 0), (89, .goto 4, 92, 93, 0), (92, .iconst 0, 93, 0, 0), (93, .ireturn, 94, 0, 0), (94, .aload_n 0, 95, 0, 0), (95, .ldc 86, 97, 0, 0), (97, .invokevirtual 50, 100, 0, 0), (100, .ifCond .eq 24, 103, 124, 0), (103, .aload_n 0, 104, 0, 0), (104, .aload_n 1, 105, 0, 0), (105, .invokevirtual 88, 108, 0, 0), (108, .ifCond .eq 14, 111, 122, 0), (111, .aload_n 0, 112, 0, 0), (112, .invokevirtual 68, 115, 0, 0), (115, .ifCond .eq 7, 118, 122, 0), (118, .iconst 1, 119, 0, 0), (119, .goto 4, 122, 123, 0), (122, .iconst 0, 123, 0, 0), (123, .ireturn, 124, 0, 0), (124, .aload_n 0, 125, 0, 0), (125, .bipush (-2), 127, 0, 0), (127, .invokevirtual 54, 130, 0, 0), (130, .ireturn, 131, 0, 0)], [])
theorem ok_X5_readStatement : g_ok M_X5_readStatement := by
  show (m_code M_X5_readStatement).all (g_ent M_X5_readStatement) = true
  decide +kernel
def M_X5_readInto : gMt := (yX5_readInto, cX5_readInto, 3, (some .boolean), { frames := 6, cells := 0, slots := 0, locals := 130 }, [(0, .aload_n 0, 1, 0, 0), (1, .aload_n 1, 2, 0, 0), (2, .invokevirtual 34, 5, 0, 0), (5, .ifCond .ne 5, 8, 10, 0), (8, .iconst 0, 9, 0, 0), (9, .ireturn, 10, 0, 0), (10, .iconst 0, 11, 0, 0), (11, .istore_n 2, 12, 0, 0), (12, .iload_n 2, 13, 0, 0), (13, .aload_n 0, 14, 0, 0), (14, .getfield 31, 17, 5, 1), (17, .if_icmp .ge 26, 20, 43, 0), (20, .aload_n 0, 21, 0, 0), (21, .invokevirtual 38, 24, 0, 0), (24, .ifCond .eq 19, 27, 43, 0), (27, .aload_n 0, 28, 0, 0), (28, .aload_n 1, 29, 0, 0), (29, .invokevirtual 42, 32, 0, 0), (32, .ifCond .ne 5, 35, 37, 0), (35, .iconst 0, 36, 0, 0), (36, .ireturn, 37, 0, 0), (37, .iinc 2 1, 40, 0, 0), (40, .goto (-28), 43, 12, 0), (43, .iconst 1, 44, 0, 0), (44, .ireturn, 45, 0, 0)], [])
theorem ok_X5_readInto : g_ok M_X5_readInto := by
  show (m_code M_X5_readInto).all (g_ent M_X5_readInto) = true
  decide +kernel
def M_X7_appendWord : gMt := (yX7_appendWord, cX7_appendWord, 3, none, { frames := 0, cells := 0, slots := 0, locals := 0 }, [(0, .bipush 24, 2, 0, 0), (2, .istore_n 2, 3, 0, 0), (3, .iload_n 2, 4, 0, 0), (4, .ifCond .lt 44, 7, 48, 0), (7, .aload_n 0, 8, 0, 0), (8, .getfield 13, 11, 7, 1), (11, .aload_n 0, 12, 0, 0), (12, .getfield 9, 15, 7, 0), (15, .arraylength, 16, 0, 0), (16, .if_icmp .ge 26, 19, 42, 0), (19, .aload_n 0, 20, 0, 0), (20, .getfield 9, 23, 7, 0), (23, .aload_n 0, 24, 0, 0), (24, .getfield 13, 27, 7, 1), (27, .iload_n 1, 28, 0, 0), (28, .iload_n 2, 29, 0, 0), (29, .iushr, 30, 0, 0), (30, .i2b, 31, 0, 0), (31, .bastore, 32, 0, 0), (32, .aload_n 0, 33, 0, 0), (33, .dup, 34, 0, 0), (34, .getfield 13, 37, 7, 1), (37, .iconst 1, 38, 0, 0), (38, .iadd, 39, 0, 0), (39, .putfield 13, 42, 7, 1), (42, .iinc 2 (-8), 45, 0, 0), (45, .goto (-42), 48, 3, 0), (48, .return_, 49, 0, 0)], [])
theorem ok_X7_appendWord : g_ok M_X7_appendWord := by
  show (m_code M_X7_appendWord).all (g_ent M_X7_appendWord) = true
  decide +kernel
def M_X7_append : gMt := (yX7_append, cX7_append, 6, (some .int), { frames := 1, cells := 0, slots := 0, locals := 22 }, [(0, .aload_n 0, 1, 0, 0), (1, .getfield 13, 4, 7, 1), (4, .bipush 20, 6, 0, 0), (6, .iadd, 7, 0, 0), (7, .sipush 500, 10, 0, 0), (10, .if_icmp .le 5, 13, 15, 0), (13, .iconst (-1), 14, 0, 0), (14, .ireturn, 15, 0, 0), (15, .aload_n 0, 16, 0, 0), (16, .iload_n 1, 17, 0, 0), (17, .invokevirtual 37, 20, 0, 0), (20, .aload_n 0, 21, 0, 0), (21, .iload_n 2, 22, 0, 0), (22, .invokevirtual 37, 25, 0, 0), (25, .aload_n 0, 26, 0, 0), (26, .iload_n 3, 27, 0, 0), (27, .invokevirtual 37, 30, 0, 0), (30, .aload_n 0, 31, 0, 0), (31, .iload 4, 33, 0, 0), (33, .invokevirtual 37, 36, 0, 0), (36, .aload_n 0, 37, 0, 0), (37, .iload 5, 39, 0, 0), (39, .invokevirtual 37, 42, 0, 0), (42, .aload_n 0, 43, 0, 0), (43, .getfield 13, 46, 7, 1), (46, .ireturn, 47, 0, 0)], [])
theorem ok_X7_append : g_ok M_X7_append := by
  show (m_code M_X7_append).all (g_ent M_X7_append) = true
  decide +kernel
def M_X7_load : gMt := (yX7_load, cX7_load, 3, (some .int), { frames := 7, cells := 1, slots := 7, locals := 152 }, [(0, .iload_n 1, 1, 0, 0), (1, .ifCond .lt 11, 4, 12, 0), (4, .iload_n 1, 5, 0, 0), (5, .aload_n 0, 6, 0, 0), (6, .getfield 13, 9, 7, 1), (9, .if_icmp .le 13, 12, 22, 0), (15, .dup, 16, 0, 0), (16, .ldc 43, 18, 0, 0), (18, .invokespecial 45, 21, 0, 0), (21, .athrow, 22, 0, 0), (22, .aload_n 0, 23, 0, 0), (23, .iconst 0, 24, 0, 0), (24, .putfield 13, 27, 7, 1), (27, .new 48, 30, 5, 0), (30, .dup, 31, 0, 0), (31, .aload_n 0, 32, 0, 0), (32, .getfield 9, 35, 7, 0), (35, .iload_n 1, 36, 0, 0), (36, .invokespecial 50, 39, 0, 0), (39, .astore_n 2, 40, 0, 0), (40, .aload_n 2, 41, 0, 0), (41, .aload_n 0, 42, 0, 0), (42, .getfield 27, 45, 7, 4), (45, .invokevirtual 53, 48, 0, 0), (48, .ifCond .ne 16, 51, 64, 0), (51, .aload_n 0, 52, 0, 0), (52, .aload_n 2, 53, 0, 0), (53, .getfield 57, 56, 5, 6), (56, .putfield 17, 59, 7, 2), (59, .aload_n 2, 60, 0, 0), (60, .getfield 60, 63, 5, 5), (63, .ireturn, 64, 0, 0), (64, .aload_n 0, 65, 0, 0), (65, .iconst (-1), 66, 0, 0), (66, .putfield 17, 69, 7, 2), (69, .aload_n 0, 70, 0, 0), (70, .getfield 33, 73, 7, 5), (73, .aload_n 0, 74, 0, 0), (74, .getfield 23, 77, 7, 3), (77, .invokevirtual 63, 80, 0, 0), (80, .aload_n 0, 81, 0, 0), (81, .getfield 23, 84, 7, 3), (84, .aload_n 0, 85, 0, 0), (85, .getfield 27, 88, 7, 4), (88, .invokevirtual 67, 91, 0, 0), (91, .aload_n 0, 92, 0, 0), (92, .getfield 23, 95, 7, 3), (95, .getfield 70, 98, 6, 1), (98, .ireturn, 99, 0, 0)], [])
theorem ok_X7_load : g_ok M_X7_load := by
  show (m_code M_X7_load).all (g_ent M_X7_load) = true
  decide +kernel
def M_X7_errorOffset : gMt := (yX7_errorOffset, cX7_errorOffset, 1, (some .int), { frames := 0, cells := 0, slots := 0, locals := 0 }, [(0, .aload_n 0, 1, 0, 0), (1, .getfield 17, 4, 7, 2), (4, .ireturn, 5, 0, 0)], [])
theorem ok_X7_errorOffset : g_ok M_X7_errorOffset := by
  show (m_code M_X7_errorOffset).all (g_ent M_X7_errorOffset) = true
  decide +kernel
def M_X7_state : gMt := (yX7_state, cX7_state, 2, (some .int), { frames := 6, cells := 1, slots := 6, locals := 127 }, [(0, .iload_n 1, 1, 0, 0), (1, .iconst 0, 2, 0, 0), (2, .bipush 12, 4, 0, 0), (4, .invokestatic 73, 7, 0, 0), (7, .ifCond .ne 13, 10, 20, 0), (13, .dup, 14, 0, 0), (14, .ldc 77, 16, 0, 0), (16, .invokespecial 45, 19, 0, 0), (19, .athrow, 20, 0, 0), (20, .aload_n 0, 21, 0, 0), (21, .getfield 23, 24, 7, 3), (24, .iload_n 1, 25, 0, 0), (25, .invokevirtual 79, 28, 0, 0), (28, .ireturn, 29, 0, 0)], [])
theorem ok_X7_state : g_ok M_X7_state := by
  show (m_code M_X7_state).all (g_ent M_X7_state) = true
  decide +kernel
def M_X7_channel : gMt := (yX7_channel, cX7_channel, 3, (some .int), { frames := 6, cells := 1, slots := 6, locals := 90 }, [(0, .iload_n 1, 1, 0, 0), (1, .iconst 0, 2, 0, 0), (2, .iconst 1, 3, 0, 0), (3, .invokestatic 73, 6, 0, 0), (6, .ifCond .ne 13, 9, 19, 0), (12, .dup, 13, 0, 0), (13, .ldc 85, 15, 0, 0), (15, .invokespecial 87, 18, 0, 0), (18, .athrow, 19, 0, 0), (19, .iload_n 2, 20, 0, 0), (20, .iconst 0, 21, 0, 0), (21, .iconst 5, 22, 0, 0), (22, .invokestatic 73, 25, 0, 0), (25, .ifCond .ne 13, 28, 38, 0), (31, .dup, 32, 0, 0), (32, .ldc 77, 34, 0, 0), (34, .invokespecial 45, 37, 0, 0), (37, .athrow, 38, 0, 0), (38, .aload_n 0, 39, 0, 0), (39, .getfield 23, 42, 7, 3), (42, .iload_n 1, 43, 0, 0), (43, .invokevirtual 88, 46, 0, 0), (46, .iload_n 2, 47, 0, 0), (47, .aload_n 0, 48, 0, 0), (48, .getfield 23, 51, 7, 3), (51, .getfield 92, 54, 6, 0), (54, .invokevirtual 95, 57, 0, 0), (57, .ireturn, 58, 0, 0)], [])
theorem ok_X7_channel : g_ok M_X7_channel := by
  show (m_code M_X7_channel).all (g_ent M_X7_channel) = true
  decide +kernel
def M_X7_message : gMt := (yX7_message, cX7_message, 3, (some .int), { frames := 6, cells := 1, slots := 6, locals := 90 }, [(0, .aload_n 0, 1, 0, 0), (1, .getfield 23, 4, 7, 3), (4, .iload_n 1, 5, 0, 0), (5, .invokevirtual 100, 8, 0, 0), (8, .ifCond .ne 13, 11, 21, 0), (14, .dup, 15, 0, 0), (15, .ldc 104, 17, 0, 0), (17, .invokespecial 87, 20, 0, 0), (20, .athrow, 21, 0, 0), (21, .iload_n 2, 22, 0, 0), (22, .iconst 0, 23, 0, 0), (23, .bipush 9, 25, 0, 0), (25, .invokestatic 73, 28, 0, 0), (28, .ifCond .ne 13, 31, 41, 0), (34, .dup, 35, 0, 0), (35, .ldc 77, 37, 0, 0), (37, .invokespecial 45, 40, 0, 0), (40, .athrow, 41, 0, 0), (41, .aload_n 0, 42, 0, 0), (42, .getfield 23, 45, 7, 3), (45, .iload_n 1, 46, 0, 0), (46, .invokevirtual 106, 49, 0, 0), (49, .iload_n 2, 50, 0, 0), (50, .invokevirtual 110, 53, 0, 0), (53, .ireturn, 54, 0, 0)], [])
theorem ok_X7_message : g_ok M_X7_message := by
  show (m_code M_X7_message).all (g_ent M_X7_message) = true
  decide +kernel
def M_X7_letter : gMt := (yX7_letter, cX7_letter, 5, (some .int), { frames := 6, cells := 1, slots := 6, locals := 90 }, [(0, .aload_n 0, 1, 0, 0), (1, .getfield 23, 4, 7, 3), (4, .iload_n 1, 5, 0, 0), (5, .invokevirtual 100, 8, 0, 0), (8, .ifCond .ne 13, 11, 21, 0), (14, .dup, 15, 0, 0), (15, .ldc 104, 17, 0, 0), (17, .invokespecial 87, 20, 0, 0), (20, .athrow, 21, 0, 0), (21, .aload_n 0, 22, 0, 0), (22, .getfield 23, 25, 7, 3), (25, .iload_n 1, 26, 0, 0), (26, .invokevirtual 106, 29, 0, 0), (29, .astore 4, 31, 0, 0), (31, .aload 4, 33, 0, 0), (33, .iload_n 2, 34, 0, 0), (34, .invokevirtual 113, 37, 0, 0), (37, .ifCond .ne 13, 40, 50, 0), (43, .dup, 44, 0, 0), (44, .ldc 118, 46, 0, 0), (46, .invokespecial 120, 49, 0, 0), (49, .athrow, 50, 0, 0), (50, .iload_n 3, 51, 0, 0), (51, .ifCond .eq 12, 54, 63, 0), (54, .aload 4, 56, 0, 0), (56, .iload_n 2, 57, 0, 0), (57, .invokevirtual 121, 60, 0, 0), (60, .goto 9, 63, 69, 0), (63, .aload 4, 65, 0, 0), (65, .iload_n 2, 66, 0, 0), (66, .invokevirtual 124, 69, 0, 0), (69, .ireturn, 70, 0, 0)], [])
theorem ok_X7_letter : g_ok M_X7_letter := by
  show (m_code M_X7_letter).all (g_ent M_X7_letter) = true
  decide +kernel
def M_X7_why : gMt := (yX7_why, cX7_why, 4, (some .int), { frames := 6, cells := 1, slots := 6, locals := 90 }, [(0, .aload_n 0, 1, 0, 0), (1, .getfield 23, 4, 7, 3), (4, .iload_n 1, 5, 0, 0), (5, .invokevirtual 100, 8, 0, 0), (8, .ifCond .ne 13, 11, 21, 0), (14, .dup, 15, 0, 0), (15, .ldc 104, 17, 0, 0), (17, .invokespecial 87, 20, 0, 0), (20, .athrow, 21, 0, 0), (21, .aload_n 0, 22, 0, 0), (22, .getfield 23, 25, 7, 3), (25, .iload_n 1, 26, 0, 0), (26, .invokevirtual 106, 29, 0, 0), (29, .astore_n 3, 30, 0, 0), (30, .aload_n 3, 31, 0, 0), (31, .iload_n 2, 32, 0, 0), (32, .invokevirtual 113, 35, 0, 0), (35, .ifCond .ne 13, 38, 48, 0), (41, .dup, 42, 0, 0), (42, .ldc 118, 44, 0, 0), (44, .invokespecial 120, 47, 0, 0), (47, .athrow, 48, 0, 0), (48, .aload_n 3, 49, 0, 0), (49, .iload_n 2, 50, 0, 0), (50, .invokevirtual 127, 53, 0, 0), (53, .ireturn, 54, 0, 0)], [])
theorem ok_X7_why : g_ok M_X7_why := by
  show (m_code M_X7_why).all (g_ent M_X7_why) = true
  decide +kernel
def M_X7_mist : gMt := (yX7_mist, cX7_mist, 2, (some .int), { frames := 6, cells := 1, slots := 6, locals := 90 }, [(0, .iload_n 1, 1, 0, 0), (1, .iconst 0, 2, 0, 0), (2, .sipush 20000, 5, 0, 0), (5, .invokestatic 73, 8, 0, 0), (8, .ifCond .ne 13, 11, 21, 0), (14, .dup, 15, 0, 0), (15, .ldc 130, 17, 0, 0), (17, .invokespecial 45, 20, 0, 0), (20, .athrow, 21, 0, 0), (21, .aload_n 0, 22, 0, 0), (22, .getfield 23, 25, 7, 3), (25, .getfield 132, 28, 6, 15), (28, .iload_n 1, 29, 0, 0), (29, .invokevirtual 136, 32, 0, 0), (32, .ireturn, 33, 0, 0)], [])
theorem ok_X7_mist : g_ok M_X7_mist := by
  show (m_code M_X7_mist).all (g_ent M_X7_mist) = true
  decide +kernel
def M_X7_key : gMt := (yX7_key, cX7_key, 3, (some .int), { frames := 6, cells := 1, slots := 6, locals := 90 }, [(0, .iload_n 1, 1, 0, 0), (1, .iconst 0, 2, 0, 0), (2, .iconst 1, 3, 0, 0), (3, .invokestatic 73, 6, 0, 0), (6, .ifCond .ne 13, 9, 19, 0), (12, .dup, 13, 0, 0), (13, .ldc 141, 15, 0, 0), (15, .invokespecial 87, 18, 0, 0), (18, .athrow, 19, 0, 0), (19, .iload_n 2, 20, 0, 0), (20, .iconst 0, 21, 0, 0), (21, .sipush 20000, 24, 0, 0), (24, .invokestatic 73, 27, 0, 0), (27, .ifCond .ne 13, 30, 40, 0), (33, .dup, 34, 0, 0), (34, .ldc 130, 36, 0, 0), (36, .invokespecial 45, 39, 0, 0), (39, .athrow, 40, 0, 0), (40, .aload_n 0, 41, 0, 0), (41, .getfield 23, 44, 7, 3), (44, .iload_n 1, 45, 0, 0), (45, .invokevirtual 143, 48, 0, 0), (48, .iload_n 2, 49, 0, 0), (49, .invokevirtual 147, 52, 0, 0), (52, .ireturn, 53, 0, 0)], [])
theorem ok_X7_key : g_ok M_X7_key := by
  show (m_code M_X7_key).all (g_ent M_X7_key) = true
  decide +kernel
def M_X7_next : gMt := (yX7_next, cX7_next, 3, (some .int), { frames := 6, cells := 1, slots := 6, locals := 90 }, [(0, .aload_n 0, 1, 0, 0), (1, .getfield 23, 4, 7, 3), (4, .iload_n 1, 5, 0, 0), (5, .invokevirtual 152, 8, 0, 0), (8, .istore_n 2, 9, 0, 0), (9, .iload_n 2, 10, 0, 0), (10, .iconst (-1), 11, 0, 0), (11, .if_icmp .ne 13, 14, 24, 0), (17, .dup, 18, 0, 0), (18, .ldc 118, 20, 0, 0), (20, .invokespecial 120, 23, 0, 0), (23, .athrow, 24, 0, 0), (24, .iload_n 2, 25, 0, 0), (25, .ireturn, 26, 0, 0)], [])
theorem ok_X7_next : g_ok M_X7_next := by
  show (m_code M_X7_next).all (g_ent M_X7_next) = true
  decide +kernel
def M_X7_foretold : gMt := (yX7_foretold, cX7_foretold, 2, (some .int), { frames := 7, cells := 1, slots := 6, locals := 166 }, [(0, .iload_n 1, 1, 0, 0), (1, .iconst 0, 2, 0, 0), (2, .iconst 2, 3, 0, 0), (3, .invokestatic 73, 6, 0, 0), (6, .ifCond .ne 13, 9, 19, 0), (12, .dup, 13, 0, 0), (13, .ldc 77, 15, 0, 0), (15, .invokespecial 45, 18, 0, 0), (18, .athrow, 19, 0, 0), (19, .aload_n 0, 20, 0, 0), (20, .getfield 27, 23, 7, 4), (23, .aload_n 0, 24, 0, 0), (24, .getfield 23, 27, 7, 3), (27, .invokevirtual 67, 30, 0, 0), (30, .aload_n 0, 31, 0, 0), (31, .getfield 27, 34, 7, 4), (34, .iconst 0, 35, 0, 0), (35, .invokevirtual 155, 38, 0, 0), (38, .pop, 39, 0, 0), (39, .iload_n 1, 40, 0, 0), (40, .lookupswitch 66 #[(0, 28), (1, 58)], 68, 0, 0), (68, .aload_n 0, 69, 0, 0), (69, .getfield 27, 72, 7, 4), (72, .invokevirtual 159, 75, 0, 0), (75, .ifCond .eq 7, 78, 82, 0), (78, .iconst (-1), 79, 0, 0), (79, .goto 18, 82, 97, 0), (82, .aload_n 0, 83, 0, 0), (83, .getfield 27, 86, 7, 4), (86, .getfield 92, 89, 6, 0), (89, .aload_n 0, 90, 0, 0), (90, .getfield 23, 93, 7, 3), (93, .getfield 92, 96, 6, 0), (96, .isub, 97, 0, 0), (97, .ireturn, 98, 0, 0), (98, .aload_n 0, 99, 0, 0), (99, .getfield 27, 102, 7, 4), (102, .invokevirtual 163, 105, 0, 0), (105, .ireturn, 106, 0, 0), (106, .aload_n 0, 107, 0, 0), (107, .getfield 27, 110, 7, 4), (110, .getfield 167, 113, 6, 8), (113, .aload_n 0, 114, 0, 0), (114, .getfield 23, 117, 7, 3), (117, .getfield 167, 120, 6, 8), (120, .isub, 121, 0, 0), (121, .ireturn, 122, 0, 0)], [])
theorem ok_X7_foretold : g_ok M_X7_foretold := by
  show (m_code M_X7_foretold).all (g_ent M_X7_foretold) = true
  decide +kernel
def M_X7_leastPower : gMt := (yX7_leastPower, cX7_leastPower, 3, (some .int), { frames := 7, cells := 1, slots := 6, locals := 166 }, [(0, .iload_n 1, 1, 0, 0), (1, .iconst 0, 2, 0, 0), (2, .iconst 1, 3, 0, 0), (3, .invokestatic 73, 6, 0, 0), (6, .ifCond .ne 13, 9, 19, 0), (12, .dup, 13, 0, 0), (13, .ldc 85, 15, 0, 0), (15, .invokespecial 87, 18, 0, 0), (18, .athrow, 19, 0, 0), (19, .aload_n 0, 20, 0, 0), (20, .getfield 23, 23, 7, 3), (23, .invokevirtual 159, 26, 0, 0), (26, .ifCond .ne 5, 29, 31, 0), (29, .iconst 0, 30, 0, 0), (30, .ireturn, 31, 0, 0), (31, .iconst 0, 32, 0, 0), (32, .istore_n 2, 33, 0, 0), (33, .iload_n 2, 34, 0, 0), (34, .bipush 9, 36, 0, 0), (36, .if_icmp .gt 45, 39, 81, 0), (39, .aload_n 0, 40, 0, 0), (40, .getfield 27, 43, 7, 4), (43, .aload_n 0, 44, 0, 0), (44, .getfield 23, 47, 7, 3), (47, .invokevirtual 67, 50, 0, 0), (50, .aload_n 0, 51, 0, 0), (51, .getfield 27, 54, 7, 4), (54, .iload_n 1, 55, 0, 0), (55, .invokevirtual 88, 58, 0, 0), (58, .iload_n 2, 59, 0, 0), (59, .putfield 170, 62, 0, 0), (62, .aload_n 0, 63, 0, 0), (63, .getfield 27, 66, 7, 4), (66, .iconst 1, 67, 0, 0), (67, .invokevirtual 155, 70, 0, 0), (70, .ifCond .eq 5, 73, 75, 0), (73, .iload_n 2, 74, 0, 0), (74, .ireturn, 75, 0, 0), (75, .iinc 2 1, 78, 0, 0), (78, .goto (-45), 81, 33, 0), (81, .iconst (-1), 82, 0, 0), (82, .ireturn, 83, 0, 0)], [])
theorem ok_X7_leastPower : g_ok M_X7_leastPower := by
  show (m_code M_X7_leastPower).all (g_ent M_X7_leastPower) = true
  decide +kernel
def M_X7_pass : gMt := (yX7_pass, cX7_pass, 4, (some .int), { frames := 6, cells := 1, slots := 6, locals := 143 }, [(0, .iload_n 1, 1, 0, 0), (1, .iconst 1, 2, 0, 0), (2, .bipush 100, 4, 0, 0), (4, .invokestatic 73, 7, 0, 0), (7, .ifCond .ne 13, 10, 20, 0), (13, .dup, 14, 0, 0), (14, .ldc 182, 16, 0, 0), (16, .invokespecial 45, 19, 0, 0), (19, .athrow, 20, 0, 0), (20, .aload_n 0, 21, 0, 0), (21, .getfield 33, 24, 7, 5), (24, .aload_n 0, 25, 0, 0), (25, .getfield 23, 28, 7, 3), (28, .invokevirtual 63, 31, 0, 0), (31, .iconst 0, 32, 0, 0), (32, .istore_n 2, 33, 0, 0), (33, .iconst 0, 34, 0, 0), (34, .istore_n 3, 35, 0, 0), (35, .iload_n 3, 36, 0, 0), (36, .iload_n 1, 37, 0, 0), (37, .if_icmp .ge 23, 40, 60, 0), (40, .aload_n 0, 41, 0, 0), (41, .getfield 23, 44, 7, 3), (44, .invokevirtual 184, 47, 0, 0), (47, .iconst (-1), 48, 0, 0), (48, .if_icmp .eq 6, 51, 54, 0), (51, .iinc 2 1, 54, 0, 0), (54, .iinc 3 1, 57, 0, 0), (57, .goto (-22), 60, 35, 0), (60, .iload_n 2, 61, 0, 0), (61, .ireturn, 62, 0, 0)], [])
theorem ok_X7_pass : g_ok M_X7_pass := by
  show (m_code M_X7_pass).all (g_ent M_X7_pass) = true
  decide +kernel
def M_X7_buffersLetters : gMt := (yX7_buffersLetters, cX7_buffersLetters, 3, (some .boolean), { frames := 1, cells := 0, slots := 0, locals := 22 }, [(0, .iload_n 1, 1, 0, 0), (1, .iconst 1, 2, 0, 0), (2, .bipush 24, 4, 0, 0), (4, .invokestatic 73, 7, 0, 0), (7, .ifCond .eq 11, 10, 18, 0), (10, .iload_n 1, 11, 0, 0), (11, .aload_n 0, 12, 0, 0), (12, .getfield 13, 15, 7, 1), (15, .if_icmp .le 5, 18, 20, 0), (18, .iconst 0, 19, 0, 0), (19, .ireturn, 20, 0, 0), (20, .iconst 0, 21, 0, 0), (21, .istore_n 2, 22, 0, 0), (22, .iload_n 2, 23, 0, 0), (23, .iload_n 1, 24, 0, 0), (24, .if_icmp .ge 36, 27, 60, 0), (27, .iload_n 2, 28, 0, 0), (28, .aload_n 0, 29, 0, 0), (29, .getfield 9, 32, 7, 0), (32, .arraylength, 33, 0, 0), (33, .if_icmp .ge 27, 36, 60, 0), (36, .aload_n 0, 37, 0, 0), (37, .getfield 9, 40, 7, 0), (40, .iload_n 2, 41, 0, 0), (41, .baload, 42, 0, 0), (42, .bipush 97, 44, 0, 0), (44, .bipush 122, 46, 0, 0), (46, .invokestatic 73, 49, 0, 0), (49, .ifCond .ne 5, 52, 54, 0), (52, .iconst 0, 53, 0, 0), (53, .ireturn, 54, 0, 0), (54, .iinc 2 1, 57, 0, 0), (57, .goto (-35), 60, 22, 0), (60, .iconst 1, 61, 0, 0), (61, .ireturn, 62, 0, 0)], [])
theorem ok_X7_buffersLetters : g_ok M_X7_buffersLetters := by
  show (m_code M_X7_buffersLetters).all (g_ent M_X7_buffersLetters) = true
  decide +kernel
def M_X7_send : gMt := (yX7_send, cX7_send, 4, (some .int), { frames := 6, cells := 1, slots := 6, locals := 134 }, [(0, .iload_n 1, 1, 0, 0), (1, .iconst 0, 2, 0, 0), (2, .iconst 1, 3, 0, 0), (3, .invokestatic 73, 6, 0, 0), (6, .ifCond .ne 13, 9, 19, 0), (12, .dup, 13, 0, 0), (13, .ldc 141, 15, 0, 0), (15, .invokespecial 87, 18, 0, 0), (18, .athrow, 19, 0, 0), (19, .iload_n 2, 20, 0, 0), (20, .iconst 0, 21, 0, 0), (21, .bipush 9, 23, 0, 0), (23, .invokestatic 73, 26, 0, 0), (26, .ifCond .eq 11, 29, 37, 0), (29, .aload_n 0, 30, 0, 0), (30, .iload_n 3, 31, 0, 0), (31, .invokevirtual 187, 34, 0, 0), (34, .ifCond .ne 13, 37, 47, 0), (40, .dup, 41, 0, 0), (41, .ldc 190, 43, 0, 0), (43, .invokespecial 45, 46, 0, 0), (46, .athrow, 47, 0, 0), (47, .aload_n 0, 48, 0, 0), (48, .getfield 23, 51, 7, 3), (51, .getfield 70, 54, 6, 1), (54, .bipush 8, 56, 0, 0), (56, .if_icmp .lt 13, 59, 69, 0), (62, .dup, 63, 0, 0), (63, .ldc 194, 65, 0, 0), (65, .invokespecial 196, 68, 0, 0), (68, .athrow, 69, 0, 0), (69, .aload_n 0, 70, 0, 0), (70, .getfield 33, 73, 7, 5), (73, .aload_n 0, 74, 0, 0), (74, .getfield 23, 77, 7, 3), (77, .invokevirtual 63, 80, 0, 0), (80, .aload_n 0, 81, 0, 0), (81, .getfield 23, 84, 7, 3), (84, .iload_n 1, 85, 0, 0), (85, .iload_n 2, 86, 0, 0), (86, .aload_n 0, 87, 0, 0), (87, .getfield 9, 90, 7, 0), (90, .iconst 0, 91, 0, 0), (91, .iload_n 3, 92, 0, 0), (92, .invokevirtual 197, 95, 0, 0), (95, .aload_n 0, 96, 0, 0), (96, .iconst 0, 97, 0, 0), (97, .putfield 13, 100, 7, 1), (100, .aload_n 0, 101, 0, 0), (101, .getfield 23, 104, 7, 3), (104, .getfield 70, 107, 6, 1), (107, .iconst 1, 108, 0, 0), (108, .isub, 109, 0, 0), (109, .ireturn, 110, 0, 0)], [])
theorem ok_X7_send : g_ok M_X7_send := by
  show (m_code M_X7_send).all (g_ent M_X7_send) = true
  decide +kernel
def M_X7_fog : gMt := (yX7_fog, cX7_fog, 4, (some .int), { frames := 6, cells := 1, slots := 6, locals := 134 }, [(0, .iload_n 1, 1, 0, 0), (1, .iconst 0, 2, 0, 0), (2, .sipush 9999, 5, 0, 0), (5, .invokestatic 73, 8, 0, 0), (8, .ifCond .eq 24, 11, 32, 0), (11, .iload_n 2, 12, 0, 0), (12, .iload_n 1, 13, 0, 0), (13, .sipush 9999, 16, 0, 0), (16, .invokestatic 73, 19, 0, 0), (19, .ifCond .eq 13, 22, 32, 0), (22, .iload_n 3, 23, 0, 0), (23, .iconst 0, 24, 0, 0), (24, .bipush 9, 26, 0, 0), (26, .invokestatic 73, 29, 0, 0), (29, .ifCond .ne 13, 32, 42, 0), (35, .dup, 36, 0, 0), (36, .ldc 201, 38, 0, 0), (38, .invokespecial 45, 41, 0, 0), (41, .athrow, 42, 0, 0), (42, .aload_n 0, 43, 0, 0), (43, .getfield 23, 46, 7, 3), (46, .getfield 132, 49, 6, 15), (49, .invokevirtual 203, 52, 0, 0), (52, .ifCond .eq 13, 55, 65, 0), (58, .dup, 59, 0, 0), (59, .ldc 206, 61, 0, 0), (61, .invokespecial 196, 64, 0, 0), (64, .athrow, 65, 0, 0), (65, .aload_n 0, 66, 0, 0), (66, .getfield 33, 69, 7, 5), (69, .aload_n 0, 70, 0, 0), (70, .getfield 23, 73, 7, 3), (73, .invokevirtual 63, 76, 0, 0), (76, .aload_n 0, 77, 0, 0), (77, .getfield 23, 80, 7, 3), (80, .getfield 132, 83, 6, 15), (83, .iload_n 1, 84, 0, 0), (84, .iload_n 2, 85, 0, 0), (85, .iload_n 3, 86, 0, 0), (86, .invokevirtual 207, 89, 0, 0), (89, .aload_n 0, 90, 0, 0), (90, .getfield 23, 93, 7, 3), (93, .getfield 132, 96, 6, 15), (96, .getfield 211, 99, 4, 0), (99, .ireturn, 100, 0, 0)], [])
theorem ok_X7_fog : g_ok M_X7_fog := by
  show (m_code M_X7_fog).all (g_ent M_X7_fog) = true
  decide +kernel
def M_X7_relieve : gMt := (yX7_relieve, cX7_relieve, 5, (some .int), { frames := 6, cells := 1, slots := 6, locals := 134 }, [(0, .iload_n 1, 1, 0, 0), (1, .iconst 0, 2, 0, 0), (2, .iconst 1, 3, 0, 0), (3, .invokestatic 73, 6, 0, 0), (6, .ifCond .ne 13, 9, 19, 0), (12, .dup, 13, 0, 0), (13, .ldc 141, 15, 0, 0), (15, .invokespecial 87, 18, 0, 0), (18, .athrow, 19, 0, 0), (19, .iload_n 2, 20, 0, 0), (20, .iconst 0, 21, 0, 0), (21, .bipush 25, 23, 0, 0), (23, .invokestatic 73, 26, 0, 0), (26, .ifCond .ne 13, 29, 39, 0), (32, .dup, 33, 0, 0), (33, .ldc 212, 35, 0, 0), (35, .invokespecial 45, 38, 0, 0), (38, .athrow, 39, 0, 0), (39, .aload_n 0, 40, 0, 0), (40, .getfield 23, 43, 7, 3), (43, .iload_n 1, 44, 0, 0), (44, .invokevirtual 143, 47, 0, 0), (47, .astore_n 3, 48, 0, 0), (48, .aload_n 0, 49, 0, 0), (49, .getfield 23, 52, 7, 3), (52, .getfield 92, 55, 6, 0), (55, .sipush 9999, 58, 0, 0), (58, .if_icmp .gt 24, 61, 82, 0), (61, .aload_n 3, 62, 0, 0), (62, .invokevirtual 214, 65, 0, 0), (65, .ifCond .eq 27, 68, 92, 0), (68, .aload_n 3, 69, 0, 0), (69, .aload_n 0, 70, 0, 0), (70, .getfield 23, 73, 7, 3), (73, .getfield 92, 76, 6, 0), (76, .invokevirtual 215, 79, 0, 0), (79, .ifCond .ne 13, 82, 92, 0), (85, .dup, 86, 0, 0), (86, .ldc 218, 88, 0, 0), (88, .invokespecial 196, 91, 0, 0), (91, .athrow, 92, 0, 0), (92, .aload_n 0, 93, 0, 0), (93, .getfield 33, 96, 7, 5), (96, .aload_n 0, 97, 0, 0), (97, .getfield 23, 100, 7, 3), (100, .invokevirtual 63, 103, 0, 0), (103, .aload_n 3, 104, 0, 0), (104, .aload_n 0, 105, 0, 0), (105, .getfield 23, 108, 7, 3), (108, .getfield 92, 111, 6, 0), (111, .invokevirtual 147, 114, 0, 0), (114, .istore 4, 116, 0, 0), (116, .aload_n 3, 117, 0, 0), (117, .aload_n 0, 118, 0, 0), (118, .getfield 23, 121, 7, 3), (121, .getfield 92, 124, 6, 0), (124, .iload_n 2, 125, 0, 0), (125, .invokevirtual 220, 128, 0, 0), (128, .iload 4, 130, 0, 0), (130, .ireturn, 131, 0, 0)], [])
theorem ok_X7_relieve : g_ok M_X7_relieve := by
  show (m_code M_X7_relieve).all (g_ent M_X7_relieve) = true
  decide +kernel
def M_X7_power : gMt := (yX7_power, cX7_power, 5, (some .int), { frames := 6, cells := 1, slots := 6, locals := 134 }, [(0, .iload_n 1, 1, 0, 0), (1, .iconst 0, 2, 0, 0), (2, .iconst 1, 3, 0, 0), (3, .invokestatic 73, 6, 0, 0), (6, .ifCond .ne 13, 9, 19, 0), (12, .dup, 13, 0, 0), (13, .ldc 85, 15, 0, 0), (15, .invokespecial 87, 18, 0, 0), (18, .athrow, 19, 0, 0), (19, .iload_n 2, 20, 0, 0), (20, .iconst 0, 21, 0, 0), (21, .bipush 9, 23, 0, 0), (23, .invokestatic 73, 26, 0, 0), (26, .ifCond .ne 13, 29, 39, 0), (32, .dup, 33, 0, 0), (33, .ldc 224, 35, 0, 0), (35, .invokespecial 45, 38, 0, 0), (38, .athrow, 39, 0, 0), (39, .aload_n 0, 40, 0, 0), (40, .getfield 33, 43, 7, 5), (43, .aload_n 0, 44, 0, 0), (44, .getfield 23, 47, 7, 3), (47, .invokevirtual 63, 50, 0, 0), (50, .aload_n 0, 51, 0, 0), (51, .getfield 23, 54, 7, 3), (54, .iload_n 1, 55, 0, 0), (55, .invokevirtual 88, 58, 0, 0), (58, .astore_n 3, 59, 0, 0), (59, .aload_n 3, 60, 0, 0), (60, .getfield 170, 63, 0, 0), (63, .istore 4, 65, 0, 0), (65, .aload_n 3, 66, 0, 0), (66, .iload_n 2, 67, 0, 0), (67, .putfield 170, 70, 0, 0), (70, .iload 4, 72, 0, 0), (72, .ireturn, 73, 0, 0)], [])
theorem ok_X7_power : g_ok M_X7_power := by
  show (m_code M_X7_power).all (g_ent M_X7_power) = true
  decide +kernel
def M_X7_cancel : gMt := (yX7_cancel, cX7_cancel, 2, (some .boolean), { frames := 6, cells := 1, slots := 6, locals := 134 }, [(0, .aload_n 0, 1, 0, 0), (1, .getfield 23, 4, 7, 3), (4, .iload_n 1, 5, 0, 0), (5, .invokevirtual 100, 8, 0, 0), (8, .ifCond .ne 13, 11, 21, 0), (14, .dup, 15, 0, 0), (15, .ldc 104, 17, 0, 0), (17, .invokespecial 87, 20, 0, 0), (20, .athrow, 21, 0, 0), (21, .aload_n 0, 22, 0, 0), (22, .getfield 23, 25, 7, 3), (25, .iload_n 1, 26, 0, 0), (26, .invokevirtual 106, 29, 0, 0), (29, .invokevirtual 225, 32, 0, 0), (32, .ifCond .ne 13, 35, 45, 0), (38, .dup, 39, 0, 0), (39, .ldc 228, 41, 0, 0), (41, .invokespecial 196, 44, 0, 0), (44, .athrow, 45, 0, 0), (45, .aload_n 0, 46, 0, 0), (46, .getfield 33, 49, 7, 5), (49, .aload_n 0, 50, 0, 0), (50, .getfield 23, 53, 7, 3), (53, .invokevirtual 63, 56, 0, 0), (56, .aload_n 0, 57, 0, 0), (57, .getfield 23, 60, 7, 3), (60, .iload_n 1, 61, 0, 0), (61, .invokevirtual 230, 64, 0, 0), (64, .ireturn, 65, 0, 0)], [])
theorem ok_X7_cancel : g_ok M_X7_cancel := by
  show (m_code M_X7_cancel).all (g_ent M_X7_cancel) = true
  decide +kernel
def M_X7_undo : gMt := (yX7_undo, cX7_undo, 1, (some .int), { frames := 5, cells := 0, slots := 0, locals := 135 }, [(0, .aload_n 0, 1, 0, 0), (1, .getfield 33, 4, 7, 5), (4, .aload_n 0, 5, 0, 0), (5, .getfield 23, 8, 7, 3), (8, .invokevirtual 233, 11, 0, 0), (11, .ifCond .eq 13, 14, 24, 0), (14, .aload_n 0, 15, 0, 0), (15, .getfield 33, 18, 7, 5), (18, .getfield 236, 21, 1, 2), (21, .goto 4, 24, 25, 0), (24, .iconst (-1), 25, 0, 0), (25, .ireturn, 26, 0, 0)], [])
theorem ok_X7_undo : g_ok M_X7_undo := by
  show (m_code M_X7_undo).all (g_ent M_X7_undo) = true
  decide +kernel
def M_X7_checksum : gMt := (yX7_checksum, cX7_checksum, 5, (some .long), { frames := 6, cells := 0, slots := 0, locals := 127 }, [(0, .lconst 0, 1, 0, 0), (1, .lstore_n 1, 2, 0, 0), (2, .iconst 0, 3, 0, 0), (3, .istore_n 3, 4, 0, 0), (4, .iload_n 3, 5, 0, 0), (5, .bipush 13, 7, 0, 0), (7, .if_icmp .ge 25, 10, 32, 0), (10, .ldc2_w 239, 13, 0, 0), (13, .lload_n 1, 14, 0, 0), (14, .lmul, 15, 0, 0), (15, .aload_n 0, 16, 0, 0), (16, .getfield 23, 19, 7, 3), (19, .iload_n 3, 20, 0, 0), (20, .invokevirtual 79, 23, 0, 0), (23, .i2l, 24, 0, 0), (24, .ladd, 25, 0, 0), (25, .lstore_n 1, 26, 0, 0), (26, .iinc 3 1, 29, 0, 0), (29, .goto (-25), 32, 4, 0), (32, .iconst 0, 33, 0, 0), (33, .istore_n 3, 34, 0, 0), (34, .iload_n 3, 35, 0, 0), (35, .iconst 2, 36, 0, 0), (36, .if_icmp .ge 53, 39, 89, 0), (39, .iconst 0, 40, 0, 0), (40, .istore 4, 42, 0, 0), (42, .iload 4, 44, 0, 0), (44, .bipush 6, 46, 0, 0), (46, .if_icmp .ge 37, 49, 83, 0), (49, .ldc2_w 239, 52, 0, 0), (52, .lload_n 1, 53, 0, 0), (53, .lmul, 54, 0, 0), (54, .aload_n 0, 55, 0, 0), (55, .getfield 23, 58, 7, 3), (58, .iload_n 3, 59, 0, 0), (59, .invokevirtual 88, 62, 0, 0), (62, .iload 4, 64, 0, 0), (64, .aload_n 0, 65, 0, 0), (65, .getfield 23, 68, 7, 3), (68, .getfield 92, 71, 6, 0), (71, .invokevirtual 95, 74, 0, 0), (74, .i2l, 75, 0, 0), (75, .ladd, 76, 0, 0), (76, .lstore_n 1, 77, 0, 0), (77, .iinc 4 1, 80, 0, 0), (80, .goto (-38), 83, 42, 0), (83, .iinc 3 1, 86, 0, 0), (86, .goto (-52), 89, 34, 0), (89, .iconst 0, 90, 0, 0), (90, .istore_n 3, 91, 0, 0), (91, .iload_n 3, 92, 0, 0), (92, .aload_n 0, 93, 0, 0), (93, .getfield 23, 96, 7, 3), (96, .getfield 70, 99, 6, 1), (99, .if_icmp .ge 22, 102, 121, 0), (102, .aload_n 0, 103, 0, 0), (103, .getfield 23, 106, 7, 3), (106, .iload_n 3, 107, 0, 0), (107, .invokevirtual 106, 110, 0, 0), (110, .lload_n 1, 111, 0, 0), (111, .invokevirtual 241, 114, 0, 0), (114, .lstore_n 1, 115, 0, 0), (115, .iinc 3 1, 118, 0, 0), (118, .goto (-27), 121, 91, 0), (121, .lload_n 1, 122, 0, 0), (122, .lreturn, 123, 0, 0)], [])
theorem ok_X7_checksum : g_ok M_X7_checksum := by
  show (m_code M_X7_checksum).all (g_ent M_X7_checksum) = true
  decide +kernel
end
section
def f_X0_init (h : gH) (a0 : Nat) : Option gH :=
  (g_mk h (.inl (0, 8, .inl fun _ => 0))).bind fun h7 =>
  (g_put h7 a0 0 7 (.ref h.1)).bind fun h9 =>
  some h9
set_option maxRecDepth 100000 in
theorem ct_X0_init {l : Launch} {G : gG} {h : gH} {a0 : Nat} {h1 : gH} (e : f_X0_init h a0 = some h1) : Ct l G M_X0_init [.ref a0] h none h1 := by
  refine Ct_of (L := [some (.ref a0)]) ok_X0_init (by decide +kernel) rfl rfl rfl (ρ := g_wU) (F := f_X0_init h a0) ?_ e rfl
  unfold f_X0_init
  refine X_aload_n rfl rfl rfl ?_
  refine X_objInit rfl rfl (by decide +kernel) (by decide +kernel) (by decide +kernel) rfl rfl ?_
  refine X_aload_n rfl rfl rfl ?_
  refine X_bipush (v := 8) rfl rfl (by decide) ?_
  refine X_newarrO (t := 0) (N := 8) (y := (8, .inl fun _ => 0)) (k1 := 1) (n1 := 8) rfl rfl rfl rfl (by decide +kernel) rfl (by decide) (by decide) rfl rfl rfl (fun _ => rfl) (fun h7 => ?_)
  refine X_putF rfl rfl rfl rfl rfl rfl rfl (fun h9 => ?_)
  exact X_vret rfl rfl rfl rfl rfl rfl
def f_X2_init (h : gH) (a0 : Nat) : Option gH :=
  (g_put h a0 2 0 (.int 0)).bind fun h6 =>
  (g_mk h6 (.inl (0, 8, .inl fun _ => 0))).bind fun h12 =>
  (g_put h12 a0 2 1 (.ref h6.1)).bind fun h14 =>
  (g_mk h14 (.inl (0, 8, .inl fun _ => 0))).bind fun h20 =>
  (g_put h20 a0 2 2 (.ref h14.1)).bind fun h22 =>
  some h22
set_option maxRecDepth 100000 in
theorem ct_X2_init {l : Launch} {G : gG} {h : gH} {a0 : Nat} {h1 : gH} (e : f_X2_init h a0 = some h1) : Ct l G M_X2_init [.ref a0] h none h1 := by
  refine Ct_of (L := [some (.ref a0)]) ok_X2_init (by decide +kernel) rfl rfl rfl (ρ := g_wU) (F := f_X2_init h a0) ?_ e rfl
  unfold f_X2_init
  refine X_aload_n rfl rfl rfl ?_
  refine X_objInit rfl rfl (by decide +kernel) (by decide +kernel) (by decide +kernel) rfl rfl ?_
  refine X_aload_n rfl rfl rfl ?_
  refine X_iconst (v := 0) rfl rfl (by decide) ?_
  refine X_put rfl rfl rfl rfl rfl (fun h6 => ?_)
  refine X_aload_n rfl rfl rfl ?_
  refine X_bipush (v := 8) rfl rfl (by decide) ?_
  refine X_newarrO (t := 0) (N := 8) (y := (8, .inl fun _ => 0)) (k1 := 1) (n1 := 8) rfl rfl rfl rfl (by decide +kernel) rfl (by decide) (by decide) rfl rfl rfl (fun _ => rfl) (fun h12 => ?_)
  refine X_putF rfl rfl rfl rfl rfl rfl rfl (fun h14 => ?_)
  refine X_aload_n rfl rfl rfl ?_
  refine X_bipush (v := 8) rfl rfl (by decide) ?_
  refine X_newarrO (t := 0) (N := 8) (y := (8, .inl fun _ => 0)) (k1 := 2) (n1 := 16) rfl rfl rfl rfl (by decide +kernel) rfl (by decide) (by decide) rfl rfl rfl (fun _ => rfl) (fun h20 => ?_)
  refine X_putF rfl rfl rfl rfl rfl rfl rfl (fun h22 => ?_)
  exact X_vret rfl rfl rfl rfl rfl rfl
def f_X4_init (h : gH) (a0 : Nat) : Option gH :=
  (g_put h a0 4 0 (.int 0)).bind fun h6 =>
  (g_mk h6 (.inl (0, 12, .inl fun _ => 0))).bind fun h12 =>
  (g_put h12 a0 4 1 (.ref h6.1)).bind fun h14 =>
  (g_mk h14 (.inl (0, 12, .inl fun _ => 0))).bind fun h20 =>
  (g_put h20 a0 4 2 (.ref h14.1)).bind fun h22 =>
  (g_mk h22 (.inl (0, 12, .inl fun _ => 0))).bind fun h28 =>
  (g_put h28 a0 4 3 (.ref h22.1)).bind fun h30 =>
  some h30
set_option maxRecDepth 100000 in
theorem ct_X4_init {l : Launch} {G : gG} {h : gH} {a0 : Nat} {h1 : gH} (e : f_X4_init h a0 = some h1) : Ct l G M_X4_init [.ref a0] h none h1 := by
  refine Ct_of (L := [some (.ref a0)]) ok_X4_init (by decide +kernel) rfl rfl rfl (ρ := g_wU) (F := f_X4_init h a0) ?_ e rfl
  unfold f_X4_init
  refine X_aload_n rfl rfl rfl ?_
  refine X_objInit rfl rfl (by decide +kernel) (by decide +kernel) (by decide +kernel) rfl rfl ?_
  refine X_aload_n rfl rfl rfl ?_
  refine X_iconst (v := 0) rfl rfl (by decide) ?_
  refine X_put rfl rfl rfl rfl rfl (fun h6 => ?_)
  refine X_aload_n rfl rfl rfl ?_
  refine X_bipush (v := 12) rfl rfl (by decide) ?_
  refine X_newarrO (t := 0) (N := 12) (y := (12, .inl fun _ => 0)) (k1 := 1) (n1 := 12) rfl rfl rfl rfl (by decide +kernel) rfl (by decide) (by decide) rfl rfl rfl (fun _ => rfl) (fun h12 => ?_)
  refine X_putF rfl rfl rfl rfl rfl rfl rfl (fun h14 => ?_)
  refine X_aload_n rfl rfl rfl ?_
  refine X_bipush (v := 12) rfl rfl (by decide) ?_
  refine X_newarrO (t := 0) (N := 12) (y := (12, .inl fun _ => 0)) (k1 := 2) (n1 := 24) rfl rfl rfl rfl (by decide +kernel) rfl (by decide) (by decide) rfl rfl rfl (fun _ => rfl) (fun h20 => ?_)
  refine X_putF rfl rfl rfl rfl rfl rfl rfl (fun h22 => ?_)
  refine X_aload_n rfl rfl rfl ?_
  refine X_bipush (v := 12) rfl rfl (by decide) ?_
  refine X_newarrO (t := 0) (N := 12) (y := (12, .inl fun _ => 0)) (k1 := 3) (n1 := 36) rfl rfl rfl rfl (by decide +kernel) rfl (by decide) (by decide) rfl rfl rfl (fun _ => rfl) (fun h28 => ?_)
  refine X_putF rfl rfl rfl rfl rfl rfl rfl (fun h30 => ?_)
  exact X_vret rfl rfl rfl rfl rfl rfl
def f_X3_init (h : gH) (a0 : Nat) : Option gH :=
  (g_mk h (.inl (0, 24, .inl fun _ => 0))).bind fun h7 =>
  (g_put h7 a0 3 9 (.ref h.1)).bind fun h9 =>
  (g_mk h9 (.inl (0, 24, .inl fun _ => 0))).bind fun h15 =>
  (g_put h15 a0 3 10 (.ref h9.1)).bind fun h17 =>
  (g_mk h17 (.inl (0, 24, .inl fun _ => 0))).bind fun h23 =>
  (g_put h23 a0 3 11 (.ref h17.1)).bind fun h25 =>
  (g_mk h25 (.inl (0, 24, .inl fun _ => 0))).bind fun h31 =>
  (g_put h31 a0 3 12 (.ref h25.1)).bind fun h33 =>
  some h33
set_option maxRecDepth 100000 in
theorem ct_X3_init {l : Launch} {G : gG} {h : gH} {a0 : Nat} {h1 : gH} (e : f_X3_init h a0 = some h1) : Ct l G M_X3_init [.ref a0] h none h1 := by
  refine Ct_of (L := [some (.ref a0)]) ok_X3_init (by decide +kernel) rfl rfl rfl (ρ := g_wU) (F := f_X3_init h a0) ?_ e rfl
  unfold f_X3_init
  refine X_aload_n rfl rfl rfl ?_
  refine X_objInit rfl rfl (by decide +kernel) (by decide +kernel) (by decide +kernel) rfl rfl ?_
  refine X_aload_n rfl rfl rfl ?_
  refine X_bipush (v := 24) rfl rfl (by decide) ?_
  refine X_newarrO (t := 0) (N := 24) (y := (24, .inl fun _ => 0)) (k1 := 1) (n1 := 24) rfl rfl rfl rfl (by decide +kernel) rfl (by decide) (by decide) rfl rfl rfl (fun _ => rfl) (fun h7 => ?_)
  refine X_putF rfl rfl rfl rfl rfl rfl rfl (fun h9 => ?_)
  refine X_aload_n rfl rfl rfl ?_
  refine X_bipush (v := 24) rfl rfl (by decide) ?_
  refine X_newarrO (t := 0) (N := 24) (y := (24, .inl fun _ => 0)) (k1 := 2) (n1 := 48) rfl rfl rfl rfl (by decide +kernel) rfl (by decide) (by decide) rfl rfl rfl (fun _ => rfl) (fun h15 => ?_)
  refine X_putF rfl rfl rfl rfl rfl rfl rfl (fun h17 => ?_)
  refine X_aload_n rfl rfl rfl ?_
  refine X_bipush (v := 24) rfl rfl (by decide) ?_
  refine X_newarrO (t := 0) (N := 24) (y := (24, .inl fun _ => 0)) (k1 := 3) (n1 := 72) rfl rfl rfl rfl (by decide +kernel) rfl (by decide) (by decide) rfl rfl rfl (fun _ => rfl) (fun h23 => ?_)
  refine X_putF rfl rfl rfl rfl rfl rfl rfl (fun h25 => ?_)
  refine X_aload_n rfl rfl rfl ?_
  refine X_bipush (v := 24) rfl rfl (by decide) ?_
  refine X_newarrO (t := 0) (N := 24) (y := (24, .inl fun _ => 0)) (k1 := 4) (n1 := 96) rfl rfl rfl rfl (by decide +kernel) rfl (by decide) (by decide) rfl rfl rfl (fun _ => rfl) (fun h31 => ?_)
  refine X_putF rfl rfl rfl rfl rfl rfl rfl (fun h33 => ?_)
  exact X_vret rfl rfl rfl rfl rfl rfl
def f_X6_init (h : gH) (a0 : Nat) : Option gH :=
  (g_mk h (.inl (4, 8, .inr (.inr (.inr (.inr (fun _ => none))))))).bind fun h7 =>
  (g_put h7 a0 6 9 (.ref h.1)).bind fun h10 =>
  (g_mk h10 (.inr (3, g_dfl 3))).bind fun h14 =>
  (f_X3_init h14 h10.1).bind fun h18 =>
  (g_put h18 a0 6 10 (.ref h10.1)).bind fun h21 =>
  (g_mk h21 (.inr (0, g_dfl 0))).bind fun h25 =>
  (f_X0_init h25 h21.1).bind fun h29 =>
  (g_put h29 a0 6 11 (.ref h21.1)).bind fun h32 =>
  (g_mk h32 (.inr (0, g_dfl 0))).bind fun h36 =>
  (f_X0_init h36 h32.1).bind fun h40 =>
  (g_put h40 a0 6 12 (.ref h32.1)).bind fun h43 =>
  (g_mk h43 (.inr (2, g_dfl 2))).bind fun h47 =>
  (f_X2_init h47 h43.1).bind fun h51 =>
  (g_put h51 a0 6 13 (.ref h43.1)).bind fun h54 =>
  (g_mk h54 (.inr (2, g_dfl 2))).bind fun h58 =>
  (f_X2_init h58 h54.1).bind fun h62 =>
  (g_put h62 a0 6 14 (.ref h54.1)).bind fun h65 =>
  (g_mk h65 (.inr (4, g_dfl 4))).bind fun h69 =>
  (f_X4_init h69 h65.1).bind fun h73 =>
  (g_put h73 a0 6 15 (.ref h65.1)).bind fun h76 =>
  (g_gA h76 a0 6 9).bind fun v83 =>
  (g_aln h76 v83).bind fun v86 =>
  (if 0 < v86 then
  (g_gA h76 a0 6 9).bind fun v91 =>
  (g_mk h76 (.inr (3, g_dfl 3))).bind fun h95_0 =>
  (f_X3_init h95_0 h76.1).bind fun h99_0 =>
  bif g_is h99_0 h76.1 3 then (g_qst h99_0 v91 4 0 h76.1).bind fun h102_0 =>
  (g_gA h102_0 a0 6 9).bind fun v83 =>
  (g_aln h102_0 v83).bind fun v86 =>
  (if (0 + 1) < v86 then
  (g_gA h102_0 a0 6 9).bind fun v91 =>
  (g_mk h102_0 (.inr (3, g_dfl 3))).bind fun h95_1 =>
  (f_X3_init h95_1 h102_0.1).bind fun h99_1 =>
  bif g_is h99_1 h102_0.1 3 then (g_qst h99_1 v91 4 (0 + 1) h102_0.1).bind fun h102_1 =>
  (g_gA h102_1 a0 6 9).bind fun v83 =>
  (g_aln h102_1 v83).bind fun v86 =>
  (if ((0 + 1) + 1) < v86 then
  (g_gA h102_1 a0 6 9).bind fun v91 =>
  (g_mk h102_1 (.inr (3, g_dfl 3))).bind fun h95_2 =>
  (f_X3_init h95_2 h102_1.1).bind fun h99_2 =>
  bif g_is h99_2 h102_1.1 3 then (g_qst h99_2 v91 4 ((0 + 1) + 1) h102_1.1).bind fun h102_2 =>
  (g_gA h102_2 a0 6 9).bind fun v83 =>
  (g_aln h102_2 v83).bind fun v86 =>
  (if (((0 + 1) + 1) + 1) < v86 then
  (g_gA h102_2 a0 6 9).bind fun v91 =>
  (g_mk h102_2 (.inr (3, g_dfl 3))).bind fun h95_3 =>
  (f_X3_init h95_3 h102_2.1).bind fun h99_3 =>
  bif g_is h99_3 h102_2.1 3 then (g_qst h99_3 v91 4 (((0 + 1) + 1) + 1) h102_2.1).bind fun h102_3 =>
  (g_gA h102_3 a0 6 9).bind fun v83 =>
  (g_aln h102_3 v83).bind fun v86 =>
  (if ((((0 + 1) + 1) + 1) + 1) < v86 then
  (g_gA h102_3 a0 6 9).bind fun v91 =>
  (g_mk h102_3 (.inr (3, g_dfl 3))).bind fun h95_4 =>
  (f_X3_init h95_4 h102_3.1).bind fun h99_4 =>
  bif g_is h99_4 h102_3.1 3 then (g_qst h99_4 v91 4 ((((0 + 1) + 1) + 1) + 1) h102_3.1).bind fun h102_4 =>
  (g_gA h102_4 a0 6 9).bind fun v83 =>
  (g_aln h102_4 v83).bind fun v86 =>
  (if (((((0 + 1) + 1) + 1) + 1) + 1) < v86 then
  (g_gA h102_4 a0 6 9).bind fun v91 =>
  (g_mk h102_4 (.inr (3, g_dfl 3))).bind fun h95_5 =>
  (f_X3_init h95_5 h102_4.1).bind fun h99_5 =>
  bif g_is h99_5 h102_4.1 3 then (g_qst h99_5 v91 4 (((((0 + 1) + 1) + 1) + 1) + 1) h102_4.1).bind fun h102_5 =>
  (g_gA h102_5 a0 6 9).bind fun v83 =>
  (g_aln h102_5 v83).bind fun v86 =>
  (if ((((((0 + 1) + 1) + 1) + 1) + 1) + 1) < v86 then
  (g_gA h102_5 a0 6 9).bind fun v91 =>
  (g_mk h102_5 (.inr (3, g_dfl 3))).bind fun h95_6 =>
  (f_X3_init h95_6 h102_5.1).bind fun h99_6 =>
  bif g_is h99_6 h102_5.1 3 then (g_qst h99_6 v91 4 ((((((0 + 1) + 1) + 1) + 1) + 1) + 1) h102_5.1).bind fun h102_6 =>
  (g_gA h102_6 a0 6 9).bind fun v83 =>
  (g_aln h102_6 v83).bind fun v86 =>
  (if (((((((0 + 1) + 1) + 1) + 1) + 1) + 1) + 1) < v86 then
  (g_gA h102_6 a0 6 9).bind fun v91 =>
  (g_mk h102_6 (.inr (3, g_dfl 3))).bind fun h95_7 =>
  (f_X3_init h95_7 h102_6.1).bind fun h99_7 =>
  bif g_is h99_7 h102_6.1 3 then (g_qst h99_7 v91 4 (((((((0 + 1) + 1) + 1) + 1) + 1) + 1) + 1) h102_6.1).bind fun h102_7 =>
  (g_gA h102_7 a0 6 9).bind fun v83 =>
  (g_aln h102_7 v83).bind fun v86 =>
  (if ((((((((0 + 1) + 1) + 1) + 1) + 1) + 1) + 1) + 1) < v86 then none else
  bif g_is h102_7 a0 6 then
  (f_X6_clear h102_7 a0 4 3).bind fun h112 =>
  some h112
  else none)
  else none
  else none)
  else none
  else none)
  else none
  else none)
  else none
  else none)
  else none
  else none)
  else none
  else none)
  else none
  else none)
  else none
  else none)
set_option maxRecDepth 100000 in
theorem ct_X6_init {l : Launch} {G : gG} {h : gH} {a0 : Nat} {h1 : gH} (e : f_X6_init h a0 = some h1) : Ct l G M_X6_init [.ref a0] h none h1 := by
  refine Ct_of (L := [some (.ref a0), none]) ok_X6_init (by decide +kernel) rfl rfl rfl (ρ := g_wU) (F := f_X6_init h a0) ?_ e rfl
  unfold f_X6_init
  refine X_aload_n rfl rfl rfl ?_
  refine X_objInit rfl rfl (by decide +kernel) (by decide +kernel) (by decide +kernel) rfl rfl ?_
  refine X_aload_n rfl rfl rfl ?_
  refine X_bipush (v := 8) rfl rfl (by decide) ?_
  refine X_anewO (t := 4) (N := 8) (C := "LampRelay$Message") (k1 := 1) (n1 := 8) rfl rfl rfl rfl (by decide +kernel) (by decide +kernel) rfl (by decide) (by decide) rfl rfl rfl (fun h7 => ?_)
  refine X_putF rfl rfl rfl rfl rfl rfl rfl (fun h10 => ?_)
  refine X_aload_n rfl rfl rfl ?_
  refine X_newO (k1 := 2) (n1 := 21) rfl rfl rfl (by decide +kernel) rfl rfl (fun h14 => ?_)
  refine X_dup rfl rfl rfl ?_
  refine X_callIN_U (M' := M_X3_init) (nA := 0) (As := []) (st := [.ref h10.1, .ref a0]) (b := h10.1) (k1 := 6) (n1 := 117) rfl rfl (by decide +kernel) rfl rfl rfl rfl rfl rfl rfl (fun _ e => ct_X3_init e) (fun h18 => ?_)
  refine X_putF rfl rfl rfl rfl rfl rfl rfl (fun h21 => ?_)
  refine X_aload_n rfl rfl rfl ?_
  refine X_newO (k1 := 7) (n1 := 127) rfl rfl rfl (by decide +kernel) rfl rfl (fun h25 => ?_)
  refine X_dup rfl rfl rfl ?_
  refine X_callIN_U (M' := M_X0_init) (nA := 0) (As := []) (st := [.ref h21.1, .ref a0]) (b := h21.1) (k1 := 8) (n1 := 135) rfl rfl (by decide +kernel) rfl rfl rfl rfl rfl rfl rfl (fun _ e => ct_X0_init e) (fun h29 => ?_)
  refine X_putF rfl rfl rfl rfl rfl rfl rfl (fun h32 => ?_)
  refine X_aload_n rfl rfl rfl ?_
  refine X_newO (k1 := 9) (n1 := 145) rfl rfl rfl (by decide +kernel) rfl rfl (fun h36 => ?_)
  refine X_dup rfl rfl rfl ?_
  refine X_callIN_U (M' := M_X0_init) (nA := 0) (As := []) (st := [.ref h32.1, .ref a0]) (b := h32.1) (k1 := 10) (n1 := 153) rfl rfl (by decide +kernel) rfl rfl rfl rfl rfl rfl rfl (fun _ e => ct_X0_init e) (fun h40 => ?_)
  refine X_putF rfl rfl rfl rfl rfl rfl rfl (fun h43 => ?_)
  refine X_aload_n rfl rfl rfl ?_
  refine X_newO (k1 := 11) (n1 := 156) rfl rfl rfl (by decide +kernel) rfl rfl (fun h47 => ?_)
  refine X_dup rfl rfl rfl ?_
  refine X_callIN_U (M' := M_X2_init) (nA := 0) (As := []) (st := [.ref h43.1, .ref a0]) (b := h43.1) (k1 := 13) (n1 := 172) rfl rfl (by decide +kernel) rfl rfl rfl rfl rfl rfl rfl (fun _ e => ct_X2_init e) (fun h51 => ?_)
  refine X_putF rfl rfl rfl rfl rfl rfl rfl (fun h54 => ?_)
  refine X_aload_n rfl rfl rfl ?_
  refine X_newO (k1 := 14) (n1 := 175) rfl rfl rfl (by decide +kernel) rfl rfl (fun h58 => ?_)
  refine X_dup rfl rfl rfl ?_
  refine X_callIN_U (M' := M_X2_init) (nA := 0) (As := []) (st := [.ref h54.1, .ref a0]) (b := h54.1) (k1 := 16) (n1 := 191) rfl rfl (by decide +kernel) rfl rfl rfl rfl rfl rfl rfl (fun _ e => ct_X2_init e) (fun h62 => ?_)
  refine X_putF rfl rfl rfl rfl rfl rfl rfl (fun h65 => ?_)
  refine X_aload_n rfl rfl rfl ?_
  refine X_newO (k1 := 17) (n1 := 195) rfl rfl rfl (by decide +kernel) rfl rfl (fun h69 => ?_)
  refine X_dup rfl rfl rfl ?_
  refine X_callIN_U (M' := M_X4_init) (nA := 0) (As := []) (st := [.ref h65.1, .ref a0]) (b := h65.1) (k1 := 20) (n1 := 231) rfl rfl (by decide +kernel) rfl rfl rfl rfl rfl rfl rfl (fun _ e => ct_X4_init e) (fun h73 => ?_)
  refine X_putF rfl rfl rfl rfl rfl rfl rfl (fun h76 => ?_)
  refine X_iconst (v := 0) rfl rfl (by decide) ?_
  refine X_istore_n rfl rfl rfl rfl ?_
  refine X_iload_n rfl rfl rfl ?_
  refine X_aload_n rfl rfl rfl ?_
  refine X_getA rfl rfl (fun v83 => ?_)
  refine X_aln rfl rfl (fun v86 => ?_)
  refine X_bicmp_ge rfl rfl (fun _ => ?_) (fun _ => X_none)
  refine X_aload_n rfl rfl rfl ?_
  refine X_getA rfl rfl (fun v91 => ?_)
  refine X_iload_n rfl rfl rfl ?_
  refine X_newO (k1 := 21) (n1 := 244) rfl rfl rfl (by decide +kernel) rfl rfl (fun h95_0 => ?_)
  refine X_dup rfl rfl rfl ?_
  refine X_callIN_U (M' := M_X3_init) (nA := 0) (As := []) (st := [.ref h76.1, .int 0, .ref v91]) (b := h76.1) (k1 := 25) (n1 := 340) rfl rfl (by decide +kernel) rfl rfl rfl rfl rfl rfl rfl (fun _ e => ct_X3_init e) (fun h99_0 => ?_)
  refine X_qst (t := 4) (ci := 3) (C := "LampRelay$Message") rfl rfl rfl rfl (fun h102_0 => ?_)
  refine X_iinc (v := 0 + 1) rfl rfl rfl (congrArg (fun z => 0 + z) (by decide : Int32.ofInt 1 = 1)) rfl ?_
  refine X_goto rfl rfl ?_
  refine X_iload_n rfl rfl rfl ?_
  refine X_aload_n rfl rfl rfl ?_
  refine X_getA rfl rfl (fun v83 => ?_)
  refine X_aln rfl rfl (fun v86 => ?_)
  refine X_bicmp_ge rfl rfl (fun _ => ?_) (fun _ => X_none)
  refine X_aload_n rfl rfl rfl ?_
  refine X_getA rfl rfl (fun v91 => ?_)
  refine X_iload_n rfl rfl rfl ?_
  refine X_newO (k1 := 26) (n1 := 353) rfl rfl rfl (by decide +kernel) rfl rfl (fun h95_1 => ?_)
  refine X_dup rfl rfl rfl ?_
  refine X_callIN_U (M' := M_X3_init) (nA := 0) (As := []) (st := [.ref h102_0.1, .int (0 + 1), .ref v91]) (b := h102_0.1) (k1 := 30) (n1 := 449) rfl rfl (by decide +kernel) rfl rfl rfl rfl rfl rfl rfl (fun _ e => ct_X3_init e) (fun h99_1 => ?_)
  refine X_qst (t := 4) (ci := 3) (C := "LampRelay$Message") rfl rfl rfl rfl (fun h102_1 => ?_)
  refine X_iinc (v := (0 + 1) + 1) rfl rfl rfl (congrArg (fun z => (0 + 1) + z) (by decide : Int32.ofInt 1 = 1)) rfl ?_
  refine X_goto rfl rfl ?_
  refine X_iload_n rfl rfl rfl ?_
  refine X_aload_n rfl rfl rfl ?_
  refine X_getA rfl rfl (fun v83 => ?_)
  refine X_aln rfl rfl (fun v86 => ?_)
  refine X_bicmp_ge rfl rfl (fun _ => ?_) (fun _ => X_none)
  refine X_aload_n rfl rfl rfl ?_
  refine X_getA rfl rfl (fun v91 => ?_)
  refine X_iload_n rfl rfl rfl ?_
  refine X_newO (k1 := 31) (n1 := 462) rfl rfl rfl (by decide +kernel) rfl rfl (fun h95_2 => ?_)
  refine X_dup rfl rfl rfl ?_
  refine X_callIN_U (M' := M_X3_init) (nA := 0) (As := []) (st := [.ref h102_1.1, .int ((0 + 1) + 1), .ref v91]) (b := h102_1.1) (k1 := 35) (n1 := 558) rfl rfl (by decide +kernel) rfl rfl rfl rfl rfl rfl rfl (fun _ e => ct_X3_init e) (fun h99_2 => ?_)
  refine X_qst (t := 4) (ci := 3) (C := "LampRelay$Message") rfl rfl rfl rfl (fun h102_2 => ?_)
  refine X_iinc (v := ((0 + 1) + 1) + 1) rfl rfl rfl (congrArg (fun z => ((0 + 1) + 1) + z) (by decide : Int32.ofInt 1 = 1)) rfl ?_
  refine X_goto rfl rfl ?_
  refine X_iload_n rfl rfl rfl ?_
  refine X_aload_n rfl rfl rfl ?_
  refine X_getA rfl rfl (fun v83 => ?_)
  refine X_aln rfl rfl (fun v86 => ?_)
  refine X_bicmp_ge rfl rfl (fun _ => ?_) (fun _ => X_none)
  refine X_aload_n rfl rfl rfl ?_
  refine X_getA rfl rfl (fun v91 => ?_)
  refine X_iload_n rfl rfl rfl ?_
  refine X_newO (k1 := 36) (n1 := 571) rfl rfl rfl (by decide +kernel) rfl rfl (fun h95_3 => ?_)
  refine X_dup rfl rfl rfl ?_
  refine X_callIN_U (M' := M_X3_init) (nA := 0) (As := []) (st := [.ref h102_2.1, .int (((0 + 1) + 1) + 1), .ref v91]) (b := h102_2.1) (k1 := 40) (n1 := 667) rfl rfl (by decide +kernel) rfl rfl rfl rfl rfl rfl rfl (fun _ e => ct_X3_init e) (fun h99_3 => ?_)
  refine X_qst (t := 4) (ci := 3) (C := "LampRelay$Message") rfl rfl rfl rfl (fun h102_3 => ?_)
  refine X_iinc (v := (((0 + 1) + 1) + 1) + 1) rfl rfl rfl (congrArg (fun z => (((0 + 1) + 1) + 1) + z) (by decide : Int32.ofInt 1 = 1)) rfl ?_
  refine X_goto rfl rfl ?_
  refine X_iload_n rfl rfl rfl ?_
  refine X_aload_n rfl rfl rfl ?_
  refine X_getA rfl rfl (fun v83 => ?_)
  refine X_aln rfl rfl (fun v86 => ?_)
  refine X_bicmp_ge rfl rfl (fun _ => ?_) (fun _ => X_none)
  refine X_aload_n rfl rfl rfl ?_
  refine X_getA rfl rfl (fun v91 => ?_)
  refine X_iload_n rfl rfl rfl ?_
  refine X_newO (k1 := 41) (n1 := 680) rfl rfl rfl (by decide +kernel) rfl rfl (fun h95_4 => ?_)
  refine X_dup rfl rfl rfl ?_
  refine X_callIN_U (M' := M_X3_init) (nA := 0) (As := []) (st := [.ref h102_3.1, .int ((((0 + 1) + 1) + 1) + 1), .ref v91]) (b := h102_3.1) (k1 := 45) (n1 := 776) rfl rfl (by decide +kernel) rfl rfl rfl rfl rfl rfl rfl (fun _ e => ct_X3_init e) (fun h99_4 => ?_)
  refine X_qst (t := 4) (ci := 3) (C := "LampRelay$Message") rfl rfl rfl rfl (fun h102_4 => ?_)
  refine X_iinc (v := ((((0 + 1) + 1) + 1) + 1) + 1) rfl rfl rfl (congrArg (fun z => ((((0 + 1) + 1) + 1) + 1) + z) (by decide : Int32.ofInt 1 = 1)) rfl ?_
  refine X_goto rfl rfl ?_
  refine X_iload_n rfl rfl rfl ?_
  refine X_aload_n rfl rfl rfl ?_
  refine X_getA rfl rfl (fun v83 => ?_)
  refine X_aln rfl rfl (fun v86 => ?_)
  refine X_bicmp_ge rfl rfl (fun _ => ?_) (fun _ => X_none)
  refine X_aload_n rfl rfl rfl ?_
  refine X_getA rfl rfl (fun v91 => ?_)
  refine X_iload_n rfl rfl rfl ?_
  refine X_newO (k1 := 46) (n1 := 789) rfl rfl rfl (by decide +kernel) rfl rfl (fun h95_5 => ?_)
  refine X_dup rfl rfl rfl ?_
  refine X_callIN_U (M' := M_X3_init) (nA := 0) (As := []) (st := [.ref h102_4.1, .int (((((0 + 1) + 1) + 1) + 1) + 1), .ref v91]) (b := h102_4.1) (k1 := 50) (n1 := 885) rfl rfl (by decide +kernel) rfl rfl rfl rfl rfl rfl rfl (fun _ e => ct_X3_init e) (fun h99_5 => ?_)
  refine X_qst (t := 4) (ci := 3) (C := "LampRelay$Message") rfl rfl rfl rfl (fun h102_5 => ?_)
  refine X_iinc (v := (((((0 + 1) + 1) + 1) + 1) + 1) + 1) rfl rfl rfl (congrArg (fun z => (((((0 + 1) + 1) + 1) + 1) + 1) + z) (by decide : Int32.ofInt 1 = 1)) rfl ?_
  refine X_goto rfl rfl ?_
  refine X_iload_n rfl rfl rfl ?_
  refine X_aload_n rfl rfl rfl ?_
  refine X_getA rfl rfl (fun v83 => ?_)
  refine X_aln rfl rfl (fun v86 => ?_)
  refine X_bicmp_ge rfl rfl (fun _ => ?_) (fun _ => X_none)
  refine X_aload_n rfl rfl rfl ?_
  refine X_getA rfl rfl (fun v91 => ?_)
  refine X_iload_n rfl rfl rfl ?_
  refine X_newO (k1 := 51) (n1 := 898) rfl rfl rfl (by decide +kernel) rfl rfl (fun h95_6 => ?_)
  refine X_dup rfl rfl rfl ?_
  refine X_callIN_U (M' := M_X3_init) (nA := 0) (As := []) (st := [.ref h102_5.1, .int ((((((0 + 1) + 1) + 1) + 1) + 1) + 1), .ref v91]) (b := h102_5.1) (k1 := 55) (n1 := 994) rfl rfl (by decide +kernel) rfl rfl rfl rfl rfl rfl rfl (fun _ e => ct_X3_init e) (fun h99_6 => ?_)
  refine X_qst (t := 4) (ci := 3) (C := "LampRelay$Message") rfl rfl rfl rfl (fun h102_6 => ?_)
  refine X_iinc (v := ((((((0 + 1) + 1) + 1) + 1) + 1) + 1) + 1) rfl rfl rfl (congrArg (fun z => ((((((0 + 1) + 1) + 1) + 1) + 1) + 1) + z) (by decide : Int32.ofInt 1 = 1)) rfl ?_
  refine X_goto rfl rfl ?_
  refine X_iload_n rfl rfl rfl ?_
  refine X_aload_n rfl rfl rfl ?_
  refine X_getA rfl rfl (fun v83 => ?_)
  refine X_aln rfl rfl (fun v86 => ?_)
  refine X_bicmp_ge rfl rfl (fun _ => ?_) (fun _ => X_none)
  refine X_aload_n rfl rfl rfl ?_
  refine X_getA rfl rfl (fun v91 => ?_)
  refine X_iload_n rfl rfl rfl ?_
  refine X_newO (k1 := 56) (n1 := 1007) rfl rfl rfl (by decide +kernel) rfl rfl (fun h95_7 => ?_)
  refine X_dup rfl rfl rfl ?_
  refine X_callIN_U (M' := M_X3_init) (nA := 0) (As := []) (st := [.ref h102_6.1, .int (((((((0 + 1) + 1) + 1) + 1) + 1) + 1) + 1), .ref v91]) (b := h102_6.1) (k1 := 60) (n1 := 1103) rfl rfl (by decide +kernel) rfl rfl rfl rfl rfl rfl rfl (fun _ e => ct_X3_init e) (fun h99_7 => ?_)
  refine X_qst (t := 4) (ci := 3) (C := "LampRelay$Message") rfl rfl rfl rfl (fun h102_7 => ?_)
  refine X_iinc (v := (((((((0 + 1) + 1) + 1) + 1) + 1) + 1) + 1) + 1) rfl rfl rfl (congrArg (fun z => (((((((0 + 1) + 1) + 1) + 1) + 1) + 1) + 1) + z) (by decide : Int32.ofInt 1 = 1)) rfl ?_
  refine X_goto rfl rfl ?_
  refine X_iload_n rfl rfl rfl ?_
  refine X_aload_n rfl rfl rfl ?_
  refine X_getA rfl rfl (fun v83 => ?_)
  refine X_aln rfl rfl (fun v86 => ?_)
  refine X_bicmp_ge rfl rfl (fun _ => X_none) (fun _ => ?_)
  refine X_aload_n rfl rfl rfl ?_
  refine X_iconst (v := 4) rfl rfl (by decide) ?_
  refine X_iconst (v := 3) rfl rfl (by decide) ?_
  refine X_callV_UW (M' := M_X6_clear) (nA := 2) (As := [.int 4, .int 3]) (st := []) (b := a0) (ci := 6) rfl rfl (by decide +kernel) rfl rfl rfl rfl rfl rfl rfl rfl (fun _ e => ct_X6_clear e) (fun h112 => ?_)
  exact X_vret rfl rfl rfl rfl rfl rfl
def f_X1_init (h : gH) (a0 : Nat) : Option gH :=
  (g_mk h (.inl (5, 8, .inr (.inr (.inr (.inr (fun _ => none))))))).bind fun h7 =>
  (g_put h7 a0 1 0 (.ref h.1)).bind fun h10 =>
  (g_put h10 a0 1 1 (.int 0)).bind fun h15 =>
  (g_put h15 a0 1 2 (.int 0)).bind fun h20 =>
  (g_gA h20 a0 1 0).bind fun v27 =>
  (g_aln h20 v27).bind fun v30 =>
  (if 0 < v30 then
  (g_gA h20 a0 1 0).bind fun v35 =>
  (g_mk h20 (.inr (6, g_dfl 6))).bind fun h39_0 =>
  (f_X6_init h39_0 h20.1).bind fun h43_0 =>
  bif g_is h43_0 h20.1 6 then (g_qst h43_0 v35 5 0 h20.1).bind fun h46_0 =>
  (g_gA h46_0 a0 1 0).bind fun v27 =>
  (g_aln h46_0 v27).bind fun v30 =>
  (if (0 + 1) < v30 then
  (g_gA h46_0 a0 1 0).bind fun v35 =>
  (g_mk h46_0 (.inr (6, g_dfl 6))).bind fun h39_1 =>
  (f_X6_init h39_1 h46_0.1).bind fun h43_1 =>
  bif g_is h43_1 h46_0.1 6 then (g_qst h43_1 v35 5 (0 + 1) h46_0.1).bind fun h46_1 =>
  (g_gA h46_1 a0 1 0).bind fun v27 =>
  (g_aln h46_1 v27).bind fun v30 =>
  (if ((0 + 1) + 1) < v30 then
  (g_gA h46_1 a0 1 0).bind fun v35 =>
  (g_mk h46_1 (.inr (6, g_dfl 6))).bind fun h39_2 =>
  (f_X6_init h39_2 h46_1.1).bind fun h43_2 =>
  bif g_is h43_2 h46_1.1 6 then (g_qst h43_2 v35 5 ((0 + 1) + 1) h46_1.1).bind fun h46_2 =>
  (g_gA h46_2 a0 1 0).bind fun v27 =>
  (g_aln h46_2 v27).bind fun v30 =>
  (if (((0 + 1) + 1) + 1) < v30 then
  (g_gA h46_2 a0 1 0).bind fun v35 =>
  (g_mk h46_2 (.inr (6, g_dfl 6))).bind fun h39_3 =>
  (f_X6_init h39_3 h46_2.1).bind fun h43_3 =>
  bif g_is h43_3 h46_2.1 6 then (g_qst h43_3 v35 5 (((0 + 1) + 1) + 1) h46_2.1).bind fun h46_3 =>
  (g_gA h46_3 a0 1 0).bind fun v27 =>
  (g_aln h46_3 v27).bind fun v30 =>
  (if ((((0 + 1) + 1) + 1) + 1) < v30 then
  (g_gA h46_3 a0 1 0).bind fun v35 =>
  (g_mk h46_3 (.inr (6, g_dfl 6))).bind fun h39_4 =>
  (f_X6_init h39_4 h46_3.1).bind fun h43_4 =>
  bif g_is h43_4 h46_3.1 6 then (g_qst h43_4 v35 5 ((((0 + 1) + 1) + 1) + 1) h46_3.1).bind fun h46_4 =>
  (g_gA h46_4 a0 1 0).bind fun v27 =>
  (g_aln h46_4 v27).bind fun v30 =>
  (if (((((0 + 1) + 1) + 1) + 1) + 1) < v30 then
  (g_gA h46_4 a0 1 0).bind fun v35 =>
  (g_mk h46_4 (.inr (6, g_dfl 6))).bind fun h39_5 =>
  (f_X6_init h39_5 h46_4.1).bind fun h43_5 =>
  bif g_is h43_5 h46_4.1 6 then (g_qst h43_5 v35 5 (((((0 + 1) + 1) + 1) + 1) + 1) h46_4.1).bind fun h46_5 =>
  (g_gA h46_5 a0 1 0).bind fun v27 =>
  (g_aln h46_5 v27).bind fun v30 =>
  (if ((((((0 + 1) + 1) + 1) + 1) + 1) + 1) < v30 then
  (g_gA h46_5 a0 1 0).bind fun v35 =>
  (g_mk h46_5 (.inr (6, g_dfl 6))).bind fun h39_6 =>
  (f_X6_init h39_6 h46_5.1).bind fun h43_6 =>
  bif g_is h43_6 h46_5.1 6 then (g_qst h43_6 v35 5 ((((((0 + 1) + 1) + 1) + 1) + 1) + 1) h46_5.1).bind fun h46_6 =>
  (g_gA h46_6 a0 1 0).bind fun v27 =>
  (g_aln h46_6 v27).bind fun v30 =>
  (if (((((((0 + 1) + 1) + 1) + 1) + 1) + 1) + 1) < v30 then
  (g_gA h46_6 a0 1 0).bind fun v35 =>
  (g_mk h46_6 (.inr (6, g_dfl 6))).bind fun h39_7 =>
  (f_X6_init h39_7 h46_6.1).bind fun h43_7 =>
  bif g_is h43_7 h46_6.1 6 then (g_qst h43_7 v35 5 (((((((0 + 1) + 1) + 1) + 1) + 1) + 1) + 1) h46_6.1).bind fun h46_7 =>
  (g_gA h46_7 a0 1 0).bind fun v27 =>
  (g_aln h46_7 v27).bind fun v30 =>
  (if ((((((((0 + 1) + 1) + 1) + 1) + 1) + 1) + 1) + 1) < v30 then none else
  some h46_7)
  else none
  else none)
  else none
  else none)
  else none
  else none)
  else none
  else none)
  else none
  else none)
  else none
  else none)
  else none
  else none)
  else none
  else none)
set_option maxRecDepth 100000 in
theorem ct_X1_init {l : Launch} {G : gG} {h : gH} {a0 : Nat} {h1 : gH} (e : f_X1_init h a0 = some h1) : Ct l G M_X1_init [.ref a0] h none h1 := by
  refine Ct_of (L := [some (.ref a0), none]) ok_X1_init (by decide +kernel) rfl rfl rfl (ρ := g_wU) (F := f_X1_init h a0) ?_ e rfl
  unfold f_X1_init
  refine X_aload_n rfl rfl rfl ?_
  refine X_objInit rfl rfl (by decide +kernel) (by decide +kernel) (by decide +kernel) rfl rfl ?_
  refine X_aload_n rfl rfl rfl ?_
  refine X_bipush (v := 8) rfl rfl (by decide) ?_
  refine X_anewO (t := 5) (N := 8) (C := "LampRelay$World") (k1 := 1) (n1 := 8) rfl rfl rfl rfl (by decide +kernel) (by decide +kernel) rfl (by decide) (by decide) rfl rfl rfl (fun h7 => ?_)
  refine X_putF rfl rfl rfl rfl rfl rfl rfl (fun h10 => ?_)
  refine X_aload_n rfl rfl rfl ?_
  refine X_iconst (v := 0) rfl rfl (by decide) ?_
  refine X_put rfl rfl rfl rfl rfl (fun h15 => ?_)
  refine X_aload_n rfl rfl rfl ?_
  refine X_iconst (v := 0) rfl rfl (by decide) ?_
  refine X_put rfl rfl rfl rfl rfl (fun h20 => ?_)
  refine X_iconst (v := 0) rfl rfl (by decide) ?_
  refine X_istore_n rfl rfl rfl rfl ?_
  refine X_iload_n rfl rfl rfl ?_
  refine X_aload_n rfl rfl rfl ?_
  refine X_getA rfl rfl (fun v27 => ?_)
  refine X_aln rfl rfl (fun v30 => ?_)
  refine X_bicmp_ge rfl rfl (fun _ => ?_) (fun _ => X_none)
  refine X_aload_n rfl rfl rfl ?_
  refine X_getA rfl rfl (fun v35 => ?_)
  refine X_iload_n rfl rfl rfl ?_
  refine X_newO (k1 := 2) (n1 := 24) rfl rfl rfl (by decide +kernel) rfl rfl (fun h39_0 => ?_)
  refine X_dup rfl rfl rfl ?_
  refine X_callI_U (M' := M_X6_init) (nA := 0) (As := []) (st := [.ref h20.1, .int 0, .ref v35]) (b := h20.1) (k1 := 62) (n1 := 1127) rfl rfl (by decide +kernel) rfl rfl rfl rfl rfl rfl rfl (fun _ e => ct_X6_init e) (fun h43_0 => ?_)
  refine X_qst (t := 5) (ci := 6) (C := "LampRelay$World") rfl rfl rfl rfl (fun h46_0 => ?_)
  refine X_iinc (v := 0 + 1) rfl rfl rfl (congrArg (fun z => 0 + z) (by decide : Int32.ofInt 1 = 1)) rfl ?_
  refine X_goto rfl rfl ?_
  refine X_iload_n rfl rfl rfl ?_
  refine X_aload_n rfl rfl rfl ?_
  refine X_getA rfl rfl (fun v27 => ?_)
  refine X_aln rfl rfl (fun v30 => ?_)
  refine X_bicmp_ge rfl rfl (fun _ => ?_) (fun _ => X_none)
  refine X_aload_n rfl rfl rfl ?_
  refine X_getA rfl rfl (fun v35 => ?_)
  refine X_iload_n rfl rfl rfl ?_
  refine X_newO (k1 := 63) (n1 := 1143) rfl rfl rfl (by decide +kernel) rfl rfl (fun h39_1 => ?_)
  refine X_dup rfl rfl rfl ?_
  refine X_callI_U (M' := M_X6_init) (nA := 0) (As := []) (st := [.ref h46_0.1, .int (0 + 1), .ref v35]) (b := h46_0.1) (k1 := 123) (n1 := 2246) rfl rfl (by decide +kernel) rfl rfl rfl rfl rfl rfl rfl (fun _ e => ct_X6_init e) (fun h43_1 => ?_)
  refine X_qst (t := 5) (ci := 6) (C := "LampRelay$World") rfl rfl rfl rfl (fun h46_1 => ?_)
  refine X_iinc (v := (0 + 1) + 1) rfl rfl rfl (congrArg (fun z => (0 + 1) + z) (by decide : Int32.ofInt 1 = 1)) rfl ?_
  refine X_goto rfl rfl ?_
  refine X_iload_n rfl rfl rfl ?_
  refine X_aload_n rfl rfl rfl ?_
  refine X_getA rfl rfl (fun v27 => ?_)
  refine X_aln rfl rfl (fun v30 => ?_)
  refine X_bicmp_ge rfl rfl (fun _ => ?_) (fun _ => X_none)
  refine X_aload_n rfl rfl rfl ?_
  refine X_getA rfl rfl (fun v35 => ?_)
  refine X_iload_n rfl rfl rfl ?_
  refine X_newO (k1 := 124) (n1 := 2262) rfl rfl rfl (by decide +kernel) rfl rfl (fun h39_2 => ?_)
  refine X_dup rfl rfl rfl ?_
  refine X_callI_U (M' := M_X6_init) (nA := 0) (As := []) (st := [.ref h46_1.1, .int ((0 + 1) + 1), .ref v35]) (b := h46_1.1) (k1 := 184) (n1 := 3365) rfl rfl (by decide +kernel) rfl rfl rfl rfl rfl rfl rfl (fun _ e => ct_X6_init e) (fun h43_2 => ?_)
  refine X_qst (t := 5) (ci := 6) (C := "LampRelay$World") rfl rfl rfl rfl (fun h46_2 => ?_)
  refine X_iinc (v := ((0 + 1) + 1) + 1) rfl rfl rfl (congrArg (fun z => ((0 + 1) + 1) + z) (by decide : Int32.ofInt 1 = 1)) rfl ?_
  refine X_goto rfl rfl ?_
  refine X_iload_n rfl rfl rfl ?_
  refine X_aload_n rfl rfl rfl ?_
  refine X_getA rfl rfl (fun v27 => ?_)
  refine X_aln rfl rfl (fun v30 => ?_)
  refine X_bicmp_ge rfl rfl (fun _ => ?_) (fun _ => X_none)
  refine X_aload_n rfl rfl rfl ?_
  refine X_getA rfl rfl (fun v35 => ?_)
  refine X_iload_n rfl rfl rfl ?_
  refine X_newO (k1 := 185) (n1 := 3381) rfl rfl rfl (by decide +kernel) rfl rfl (fun h39_3 => ?_)
  refine X_dup rfl rfl rfl ?_
  refine X_callI_U (M' := M_X6_init) (nA := 0) (As := []) (st := [.ref h46_2.1, .int (((0 + 1) + 1) + 1), .ref v35]) (b := h46_2.1) (k1 := 245) (n1 := 4484) rfl rfl (by decide +kernel) rfl rfl rfl rfl rfl rfl rfl (fun _ e => ct_X6_init e) (fun h43_3 => ?_)
  refine X_qst (t := 5) (ci := 6) (C := "LampRelay$World") rfl rfl rfl rfl (fun h46_3 => ?_)
  refine X_iinc (v := (((0 + 1) + 1) + 1) + 1) rfl rfl rfl (congrArg (fun z => (((0 + 1) + 1) + 1) + z) (by decide : Int32.ofInt 1 = 1)) rfl ?_
  refine X_goto rfl rfl ?_
  refine X_iload_n rfl rfl rfl ?_
  refine X_aload_n rfl rfl rfl ?_
  refine X_getA rfl rfl (fun v27 => ?_)
  refine X_aln rfl rfl (fun v30 => ?_)
  refine X_bicmp_ge rfl rfl (fun _ => ?_) (fun _ => X_none)
  refine X_aload_n rfl rfl rfl ?_
  refine X_getA rfl rfl (fun v35 => ?_)
  refine X_iload_n rfl rfl rfl ?_
  refine X_newO (k1 := 246) (n1 := 4500) rfl rfl rfl (by decide +kernel) rfl rfl (fun h39_4 => ?_)
  refine X_dup rfl rfl rfl ?_
  refine X_callI_U (M' := M_X6_init) (nA := 0) (As := []) (st := [.ref h46_3.1, .int ((((0 + 1) + 1) + 1) + 1), .ref v35]) (b := h46_3.1) (k1 := 306) (n1 := 5603) rfl rfl (by decide +kernel) rfl rfl rfl rfl rfl rfl rfl (fun _ e => ct_X6_init e) (fun h43_4 => ?_)
  refine X_qst (t := 5) (ci := 6) (C := "LampRelay$World") rfl rfl rfl rfl (fun h46_4 => ?_)
  refine X_iinc (v := ((((0 + 1) + 1) + 1) + 1) + 1) rfl rfl rfl (congrArg (fun z => ((((0 + 1) + 1) + 1) + 1) + z) (by decide : Int32.ofInt 1 = 1)) rfl ?_
  refine X_goto rfl rfl ?_
  refine X_iload_n rfl rfl rfl ?_
  refine X_aload_n rfl rfl rfl ?_
  refine X_getA rfl rfl (fun v27 => ?_)
  refine X_aln rfl rfl (fun v30 => ?_)
  refine X_bicmp_ge rfl rfl (fun _ => ?_) (fun _ => X_none)
  refine X_aload_n rfl rfl rfl ?_
  refine X_getA rfl rfl (fun v35 => ?_)
  refine X_iload_n rfl rfl rfl ?_
  refine X_newO (k1 := 307) (n1 := 5619) rfl rfl rfl (by decide +kernel) rfl rfl (fun h39_5 => ?_)
  refine X_dup rfl rfl rfl ?_
  refine X_callI_U (M' := M_X6_init) (nA := 0) (As := []) (st := [.ref h46_4.1, .int (((((0 + 1) + 1) + 1) + 1) + 1), .ref v35]) (b := h46_4.1) (k1 := 367) (n1 := 6722) rfl rfl (by decide +kernel) rfl rfl rfl rfl rfl rfl rfl (fun _ e => ct_X6_init e) (fun h43_5 => ?_)
  refine X_qst (t := 5) (ci := 6) (C := "LampRelay$World") rfl rfl rfl rfl (fun h46_5 => ?_)
  refine X_iinc (v := (((((0 + 1) + 1) + 1) + 1) + 1) + 1) rfl rfl rfl (congrArg (fun z => (((((0 + 1) + 1) + 1) + 1) + 1) + z) (by decide : Int32.ofInt 1 = 1)) rfl ?_
  refine X_goto rfl rfl ?_
  refine X_iload_n rfl rfl rfl ?_
  refine X_aload_n rfl rfl rfl ?_
  refine X_getA rfl rfl (fun v27 => ?_)
  refine X_aln rfl rfl (fun v30 => ?_)
  refine X_bicmp_ge rfl rfl (fun _ => ?_) (fun _ => X_none)
  refine X_aload_n rfl rfl rfl ?_
  refine X_getA rfl rfl (fun v35 => ?_)
  refine X_iload_n rfl rfl rfl ?_
  refine X_newO (k1 := 368) (n1 := 6738) rfl rfl rfl (by decide +kernel) rfl rfl (fun h39_6 => ?_)
  refine X_dup rfl rfl rfl ?_
  refine X_callI_U (M' := M_X6_init) (nA := 0) (As := []) (st := [.ref h46_5.1, .int ((((((0 + 1) + 1) + 1) + 1) + 1) + 1), .ref v35]) (b := h46_5.1) (k1 := 428) (n1 := 7841) rfl rfl (by decide +kernel) rfl rfl rfl rfl rfl rfl rfl (fun _ e => ct_X6_init e) (fun h43_6 => ?_)
  refine X_qst (t := 5) (ci := 6) (C := "LampRelay$World") rfl rfl rfl rfl (fun h46_6 => ?_)
  refine X_iinc (v := ((((((0 + 1) + 1) + 1) + 1) + 1) + 1) + 1) rfl rfl rfl (congrArg (fun z => ((((((0 + 1) + 1) + 1) + 1) + 1) + 1) + z) (by decide : Int32.ofInt 1 = 1)) rfl ?_
  refine X_goto rfl rfl ?_
  refine X_iload_n rfl rfl rfl ?_
  refine X_aload_n rfl rfl rfl ?_
  refine X_getA rfl rfl (fun v27 => ?_)
  refine X_aln rfl rfl (fun v30 => ?_)
  refine X_bicmp_ge rfl rfl (fun _ => ?_) (fun _ => X_none)
  refine X_aload_n rfl rfl rfl ?_
  refine X_getA rfl rfl (fun v35 => ?_)
  refine X_iload_n rfl rfl rfl ?_
  refine X_newO (k1 := 429) (n1 := 7857) rfl rfl rfl (by decide +kernel) rfl rfl (fun h39_7 => ?_)
  refine X_dup rfl rfl rfl ?_
  refine X_callI_U (M' := M_X6_init) (nA := 0) (As := []) (st := [.ref h46_6.1, .int (((((((0 + 1) + 1) + 1) + 1) + 1) + 1) + 1), .ref v35]) (b := h46_6.1) (k1 := 489) (n1 := 8960) rfl rfl (by decide +kernel) rfl rfl rfl rfl rfl rfl rfl (fun _ e => ct_X6_init e) (fun h43_7 => ?_)
  refine X_qst (t := 5) (ci := 6) (C := "LampRelay$World") rfl rfl rfl rfl (fun h46_7 => ?_)
  refine X_iinc (v := (((((((0 + 1) + 1) + 1) + 1) + 1) + 1) + 1) + 1) rfl rfl rfl (congrArg (fun z => (((((((0 + 1) + 1) + 1) + 1) + 1) + 1) + 1) + z) (by decide : Int32.ofInt 1 = 1)) rfl ?_
  refine X_goto rfl rfl ?_
  refine X_iload_n rfl rfl rfl ?_
  refine X_aload_n rfl rfl rfl ?_
  refine X_getA rfl rfl (fun v27 => ?_)
  refine X_aln rfl rfl (fun v30 => ?_)
  refine X_bicmp_ge rfl rfl (fun _ => X_none) (fun _ => ?_)
  exact X_vret rfl rfl rfl rfl rfl rfl
def f_X7_init (h : gH) (a0 : Nat) : Option gH :=
  (g_mk h (.inl (1, 500, .inl fun _ => 0))).bind fun h8 =>
  (g_put h8 a0 7 0 (.ref h.1)).bind fun h10 =>
  (g_put h10 a0 7 1 (.int 0)).bind fun h15 =>
  (g_put h15 a0 7 2 (.int (-1))).bind fun h20 =>
  (g_mk h20 (.inr (6, g_dfl 6))).bind fun h24 =>
  (f_X6_init h24 h20.1).bind fun h28 =>
  (g_put h28 a0 7 3 (.ref h20.1)).bind fun h31 =>
  (g_mk h31 (.inr (6, g_dfl 6))).bind fun h35 =>
  (f_X6_init h35 h31.1).bind fun h39 =>
  (g_put h39 a0 7 4 (.ref h31.1)).bind fun h42 =>
  (g_mk h42 (.inr (1, g_dfl 1))).bind fun h46 =>
  (f_X1_init h46 h42.1).bind fun h50 =>
  (g_put h50 a0 7 5 (.ref h42.1)).bind fun h53 =>
  some h53
set_option maxRecDepth 100000 in
theorem ct_X7_init {l : Launch} {G : gG} {h : gH} {a0 : Nat} {h1 : gH} (e : f_X7_init h a0 = some h1) : Ct l G M_X7_init [.ref a0] h none h1 := by
  refine Ct_of (L := [some (.ref a0)]) ok_X7_init (by decide +kernel) rfl rfl rfl (ρ := g_wU) (F := f_X7_init h a0) ?_ e rfl
  unfold f_X7_init
  refine X_aload_n rfl rfl rfl ?_
  refine X_objInit rfl rfl (by decide +kernel) (by decide +kernel) (by decide +kernel) rfl rfl ?_
  refine X_aload_n rfl rfl rfl ?_
  refine X_sipush (v := 500) rfl rfl (by decide) ?_
  refine X_newarrO (t := 1) (N := 500) (y := (500, .inl fun _ => 0)) (k1 := 1) (n1 := 500) rfl rfl rfl rfl (by decide +kernel) rfl (by decide) (by decide) rfl rfl rfl (fun _ => rfl) (fun h8 => ?_)
  refine X_putF rfl rfl rfl rfl rfl rfl rfl (fun h10 => ?_)
  refine X_aload_n rfl rfl rfl ?_
  refine X_iconst (v := 0) rfl rfl (by decide) ?_
  refine X_put rfl rfl rfl rfl rfl (fun h15 => ?_)
  refine X_aload_n rfl rfl rfl ?_
  refine X_iconst (v := -1) rfl rfl (by decide) ?_
  refine X_put rfl rfl rfl rfl rfl (fun h20 => ?_)
  refine X_aload_n rfl rfl rfl ?_
  refine X_newO (k1 := 2) (n1 := 516) rfl rfl rfl (by decide +kernel) rfl rfl (fun h24 => ?_)
  refine X_dup rfl rfl rfl ?_
  refine X_callI_U (M' := M_X6_init) (nA := 0) (As := []) (st := [.ref h20.1, .ref a0]) (b := h20.1) (k1 := 62) (n1 := 1619) rfl rfl (by decide +kernel) rfl rfl rfl rfl rfl rfl rfl (fun _ e => ct_X6_init e) (fun h28 => ?_)
  refine X_putF rfl rfl rfl rfl rfl rfl rfl (fun h31 => ?_)
  refine X_aload_n rfl rfl rfl ?_
  refine X_newO (k1 := 63) (n1 := 1635) rfl rfl rfl (by decide +kernel) rfl rfl (fun h35 => ?_)
  refine X_dup rfl rfl rfl ?_
  refine X_callI_U (M' := M_X6_init) (nA := 0) (As := []) (st := [.ref h31.1, .ref a0]) (b := h31.1) (k1 := 123) (n1 := 2738) rfl rfl (by decide +kernel) rfl rfl rfl rfl rfl rfl rfl (fun _ e => ct_X6_init e) (fun h39 => ?_)
  refine X_putF rfl rfl rfl rfl rfl rfl rfl (fun h42 => ?_)
  refine X_aload_n rfl rfl rfl ?_
  refine X_newO (k1 := 124) (n1 := 2741) rfl rfl rfl (by decide +kernel) rfl rfl (fun h46 => ?_)
  refine X_dup rfl rfl rfl ?_
  refine X_callI_U (M' := M_X1_init) (nA := 0) (As := []) (st := [.ref h42.1, .ref a0]) (b := h42.1) (k1 := 613) (n1 := 11701) rfl rfl (by decide +kernel) rfl rfl rfl rfl rfl rfl rfl (fun _ e => ct_X1_init e) (fun h50 => ?_)
  refine X_putF rfl rfl rfl rfl rfl rfl rfl (fun h53 => ?_)
  exact X_vret rfl rfl rfl rfl rfl rfl
def f_X5_init (h : gH) (a0 : Nat) (p1 : Nat) (p2 : Int32) : Option gH :=
  (g_put h a0 5 2 (.int 0)).bind fun h6 =>
  (g_put h6 a0 5 3 (.int 0)).bind fun h11 =>
  (g_put h11 a0 5 4 (.int 0)).bind fun h16 =>
  (g_put h16 a0 5 5 (.int 0)).bind fun h21 =>
  (g_put h21 a0 5 6 (.int (-1))).bind fun h26 =>
  (g_put h26 a0 5 0 (.ref p1)).bind fun h31 =>
  (g_put h31 a0 5 1 (.int p2)).bind fun h36 =>
  some h36
set_option maxRecDepth 100000 in
theorem ct_X5_init {l : Launch} {G : gG} {h : gH} {a0 : Nat} {p1 : Nat} {p2 : Int32} {h1 : gH} (e : f_X5_init h a0 p1 p2 = some h1) : Ct l G M_X5_init [.ref a0, .ref p1, .int p2] h none h1 := by
  refine Ct_of (L := [some (.ref a0), some (.ref p1), some (.int p2)]) ok_X5_init (by decide +kernel) rfl rfl rfl (ρ := g_wU) (F := f_X5_init h a0 p1 p2) ?_ e rfl
  unfold f_X5_init
  refine X_aload_n rfl rfl rfl ?_
  refine X_objInit rfl rfl (by decide +kernel) (by decide +kernel) (by decide +kernel) rfl rfl ?_
  refine X_aload_n rfl rfl rfl ?_
  refine X_iconst (v := 0) rfl rfl (by decide) ?_
  refine X_put rfl rfl rfl rfl rfl (fun h6 => ?_)
  refine X_aload_n rfl rfl rfl ?_
  refine X_iconst (v := 0) rfl rfl (by decide) ?_
  refine X_put rfl rfl rfl rfl rfl (fun h11 => ?_)
  refine X_aload_n rfl rfl rfl ?_
  refine X_iconst (v := 0) rfl rfl (by decide) ?_
  refine X_put rfl rfl rfl rfl rfl (fun h16 => ?_)
  refine X_aload_n rfl rfl rfl ?_
  refine X_iconst (v := 0) rfl rfl (by decide) ?_
  refine X_put rfl rfl rfl rfl rfl (fun h21 => ?_)
  refine X_aload_n rfl rfl rfl ?_
  refine X_iconst (v := -1) rfl rfl (by decide) ?_
  refine X_put rfl rfl rfl rfl rfl (fun h26 => ?_)
  refine X_aload_n rfl rfl rfl ?_
  refine X_aload_n rfl rfl rfl ?_
  refine X_putF rfl rfl rfl rfl rfl rfl rfl (fun h31 => ?_)
  refine X_aload_n rfl rfl rfl ?_
  refine X_iload_n rfl rfl rfl ?_
  refine X_putF rfl rfl rfl rfl rfl rfl rfl (fun h36 => ?_)
  exact X_vret rfl rfl rfl rfl rfl rfl
end
section
def f_X5_byteAt (h : gH) (a0 : Nat) (p1 : Int32) : Option (Int32) :=
  (if 0 ≤ p1 then
    (g_gI h a0 5 1).bind fun v6 =>
    (if p1 < v6 then
      (g_gA h a0 5 0).bind fun v14 =>
      (g_aln h v14).bind fun v17 =>
      (if p1 < v17 then
        (g_gA h a0 5 0).bind fun v22 =>
        (g_bld h v22 p1).bind fun v26 =>
        some v26
      else
        some (-1))
    else
      some (-1))
  else
    some (-1))
set_option maxRecDepth 100000 in
theorem ct_X5_byteAt {l : Launch} {G : gG} {h : gH} {a0 : Nat} {p1 : Int32} {r : Int32} (e : f_X5_byteAt h a0 p1 = some r) : Ct l G M_X5_byteAt [.ref a0, .int p1] h (some (.int r)) h := by
  refine Ct_of (L := [some (.ref a0), some (.int p1)]) ok_X5_byteAt (by decide +kernel) rfl rfl rfl (ρ := (g_rI h)) (F := f_X5_byteAt h a0 p1) ?_ e rfl
  unfold f_X5_byteAt
  refine X_iload_n rfl rfl rfl ?_
  refine X_bif_lt rfl rfl (fun _ => ?_) (fun _ => ?_)
  · refine X_iload_n rfl rfl rfl ?_
    refine X_aload_n rfl rfl rfl ?_
    refine X_getI rfl rfl (fun v6 => ?_)
    refine X_bicmp_ge rfl rfl (fun _ => ?_) (fun _ => ?_)
    · refine X_iload_n rfl rfl rfl ?_
      refine X_aload_n rfl rfl rfl ?_
      refine X_getA rfl rfl (fun v14 => ?_)
      refine X_aln rfl rfl (fun v17 => ?_)
      refine X_bicmp_ge rfl rfl (fun _ => ?_) (fun _ => ?_)
      · refine X_aload_n rfl rfl rfl ?_
        refine X_getA rfl rfl (fun v22 => ?_)
        refine X_iload_n rfl rfl rfl ?_
        refine X_bld rfl rfl (fun v26 => ?_)
        refine X_goto rfl rfl ?_
        exact X_iret rfl rfl rfl rfl rfl rfl rfl
      · refine X_iconst (v := -1) rfl rfl (by decide) ?_
        exact X_iret rfl rfl rfl rfl rfl rfl rfl
    · refine X_iconst (v := -1) rfl rfl (by decide) ?_
      exact X_iret rfl rfl rfl rfl rfl rfl rfl
  · refine X_iconst (v := -1) rfl rfl (by decide) ?_
    exact X_iret rfl rfl rfl rfl rfl rfl rfl
def f_X5_findToken_b37 (h : gH) (l0 : Nat) : Option (Int32 × gH) :=
  (g_gI h l0 5 2).bind fun v39 =>
  (g_put h l0 5 3 (.int v39)).bind fun h42 =>
  (g_gI h42 l0 5 2).bind fun v46 =>
  (g_gI h42 l0 5 1).bind fun v50 =>
  (if v46 < v50 then
    some (1, h42)
  else
    some (0, h42))
def f_X5_findToken_b0 : Nat → gH → Nat → Option (Int32 × gH)
  | 0, _, _ => none
  | n + 1, h, l0 =>
    (g_gI h l0 5 2).bind fun v1 =>
    (g_gI h l0 5 1).bind fun v5 =>
    (if v1 < v5 then
      (g_gI h l0 5 2).bind fun v13 =>
      bif g_is h l0 5 then
      (f_X5_byteAt h l0 v13).bind fun v16 =>
      (if v16 = 32 then
        (g_gI h l0 5 2).bind fun v26 =>
        (g_put h l0 5 2 (.int (v26 + 1))).bind fun h31 =>
        f_X5_findToken_b0  n h31 l0
      else
        f_X5_findToken_b37 h l0)
      else none
    else
      f_X5_findToken_b37 h l0)
def f_X5_findToken (h : gH) (a0 : Nat) : Option (Int32 × gH) :=
  f_X5_findToken_b0 g_N h a0
set_option maxRecDepth 100000 in
theorem b_X5_findToken_b37 {l : Launch} {G : gG} (h : gH) (l0 : Nat) : GX l G M_X5_findToken (g_phi G g_wI (m_R M_X5_findToken).cells (m_R M_X5_findToken).slots) 0 0 37 [some (.ref l0)] [] h (f_X5_findToken_b37 h l0) := by
  unfold f_X5_findToken_b37
  refine X_aload_n rfl rfl rfl ?_
  refine X_aload_n rfl rfl rfl ?_
  refine X_getI rfl rfl (fun v39 => ?_)
  refine X_put rfl rfl rfl rfl rfl (fun h42 => ?_)
  refine X_aload_n rfl rfl rfl ?_
  refine X_getI rfl rfl (fun v46 => ?_)
  refine X_aload_n rfl rfl rfl ?_
  refine X_getI rfl rfl (fun v50 => ?_)
  refine X_bicmp_ge rfl rfl (fun _ => ?_) (fun _ => ?_)
  · refine X_iconst (v := 1) rfl rfl (by decide) ?_
    refine X_goto rfl rfl ?_
    exact X_iret rfl rfl rfl rfl rfl rfl rfl
  · refine X_iconst (v := 0) rfl rfl (by decide) ?_
    exact X_iret rfl rfl rfl rfl rfl rfl rfl
set_option maxRecDepth 100000 in
theorem b_X5_findToken_b0 {l : Launch} {G : gG} : ∀ (n : Nat) (h : gH) (l0 : Nat), GX l G M_X5_findToken (g_phi G g_wI (m_R M_X5_findToken).cells (m_R M_X5_findToken).slots) 0 0 0 [some (.ref l0)] [] h (f_X5_findToken_b0 n h l0) := by
  intro n
  induction n with
  | zero => intros; exact X_none
  | succ n ih =>
    intro h l0
    rw [f_X5_findToken_b0]
    refine X_aload_n rfl rfl rfl ?_
    refine X_getI rfl rfl (fun v1 => ?_)
    refine X_aload_n rfl rfl rfl ?_
    refine X_getI rfl rfl (fun v5 => ?_)
    refine X_bicmp_ge rfl rfl (fun _ => ?_) (fun _ => ?_)
    · refine X_aload_n rfl rfl rfl ?_
      refine X_aload_n rfl rfl rfl ?_
      refine X_getI rfl rfl (fun v13 => ?_)
      refine X_callV_IR (M' := M_X5_byteAt) (nA := 1) (As := [.int v13]) (st := []) (b := l0) (ci := 5) rfl rfl (by decide +kernel) rfl rfl rfl rfl rfl rfl rfl rfl (fun _ e => ct_X5_byteAt e) (fun v16 => ?_)
      refine X_bipush (v := 32) rfl rfl (by decide) ?_
      refine X_bicmp_ne rfl rfl (fun _ => ?_) (fun _ => ?_)
      · refine X_aload_n rfl rfl rfl ?_
        refine X_dup rfl rfl rfl ?_
        refine X_getI rfl rfl (fun v26 => ?_)
        refine X_iconst (v := 1) rfl rfl (by decide) ?_
        refine X_iadd rfl rfl ?_
        refine X_put rfl rfl rfl rfl rfl (fun h31 => ?_)
        refine X_goto rfl rfl ?_
        exact X_sub (g_sub_s g_sub_0) (ih _ _)
      · exact X_sub (g_sub_s g_sub_0) (b_X5_findToken_b37  _ _)
    · exact X_sub (g_sub_s g_sub_0) (b_X5_findToken_b37  _ _)
set_option maxRecDepth 100000 in
theorem ct_X5_findToken {l : Launch} {G : gG} {h : gH} {a0 : Nat} {r : Int32} {h1 : gH} (e : f_X5_findToken h a0 = some (r, h1)) : Ct l G M_X5_findToken [.ref a0] h (some (.int r)) h1 := by
  refine Ct_of (L := [some (.ref a0)]) ok_X5_findToken (by decide +kernel) rfl rfl rfl (ρ := g_wI) (F := f_X5_findToken h a0) ?_ e rfl
  unfold f_X5_findToken
  exact X_sub (g_sub_s g_sub_0) (b_X5_findToken_b0  _ _ _)
def f_X5_readWord_b5 : Nat → gH → Nat → Option gH
  | 0, _, _ => none
  | n + 1, h, l0 =>
    (g_gI h l0 5 2).bind fun v6 =>
    (g_gI h l0 5 1).bind fun v10 =>
    (if v6 < v10 then
      (g_gI h l0 5 2).bind fun v18 =>
      bif g_is h l0 5 then
      (f_X5_byteAt h l0 v18).bind fun v21 =>
      (if (f_X7_isWithin v21 97 122) = 0 then
        some h
      else
        (g_gI h l0 5 2).bind fun v36 =>
        (g_put h l0 5 2 (.int (v36 + 1))).bind fun h41 =>
        f_X5_readWord_b5  n h41 l0)
      else none
    else
      some h)
def f_X5_readWord (h : gH) (a0 : Nat) : Option gH :=
  bif g_is h a0 5 then
  (f_X5_findToken h a0).bind fun y1 =>
  f_X5_readWord_b5 g_N y1.2 a0
  else none
set_option maxRecDepth 100000 in
theorem b_X5_readWord_b5 {l : Launch} {G : gG} : ∀ (n : Nat) (h : gH) (l0 : Nat), GX l G M_X5_readWord (g_phi G g_wU (m_R M_X5_readWord).cells (m_R M_X5_readWord).slots) 0 0 5 [some (.ref l0)] [] h (f_X5_readWord_b5 n h l0) := by
  intro n
  induction n with
  | zero => intros; exact X_none
  | succ n ih =>
    intro h l0
    rw [f_X5_readWord_b5]
    refine X_aload_n rfl rfl rfl ?_
    refine X_getI rfl rfl (fun v6 => ?_)
    refine X_aload_n rfl rfl rfl ?_
    refine X_getI rfl rfl (fun v10 => ?_)
    refine X_bicmp_ge rfl rfl (fun _ => ?_) (fun _ => ?_)
    · refine X_aload_n rfl rfl rfl ?_
      refine X_aload_n rfl rfl rfl ?_
      refine X_getI rfl rfl (fun v18 => ?_)
      refine X_callV_IR (M' := M_X5_byteAt) (nA := 1) (As := [.int v18]) (st := []) (b := l0) (ci := 5) rfl rfl (by decide +kernel) rfl rfl rfl rfl rfl rfl rfl rfl (fun _ e => ct_X5_byteAt e) (fun v21 => ?_)
      refine X_bipush (v := 97) rfl rfl (by decide) ?_
      refine X_bipush (v := 122) rfl rfl (by decide) ?_
      refine X_callSN_IP (v := f_X7_isWithin v21 97 122) (M' := M_X7_isWithin) (nA := 3) (As := [.int v21, .int 97, .int 122]) (st := []) rfl rfl (by decide +kernel) rfl rfl rfl rfl rfl rfl rfl ct_X7_isWithin ?_
      refine X_bif_eq rfl rfl (fun _ => ?_) (fun _ => ?_)
      · exact X_vret rfl rfl rfl rfl rfl rfl
      · refine X_aload_n rfl rfl rfl ?_
        refine X_dup rfl rfl rfl ?_
        refine X_getI rfl rfl (fun v36 => ?_)
        refine X_iconst (v := 1) rfl rfl (by decide) ?_
        refine X_iadd rfl rfl ?_
        refine X_put rfl rfl rfl rfl rfl (fun h41 => ?_)
        refine X_goto rfl rfl ?_
        exact X_sub (g_sub_s g_sub_0) (ih _ _)
    · exact X_vret rfl rfl rfl rfl rfl rfl
set_option maxRecDepth 100000 in
theorem ct_X5_readWord {l : Launch} {G : gG} {h : gH} {a0 : Nat} {h1 : gH} (e : f_X5_readWord h a0 = some h1) : Ct l G M_X5_readWord [.ref a0] h none h1 := by
  refine Ct_of (L := [some (.ref a0)]) ok_X5_readWord (by decide +kernel) rfl rfl rfl (ρ := g_wU) (F := f_X5_readWord h a0) ?_ e rfl
  unfold f_X5_readWord
  refine X_aload_n rfl rfl rfl ?_
  refine X_callV_IW (M' := M_X5_findToken) (nA := 0) (As := []) (st := []) (b := a0) (ci := 5) rfl rfl (by decide +kernel) rfl rfl rfl rfl rfl rfl rfl rfl (fun _ _ e => ct_X5_findToken e) (fun y1 => ?_)
  refine X_pop rfl rfl rfl ?_
  exact X_sub (g_sub_s g_sub_0) (b_X5_readWord_b5  _ _ _)
def f_X5_isToken_b20 (h : gH) : Nat → Nat → Nat → Int32 → Option (Int32)
  | 0, _, _, _ => none
  | n + 1, l0, l1, l2 =>
    (g_slen l1).bind fun v22 =>
    (if l2 < v22 then
      (g_gI h l0 5 3).bind fun v30 =>
      bif g_is h l0 5 then
      (f_X5_byteAt h l0 (v30 + l2)).bind fun v35 =>
      (g_sch l1 l2).bind fun v40 =>
      (if v35 = v40 then
        f_X5_isToken_b20 h n l0 l1 (l2 + 1)
      else
        some 0)
      else none
    else
      some 1)
def f_X5_isToken (h : gH) (a0 : Nat) (p1 : Nat) : Option (Int32) :=
  (g_gI h a0 5 2).bind fun v1 =>
  (g_gI h a0 5 3).bind fun v5 =>
  (g_slen p1).bind fun v10 =>
  (if (v1 - v5) = v10 then
    f_X5_isToken_b20 h g_N a0 p1 0
  else
    some 0)
set_option maxRecDepth 100000 in
theorem b_X5_isToken_b20 {l : Launch} {G : gG} {h : gH} : ∀ (n : Nat) (l0 : Nat) (l1 : Nat) (l2 : Int32), GX l G M_X5_isToken (g_phi G (g_rI h) (m_R M_X5_isToken).cells (m_R M_X5_isToken).slots) 0 0 20 [some (.ref l0), some (.ref (g_aK G l1)), some (.int l2)] [] h (f_X5_isToken_b20 h n l0 l1 l2) := by
  intro n
  induction n with
  | zero => intros; exact X_none
  | succ n ih =>
    intro l0 l1 l2
    rw [f_X5_isToken_b20]
    refine X_iload_n rfl rfl rfl ?_
    refine X_aload_n rfl rfl rfl ?_
    refine X_slen rfl rfl (by decide +kernel) rfl rfl rfl (fun v22 => ?_)
    refine X_bicmp_ge rfl rfl (fun _ => ?_) (fun _ => ?_)
    · refine X_aload_n rfl rfl rfl ?_
      refine X_aload_n rfl rfl rfl ?_
      refine X_getI rfl rfl (fun v30 => ?_)
      refine X_iload_n rfl rfl rfl ?_
      refine X_iadd rfl rfl ?_
      refine X_callV_IR (M' := M_X5_byteAt) (nA := 1) (As := [.int (v30 + l2)]) (st := []) (b := l0) (ci := 5) rfl rfl (by decide +kernel) rfl rfl rfl rfl rfl rfl rfl rfl (fun _ e => ct_X5_byteAt e) (fun v35 => ?_)
      refine X_aload_n rfl rfl rfl ?_
      refine X_iload_n rfl rfl rfl ?_
      refine X_sch rfl rfl (by decide +kernel) rfl rfl rfl (fun v40 => ?_)
      refine X_bicmp_eq rfl rfl (fun _ => ?_) (fun _ => ?_)
      · refine X_iinc (v := l2 + 1) rfl rfl rfl (congrArg (fun z => l2 + z) (by decide : Int32.ofInt 1 = 1)) rfl ?_
        refine X_goto rfl rfl ?_
        exact X_sub (g_sub_s (g_sub_s (g_sub_s g_sub_0))) (ih _ _ _)
      · refine X_iconst (v := 0) rfl rfl (by decide) ?_
        exact X_iret rfl rfl rfl rfl rfl rfl rfl
    · refine X_iconst (v := 1) rfl rfl (by decide) ?_
      exact X_iret rfl rfl rfl rfl rfl rfl rfl
set_option maxRecDepth 100000 in
theorem ct_X5_isToken {l : Launch} {G : gG} {h : gH} {a0 : Nat} {p1 : Nat} {r : Int32} (e : f_X5_isToken h a0 p1 = some r) : Ct l G M_X5_isToken [.ref a0, .ref (g_aK G p1)] h (some (.int r)) h := by
  refine Ct_of (L := [some (.ref a0), some (.ref (g_aK G p1)), none]) ok_X5_isToken (by decide +kernel) rfl rfl rfl (ρ := (g_rI h)) (F := f_X5_isToken h a0 p1) ?_ e rfl
  unfold f_X5_isToken
  refine X_aload_n rfl rfl rfl ?_
  refine X_getI rfl rfl (fun v1 => ?_)
  refine X_aload_n rfl rfl rfl ?_
  refine X_getI rfl rfl (fun v5 => ?_)
  refine X_isub rfl rfl ?_
  refine X_aload_n rfl rfl rfl ?_
  refine X_slen rfl rfl (by decide +kernel) rfl rfl rfl (fun v10 => ?_)
  refine X_bicmp_eq rfl rfl (fun _ => ?_) (fun _ => ?_)
  · refine X_iconst (v := 0) rfl rfl (by decide) ?_
    refine X_istore_n rfl rfl rfl rfl ?_
    exact X_sub (g_sub_s (g_sub_s (g_sub_s g_sub_0))) (b_X5_isToken_b20  _ _ _ _)
  · refine X_iconst (v := 0) rfl rfl (by decide) ?_
    exact X_iret rfl rfl rfl rfl rfl rfl rfl
def f_X5_isError (h : gH) (a0 : Nat) (p1 : Int32) : Option (Int32 × gH) :=
  (g_put h a0 5 5 (.int p1)).bind fun h2 =>
  (g_gI h2 a0 5 3).bind fun v7 =>
  (g_put h2 a0 5 6 (.int v7)).bind fun h10 =>
  some (0, h10)
set_option maxRecDepth 100000 in
theorem ct_X5_isError {l : Launch} {G : gG} {h : gH} {a0 : Nat} {p1 : Int32} {r : Int32} {h1 : gH} (e : f_X5_isError h a0 p1 = some (r, h1)) : Ct l G M_X5_isError [.ref a0, .int p1] h (some (.int r)) h1 := by
  refine Ct_of (L := [some (.ref a0), some (.int p1)]) ok_X5_isError (by decide +kernel) rfl rfl rfl (ρ := g_wI) (F := f_X5_isError h a0 p1) ?_ e rfl
  unfold f_X5_isError
  refine X_aload_n rfl rfl rfl ?_
  refine X_iload_n rfl rfl rfl ?_
  refine X_put rfl rfl rfl rfl rfl (fun h2 => ?_)
  refine X_aload_n rfl rfl rfl ?_
  refine X_aload_n rfl rfl rfl ?_
  refine X_getI rfl rfl (fun v7 => ?_)
  refine X_put rfl rfl rfl rfl rfl (fun h10 => ?_)
  refine X_iconst (v := 0) rfl rfl (by decide) ?_
  exact X_iret rfl rfl rfl rfl rfl rfl rfl
def f_X5_readNumber_b71 (h : gH) (l0 : Nat) (l1 : Int32) (l2 : Int32) (l3 : Int32) : Option (Int32 × gH) :=
  (g_gI h l0 5 2).bind fun v72 =>
  (g_gI h l0 5 3).bind fun v76 =>
  (if v72 = v76 then
    bif g_is h l0 5 then
    (f_X5_isError h l0 (-2)).bind fun y85 =>
    some (-1, y85.2)
    else none
  else
    (if (f_X7_isWithin l3 l1 l2) = 0 then
      bif g_is h l0 5 then
      (f_X5_isError h l0 (-3)).bind fun y103 =>
      some (-1, y103.2)
      else none
    else
      some (l3, h)))
def f_X5_readNumber_b7 : Nat → gH → Nat → Int32 → Int32 → Int32 → Option (Int32 × gH)
  | 0, _, _, _, _, _ => none
  | n + 1, h, l0, l1, l2, l3 =>
    (g_gI h l0 5 2).bind fun v8 =>
    (g_gI h l0 5 1).bind fun v12 =>
    (if v8 < v12 then
      (g_gI h l0 5 2).bind fun v20 =>
      bif g_is h l0 5 then
      (f_X5_byteAt h l0 v20).bind fun v23 =>
      (if (f_X7_isWithin v23 48 57) = 0 then
        f_X5_readNumber_b71 h l0 l1 l2 l3
      else
        (g_gI h l0 5 2).bind fun v42 =>
        bif g_is h l0 5 then
        (f_X5_byteAt h l0 v42).bind fun v45 =>
        (g_gI h l0 5 2).bind fun v60 =>
        (g_put h l0 5 2 (.int (v60 + 1))).bind fun h65 =>
        f_X5_readNumber_b7  n h65 l0 l1 l2 (g_min (((10 * l3) + v45) - 48) 1000000)
        else none)
      else none
    else
      f_X5_readNumber_b71 h l0 l1 l2 l3)
def f_X5_readNumber (h : gH) (a0 : Nat) (p1 : Int32) (p2 : Int32) : Option (Int32 × gH) :=
  bif g_is h a0 5 then
  (f_X5_findToken h a0).bind fun y1 =>
  f_X5_readNumber_b7 g_N y1.2 a0 p1 p2 0
  else none
set_option maxRecDepth 100000 in
theorem b_X5_readNumber_b71 {l : Launch} {G : gG} (h : gH) (l0 : Nat) (l1 : Int32) (l2 : Int32) (l3 : Int32) : GX l G M_X5_readNumber (g_phi G g_wI (m_R M_X5_readNumber).cells (m_R M_X5_readNumber).slots) 0 0 71 [some (.ref l0), some (.int l1), some (.int l2), some (.int l3)] [] h (f_X5_readNumber_b71 h l0 l1 l2 l3) := by
  unfold f_X5_readNumber_b71
  refine X_aload_n rfl rfl rfl ?_
  refine X_getI rfl rfl (fun v72 => ?_)
  refine X_aload_n rfl rfl rfl ?_
  refine X_getI rfl rfl (fun v76 => ?_)
  refine X_bicmp_ne rfl rfl (fun _ => ?_) (fun _ => ?_)
  · refine X_aload_n rfl rfl rfl ?_
    refine X_bipush (v := -2) rfl rfl (by decide) ?_
    refine X_callV_IW (M' := M_X5_isError) (nA := 1) (As := [.int (-2)]) (st := []) (b := l0) (ci := 5) rfl rfl (by decide +kernel) rfl rfl rfl rfl rfl rfl rfl rfl (fun _ _ e => ct_X5_isError e) (fun y85 => ?_)
    refine X_pop rfl rfl rfl ?_
    refine X_iconst (v := -1) rfl rfl (by decide) ?_
    exact X_iret rfl rfl rfl rfl rfl rfl rfl
  · refine X_iload_n rfl rfl rfl ?_
    refine X_iload_n rfl rfl rfl ?_
    refine X_iload_n rfl rfl rfl ?_
    refine X_callSN_IP (v := f_X7_isWithin l3 l1 l2) (M' := M_X7_isWithin) (nA := 3) (As := [.int l3, .int l1, .int l2]) (st := []) rfl rfl (by decide +kernel) rfl rfl rfl rfl rfl rfl rfl ct_X7_isWithin ?_
    refine X_bif_ne rfl rfl (fun _ => ?_) (fun _ => ?_)
    · refine X_aload_n rfl rfl rfl ?_
      refine X_bipush (v := -3) rfl rfl (by decide) ?_
      refine X_callV_IW (M' := M_X5_isError) (nA := 1) (As := [.int (-3)]) (st := []) (b := l0) (ci := 5) rfl rfl (by decide +kernel) rfl rfl rfl rfl rfl rfl rfl rfl (fun _ _ e => ct_X5_isError e) (fun y103 => ?_)
      refine X_pop rfl rfl rfl ?_
      refine X_iconst (v := -1) rfl rfl (by decide) ?_
      exact X_iret rfl rfl rfl rfl rfl rfl rfl
    · refine X_iload_n rfl rfl rfl ?_
      exact X_iret rfl rfl rfl rfl rfl rfl rfl
set_option maxRecDepth 100000 in
theorem b_X5_readNumber_b7 {l : Launch} {G : gG} : ∀ (n : Nat) (h : gH) (l0 : Nat) (l1 : Int32) (l2 : Int32) (l3 : Int32), GX l G M_X5_readNumber (g_phi G g_wI (m_R M_X5_readNumber).cells (m_R M_X5_readNumber).slots) 0 0 7 [some (.ref l0), some (.int l1), some (.int l2), some (.int l3)] [] h (f_X5_readNumber_b7 n h l0 l1 l2 l3) := by
  intro n
  induction n with
  | zero => intros; exact X_none
  | succ n ih =>
    intro h l0 l1 l2 l3
    rw [f_X5_readNumber_b7]
    refine X_aload_n rfl rfl rfl ?_
    refine X_getI rfl rfl (fun v8 => ?_)
    refine X_aload_n rfl rfl rfl ?_
    refine X_getI rfl rfl (fun v12 => ?_)
    refine X_bicmp_ge rfl rfl (fun _ => ?_) (fun _ => ?_)
    · refine X_aload_n rfl rfl rfl ?_
      refine X_aload_n rfl rfl rfl ?_
      refine X_getI rfl rfl (fun v20 => ?_)
      refine X_callV_IR (M' := M_X5_byteAt) (nA := 1) (As := [.int v20]) (st := []) (b := l0) (ci := 5) rfl rfl (by decide +kernel) rfl rfl rfl rfl rfl rfl rfl rfl (fun _ e => ct_X5_byteAt e) (fun v23 => ?_)
      refine X_bipush (v := 48) rfl rfl (by decide) ?_
      refine X_bipush (v := 57) rfl rfl (by decide) ?_
      refine X_callSN_IP (v := f_X7_isWithin v23 48 57) (M' := M_X7_isWithin) (nA := 3) (As := [.int v23, .int 48, .int 57]) (st := []) rfl rfl (by decide +kernel) rfl rfl rfl rfl rfl rfl rfl ct_X7_isWithin ?_
      refine X_bif_eq rfl rfl (fun _ => ?_) (fun _ => ?_)
      · exact X_sub (g_sub_s (g_sub_s (g_sub_s (g_sub_s g_sub_0)))) (b_X5_readNumber_b71  _ _ _ _ _)
      · refine X_bipush (v := 10) rfl rfl (by decide) ?_
        refine X_iload_n rfl rfl rfl ?_
        refine X_imul rfl rfl ?_
        refine X_aload_n rfl rfl rfl ?_
        refine X_aload_n rfl rfl rfl ?_
        refine X_getI rfl rfl (fun v42 => ?_)
        refine X_callV_IR (M' := M_X5_byteAt) (nA := 1) (As := [.int v42]) (st := [.int (10 * l3)]) (b := l0) (ci := 5) rfl rfl (by decide +kernel) rfl rfl rfl rfl rfl rfl rfl rfl (fun _ e => ct_X5_byteAt e) (fun v45 => ?_)
        refine X_iadd rfl rfl ?_
        refine X_bipush (v := 48) rfl rfl (by decide) ?_
        refine X_isub rfl rfl ?_
        refine X_ldc (v := 1000000) rfl rfl (by decide +kernel) ?_
        refine X_mmin rfl rfl (by decide +kernel) (by decide +kernel) (by decide +kernel) (by decide +kernel) rfl rfl rfl rfl ?_
        refine X_istore_n rfl rfl rfl rfl ?_
        refine X_aload_n rfl rfl rfl ?_
        refine X_dup rfl rfl rfl ?_
        refine X_getI rfl rfl (fun v60 => ?_)
        refine X_iconst (v := 1) rfl rfl (by decide) ?_
        refine X_iadd rfl rfl ?_
        refine X_put rfl rfl rfl rfl rfl (fun h65 => ?_)
        refine X_goto rfl rfl ?_
        exact X_sub (g_sub_s (g_sub_s (g_sub_s (g_sub_s g_sub_0)))) (ih _ _ _ _ _)
    · exact X_sub (g_sub_s (g_sub_s (g_sub_s (g_sub_s g_sub_0)))) (b_X5_readNumber_b71  _ _ _ _ _)
set_option maxRecDepth 100000 in
theorem ct_X5_readNumber {l : Launch} {G : gG} {h : gH} {a0 : Nat} {p1 : Int32} {p2 : Int32} {r : Int32} {h1 : gH} (e : f_X5_readNumber h a0 p1 p2 = some (r, h1)) : Ct l G M_X5_readNumber [.ref a0, .int p1, .int p2] h (some (.int r)) h1 := by
  refine Ct_of (L := [some (.ref a0), some (.int p1), some (.int p2), none]) ok_X5_readNumber (by decide +kernel) rfl rfl rfl (ρ := g_wI) (F := f_X5_readNumber h a0 p1 p2) ?_ e rfl
  unfold f_X5_readNumber
  refine X_aload_n rfl rfl rfl ?_
  refine X_callV_IW (M' := M_X5_findToken) (nA := 0) (As := []) (st := []) (b := a0) (ci := 5) rfl rfl (by decide +kernel) rfl rfl rfl rfl rfl rfl rfl rfl (fun _ _ e => ct_X5_findToken e) (fun y1 => ?_)
  refine X_pop rfl rfl rfl ?_
  refine X_iconst (v := 0) rfl rfl (by decide) ?_
  refine X_istore_n rfl rfl rfl rfl ?_
  exact X_sub (g_sub_s (g_sub_s (g_sub_s (g_sub_s g_sub_0)))) (b_X5_readNumber_b7  _ _ _ _ _ _)
def f_X5_readSemicolon_b20 (h : gH) (l0 : Nat) : Option (Int32 × gH) :=
  bif g_is h l0 5 then
  (f_X5_isError h l0 (-2)).bind fun y23 =>
  (g_z y23.1).bind fun z => some (y23.1, y23.2)
  else none
def f_X5_readSemicolon (h : gH) (a0 : Nat) : Option (Int32 × gH) :=
  bif g_is h a0 5 then
  (f_X5_findToken h a0).bind fun y1 =>
  (if y1.1 = 0 then
    f_X5_readSemicolon_b20 y1.2 a0
  else
    (g_gI y1.2 a0 5 2).bind fun v9 =>
    bif g_is y1.2 a0 5 then
    (f_X5_byteAt y1.2 a0 v9).bind fun v12 =>
    (if v12 = 59 then
      (g_gI y1.2 a0 5 2).bind fun v29 =>
      (g_put y1.2 a0 5 2 (.int (v29 + 1))).bind fun h34 =>
      some (1, h34)
    else
      f_X5_readSemicolon_b20 y1.2 a0)
    else none)
  else none
set_option maxRecDepth 100000 in
theorem b_X5_readSemicolon_b20 {l : Launch} {G : gG} (h : gH) (l0 : Nat) : GX l G M_X5_readSemicolon (g_phi G g_wI (m_R M_X5_readSemicolon).cells (m_R M_X5_readSemicolon).slots) 0 0 20 [some (.ref l0)] [] h (f_X5_readSemicolon_b20 h l0) := by
  unfold f_X5_readSemicolon_b20
  refine X_aload_n rfl rfl rfl ?_
  refine X_bipush (v := -2) rfl rfl (by decide) ?_
  refine X_callV_IW (M' := M_X5_isError) (nA := 1) (As := [.int (-2)]) (st := []) (b := l0) (ci := 5) rfl rfl (by decide +kernel) rfl rfl rfl rfl rfl rfl rfl rfl (fun _ _ e => ct_X5_isError e) (fun y23 => ?_)
  exact X_zret rfl rfl rfl ⟨_, rfl, rfl⟩ rfl rfl
set_option maxRecDepth 100000 in
theorem ct_X5_readSemicolon {l : Launch} {G : gG} {h : gH} {a0 : Nat} {r : Int32} {h1 : gH} (e : f_X5_readSemicolon h a0 = some (r, h1)) : Ct l G M_X5_readSemicolon [.ref a0] h (some (.int r)) h1 := by
  refine Ct_of (L := [some (.ref a0)]) ok_X5_readSemicolon (by decide +kernel) rfl rfl rfl (ρ := g_wI) (F := f_X5_readSemicolon h a0) ?_ e rfl
  unfold f_X5_readSemicolon
  refine X_aload_n rfl rfl rfl ?_
  refine X_callV_IW (M' := M_X5_findToken) (nA := 0) (As := []) (st := []) (b := a0) (ci := 5) rfl rfl (by decide +kernel) rfl rfl rfl rfl rfl rfl rfl rfl (fun _ _ e => ct_X5_findToken e) (fun y1 => ?_)
  refine X_bif_eq rfl rfl (fun _ => ?_) (fun _ => ?_)
  · exact X_sub (g_sub_s g_sub_0) (b_X5_readSemicolon_b20  _ _)
  · refine X_aload_n rfl rfl rfl ?_
    refine X_aload_n rfl rfl rfl ?_
    refine X_getI rfl rfl (fun v9 => ?_)
    refine X_callV_IR (M' := M_X5_byteAt) (nA := 1) (As := [.int v9]) (st := []) (b := a0) (ci := 5) rfl rfl (by decide +kernel) rfl rfl rfl rfl rfl rfl rfl rfl (fun _ e => ct_X5_byteAt e) (fun v12 => ?_)
    refine X_bipush (v := 59) rfl rfl (by decide) ?_
    refine X_bicmp_eq rfl rfl (fun _ => ?_) (fun _ => ?_)
    · refine X_aload_n rfl rfl rfl ?_
      refine X_dup rfl rfl rfl ?_
      refine X_getI rfl rfl (fun v29 => ?_)
      refine X_iconst (v := 1) rfl rfl (by decide) ?_
      refine X_iadd rfl rfl ?_
      refine X_put rfl rfl rfl rfl rfl (fun h34 => ?_)
      refine X_iconst (v := 1) rfl rfl (by decide) ?_
      exact X_iret rfl rfl rfl rfl rfl rfl rfl
    · exact X_sub (g_sub_s g_sub_0) (b_X5_readSemicolon_b20  _ _)
def f_X5_readRelay (h : gH) (a0 : Nat) (p1 : Nat) : Option (Int32 × gH) :=
  bif g_is h a0 5 then
  (f_X5_readWord h a0).bind fun h1 =>
  bif g_is h1 a0 5 then
  (f_X5_isToken h1 a0 0).bind fun v7 =>
  (if v7 = 0 then
    bif g_is h1 a0 5 then
    (f_X5_isError h1 a0 (-2)).bind fun y16 =>
    (g_z y16.1).bind fun z => some (y16.1, y16.2)
    else none
  else
    bif g_is h1 a0 5 then
    (f_X5_readNumber h1 a0 1 8).bind fun y24 =>
    (if y24.1 = (-1) then
      some (0, y24.2)
    else
      bif g_is y24.2 a0 5 then
      (f_X5_readNumber y24.2 a0 1 9).bind fun y39 =>
      (if y39.1 = (-1) then
        some (0, y39.2)
      else
        bif g_is y39.2 p1 6 then
        (f_X6_clear y39.2 p1 y24.1 y39.1).bind fun h53 =>
        bif g_is h53 a0 5 then
        (f_X5_readSemicolon h53 a0).bind fun y57 =>
        (g_z y57.1).bind fun z => some (y57.1, y57.2)
        else none
        else none)
      else none)
    else none)
  else none
  else none
set_option maxRecDepth 100000 in
theorem ct_X5_readRelay {l : Launch} {G : gG} {h : gH} {a0 : Nat} {p1 : Nat} {r : Int32} {h1 : gH} (e : f_X5_readRelay h a0 p1 = some (r, h1)) : Ct l G M_X5_readRelay [.ref a0, .ref p1] h (some (.int r)) h1 := by
  refine Ct_of (L := [some (.ref a0), some (.ref p1), none, none]) ok_X5_readRelay (by decide +kernel) rfl rfl rfl (ρ := g_wI) (F := f_X5_readRelay h a0 p1) ?_ e rfl
  unfold f_X5_readRelay
  refine X_aload_n rfl rfl rfl ?_
  refine X_callV_UW (M' := M_X5_readWord) (nA := 0) (As := []) (st := []) (b := a0) (ci := 5) rfl rfl (by decide +kernel) rfl rfl rfl rfl rfl rfl rfl rfl (fun _ e => ct_X5_readWord e) (fun h1 => ?_)
  refine X_aload_n rfl rfl rfl ?_
  refine X_ldcS (i := 0) (tx := "relay") rfl rfl (by decide +kernel) ?_
  refine X_callV_IR (M' := M_X5_isToken) (nA := 1) (As := [.ref (g_aK G 0)]) (st := []) (b := a0) (ci := 5) rfl rfl (by decide +kernel) rfl rfl rfl rfl rfl rfl rfl rfl (fun _ e => ct_X5_isToken e) (fun v7 => ?_)
  refine X_bif_ne rfl rfl (fun _ => ?_) (fun _ => ?_)
  · refine X_aload_n rfl rfl rfl ?_
    refine X_bipush (v := -2) rfl rfl (by decide) ?_
    refine X_callV_IW (M' := M_X5_isError) (nA := 1) (As := [.int (-2)]) (st := []) (b := a0) (ci := 5) rfl rfl (by decide +kernel) rfl rfl rfl rfl rfl rfl rfl rfl (fun _ _ e => ct_X5_isError e) (fun y16 => ?_)
    exact X_zret rfl rfl rfl ⟨_, rfl, rfl⟩ rfl rfl
  · refine X_aload_n rfl rfl rfl ?_
    refine X_iconst (v := 1) rfl rfl (by decide) ?_
    refine X_bipush (v := 8) rfl rfl (by decide) ?_
    refine X_callV_IW (M' := M_X5_readNumber) (nA := 2) (As := [.int 1, .int 8]) (st := []) (b := a0) (ci := 5) rfl rfl (by decide +kernel) rfl rfl rfl rfl rfl rfl rfl rfl (fun _ _ e => ct_X5_readNumber e) (fun y24 => ?_)
    refine X_istore_n rfl rfl rfl rfl ?_
    refine X_iload_n rfl rfl rfl ?_
    refine X_iconst (v := -1) rfl rfl (by decide) ?_
    refine X_bicmp_ne rfl rfl (fun _ => ?_) (fun _ => ?_)
    · refine X_iconst (v := 0) rfl rfl (by decide) ?_
      exact X_iret rfl rfl rfl rfl rfl rfl rfl
    · refine X_aload_n rfl rfl rfl ?_
      refine X_iconst (v := 1) rfl rfl (by decide) ?_
      refine X_bipush (v := 9) rfl rfl (by decide) ?_
      refine X_callV_IW (M' := M_X5_readNumber) (nA := 2) (As := [.int 1, .int 9]) (st := []) (b := a0) (ci := 5) rfl rfl (by decide +kernel) rfl rfl rfl rfl rfl rfl rfl rfl (fun _ _ e => ct_X5_readNumber e) (fun y39 => ?_)
      refine X_istore_n rfl rfl rfl rfl ?_
      refine X_iload_n rfl rfl rfl ?_
      refine X_iconst (v := -1) rfl rfl (by decide) ?_
      refine X_bicmp_ne rfl rfl (fun _ => ?_) (fun _ => ?_)
      · refine X_iconst (v := 0) rfl rfl (by decide) ?_
        exact X_iret rfl rfl rfl rfl rfl rfl rfl
      · refine X_aload_n rfl rfl rfl ?_
        refine X_iload_n rfl rfl rfl ?_
        refine X_iload_n rfl rfl rfl ?_
        refine X_callV_UW (M' := M_X6_clear) (nA := 2) (As := [.int y24.1, .int y39.1]) (st := []) (b := p1) (ci := 6) rfl rfl (by decide +kernel) rfl rfl rfl rfl rfl rfl rfl rfl (fun _ e => ct_X6_clear e) (fun h53 => ?_)
        refine X_aload_n rfl rfl rfl ?_
        refine X_callV_IW (M' := M_X5_readSemicolon) (nA := 0) (As := []) (st := []) (b := a0) (ci := 5) rfl rfl (by decide +kernel) rfl rfl rfl rfl rfl rfl rfl rfl (fun _ _ e => ct_X5_readSemicolon e) (fun y57 => ?_)
        exact X_zret rfl rfl rfl ⟨_, rfl, rfl⟩ rfl rfl
def f_X5_readChannel (h : gH) (a0 : Nat) (p1 : Nat) : Option (Int32 × gH) :=
  bif g_is h a0 5 then
  (f_X5_readNumber h a0 0 1).bind fun y3 =>
  (if y3.1 = (-1) then
    some (0, y3.2)
  else
    (g_gI y3.2 a0 5 4).bind fun v19 =>
    (if (v19 &&& (1 <<< (y3.1 &&& 31))) = 0 then
      (g_gI y3.2 a0 5 4).bind fun v36 =>
      (g_put y3.2 a0 5 4 (.int (v36 ||| (1 <<< (y3.1 &&& 31))))).bind fun h41 =>
      bif g_is h41 p1 6 then
      (f_X6_channelNumbered h41 p1 y3.1).bind fun v46 =>
      bif g_is h41 a0 5 then
      (f_X5_readNumber h41 a0 0 9).bind fun y57 =>
      (g_put y57.2 v46 0 0 (.int y57.1)).bind fun h60 =>
      (g_gI h60 v46 0 0).bind fun v65 =>
      (if v65 = (-1) then
        some (0, h60)
      else
        bif g_is h60 a0 5 then
        (f_X5_readNumber h60 a0 0 23).bind fun y80 =>
        (g_put y80.2 v46 0 1 (.int y80.1)).bind fun h83 =>
        (g_gI h83 v46 0 1).bind fun v88 =>
        (if v88 = (-1) then
          some (0, h83)
        else
          bif g_is h83 a0 5 then
          (f_X5_readNumber h83 a0 0 23).bind fun y103 =>
          (g_put y103.2 v46 0 2 (.int y103.1)).bind fun h106 =>
          (g_gI h106 v46 0 2).bind fun v111 =>
          (if v111 = (-1) then
            some (0, h106)
          else
            some (1, h106))
          else none)
        else none)
      else none
      else none
    else
      bif g_is y3.2 a0 5 then
      (f_X5_isError y3.2 a0 (-4)).bind fun y30 =>
      (g_z y30.1).bind fun z => some (y30.1, y30.2)
      else none))
  else none
set_option maxRecDepth 100000 in
theorem ct_X5_readChannel {l : Launch} {G : gG} {h : gH} {a0 : Nat} {p1 : Nat} {r : Int32} {h1 : gH} (e : f_X5_readChannel h a0 p1 = some (r, h1)) : Ct l G M_X5_readChannel [.ref a0, .ref p1] h (some (.int r)) h1 := by
  refine Ct_of (L := [some (.ref a0), some (.ref p1), none, none, none]) ok_X5_readChannel (by decide +kernel) rfl rfl rfl (ρ := g_wI) (F := f_X5_readChannel h a0 p1) ?_ e rfl
  unfold f_X5_readChannel
  refine X_aload_n rfl rfl rfl ?_
  refine X_iconst (v := 0) rfl rfl (by decide) ?_
  refine X_iconst (v := 1) rfl rfl (by decide) ?_
  refine X_callV_IW (M' := M_X5_readNumber) (nA := 2) (As := [.int 0, .int 1]) (st := []) (b := a0) (ci := 5) rfl rfl (by decide +kernel) rfl rfl rfl rfl rfl rfl rfl rfl (fun _ _ e => ct_X5_readNumber e) (fun y3 => ?_)
  refine X_istore_n rfl rfl rfl rfl ?_
  refine X_iload_n rfl rfl rfl ?_
  refine X_iconst (v := -1) rfl rfl (by decide) ?_
  refine X_bicmp_ne rfl rfl (fun _ => ?_) (fun _ => ?_)
  · refine X_iconst (v := 0) rfl rfl (by decide) ?_
    exact X_iret rfl rfl rfl rfl rfl rfl rfl
  · refine X_iconst (v := 1) rfl rfl (by decide) ?_
    refine X_iload_n rfl rfl rfl ?_
    refine X_ishl rfl rfl rfl ?_
    refine X_istore_n rfl rfl rfl rfl ?_
    refine X_aload_n rfl rfl rfl ?_
    refine X_getI rfl rfl (fun v19 => ?_)
    refine X_iload_n rfl rfl rfl ?_
    refine X_iand rfl rfl ?_
    refine X_bif_eq rfl rfl (fun _ => ?_) (fun _ => ?_)
    · refine X_aload_n rfl rfl rfl ?_
      refine X_dup rfl rfl rfl ?_
      refine X_getI rfl rfl (fun v36 => ?_)
      refine X_iload_n rfl rfl rfl ?_
      refine X_ior rfl rfl ?_
      refine X_put rfl rfl rfl rfl rfl (fun h41 => ?_)
      refine X_aload_n rfl rfl rfl ?_
      refine X_iload_n rfl rfl rfl ?_
      refine X_callV_AR (M' := M_X6_channelNumbered) (nA := 1) (As := [.int y3.1]) (st := []) (b := p1) (ci := 6) rfl rfl (by decide +kernel) rfl rfl rfl rfl rfl rfl rfl rfl (fun _ e => ct_X6_channelNumbered e) (fun v46 => ?_)
      refine X_astore rfl rfl rfl rfl ?_
      refine X_aload rfl rfl rfl ?_
      refine X_aload_n rfl rfl rfl ?_
      refine X_iconst (v := 0) rfl rfl (by decide) ?_
      refine X_bipush (v := 9) rfl rfl (by decide) ?_
      refine X_callV_IW (M' := M_X5_readNumber) (nA := 2) (As := [.int 0, .int 9]) (st := [.ref v46]) (b := a0) (ci := 5) rfl rfl (by decide +kernel) rfl rfl rfl rfl rfl rfl rfl rfl (fun _ _ e => ct_X5_readNumber e) (fun y57 => ?_)
      refine X_put rfl rfl rfl rfl rfl (fun h60 => ?_)
      refine X_aload rfl rfl rfl ?_
      refine X_getI rfl rfl (fun v65 => ?_)
      refine X_iconst (v := -1) rfl rfl (by decide) ?_
      refine X_bicmp_ne rfl rfl (fun _ => ?_) (fun _ => ?_)
      · refine X_iconst (v := 0) rfl rfl (by decide) ?_
        exact X_iret rfl rfl rfl rfl rfl rfl rfl
      · refine X_aload rfl rfl rfl ?_
        refine X_aload_n rfl rfl rfl ?_
        refine X_iconst (v := 0) rfl rfl (by decide) ?_
        refine X_bipush (v := 23) rfl rfl (by decide) ?_
        refine X_callV_IW (M' := M_X5_readNumber) (nA := 2) (As := [.int 0, .int 23]) (st := [.ref v46]) (b := a0) (ci := 5) rfl rfl (by decide +kernel) rfl rfl rfl rfl rfl rfl rfl rfl (fun _ _ e => ct_X5_readNumber e) (fun y80 => ?_)
        refine X_put rfl rfl rfl rfl rfl (fun h83 => ?_)
        refine X_aload rfl rfl rfl ?_
        refine X_getI rfl rfl (fun v88 => ?_)
        refine X_iconst (v := -1) rfl rfl (by decide) ?_
        refine X_bicmp_ne rfl rfl (fun _ => ?_) (fun _ => ?_)
        · refine X_iconst (v := 0) rfl rfl (by decide) ?_
          exact X_iret rfl rfl rfl rfl rfl rfl rfl
        · refine X_aload rfl rfl rfl ?_
          refine X_aload_n rfl rfl rfl ?_
          refine X_iconst (v := 0) rfl rfl (by decide) ?_
          refine X_bipush (v := 23) rfl rfl (by decide) ?_
          refine X_callV_IW (M' := M_X5_readNumber) (nA := 2) (As := [.int 0, .int 23]) (st := [.ref v46]) (b := a0) (ci := 5) rfl rfl (by decide +kernel) rfl rfl rfl rfl rfl rfl rfl rfl (fun _ _ e => ct_X5_readNumber e) (fun y103 => ?_)
          refine X_put rfl rfl rfl rfl rfl (fun h106 => ?_)
          refine X_aload rfl rfl rfl ?_
          refine X_getI rfl rfl (fun v111 => ?_)
          refine X_iconst (v := -1) rfl rfl (by decide) ?_
          refine X_bicmp_eq rfl rfl (fun _ => ?_) (fun _ => ?_)
          · refine X_iconst (v := 0) rfl rfl (by decide) ?_
            exact X_iret rfl rfl rfl rfl rfl rfl rfl
          · refine X_iconst (v := 1) rfl rfl (by decide) ?_
            refine X_goto rfl rfl ?_
            exact X_iret rfl rfl rfl rfl rfl rfl rfl
    · refine X_aload_n rfl rfl rfl ?_
      refine X_bipush (v := -4) rfl rfl (by decide) ?_
      refine X_callV_IW (M' := M_X5_isError) (nA := 1) (As := [.int (-4)]) (st := []) (b := a0) (ci := 5) rfl rfl (by decide +kernel) rfl rfl rfl rfl rfl rfl rfl rfl (fun _ _ e => ct_X5_isError e) (fun y30 => ?_)
      exact X_zret rfl rfl rfl ⟨_, rfl, rfl⟩ rfl rfl
def f_X5_readKeeper (h : gH) (a0 : Nat) (p1 : Nat) : Option (Int32 × gH) :=
  bif g_is h a0 5 then
  (f_X5_readNumber h a0 0 1).bind fun y3 =>
  (if y3.1 = (-1) then
    some (0, y3.2)
  else
    bif g_is y3.2 p1 6 then
    (f_X6_keepersOf y3.2 p1 y3.1).bind fun v16 =>
    bif g_is y3.2 v16 2 then
    (f_X2_isFull y3.2 v16).bind fun v21 =>
    (if v21 = 0 then
      bif g_is y3.2 a0 5 then
      (f_X5_readNumber y3.2 a0 0 9999).bind fun y39 =>
      (if y39.1 = (-1) then
        some (0, y39.2)
      else
        bif g_is y39.2 v16 2 then
        (f_X2_hasOneAt y39.2 v16 y39.1).bind fun v55 =>
        (if v55 = 0 then
          bif g_is y39.2 a0 5 then
          (f_X5_readNumber y39.2 a0 0 25).bind fun y72 =>
          (if y72.1 = (-1) then
            some (0, y72.2)
          else
            bif g_is y72.2 v16 2 then
            (f_X2_come y72.2 v16 y39.1 y72.1).bind fun h90 =>
            some (1, h90)
            else none)
          else none
        else
          bif g_is y39.2 a0 5 then
          (f_X5_isError y39.2 a0 (-4)).bind fun y64 =>
          (g_z y64.1).bind fun z => some (y64.1, y64.2)
          else none)
        else none)
      else none
    else
      bif g_is y3.2 a0 5 then
      (f_X5_isError y3.2 a0 (-5)).bind fun y30 =>
      (g_z y30.1).bind fun z => some (y30.1, y30.2)
      else none)
    else none
    else none)
  else none
set_option maxRecDepth 100000 in
theorem ct_X5_readKeeper {l : Launch} {G : gG} {h : gH} {a0 : Nat} {p1 : Nat} {r : Int32} {h1 : gH} (e : f_X5_readKeeper h a0 p1 = some (r, h1)) : Ct l G M_X5_readKeeper [.ref a0, .ref p1] h (some (.int r)) h1 := by
  refine Ct_of (L := [some (.ref a0), some (.ref p1), none, none, none, none]) ok_X5_readKeeper (by decide +kernel) rfl rfl rfl (ρ := g_wI) (F := f_X5_readKeeper h a0 p1) ?_ e rfl
  unfold f_X5_readKeeper
  refine X_aload_n rfl rfl rfl ?_
  refine X_iconst (v := 0) rfl rfl (by decide) ?_
  refine X_iconst (v := 1) rfl rfl (by decide) ?_
  refine X_callV_IW (M' := M_X5_readNumber) (nA := 2) (As := [.int 0, .int 1]) (st := []) (b := a0) (ci := 5) rfl rfl (by decide +kernel) rfl rfl rfl rfl rfl rfl rfl rfl (fun _ _ e => ct_X5_readNumber e) (fun y3 => ?_)
  refine X_istore_n rfl rfl rfl rfl ?_
  refine X_iload_n rfl rfl rfl ?_
  refine X_iconst (v := -1) rfl rfl (by decide) ?_
  refine X_bicmp_ne rfl rfl (fun _ => ?_) (fun _ => ?_)
  · refine X_iconst (v := 0) rfl rfl (by decide) ?_
    exact X_iret rfl rfl rfl rfl rfl rfl rfl
  · refine X_aload_n rfl rfl rfl ?_
    refine X_iload_n rfl rfl rfl ?_
    refine X_callV_AR (M' := M_X6_keepersOf) (nA := 1) (As := [.int y3.1]) (st := []) (b := p1) (ci := 6) rfl rfl (by decide +kernel) rfl rfl rfl rfl rfl rfl rfl rfl (fun _ e => ct_X6_keepersOf e) (fun v16 => ?_)
    refine X_astore_n rfl rfl rfl rfl ?_
    refine X_aload_n rfl rfl rfl ?_
    refine X_callV_IR (M' := M_X2_isFull) (nA := 0) (As := []) (st := []) (b := v16) (ci := 2) rfl rfl (by decide +kernel) rfl rfl rfl rfl rfl rfl rfl rfl (fun _ e => ct_X2_isFull e) (fun v21 => ?_)
    refine X_bif_eq rfl rfl (fun _ => ?_) (fun _ => ?_)
    · refine X_aload_n rfl rfl rfl ?_
      refine X_iconst (v := 0) rfl rfl (by decide) ?_
      refine X_sipush (v := 9999) rfl rfl (by decide) ?_
      refine X_callV_IW (M' := M_X5_readNumber) (nA := 2) (As := [.int 0, .int 9999]) (st := []) (b := a0) (ci := 5) rfl rfl (by decide +kernel) rfl rfl rfl rfl rfl rfl rfl rfl (fun _ _ e => ct_X5_readNumber e) (fun y39 => ?_)
      refine X_istore rfl rfl rfl rfl ?_
      refine X_iload rfl rfl rfl ?_
      refine X_iconst (v := -1) rfl rfl (by decide) ?_
      refine X_bicmp_ne rfl rfl (fun _ => ?_) (fun _ => ?_)
      · refine X_iconst (v := 0) rfl rfl (by decide) ?_
        exact X_iret rfl rfl rfl rfl rfl rfl rfl
      · refine X_aload_n rfl rfl rfl ?_
        refine X_iload rfl rfl rfl ?_
        refine X_callV_IR (M' := M_X2_hasOneAt) (nA := 1) (As := [.int y39.1]) (st := []) (b := v16) (ci := 2) rfl rfl (by decide +kernel) rfl rfl rfl rfl rfl rfl rfl rfl (fun _ e => ct_X2_hasOneAt e) (fun v55 => ?_)
        refine X_bif_eq rfl rfl (fun _ => ?_) (fun _ => ?_)
        · refine X_aload_n rfl rfl rfl ?_
          refine X_iconst (v := 0) rfl rfl (by decide) ?_
          refine X_bipush (v := 25) rfl rfl (by decide) ?_
          refine X_callV_IW (M' := M_X5_readNumber) (nA := 2) (As := [.int 0, .int 25]) (st := []) (b := a0) (ci := 5) rfl rfl (by decide +kernel) rfl rfl rfl rfl rfl rfl rfl rfl (fun _ _ e => ct_X5_readNumber e) (fun y72 => ?_)
          refine X_istore rfl rfl rfl rfl ?_
          refine X_iload rfl rfl rfl ?_
          refine X_iconst (v := -1) rfl rfl (by decide) ?_
          refine X_bicmp_ne rfl rfl (fun _ => ?_) (fun _ => ?_)
          · refine X_iconst (v := 0) rfl rfl (by decide) ?_
            exact X_iret rfl rfl rfl rfl rfl rfl rfl
          · refine X_aload_n rfl rfl rfl ?_
            refine X_iload rfl rfl rfl ?_
            refine X_iload rfl rfl rfl ?_
            refine X_callV_UW (M' := M_X2_come) (nA := 2) (As := [.int y39.1, .int y72.1]) (st := []) (b := v16) (ci := 2) rfl rfl (by decide +kernel) rfl rfl rfl rfl rfl rfl rfl rfl (fun _ e => ct_X2_come e) (fun h90 => ?_)
            refine X_iconst (v := 1) rfl rfl (by decide) ?_
            exact X_iret rfl rfl rfl rfl rfl rfl rfl
        · refine X_aload_n rfl rfl rfl ?_
          refine X_bipush (v := -4) rfl rfl (by decide) ?_
          refine X_callV_IW (M' := M_X5_isError) (nA := 1) (As := [.int (-4)]) (st := []) (b := a0) (ci := 5) rfl rfl (by decide +kernel) rfl rfl rfl rfl rfl rfl rfl rfl (fun _ _ e => ct_X5_isError e) (fun y64 => ?_)
          exact X_zret rfl rfl rfl ⟨_, rfl, rfl⟩ rfl rfl
    · refine X_aload_n rfl rfl rfl ?_
      refine X_bipush (v := -5) rfl rfl (by decide) ?_
      refine X_callV_IW (M' := M_X5_isError) (nA := 1) (As := [.int (-5)]) (st := []) (b := a0) (ci := 5) rfl rfl (by decide +kernel) rfl rfl rfl rfl rfl rfl rfl rfl (fun _ _ e => ct_X5_isError e) (fun y30 => ?_)
      exact X_zret rfl rfl rfl ⟨_, rfl, rfl⟩ rfl rfl
def f_X5_readMist (h : gH) (a0 : Nat) (p1 : Nat) : Option (Int32 × gH) :=
  (g_gA h p1 6 15).bind fun v1 =>
  bif g_is h v1 4 then
  (f_X4_isFull h v1).bind fun v4 =>
  (if v4 = 0 then
    bif g_is h a0 5 then
    (f_X5_readNumber h a0 0 9999).bind fun y22 =>
    (if y22.1 = (-1) then
      some (0, y22.2)
    else
      bif g_is y22.2 a0 5 then
      (f_X5_readNumber y22.2 a0 y22.1 9999).bind fun y38 =>
      (if y38.1 = (-1) then
        some (0, y38.2)
      else
        bif g_is y38.2 a0 5 then
        (f_X5_readNumber y38.2 a0 0 9).bind fun y53 =>
        (if y53.1 = (-1) then
          some (0, y53.2)
        else
          (g_gA y53.2 p1 6 15).bind fun v67 =>
          bif g_is y53.2 v67 4 then
          (f_X4_add y53.2 v67 y22.1 y38.1 y53.1).bind fun h74 =>
          some (1, h74)
          else none)
        else none)
      else none)
    else none
  else
    bif g_is h a0 5 then
    (f_X5_isError h a0 (-5)).bind fun y13 =>
    (g_z y13.1).bind fun z => some (y13.1, y13.2)
    else none)
  else none
set_option maxRecDepth 100000 in
theorem ct_X5_readMist {l : Launch} {G : gG} {h : gH} {a0 : Nat} {p1 : Nat} {r : Int32} {h1 : gH} (e : f_X5_readMist h a0 p1 = some (r, h1)) : Ct l G M_X5_readMist [.ref a0, .ref p1] h (some (.int r)) h1 := by
  refine Ct_of (L := [some (.ref a0), some (.ref p1), none, none, none]) ok_X5_readMist (by decide +kernel) rfl rfl rfl (ρ := g_wI) (F := f_X5_readMist h a0 p1) ?_ e rfl
  unfold f_X5_readMist
  refine X_aload_n rfl rfl rfl ?_
  refine X_getA rfl rfl (fun v1 => ?_)
  refine X_callV_IR (M' := M_X4_isFull) (nA := 0) (As := []) (st := []) (b := v1) (ci := 4) rfl rfl (by decide +kernel) rfl rfl rfl rfl rfl rfl rfl rfl (fun _ e => ct_X4_isFull e) (fun v4 => ?_)
  refine X_bif_eq rfl rfl (fun _ => ?_) (fun _ => ?_)
  · refine X_aload_n rfl rfl rfl ?_
    refine X_iconst (v := 0) rfl rfl (by decide) ?_
    refine X_sipush (v := 9999) rfl rfl (by decide) ?_
    refine X_callV_IW (M' := M_X5_readNumber) (nA := 2) (As := [.int 0, .int 9999]) (st := []) (b := a0) (ci := 5) rfl rfl (by decide +kernel) rfl rfl rfl rfl rfl rfl rfl rfl (fun _ _ e => ct_X5_readNumber e) (fun y22 => ?_)
    refine X_istore_n rfl rfl rfl rfl ?_
    refine X_iload_n rfl rfl rfl ?_
    refine X_iconst (v := -1) rfl rfl (by decide) ?_
    refine X_bicmp_ne rfl rfl (fun _ => ?_) (fun _ => ?_)
    · refine X_iconst (v := 0) rfl rfl (by decide) ?_
      exact X_iret rfl rfl rfl rfl rfl rfl rfl
    · refine X_aload_n rfl rfl rfl ?_
      refine X_iload_n rfl rfl rfl ?_
      refine X_sipush (v := 9999) rfl rfl (by decide) ?_
      refine X_callV_IW (M' := M_X5_readNumber) (nA := 2) (As := [.int y22.1, .int 9999]) (st := []) (b := a0) (ci := 5) rfl rfl (by decide +kernel) rfl rfl rfl rfl rfl rfl rfl rfl (fun _ _ e => ct_X5_readNumber e) (fun y38 => ?_)
      refine X_istore_n rfl rfl rfl rfl ?_
      refine X_iload_n rfl rfl rfl ?_
      refine X_iconst (v := -1) rfl rfl (by decide) ?_
      refine X_bicmp_ne rfl rfl (fun _ => ?_) (fun _ => ?_)
      · refine X_iconst (v := 0) rfl rfl (by decide) ?_
        exact X_iret rfl rfl rfl rfl rfl rfl rfl
      · refine X_aload_n rfl rfl rfl ?_
        refine X_iconst (v := 0) rfl rfl (by decide) ?_
        refine X_bipush (v := 9) rfl rfl (by decide) ?_
        refine X_callV_IW (M' := M_X5_readNumber) (nA := 2) (As := [.int 0, .int 9]) (st := []) (b := a0) (ci := 5) rfl rfl (by decide +kernel) rfl rfl rfl rfl rfl rfl rfl rfl (fun _ _ e => ct_X5_readNumber e) (fun y53 => ?_)
        refine X_istore rfl rfl rfl rfl ?_
        refine X_iload rfl rfl rfl ?_
        refine X_iconst (v := -1) rfl rfl (by decide) ?_
        refine X_bicmp_ne rfl rfl (fun _ => ?_) (fun _ => ?_)
        · refine X_iconst (v := 0) rfl rfl (by decide) ?_
          exact X_iret rfl rfl rfl rfl rfl rfl rfl
        · refine X_aload_n rfl rfl rfl ?_
          refine X_getA rfl rfl (fun v67 => ?_)
          refine X_iload_n rfl rfl rfl ?_
          refine X_iload_n rfl rfl rfl ?_
          refine X_iload rfl rfl rfl ?_
          refine X_callV_UW (M' := M_X4_add) (nA := 3) (As := [.int y22.1, .int y38.1, .int y53.1]) (st := []) (b := v67) (ci := 4) rfl rfl (by decide +kernel) rfl rfl rfl rfl rfl rfl rfl rfl (fun _ e => ct_X4_add e) (fun h74 => ?_)
          refine X_iconst (v := 1) rfl rfl (by decide) ?_
          exact X_iret rfl rfl rfl rfl rfl rfl rfl
  · refine X_aload_n rfl rfl rfl ?_
    refine X_bipush (v := -5) rfl rfl (by decide) ?_
    refine X_callV_IW (M' := M_X5_isError) (nA := 1) (As := [.int (-5)]) (st := []) (b := a0) (ci := 5) rfl rfl (by decide +kernel) rfl rfl rfl rfl rfl rfl rfl rfl (fun _ _ e => ct_X5_isError e) (fun y13 => ?_)
    exact X_zret rfl rfl rfl ⟨_, rfl, rfl⟩ rfl rfl
def f_X5_readMessage (h : gH) (a0 : Nat) (p1 : Nat) : Option (Int32 × gH) :=
  (g_gI h p1 6 1).bind fun v1 =>
  (if 8 ≤ v1 then
    bif g_is h a0 5 then
    (f_X5_isError h a0 (-5)).bind fun y12 =>
    (g_z y12.1).bind fun z => some (y12.1, y12.2)
    else none
  else
    bif g_is h a0 5 then
    (f_X5_readNumber h a0 0 1).bind fun y19 =>
    (if y19.1 = (-1) then
      some (0, y19.2)
    else
      bif g_is y19.2 a0 5 then
      (f_X5_readNumber y19.2 a0 0 9).bind fun y34 =>
      (if y34.1 = (-1) then
        some (0, y34.2)
      else
        bif g_is y34.2 a0 5 then
        (f_X5_readWord y34.2 a0).bind fun h46 =>
        (g_gI h46 a0 5 2).bind fun v50 =>
        (g_gI h46 a0 5 3).bind fun v54 =>
        (if v50 = v54 then
          bif g_is h46 a0 5 then
          (f_X5_isError h46 a0 (-2)).bind fun y63 =>
          (g_z y63.1).bind fun z => some (y63.1, y63.2)
          else none
        else
          (g_gI h46 a0 5 2).bind fun v68 =>
          (g_gI h46 a0 5 3).bind fun v72 =>
          (if 24 < (v68 - v72) then
            bif g_is h46 a0 5 then
            (f_X5_isError h46 a0 (-3)).bind fun y84 =>
            (g_z y84.1).bind fun z => some (y84.1, y84.2)
            else none
          else
            (g_gA h46 a0 5 0).bind fun v92 =>
            (g_gI h46 a0 5 3).bind fun v96 =>
            (g_gI h46 a0 5 2).bind fun v100 =>
            (g_gI h46 a0 5 3).bind fun v104 =>
            bif g_is h46 p1 6 then
            (f_X6_addMessage h46 p1 y19.1 y34.1 v92 v96 (v100 - v104)).bind fun h108 =>
            some (1, h108)
            else none))
        else none)
      else none)
    else none)
set_option maxRecDepth 100000 in
theorem ct_X5_readMessage {l : Launch} {G : gG} {h : gH} {a0 : Nat} {p1 : Nat} {r : Int32} {h1 : gH} (e : f_X5_readMessage h a0 p1 = some (r, h1)) : Ct l G M_X5_readMessage [.ref a0, .ref p1] h (some (.int r)) h1 := by
  refine Ct_of (L := [some (.ref a0), some (.ref p1), none, none]) ok_X5_readMessage (by decide +kernel) rfl rfl rfl (ρ := g_wI) (F := f_X5_readMessage h a0 p1) ?_ e rfl
  unfold f_X5_readMessage
  refine X_aload_n rfl rfl rfl ?_
  refine X_getI rfl rfl (fun v1 => ?_)
  refine X_bipush (v := 8) rfl rfl (by decide) ?_
  refine X_bicmp_lt rfl rfl (fun _ => ?_) (fun _ => ?_)
  · refine X_aload_n rfl rfl rfl ?_
    refine X_bipush (v := -5) rfl rfl (by decide) ?_
    refine X_callV_IW (M' := M_X5_isError) (nA := 1) (As := [.int (-5)]) (st := []) (b := a0) (ci := 5) rfl rfl (by decide +kernel) rfl rfl rfl rfl rfl rfl rfl rfl (fun _ _ e => ct_X5_isError e) (fun y12 => ?_)
    exact X_zret rfl rfl rfl ⟨_, rfl, rfl⟩ rfl rfl
  · refine X_aload_n rfl rfl rfl ?_
    refine X_iconst (v := 0) rfl rfl (by decide) ?_
    refine X_iconst (v := 1) rfl rfl (by decide) ?_
    refine X_callV_IW (M' := M_X5_readNumber) (nA := 2) (As := [.int 0, .int 1]) (st := []) (b := a0) (ci := 5) rfl rfl (by decide +kernel) rfl rfl rfl rfl rfl rfl rfl rfl (fun _ _ e => ct_X5_readNumber e) (fun y19 => ?_)
    refine X_istore_n rfl rfl rfl rfl ?_
    refine X_iload_n rfl rfl rfl ?_
    refine X_iconst (v := -1) rfl rfl (by decide) ?_
    refine X_bicmp_ne rfl rfl (fun _ => ?_) (fun _ => ?_)
    · refine X_iconst (v := 0) rfl rfl (by decide) ?_
      exact X_iret rfl rfl rfl rfl rfl rfl rfl
    · refine X_aload_n rfl rfl rfl ?_
      refine X_iconst (v := 0) rfl rfl (by decide) ?_
      refine X_bipush (v := 9) rfl rfl (by decide) ?_
      refine X_callV_IW (M' := M_X5_readNumber) (nA := 2) (As := [.int 0, .int 9]) (st := []) (b := a0) (ci := 5) rfl rfl (by decide +kernel) rfl rfl rfl rfl rfl rfl rfl rfl (fun _ _ e => ct_X5_readNumber e) (fun y34 => ?_)
      refine X_istore_n rfl rfl rfl rfl ?_
      refine X_iload_n rfl rfl rfl ?_
      refine X_iconst (v := -1) rfl rfl (by decide) ?_
      refine X_bicmp_ne rfl rfl (fun _ => ?_) (fun _ => ?_)
      · refine X_iconst (v := 0) rfl rfl (by decide) ?_
        exact X_iret rfl rfl rfl rfl rfl rfl rfl
      · refine X_aload_n rfl rfl rfl ?_
        refine X_callV_UW (M' := M_X5_readWord) (nA := 0) (As := []) (st := []) (b := a0) (ci := 5) rfl rfl (by decide +kernel) rfl rfl rfl rfl rfl rfl rfl rfl (fun _ e => ct_X5_readWord e) (fun h46 => ?_)
        refine X_aload_n rfl rfl rfl ?_
        refine X_getI rfl rfl (fun v50 => ?_)
        refine X_aload_n rfl rfl rfl ?_
        refine X_getI rfl rfl (fun v54 => ?_)
        refine X_bicmp_ne rfl rfl (fun _ => ?_) (fun _ => ?_)
        · refine X_aload_n rfl rfl rfl ?_
          refine X_bipush (v := -2) rfl rfl (by decide) ?_
          refine X_callV_IW (M' := M_X5_isError) (nA := 1) (As := [.int (-2)]) (st := []) (b := a0) (ci := 5) rfl rfl (by decide +kernel) rfl rfl rfl rfl rfl rfl rfl rfl (fun _ _ e => ct_X5_isError e) (fun y63 => ?_)
          exact X_zret rfl rfl rfl ⟨_, rfl, rfl⟩ rfl rfl
        · refine X_aload_n rfl rfl rfl ?_
          refine X_getI rfl rfl (fun v68 => ?_)
          refine X_aload_n rfl rfl rfl ?_
          refine X_getI rfl rfl (fun v72 => ?_)
          refine X_isub rfl rfl ?_
          refine X_bipush (v := 24) rfl rfl (by decide) ?_
          refine X_bicmp_le rfl rfl (fun _ => ?_) (fun _ => ?_)
          · refine X_aload_n rfl rfl rfl ?_
            refine X_bipush (v := -3) rfl rfl (by decide) ?_
            refine X_callV_IW (M' := M_X5_isError) (nA := 1) (As := [.int (-3)]) (st := []) (b := a0) (ci := 5) rfl rfl (by decide +kernel) rfl rfl rfl rfl rfl rfl rfl rfl (fun _ _ e => ct_X5_isError e) (fun y84 => ?_)
            exact X_zret rfl rfl rfl ⟨_, rfl, rfl⟩ rfl rfl
          · refine X_aload_n rfl rfl rfl ?_
            refine X_iload_n rfl rfl rfl ?_
            refine X_iload_n rfl rfl rfl ?_
            refine X_aload_n rfl rfl rfl ?_
            refine X_getA rfl rfl (fun v92 => ?_)
            refine X_aload_n rfl rfl rfl ?_
            refine X_getI rfl rfl (fun v96 => ?_)
            refine X_aload_n rfl rfl rfl ?_
            refine X_getI rfl rfl (fun v100 => ?_)
            refine X_aload_n rfl rfl rfl ?_
            refine X_getI rfl rfl (fun v104 => ?_)
            refine X_isub rfl rfl ?_
            refine X_callV_UW (M' := M_X6_addMessage) (nA := 5) (As := [.int y19.1, .int y34.1, .ref v92, .int v96, .int (v100 - v104)]) (st := []) (b := p1) (ci := 6) rfl rfl (by decide +kernel) rfl rfl rfl rfl rfl rfl rfl rfl (fun _ e => ct_X6_addMessage e) (fun h108 => ?_)
            refine X_iconst (v := 1) rfl rfl (by decide) ?_
            exact X_iret rfl rfl rfl rfl rfl rfl rfl
def f_X5_readStatement (h : gH) (a0 : Nat) (p1 : Nat) : Option (Int32 × gH) :=
  bif g_is h a0 5 then
  (f_X5_readWord h a0).bind fun h1 =>
  bif g_is h1 a0 5 then
  (f_X5_isToken h1 a0 1).bind fun v7 =>
  (if v7 = 0 then
    bif g_is h1 a0 5 then
    (f_X5_isToken h1 a0 2).bind fun v37 =>
    (if v37 = 0 then
      bif g_is h1 a0 5 then
      (f_X5_isToken h1 a0 3).bind fun v67 =>
      (if v67 = 0 then
        bif g_is h1 a0 5 then
        (f_X5_isToken h1 a0 4).bind fun v97 =>
        (if v97 = 0 then
          bif g_is h1 a0 5 then
          (f_X5_isError h1 a0 (-2)).bind fun y127 =>
          (g_z y127.1).bind fun z => some (y127.1, y127.2)
          else none
        else
          bif g_is h1 a0 5 then
          (f_X5_readMessage h1 a0 p1).bind fun y105 =>
          (if y105.1 = 0 then
            some (0, y105.2)
          else
            bif g_is y105.2 a0 5 then
            (f_X5_readSemicolon y105.2 a0).bind fun y112 =>
            (if y112.1 = 0 then
              some (0, y112.2)
            else
              some (1, y112.2))
            else none)
          else none)
        else none
      else
        bif g_is h1 a0 5 then
        (f_X5_readMist h1 a0 p1).bind fun y75 =>
        (if y75.1 = 0 then
          some (0, y75.2)
        else
          bif g_is y75.2 a0 5 then
          (f_X5_readSemicolon y75.2 a0).bind fun y82 =>
          (if y82.1 = 0 then
            some (0, y82.2)
          else
            some (1, y82.2))
          else none)
        else none)
      else none
    else
      bif g_is h1 a0 5 then
      (f_X5_readKeeper h1 a0 p1).bind fun y45 =>
      (if y45.1 = 0 then
        some (0, y45.2)
      else
        bif g_is y45.2 a0 5 then
        (f_X5_readSemicolon y45.2 a0).bind fun y52 =>
        (if y52.1 = 0 then
          some (0, y52.2)
        else
          some (1, y52.2))
        else none)
      else none)
    else none
  else
    bif g_is h1 a0 5 then
    (f_X5_readChannel h1 a0 p1).bind fun y15 =>
    (if y15.1 = 0 then
      some (0, y15.2)
    else
      bif g_is y15.2 a0 5 then
      (f_X5_readSemicolon y15.2 a0).bind fun y22 =>
      (if y22.1 = 0 then
        some (0, y22.2)
      else
        some (1, y22.2))
      else none)
    else none)
  else none
  else none
set_option maxRecDepth 100000 in
theorem ct_X5_readStatement {l : Launch} {G : gG} {h : gH} {a0 : Nat} {p1 : Nat} {r : Int32} {h1 : gH} (e : f_X5_readStatement h a0 p1 = some (r, h1)) : Ct l G M_X5_readStatement [.ref a0, .ref p1] h (some (.int r)) h1 := by
  refine Ct_of (L := [some (.ref a0), some (.ref p1)]) ok_X5_readStatement (by decide +kernel) rfl rfl rfl (ρ := g_wI) (F := f_X5_readStatement h a0 p1) ?_ e rfl
  unfold f_X5_readStatement
  refine X_aload_n rfl rfl rfl ?_
  refine X_callV_UW (M' := M_X5_readWord) (nA := 0) (As := []) (st := []) (b := a0) (ci := 5) rfl rfl (by decide +kernel) rfl rfl rfl rfl rfl rfl rfl rfl (fun _ e => ct_X5_readWord e) (fun h1 => ?_)
  refine X_aload_n rfl rfl rfl ?_
  refine X_ldcS (i := 1) (tx := "channel") rfl rfl (by decide +kernel) ?_
  refine X_callV_IR (M' := M_X5_isToken) (nA := 1) (As := [.ref (g_aK G 1)]) (st := []) (b := a0) (ci := 5) rfl rfl (by decide +kernel) rfl rfl rfl rfl rfl rfl rfl rfl (fun _ e => ct_X5_isToken e) (fun v7 => ?_)
  refine X_bif_eq rfl rfl (fun _ => ?_) (fun _ => ?_)
  · refine X_aload_n rfl rfl rfl ?_
    refine X_ldcS (i := 2) (tx := "keeper") rfl rfl (by decide +kernel) ?_
    refine X_callV_IR (M' := M_X5_isToken) (nA := 1) (As := [.ref (g_aK G 2)]) (st := []) (b := a0) (ci := 5) rfl rfl (by decide +kernel) rfl rfl rfl rfl rfl rfl rfl rfl (fun _ e => ct_X5_isToken e) (fun v37 => ?_)
    refine X_bif_eq rfl rfl (fun _ => ?_) (fun _ => ?_)
    · refine X_aload_n rfl rfl rfl ?_
      refine X_ldcS (i := 3) (tx := "mist") rfl rfl (by decide +kernel) ?_
      refine X_callV_IR (M' := M_X5_isToken) (nA := 1) (As := [.ref (g_aK G 3)]) (st := []) (b := a0) (ci := 5) rfl rfl (by decide +kernel) rfl rfl rfl rfl rfl rfl rfl rfl (fun _ e => ct_X5_isToken e) (fun v67 => ?_)
      refine X_bif_eq rfl rfl (fun _ => ?_) (fun _ => ?_)
      · refine X_aload_n rfl rfl rfl ?_
        refine X_ldcS (i := 4) (tx := "message") rfl rfl (by decide +kernel) ?_
        refine X_callV_IR (M' := M_X5_isToken) (nA := 1) (As := [.ref (g_aK G 4)]) (st := []) (b := a0) (ci := 5) rfl rfl (by decide +kernel) rfl rfl rfl rfl rfl rfl rfl rfl (fun _ e => ct_X5_isToken e) (fun v97 => ?_)
        refine X_bif_eq rfl rfl (fun _ => ?_) (fun _ => ?_)
        · refine X_aload_n rfl rfl rfl ?_
          refine X_bipush (v := -2) rfl rfl (by decide) ?_
          refine X_callV_IW (M' := M_X5_isError) (nA := 1) (As := [.int (-2)]) (st := []) (b := a0) (ci := 5) rfl rfl (by decide +kernel) rfl rfl rfl rfl rfl rfl rfl rfl (fun _ _ e => ct_X5_isError e) (fun y127 => ?_)
          exact X_zret rfl rfl rfl ⟨_, rfl, rfl⟩ rfl rfl
        · refine X_aload_n rfl rfl rfl ?_
          refine X_aload_n rfl rfl rfl ?_
          refine X_callV_IW (M' := M_X5_readMessage) (nA := 1) (As := [.ref p1]) (st := []) (b := a0) (ci := 5) rfl rfl (by decide +kernel) rfl rfl rfl rfl rfl rfl rfl rfl (fun _ _ e => ct_X5_readMessage e) (fun y105 => ?_)
          refine X_bif_eq rfl rfl (fun _ => ?_) (fun _ => ?_)
          · refine X_iconst (v := 0) rfl rfl (by decide) ?_
            exact X_iret rfl rfl rfl rfl rfl rfl rfl
          · refine X_aload_n rfl rfl rfl ?_
            refine X_callV_IW (M' := M_X5_readSemicolon) (nA := 0) (As := []) (st := []) (b := a0) (ci := 5) rfl rfl (by decide +kernel) rfl rfl rfl rfl rfl rfl rfl rfl (fun _ _ e => ct_X5_readSemicolon e) (fun y112 => ?_)
            refine X_bif_eq rfl rfl (fun _ => ?_) (fun _ => ?_)
            · refine X_iconst (v := 0) rfl rfl (by decide) ?_
              exact X_iret rfl rfl rfl rfl rfl rfl rfl
            · refine X_iconst (v := 1) rfl rfl (by decide) ?_
              refine X_goto rfl rfl ?_
              exact X_iret rfl rfl rfl rfl rfl rfl rfl
      · refine X_aload_n rfl rfl rfl ?_
        refine X_aload_n rfl rfl rfl ?_
        refine X_callV_IW (M' := M_X5_readMist) (nA := 1) (As := [.ref p1]) (st := []) (b := a0) (ci := 5) rfl rfl (by decide +kernel) rfl rfl rfl rfl rfl rfl rfl rfl (fun _ _ e => ct_X5_readMist e) (fun y75 => ?_)
        refine X_bif_eq rfl rfl (fun _ => ?_) (fun _ => ?_)
        · refine X_iconst (v := 0) rfl rfl (by decide) ?_
          exact X_iret rfl rfl rfl rfl rfl rfl rfl
        · refine X_aload_n rfl rfl rfl ?_
          refine X_callV_IW (M' := M_X5_readSemicolon) (nA := 0) (As := []) (st := []) (b := a0) (ci := 5) rfl rfl (by decide +kernel) rfl rfl rfl rfl rfl rfl rfl rfl (fun _ _ e => ct_X5_readSemicolon e) (fun y82 => ?_)
          refine X_bif_eq rfl rfl (fun _ => ?_) (fun _ => ?_)
          · refine X_iconst (v := 0) rfl rfl (by decide) ?_
            exact X_iret rfl rfl rfl rfl rfl rfl rfl
          · refine X_iconst (v := 1) rfl rfl (by decide) ?_
            refine X_goto rfl rfl ?_
            exact X_iret rfl rfl rfl rfl rfl rfl rfl
    · refine X_aload_n rfl rfl rfl ?_
      refine X_aload_n rfl rfl rfl ?_
      refine X_callV_IW (M' := M_X5_readKeeper) (nA := 1) (As := [.ref p1]) (st := []) (b := a0) (ci := 5) rfl rfl (by decide +kernel) rfl rfl rfl rfl rfl rfl rfl rfl (fun _ _ e => ct_X5_readKeeper e) (fun y45 => ?_)
      refine X_bif_eq rfl rfl (fun _ => ?_) (fun _ => ?_)
      · refine X_iconst (v := 0) rfl rfl (by decide) ?_
        exact X_iret rfl rfl rfl rfl rfl rfl rfl
      · refine X_aload_n rfl rfl rfl ?_
        refine X_callV_IW (M' := M_X5_readSemicolon) (nA := 0) (As := []) (st := []) (b := a0) (ci := 5) rfl rfl (by decide +kernel) rfl rfl rfl rfl rfl rfl rfl rfl (fun _ _ e => ct_X5_readSemicolon e) (fun y52 => ?_)
        refine X_bif_eq rfl rfl (fun _ => ?_) (fun _ => ?_)
        · refine X_iconst (v := 0) rfl rfl (by decide) ?_
          exact X_iret rfl rfl rfl rfl rfl rfl rfl
        · refine X_iconst (v := 1) rfl rfl (by decide) ?_
          refine X_goto rfl rfl ?_
          exact X_iret rfl rfl rfl rfl rfl rfl rfl
  · refine X_aload_n rfl rfl rfl ?_
    refine X_aload_n rfl rfl rfl ?_
    refine X_callV_IW (M' := M_X5_readChannel) (nA := 1) (As := [.ref p1]) (st := []) (b := a0) (ci := 5) rfl rfl (by decide +kernel) rfl rfl rfl rfl rfl rfl rfl rfl (fun _ _ e => ct_X5_readChannel e) (fun y15 => ?_)
    refine X_bif_eq rfl rfl (fun _ => ?_) (fun _ => ?_)
    · refine X_iconst (v := 0) rfl rfl (by decide) ?_
      exact X_iret rfl rfl rfl rfl rfl rfl rfl
    · refine X_aload_n rfl rfl rfl ?_
      refine X_callV_IW (M' := M_X5_readSemicolon) (nA := 0) (As := []) (st := []) (b := a0) (ci := 5) rfl rfl (by decide +kernel) rfl rfl rfl rfl rfl rfl rfl rfl (fun _ _ e => ct_X5_readSemicolon e) (fun y22 => ?_)
      refine X_bif_eq rfl rfl (fun _ => ?_) (fun _ => ?_)
      · refine X_iconst (v := 0) rfl rfl (by decide) ?_
        exact X_iret rfl rfl rfl rfl rfl rfl rfl
      · refine X_iconst (v := 1) rfl rfl (by decide) ?_
        refine X_goto rfl rfl ?_
        exact X_iret rfl rfl rfl rfl rfl rfl rfl
def f_X5_readInto_b12 : Nat → gH → Nat → Nat → Int32 → Option (Int32 × gH)
  | 0, _, _, _, _ => none
  | n + 1, h, l0, l1, l2 =>
    (g_gI h l0 5 1).bind fun v14 =>
    (if l2 < v14 then
      bif g_is h l0 5 then
      (f_X5_findToken h l0).bind fun y21 =>
      (if y21.1 = 0 then
        some (1, y21.2)
      else
        bif g_is y21.2 l0 5 then
        (f_X5_readStatement y21.2 l0 l1).bind fun y29 =>
        (if y29.1 = 0 then
          some (0, y29.2)
        else
          f_X5_readInto_b12  n y29.2 l0 l1 (l2 + 1))
        else none)
      else none
    else
      some (1, h))
def f_X5_readInto (h : gH) (a0 : Nat) (p1 : Nat) : Option (Int32 × gH) :=
  bif g_is h a0 5 then
  (f_X5_readRelay h a0 p1).bind fun y2 =>
  (if y2.1 = 0 then
    some (0, y2.2)
  else
    f_X5_readInto_b12 g_N y2.2 a0 p1 0)
  else none
set_option maxRecDepth 100000 in
theorem b_X5_readInto_b12 {l : Launch} {G : gG} : ∀ (n : Nat) (h : gH) (l0 : Nat) (l1 : Nat) (l2 : Int32), GX l G M_X5_readInto (g_phi G g_wI (m_R M_X5_readInto).cells (m_R M_X5_readInto).slots) 0 0 12 [some (.ref l0), some (.ref l1), some (.int l2)] [] h (f_X5_readInto_b12 n h l0 l1 l2) := by
  intro n
  induction n with
  | zero => intros; exact X_none
  | succ n ih =>
    intro h l0 l1 l2
    rw [f_X5_readInto_b12]
    refine X_iload_n rfl rfl rfl ?_
    refine X_aload_n rfl rfl rfl ?_
    refine X_getI rfl rfl (fun v14 => ?_)
    refine X_bicmp_ge rfl rfl (fun _ => ?_) (fun _ => ?_)
    · refine X_aload_n rfl rfl rfl ?_
      refine X_callV_IW (M' := M_X5_findToken) (nA := 0) (As := []) (st := []) (b := l0) (ci := 5) rfl rfl (by decide +kernel) rfl rfl rfl rfl rfl rfl rfl rfl (fun _ _ e => ct_X5_findToken e) (fun y21 => ?_)
      refine X_bif_eq rfl rfl (fun _ => ?_) (fun _ => ?_)
      · refine X_iconst (v := 1) rfl rfl (by decide) ?_
        exact X_iret rfl rfl rfl rfl rfl rfl rfl
      · refine X_aload_n rfl rfl rfl ?_
        refine X_aload_n rfl rfl rfl ?_
        refine X_callV_IW (M' := M_X5_readStatement) (nA := 1) (As := [.ref l1]) (st := []) (b := l0) (ci := 5) rfl rfl (by decide +kernel) rfl rfl rfl rfl rfl rfl rfl rfl (fun _ _ e => ct_X5_readStatement e) (fun y29 => ?_)
        refine X_bif_ne rfl rfl (fun _ => ?_) (fun _ => ?_)
        · refine X_iconst (v := 0) rfl rfl (by decide) ?_
          exact X_iret rfl rfl rfl rfl rfl rfl rfl
        · refine X_iinc (v := l2 + 1) rfl rfl rfl (congrArg (fun z => l2 + z) (by decide : Int32.ofInt 1 = 1)) rfl ?_
          refine X_goto rfl rfl ?_
          exact X_sub (g_sub_s (g_sub_s (g_sub_s g_sub_0))) (ih _ _ _ _)
    · refine X_iconst (v := 1) rfl rfl (by decide) ?_
      exact X_iret rfl rfl rfl rfl rfl rfl rfl
set_option maxRecDepth 100000 in
theorem ct_X5_readInto {l : Launch} {G : gG} {h : gH} {a0 : Nat} {p1 : Nat} {r : Int32} {h1 : gH} (e : f_X5_readInto h a0 p1 = some (r, h1)) : Ct l G M_X5_readInto [.ref a0, .ref p1] h (some (.int r)) h1 := by
  refine Ct_of (L := [some (.ref a0), some (.ref p1), none]) ok_X5_readInto (by decide +kernel) rfl rfl rfl (ρ := g_wI) (F := f_X5_readInto h a0 p1) ?_ e rfl
  unfold f_X5_readInto
  refine X_aload_n rfl rfl rfl ?_
  refine X_aload_n rfl rfl rfl ?_
  refine X_callV_IW (M' := M_X5_readRelay) (nA := 1) (As := [.ref p1]) (st := []) (b := a0) (ci := 5) rfl rfl (by decide +kernel) rfl rfl rfl rfl rfl rfl rfl rfl (fun _ _ e => ct_X5_readRelay e) (fun y2 => ?_)
  refine X_bif_ne rfl rfl (fun _ => ?_) (fun _ => ?_)
  · refine X_iconst (v := 0) rfl rfl (by decide) ?_
    exact X_iret rfl rfl rfl rfl rfl rfl rfl
  · refine X_iconst (v := 0) rfl rfl (by decide) ?_
    refine X_istore_n rfl rfl rfl rfl ?_
    exact X_sub (g_sub_s (g_sub_s (g_sub_s g_sub_0))) (b_X5_readInto_b12  _ _ _ _ _)
end
section
/-! throwing an exception whose class calls its superclass's constructor by another constant than the usual one (java/util/NoSuchElementException) -/
def vx_atSX (own : String) (ic : Nat) (X : String) (ix : Nat) (rx : ByteArray) (names : List String) : List Cond := (Bundle.ownAtomsX own ic X ix rx names).filter vx_no
section VXX
variable {p : Program} {l : Launch} {e : Env} {R : Room} {s : State} {m₀ : MethodId} {args : Array Value} {below : List Frame} {meth : Method} {c : Code} {W : State} {locs : List Loc} {cells slots : Nat}
set_option maxHeartbeats 4000000 in
theorem vx_ctorThrowSX (X : Stand p l e R s m₀ args below meth c W locs cells slots) (hexec : p.tables.exec = Jvm.exec) (htr : e.platform.stackTraces = false) {own cls : String} {names : List String} {ic : Nat} {ix : Nat} {rx : ByteArray} (x0 : decode rx 0 = .ok (.aload_n 0, 1)) (x1 : decode rx 1 = .ok (.aload_n 1, 1)) (x2 : decode rx 2 = .ok (.invokespecial ix, 3)) (x5 : decode rx 5 = .ok (.return_, 1))
    (hown : s.vm.findClass own = some m₀.cls) (hcls : Bundle.fit cls = true) (hnames : ∀ n ∈ names, Bundle.fit n = true)
    (h : ∀ a ∈ Bundle.ownAtomsX own ic cls ix rx names, a.before args s = true)
    (hlocs : ∀ x ∈ locs, ∀ cell, s.heap[x.base]? = some cell → cell.vm.isStatics = false)
    {a : Addr} {cX : ClassId} {kX : Class} (hfoundX : s.vm.findClass cls = some cX) (hkX : s.vm.classes[cX]? = some kX) (hcell : W.heap[a]? = some (freshCell cX kX)) (hnew : s.heap.size ≤ a)
    {msg : Value} (hmsg : msg.isRef = true)
    {g : JFrame} (hg : g.method = m₀) (hsize : g.locals.size = c.maxLocals) (hlocked : g.locked = none) (hentered : g.entered = []) {rest : List Value} (hstack : g.stack = msg :: .ref a :: .ref a :: rest)
    (hd6 : decode c.code g.pc = .ok (.invokespecial ic, 3)) (hd9 : decode c.code (g.pc + 3) = .ok (.athrow, 1)) (hout : ∀ x ∈ c.exceptionTable.toList, covers x (g.pc + 3) = false)
    (hRframes : names.length + 3 < R.frames) (hRlocals : 2 * g.monitorRoom + ((Value.ref a :: rest).map fun v => v.category).sum + (13 * (names.length + 1) + 42) ≤ R.locals) (hlocks : meth.locks = false := by first | assumption | exact BodyLoose.notSynchronized (by assumption) | exact Body.notSynchronized (by assumption)) :
    ∃ U : State, Steps p.tables e below (W.setTop g) U ∧ U.status = .running ∧ Ended U below (.threw a) ∧ s.WarmedH U.vm ∧ s.sameButNew ({ U with vm := s.vm } : State) locs cells slots ∧
      ∃ ce, U.heap[a]? = some ce ∧ Bundle.OwnCell args s cls a msg ce := by
  have howns : e.platform.frameOwnsMonitors = true := by rw [X.admits.platform]
  have hfin : e.platform.finalization = false := by rw [X.admits.platform]
  have hpl : e.platform.magicAccessors = ({} : Platform).magicAccessors := by rw [X.admits.platform]
  have a' : ∀ x, x ∈ Bundle.ownAtomsX own ic cls ix rx names → x.holds args s none s [] = true := fun x hx => h x hx
  obtain ⟨T, Z0, L, -, Y⟩ := ThrowableC.of_atoms (args := args) howns hfin hpl (fun x hx => h x (by simp [Bundle.ownAtomsX, hx]))
  obtain ⟨Z, M, LZ, LM, hnZ⟩ := Init0T.ofS_atoms (args := args) hpl L Y (fun x hx => h x (by simp [Bundle.ownAtomsX, hx]))
  obtain ⟨P1, Ps, hlen, L1, hL, hP1m, hlink1, hlink⟩ := Bundle.chainSX (args := args) hpl hnZ x0 x1 x2 x5 names cls hcls hnames (fun x hx => h x (by simp [Bundle.ownAtomsX, hx]))
  have hfound : s.vm.findClass cls = some P1.m.cls := findClass_of_methodNamed hP1m
  cases Option.some.inj (hfoundX.symm.trans hfound)
  obtain ⟨c1, kX', hc1, hk, hord, -, -, hn6⟩ := Cond.instantiable_spec (a' (.instantiable cls 6) (by simp [Bundle.ownAtomsX]))
  cases Option.some.inj (hc1.symm.trans hfound)
  cases Option.some.inj (hkX.symm.trans hk)
  have hsel0 : selectMethod e.platform s.vm P1.m.cls T.fill0 = .method T.fill0 := by
    obtain ⟨c2, r2, m2, q1, q2, q3, q4, -⟩ := Cond.selects_spec (a' (.selects cls Bundle.tFill0 Bundle.tFill0) (by simp [Bundle.ownAtomsX]))
    cases Option.some.inj (q1.symm.trans hfound)
    cases Option.some.inj (q2.symm.trans (State.methodFound?_of_named Y.fill0 (by decide)))
    cases Option.some.inj (q3.symm.trans Y.fill0)
    rw [Launch.admits_selectMethod X.admits]; exact q4
  have hselF : selectMethod e.platform s.vm P1.m.cls T.fill = .method T.fill := by
    obtain ⟨c2, r2, m2, q1, q2, q3, q4, -⟩ := Cond.selects_spec (a' (.selects cls Bundle.tFill Bundle.tFill) (by simp [Bundle.ownAtomsX]))
    cases Option.some.inj (q1.symm.trans hfound)
    cases Option.some.inj (q2.symm.trans (State.methodFound?_of_named Y.fill (by decide)))
    cases Option.some.inj (q3.symm.trans Y.fill)
    rw [Launch.admits_selectMethod X.admits]; exact q4
  obtain ⟨cellS0, hcS0, hiss⟩ := Y.statics
  obtain ⟨u0, hu0⟩ := Cond.staticRefV Y.unassigned L.unassignedStatic L.statics hcS0 hiss (a' (.isRef (.static Bundle.tN "UNASSIGNED_STACK" Bundle.steD)) (by simp [Bundle.ownAtomsX]))
  obtain ⟨sen, hsen⟩ := Cond.staticRefV Y.sentinel L.sentinelStatic L.statics hcS0 hiss (a' (.isRef (.static Bundle.tN "SUPPRESSED_SENTINEL" Bundle.listD)) (by simp [Bundle.ownAtomsX]))
  obtain ⟨ci198, i198, fB, hk198, hg198, ha198, hsB, -, hnB, htB, hffB⟩ := Cond.ownField (t := .object "java/lang/Object") Y.found L.cls (by decide +kernel) (a' (.fieldLink Bundle.tN 198 Bundle.tN "backtrace" "Ljava/lang/Object;") (by simp [Bundle.ownAtomsX])) (a' (.lays Bundle.tN Bundle.tN "backtrace" "Ljava/lang/Object;") (by simp [Bundle.ownAtomsX])) e.platform hpl
  obtain ⟨cellS, hcS', heS, -, hkeep⟩ := X.same.2.2.2.2.2 T.aS cellS0 hcS0
  have hcellS : W.heap[T.aS]? = some cellS := hcS'
  have hout' : ∀ i, (⟨T.aS, i⟩ : Loc) ∉ locs := fun i hmem => by
    have := hlocs _ hmem cellS0 hcS0
    rw [hiss] at this; cases this
  have hknownS : cellS.vm ≠ .unknown := by
    rw [heS]; intro hu
    rw [show cellS0.vm = .unknown from hu] at hiss
    cases hiss
  have hneS : T.aS ≠ a := Nat.ne_of_lt (Nat.lt_of_lt_of_le (Array.getElem?_eq_some_iff.mp hcS0).1 hnew)
  obtain ⟨iM, hffM⟩ := Y.msg
  obtain ⟨tyC, dC, hdC, hdnC⟩ := Cond.laysAt hfound hk Y.cause (a' (.lays cls Bundle.tN "cause" "Ljava/lang/Throwable;") (by simp [Bundle.ownAtomsX]))
  obtain ⟨tyS, dS, hdS, hdnS⟩ := Cond.laysAt hfound hk Y.stack (a' (.lays cls Bundle.tN "stackTrace" Bundle.steD) (by simp [Bundle.ownAtomsX]))
  obtain ⟨tyP, dP, hdP, hdnP⟩ := Cond.laysAt hfound hk Y.supp (a' (.lays cls Bundle.tN "suppressedExceptions" Bundle.listD) (by simp [Bundle.ownAtomsX]))
  obtain ⟨tyM, dM, hdM, hdnM⟩ := Cond.laysAt hfound hk hffM (a' (.lays cls Bundle.tN "detailMessage" "Ljava/lang/String;") (by simp [Bundle.ownAtomsX]))
  obtain ⟨tyB, dB, hdB, hdnB⟩ := Cond.laysAt hfound hk hffB (a' (.lays cls Bundle.tN "backtrace" "Ljava/lang/Object;") (by simp [Bundle.ownAtomsX]))
  have bC := Cond.laysApart hdB hdC hdnB hdnC (by rw [hnB, Y.causeName]; decide)
  have bS := Cond.laysApart hdB hdS hdnB hdnS (by rw [hnB, Y.stackName]; decide)
  have bP := Cond.laysApart hdB hdP hdnB hdnP (by rw [hnB, Y.suppName]; decide)
  have hskip : SkipFacts T e.platform s (fun u => u) u0 ((preparedCellV T.toThrowableT (freshCell P1.m.cls kX) a u0 sen).withEntry W.cur) :=
    ⟨{ ci198 := ci198, i198 := i198, fBack := fB }, ⟨hk198, hg198, ha198, hsB⟩, by
      have := fresh_default (c := P1.m.cls) tyB
      rw [htB] at this
      simpa [preparedCellV, Cell.setSlot, Cell.withEntry, Array.getElem?_setIfInBounds, bC, bS, bP, bC.symm, bS.symm, bP.symm, defaultValue] using this, fun _ _ => rfl⟩
  obtain ⟨tm, methC, cdC, kC, vm₁, hnC, -, -, -, -, -, -, -, hW₁, st1⟩ := Steps.initColdS (tb := p.tables) (e := e) (below := below) (s := s) (U := W) X.here hexec X.warmed hpl hown (t := Bundle.initS cls) rfl rfl (Bundle.fit_spec hcls).2
    (a' (.methodLink own ic (Bundle.initS cls)) (by simp [Bundle.ownAtomsX])) (h (.instanceMethod (Bundle.initS cls)) (by cases names <;> simp [Bundle.ownAtomsX, Bundle.chainSAtomsX, Bundle.passSAtoms])) (bytes := rx) (maxL := 2) (h (.code (Bundle.initS cls) rx 2 none) (by cases names <;> simp [Bundle.ownAtomsX, Bundle.chainSAtomsX, Bundle.passSAtoms]))
    (f := g) hg (a := a) (msg := msg) (rest := .ref a :: rest) hstack hd6
  cases Option.some.inj (hnC.symm.trans hP1m)
  have X₁ := X.noted hW₁
  obtain ⟨vm₂, X₂, st2⟩ := X₁.ctorMessageOffV hexec (g := { g with stack := .ref a :: rest }) hg hsize T L Z LZ M LM (P1 :: Ps)
    (fun P hP => by rcases List.mem_cons.mp hP with rfl | hP; exact L1; exact hL P hP) ⟨hlink1, hlink⟩ (u0 := u0) (sen := sen) (self := a) hmsg (cell := freshCell P1.m.cls kX) (cellS := cellS)
    hcell (fun _ => by simp) (by simp) rfl rfl hsel0 hselF hcellS hneS hknownS (by rw [hkeep _ (hout' _)]; exact hu0) (by rw [hkeep _ (hout' _)]; exact hsen)
    (Takes.of_laid hk hord tyC (by rw [Y.causeType]; rfl)) (Takes.of_laid hk hord tyS (by rw [Y.stackType]; exact fits_refV_array _ u0)) (Takes.of_laid hk hord tyP (by rw [Y.suppType]; exact fits_refV_object _ sen))
    (Takes.of_laid hk hord tyM (by rw [Y.msgType]; exact fits_refV_object _ ⟨msg, hmsg⟩)) Y.objLocals hskip htr [] hd6
    (by simp only [List.length_cons, hlen]; omega) (by simp only [List.length_cons, hlen]; exact hRlocals)
  obtain ⟨hwalk, hrun, hended, hWU, hsame⟩ := X₂.athrowLeaves hexec (g := { g with stack := .ref a :: rest, pc := g.pc + 3 }) hg hlocked hentered hout (a := a) (rest := rest) rfl hd9
  obtain ⟨c3, c4, hc3, hc4, hasg⟩ := Cond.castable_spec (a' (.castable cls cls) (by simp [Bundle.ownAtomsX]))
  cases Option.some.inj (hc3.symm.trans hfound)
  cases Option.some.inj (hc4.symm.trans hfound)
  have hlt : a < ((W.setVm vm₁).setVm vm₂).heap.size := (Array.getElem?_eq_some_iff.mp hcell).1
  have hU := heapAt_setCell_self (s := (W.setVm vm₁).setVm vm₂) (plainBareV T.toThrowableT (freshCell P1.m.cls kX) a u0 sen msg) hlt
  have hnM : T.fMsg.name = "detailMessage" := (State.fieldFound?_type hffM (t := .object "java/lang/String") (by decide +kernel)).1
  have nCS := Cond.laysApart hdC hdS hdnC hdnS (by rw [Y.causeName, Y.stackName]; decide)
  have nCP := Cond.laysApart hdC hdP hdnC hdnP (by rw [Y.causeName, Y.suppName]; decide)
  have nCM := Cond.laysApart hdC hdM hdnC hdnM (by rw [Y.causeName, hnM]; decide)
  have nSP := Cond.laysApart hdS hdP hdnS hdnP (by rw [Y.stackName, Y.suppName]; decide)
  have nSM := Cond.laysApart hdS hdM hdnS hdnM (by rw [Y.stackName, hnM]; decide)
  have nPM := Cond.laysApart hdP hdM hdnP hdnM (by rw [Y.suppName, hnM]; decide)
  have lC : T.fCause.slot < kX.instanceTypes.size := (Array.getElem?_eq_some_iff.mp tyC).1
  have lS : T.fStack.slot < kX.instanceTypes.size := (Array.getElem?_eq_some_iff.mp tyS).1
  have lP : T.fSupp.slot < kX.instanceTypes.size := (Array.getElem?_eq_some_iff.mp tyP).1
  have lM : T.fMsg.slot < kX.instanceTypes.size := (Array.getElem?_eq_some_iff.mp tyM).1
  have evU : ∀ o, (Term.static Bundle.tN "UNASSIGNED_STACK" Bundle.steD).eval args s o [] s = some u0.v := by
    intro o
    simp [Term.eval, State.fieldNamed?, Y.unassigned, L.unassignedStatic, L.statics, hcS0, hiss, hu0]
  have evS : ∀ o, (Term.static Bundle.tN "SUPPRESSED_SENTINEL" Bundle.listD).eval args s o [] s = some sen.v := by
    intro o
    simp [Term.eval, State.fieldNamed?, Y.sentinel, L.sentinelStatic, L.statics, hcS0, hiss, hsen]
  refine ⟨_, st1 _ (fun acts => ?_), hrun, hended, hWU, hsame.weaken (fun y hy hlt' => ?_) (Nat.le_refl _) (Nat.le_refl _), _, hU, ?_⟩
  · rw [doInvoke_state]
    exact st2 _ hwalk
  · rcases List.mem_append.mp hy with h1 | h1
    · exact h1
    · exfalso
      have hb : y.base = a := by
        simp only [List.mem_cons, List.not_mem_nil, or_false] at h1
        rcases h1 with rfl | rfl | rfl | rfl | rfl <;> rfl
      rw [hb] at hlt'
      exact Nat.not_lt.mpr hnew hlt'
  · exact { cls := hfound, self := hasg, monitor := rfl, hash := rfl, vm := rfl, size := by simp [plainBareV, preparedCellV, Cell.setSlot, hn6]
            cause := ⟨_, _, _, _, Y.cause, by simp [plainBareV, preparedCellV, Cell.setSlot, nCS.symm, nCP.symm, nCM.symm, lC]⟩
            stack := ⟨_, _, _, _, u0, Y.stack, by simp [plainBareV, preparedCellV, Cell.setSlot, nSM.symm, lS], evU⟩
            supp := ⟨_, _, _, _, sen, Y.supp, by simp [plainBareV, preparedCellV, Cell.setSlot, nSP, nPM.symm, lP], evS⟩
            msg := ⟨_, _, _, _, hffM, by simp [plainBareV, preparedCellV, Cell.setSlot, lM]⟩
            other := fun O f d c k i fd hf hy n1 n2 n3 n4 => by
              obtain ⟨ty, dd, hdd, hddn⟩ := Cond.laysAt hfound hk hf hy
              have m1 := Cond.laysApart hdd hdC hddn hdnC (by rw [Y.causeName]; exact n1)
              have m2 := Cond.laysApart hdd hdS hddn hdnS (by rw [Y.stackName]; exact n2)
              have m3 := Cond.laysApart hdd hdP hddn hdnP (by rw [Y.suppName]; exact n3)
              have m4 := Cond.laysApart hdd hdM hddn hdnM (by rw [hnM]; exact n4)
              have := fresh_default (c := P1.m.cls) ty
              simpa [plainBareV, preparedCellV, Cell.setSlot, Array.getElem?_setIfInBounds, m1, m2, m3, m4, m1.symm, m2.symm, m3.symm, m4.symm] using this }
end VXX
section VXY
variable {p : Program} {l : Launch} {e : Env} {R : Room} {s : State} {m : MethodId} {args : Array Value} {below : List Frame} {meth : Method} {c : Code} {H : Heap} {locs : List Loc} {cells slots : Nat} {ls : Array Slot} {rest : List Value} {Qc : Array Value → State → Outcome → State → Prop} {XC : String → State → State → Prop} {free : Addr → Prop}
set_option maxHeartbeats 4000000 in
theorem vx_throwSX {ix : Nat} {rx : ByteArray} (x0 : decode rx 0 = .ok (.aload_n 0, 1)) (x1 : decode rx 1 = .ok (.aload_n 1, 1)) (x2 : decode rx 2 = .ok (.invokespecial ix, 3)) (x5 : decode rx 5 = .ok (.return_, 1)) {cc : ByteArray} {pc : Nat} (hexec : p.tables.exec = Jvm.exec) (hb : c.code = cc) (hl : l.stackTraces = false) {own cls text : String} {names : List String} {ik is ic mc ms sa : Nat} {A : Nat → Prop}
    (hown : s.vm.findClass own = some m.cls) (hcls : Bundle.fit cls = true) (hnames : ∀ n ∈ names, Bundle.fit n = true)
    (hk : (Cond.classLink own ik cls).before args s = true) (hini : (Cond.initialized cls).before args s = true) (hstr : vk_R own is text sa s) (hat : ∀ w ∈ vx_atSX own ic cls ix rx names, w.before args s = true)
    (hgood : ∀ w ∈ Cond.classLink own ik cls :: Cond.initialized cls :: vx_atSX own ic cls ix rx names, vx_ot w = true)
    (hU : vx_Zq Bundle.tN "UNASSIGNED_STACK" Bundle.steD A s s.heap) (hN : vx_Zq Bundle.tN "SUPPRESSED_SENTINEL" Bundle.listD A s s.heap) (hS : va_S A s.heap H locs) (hsize : ls.size = c.maxLocals)
    (d0 : decode cc pc = .ok (.new ik, 3)) (d3 : decode cc (pc + 3) = .ok (.dup, 1)) (d4 : decode cc (pc + 4) = .ok (.ldc is, 2)) (d6 : decode cc (pc + 6) = .ok (.invokespecial ic, 3)) (d9 : decode cc (pc + 9) = .ok (.athrow, 1))
    (hout : ∀ x ∈ c.exceptionTable.toList, covers x (pc + 9) = false)
    (hRframes : names.length + 3 < R.frames) (hRlocals : (rest.map fun v => v.category).sum + (13 * (names.length + 1) + 43) ≤ R.locals) (hRcells : cells + 1 ≤ R.cells) (hRslots : slots + 6 ≤ R.slots) (hlocks : meth.locks = false)
    (hx : ∀ t : State, s.vm.Alike t.vm → H.size < t.heap.size → t.heap.size ≤ s.heap.size + mc → (∀ q : Nat, q < H.size → t.heap[q]? = H[q]?) → XC cls s t)
    (hf : ∀ z ∈ locs, free z.base) (hc : cells + 1 ≤ mc) (hs : slots + 6 ≤ ms) :
    W p l e R s m args below meth c H locs cells slots (vx_MQ below Qc XC args s mc ms free) (F0 m pc ls rest) := by
  intro T hT X
  have htr : e.platform.stackTraces = false := (show e.platform.stackTraces = l.stackTraces by rw [X.admits.platform]).trans hl
  have Y := vx_rebase X (R' := { frames := R.frames, locals := R.locals, cells := 1, slots := 6 }) (Nat.le_refl _) (Nat.le_refl _) hRcells hRslots
  obtain ⟨s', hA⟩ : ∃ z, z = (T.setVm s.vm).setFrames (.invoking m args :: below) := ⟨_, rfl⟩
  rw [← hA] at Y
  have hvm : s'.vm = s.vm := by rw [hA]; rfl
  have hhp : s'.heap = H := by rw [hA]; exact hT
  have hW0 : s.WarmedH s'.vm := by rw [hvm]; exact State.WarmedH.refl s
  have hat' : ∀ w ∈ vx_atSX own ic cls ix rx names, w.before args s' = true := fun w hw => vx_ot_at hW0 hvm.symm (hgood w (List.mem_cons_of_mem _ (List.mem_cons_of_mem _ hw))) (hat w hw)
  have hk' : (Cond.classLink own ik cls).before args s' = true := vx_ot_at hW0 hvm.symm (hgood _ List.mem_cons_self) hk
  have hini' : (Cond.initialized cls).before args s' = true := vx_ot_at hW0 hvm.symm (hgood _ (List.mem_cons_of_mem _ List.mem_cons_self)) hini
  have hU' : vx_Zq Bundle.tN "UNASSIGNED_STACK" Bundle.steD A s' s'.heap := by rw [hhp]; exact vx_Zq.moved hW0.alike (hU.kept hS.2.1)
  have hN' : vx_Zq Bundle.tN "SUPPRESSED_SENTINEL" Bundle.listD A s' s'.heap := by rw [hhp]; exact vx_Zq.moved hW0.alike (hN.kept hS.2.1)
  have h : ∀ w ∈ Bundle.ownAtomsX own ic cls ix rx names, w.before args s' = true := vx_own hat' (vx_isRefq hU'.1) (vx_isRefq hN'.1) hU'.2.word hN'.2.word
  have hown' : s'.vm.findClass own = some m.cls := by rw [hvm]; exact hown
  have hins : (Cond.instantiable cls 6).before args s' = true := h _ (by simp [Bundle.ownAtomsX])
  obtain ⟨vm₁, cX, kX, hfX, hkX, -, -, X₁, st1⟩ := Y.newCold hexec (own := own) (C := cls) (index := ik) (n := 6) hown' hk' hins hini'
    (g := F0 m pc ls rest) rfl (by rw [hb]; exact d0) (Nat.le_refl _) (Nat.le_refl _)
  generalize hT1 : (T.setVm vm₁).pushCell { cls := cX, slots := kX.instanceTypes.map defaultValue, vm := .none } = T1 at X₁ st1
  have hcat : (Value.ref T.heap.size).category = 1 := rfl
  have hcellA : T1.heap[T.heap.size]? = some (freshCell cX kX) := by rw [← hT1]; exact State.heap_pushCell_size _ _
  have d3' : decode c.code (pc + 3) = .ok (.dup, 1) := by rw [hb]; exact d3
  have d4' : decode c.code (pc + 4) = .ok (.ldc is, 2) := by rw [hb]; exact d4
  have hstr' : vk_R own is text sa s' := vk_R.warm hW0 hstr
  obtain ⟨U, hsteps, hrun, hend, hW, hsame, ce, hce, hO⟩ := vx_ctorThrowSX X₁ hexec htr x0 x1 x2 x5 (own := own) (cls := cls) (names := names) (ic := ic) hown' hcls hnames h (fun x hx => nomatch hx) hfX hkX hcellA (by rw [hhp, hT]; exact Nat.le_refl _) (msg := .ref sa) rfl
    (g := { method := m, pc := pc + 6, locals := ls, stack := .ref sa :: .ref T.heap.size :: .ref T.heap.size :: rest, locked := none }) rfl hsize rfl rfl (rest := rest) rfl
    (by rw [hb]; exact d6) (by rw [hb]; exact d9) hout hRframes (by simp only [List.map_cons, List.sum_cons, hcat]; omega) hlocks
  obtain ⟨f1, f2⟩ := vx_frame hsame
  rw [hhp] at f1 f2
  have hWs : s.WarmedH U.vm := State.WarmedH.trans hW0 hW
  have hcl : s.vm.findClass cls = some ce.cls := by
    have h9 := hO.cls
    rw [hvm] at h9
    exact h9
  have hall : s.sameButNew ({ U with vm := s.vm } : State) locs mc ms := by
    subst hA
    obtain ⟨e1, e2⟩ := hsame
    rw [State.setFrames_setFrames] at e1
    have h2 : (T.setVm s.vm).sameButNew ({ U with vm := s.vm } : State) [] (0 + 1) (0 + 6) := ⟨e1, e2⟩
    have h3 := X.same.trans h2
    rw [List.append_nil] at h3
    exact h3.mono hc hs
  refine ⟨U, ?_, .threw T.heap.size, hrun, hend, Or.inr ⟨T.heap.size, rfl, cls, ce, locs, hx U hWs.alike (by rw [← hT]; exact (Array.getElem?_eq_some_iff.mp hce).1) hall.2.2.1 (fun q hq => f2 q hq (fun z hz => nomatch hz)), hce, hO.vm, hcl, hWs, hall, hf⟩⟩
  refine st1 _ ?_
  show Steps p.tables e below (T1.setTop { method := m, pc := pc + 3, locals := ls, stack := .ref T.heap.size :: rest, locked := none }) _
  jvm_step X₁.here [X₁.here.top, hexec, d3', Value.category]
  exact X₁.ldcString hexec (own := own) (text := text) (index := is) (a := sa) hown' hstr'.1 hstr'.2
    (g := { method := m, pc := pc + 4, locals := ls, stack := .ref T.heap.size :: .ref T.heap.size :: rest, locked := none }) rfl d4' _ hsteps
end VXY
def g_thrOkX (own : String) (ic c ix : Nat) (rx : ByteArray) : Bool := (vx_atSX own ic (g_exn c) ix rx g_names).all fun w => decide (w ∈ lw_tbl) && ((goodWord w || (w.faceAtom && w.onTables)) && vx_ot w)
section GXVX
variable {α : Type} {l : Launch} {G : gG} {M : gMt} {Φ : α → Method → Code → State → Array Value → List Frame → State → Prop} {k n pc nx : Nat} {L : List (Option Value)} {st stk : List Value} {h : gH} {F : Option α}
theorem X_throwX {ix : Nat} {rx : ByteArray} (x0 : decode rx 0 = .ok (.aload_n 0, 1)) (x1 : decode rx 1 = .ok (.aload_n 1, 1)) (x2 : decode rx 2 = .ok (.invokespecial ix, 3)) (x5 : decode rx 5 = .ok (.return_, 1)) {cx ik is ic i : Nat} {tx : String} {ρ : α → (Nat ⊕ Option Value) × gH} {r0 : α} {mc ms : Nat} {h' : gH} (hl : l.stackTraces = false) (d0 : decode (m_cc M) pc = .ok (.new ik, 3)) (d3 : decode (m_cc M) (pc + 3) = .ok (.dup, 1)) (d4 : decode (m_cc M) (pc + 4) = .ok (.ldc is, 2)) (d6 : decode (m_cc M) (pc + 6) = .ok (.invokespecial ic, 3)) (d9 : decode (m_cc M) (pc + 9) = .ok (.athrow, 1))
    (hcx : Bundle.fit (g_exn cx) = true) (hlk : Cond.classLink (m_y M).cls ik (g_exn cx) ∈ lw_tbl) (hini : Cond.initialized (g_exn cx) ∈ lw_tbl) (hstr : ((m_y M).cls, is, tx, i) ∈ g_strs) (hat : g_thrOkX (m_y M).cls ic cx ix rx = true) (hmh : m_h M = []) (hnl : (m_y M).name ≠ "law") (hf : Nat.ble 6 (m_R M).frames = true) (hlo : Nat.ble ((st.map fun v => v.category).sum + 82) (m_R M).locals = true) (hk : Nat.ble (k + 1) mc = true) (hs : Nat.ble (n + 6) ms = true) (hR1 : Nat.ble mc (m_R M).cells = true) (hR2 : Nat.ble ms (m_R M).slots = true) (hρ : ρ r0 = (.inl cx, h')) (hh : h'.2 = h.2) (hm1 : mc = 1 := by rfl) : GX l G M (g_phx G ρ mc ms) k n pc L st h (some r0) := by
  intro r hr p e s m args below meth c H locs A B hl9 hM hS
  cases hr
  have hts := B.2.2.2.2.2.2.1
  have hK := B.2.2.2.2.2.2.2.1
  have hk2 := Nat.le_of_ble_eq_true hk
  have hs2 := Nat.le_of_ble_eq_true hs
  have hR12 := Nat.le_of_ble_eq_true hR1
  have hR22 := Nat.le_of_ble_eq_true hR2
  have hall := List.all_eq_true.mp hat
  unfold g_phx
  rw [hρ]
  refine vx_throwSX x0 x1 x2 x5 (names := g_names) (A := g_A G) (own := (m_y M).cls) (cls := g_exn cx) (text := tx) (sa := g_aK G i) B.1 B.2.1 hl B.2.2.2.2.2.1 hcx (by decide +kernel) (hts _ hlk rfl) (hts _ hini rfl) (hK.2.2.1 _ hstr) (fun w hw => ?_) (fun w hw => ?_) hK.2.2.2.2.1 hK.2.2.2.2.2.1 hS (by rw [B.2.2.1]; exact hl9.1) d0 d3 d4 d6 d9 (fun x hx => ?_) (by have := Nat.le_of_ble_eq_true hf; show 2 + 3 < _; omega) (by have := Nat.le_of_ble_eq_true hlo; show _ + (13 * (2 + 1) + 43) ≤ _; omega) (by omega) (by omega) B.2.2.2.2.1 (fun t hvm hz hz9 hq => ?_) hS.2.2 hk2 hs2
  · have h1 := hall w hw
    simp only [Bool.and_eq_true, Bool.or_eq_true, decide_eq_true_eq] at h1
    rcases h1.2.1 with h2 | h2
    · exact hts w h1.1 h2
    · exact va_tabs h2.2 rfl (hK.2.1 w (List.mem_filter.mpr ⟨h1.1, by unfold g_face; rw [h2.1]; rfl⟩))
  · rcases List.mem_cons.mp hw with rfl | hw
    · rfl
    · rcases List.mem_cons.mp hw with rfl | hw
      · rfl
      · have h1 := hall w hw
        simp only [Bool.and_eq_true] at h1
        exact h1.2.2
  · rw [B.2.2.2.2.2.2.2.2.1.2.2 hnl, hmh] at hx
    cases hx
  · refine ⟨rfl, ⟨t.heap.size, rfl, Nat.le_trans hM.2.1 (by rw [← hM.1]; exact Nat.le_of_lt hz), fun q x hx => ?_⟩, by have := hS.1; omega, fun q hqb => ?_⟩
    · rw [hh] at hx
      have h2 := hM.2.2 q x hx
      exact ⟨h2.1, h2.2.kept (hq q h2.2.lt)⟩
    · have hqs : q < s.heap.size := Nat.lt_of_lt_of_le hqb B.2.2.2.2.2.2.2.2.1.2.1
      rw [hq q (Nat.lt_of_lt_of_le hqs hS.1)]
      exact hS.2.1 q hqs (Nat.not_le.mpr hqb)

/-- what the tables say of a throw of LampRelay -/
def g_thr (ik ic cx : Nat) : Prop := Bundle.fit (g_exn cx) = true ∧ Cond.classLink RX7 ik (g_exn cx) ∈ lw_tbl ∧ Cond.initialized (g_exn cx) ∈ lw_tbl ∧ g_thrOk RX7 ic cx = true
def g_thrX (ik ic cx ix : Nat) (rx : ByteArray) : Prop := Bundle.fit (g_exn cx) = true ∧ Cond.classLink RX7 ik (g_exn cx) ∈ lw_tbl ∧ Cond.initialized (g_exn cx) ∈ lw_tbl ∧ g_thrOkX RX7 ic cx ix rx = true
theorem thr_1 : g_thr 41 45 1 := ⟨by decide +kernel, by decide +kernel, by decide +kernel, by decide +kernel⟩
theorem thr_2 : g_thr 83 87 2 := ⟨by decide +kernel, by decide +kernel, by decide +kernel, by decide +kernel⟩
theorem thr_4 : g_thr 192 196 4 := ⟨by decide +kernel, by decide +kernel, by decide +kernel, by decide +kernel⟩
def rxN : ByteArray := prog_39_method_4_code
theorem rxN_0 : decode rxN 0 = .ok (.aload_n 0, 1) := by decide +kernel
theorem rxN_1 : decode rxN 1 = .ok (.aload_n 1, 1) := by decide +kernel
theorem rxN_2 : decode rxN 2 = .ok (.invokespecial 13, 3) := by decide +kernel
theorem rxN_5 : decode rxN 5 = .ok (.return_, 1) := by decide +kernel
theorem thr_3 : g_thrX 116 120 3 13 rxN := ⟨by decide +kernel, by decide +kernel, by decide +kernel, by decide +kernel⟩
theorem X_thr {cx ik is ic i : Nat} {tx : String} {ρ : α → (Nat ⊕ Option Value) × gH} {r0 : α} {mc ms : Nat} {h' : gH} (ht : g_thr ik ic cx) (hl : l.stackTraces = false) (hM : (m_y M).cls = RX7) (hd : (decide (decode (m_cc M) pc = .ok (.new ik, 3)) && decide (decode (m_cc M) (pc + 3) = .ok (.dup, 1)) && decide (decode (m_cc M) (pc + 4) = .ok (.ldc is, 2)) && decide (decode (m_cc M) (pc + 6) = .ok (.invokespecial ic, 3)) && decide (decode (m_cc M) (pc + 9) = .ok (.athrow, 1))) = true) (hstr : (RX7, is, tx, i) ∈ g_strs) (hmh : m_h M = []) (hnl : (m_y M).name ≠ "law") (hf : Nat.ble 6 (m_R M).frames = true) (hlo : Nat.ble ((st.map fun v => v.category).sum + 82) (m_R M).locals = true) (hk : Nat.ble (k + 1) mc = true) (hs : Nat.ble (n + 6) ms = true) (hR1 : Nat.ble mc (m_R M).cells = true) (hR2 : Nat.ble ms (m_R M).slots = true) (hρ : ρ r0 = (.inl cx, h')) (hh : h'.2 = h.2) (hm1 : mc = 1 := by rfl) : GX l G M (g_phx G ρ mc ms) k n pc L st h (some r0) := by
  simp only [Bool.and_eq_true, decide_eq_true_eq] at hd
  exact X_throw hl hd.1.1.1.1 hd.1.1.1.2 hd.1.1.2 hd.1.2 hd.2 ht.1 (hM ▸ ht.2.1) ht.2.2.1 (hM ▸ hstr) (hM ▸ ht.2.2.2) hmh hnl hf hlo hk hs hR1 hR2 hρ hh hm1
theorem X_thrN {is i : Nat} {tx : String} {ρ : α → (Nat ⊕ Option Value) × gH} {r0 : α} {mc ms : Nat} {h' : gH} (hl : l.stackTraces = false) (hM : (m_y M).cls = RX7) (hd : (decide (decode (m_cc M) pc = .ok (.new 116, 3)) && decide (decode (m_cc M) (pc + 3) = .ok (.dup, 1)) && decide (decode (m_cc M) (pc + 4) = .ok (.ldc is, 2)) && decide (decode (m_cc M) (pc + 6) = .ok (.invokespecial 120, 3)) && decide (decode (m_cc M) (pc + 9) = .ok (.athrow, 1))) = true) (hstr : (RX7, is, tx, i) ∈ g_strs) (hmh : m_h M = []) (hnl : (m_y M).name ≠ "law") (hf : Nat.ble 6 (m_R M).frames = true) (hlo : Nat.ble ((st.map fun v => v.category).sum + 82) (m_R M).locals = true) (hk : Nat.ble (k + 1) mc = true) (hs : Nat.ble (n + 6) ms = true) (hR1 : Nat.ble mc (m_R M).cells = true) (hR2 : Nat.ble ms (m_R M).slots = true) (hρ : ρ r0 = (.inl 3, h')) (hh : h'.2 = h.2) (hm1 : mc = 1 := by rfl) : GX l G M (g_phx G ρ mc ms) k n pc L st h (some r0) := by
  simp only [Bool.and_eq_true, decide_eq_true_eq] at hd
  exact X_throwX rxN_0 rxN_1 rxN_2 rxN_5 hl hd.1.1.1.1 hd.1.1.1.2 hd.1.1.2 hd.1.2 hd.2 thr_3.1 (hM ▸ thr_3.2.1) thr_3.2.2.1 (hM ▸ hstr) (hM ▸ thr_3.2.2.2) hmh hnl hf hlo hk hs hR1 hR2 hρ hh hm1
end GXVX
end
section
def f_X7_appendWord_b42 (K3 : gH → Nat → Int32 → Int32 → Option gH) (h : gH) (l0 : Nat) (l1 : Int32) (l2 : Int32) : Option gH :=
  K3 h l0 l1 (l2 + (-8))
def f_X7_appendWord_b3 : Nat → gH → Nat → Int32 → Int32 → Option gH
  | 0, _, _, _, _ => none
  | n + 1, h, l0, l1, l2 =>
    (if 0 ≤ l2 then
      (g_gI h l0 7 1).bind fun v8 =>
      (g_gA h l0 7 0).bind fun v12 =>
      (g_aln h v12).bind fun v15 =>
      (if v8 < v15 then
        (g_gA h l0 7 0).bind fun v20 =>
        (g_gI h l0 7 1).bind fun v24 =>
        (g_bst h v20 v24 ((Int32.toInt8 ((l1.toUInt32 >>> (l2.toUInt32 &&& Int32.toUInt32 31)).toInt32)).toInt32)).bind fun h31 =>
        (g_gI h31 l0 7 1).bind fun v34 =>
        (g_put h31 l0 7 1 (.int (v34 + 1))).bind fun h39 =>
        f_X7_appendWord_b42 (f_X7_appendWord_b3  n) h39 l0 l1 l2
      else
        f_X7_appendWord_b42 (f_X7_appendWord_b3  n) h l0 l1 l2)
    else
      some h)
def f_X7_appendWord (h : gH) (a0 : Nat) (p1 : Int32) : Option gH :=
  f_X7_appendWord_b3 g_N h a0 p1 24
set_option maxRecDepth 100000 in
theorem b_X7_appendWord_b42 {l : Launch} {G : gG} {K3 : gH → Nat → Int32 → Int32 → Option gH} (hK3 : ∀ (h : gH) (l0 : Nat) (l1 : Int32) (l2 : Int32), GX l G M_X7_appendWord (g_phi G g_wU (m_R M_X7_appendWord).cells (m_R M_X7_appendWord).slots) 0 0 3 [some (.ref l0), some (.int l1), some (.int l2)] [] h (K3 h l0 l1 l2)) (h : gH) (l0 : Nat) (l1 : Int32) (l2 : Int32) : GX l G M_X7_appendWord (g_phi G g_wU (m_R M_X7_appendWord).cells (m_R M_X7_appendWord).slots) 0 0 42 [some (.ref l0), some (.int l1), some (.int l2)] [] h (f_X7_appendWord_b42 K3 h l0 l1 l2) := by
  unfold f_X7_appendWord_b42
  refine X_iinc (v := l2 + (-8)) rfl rfl rfl (congrArg (fun z => l2 + z) (by decide : Int32.ofInt (-8) = (-8))) rfl ?_
  refine X_goto rfl rfl ?_
  exact X_sub (g_sub_s (g_sub_s (g_sub_s g_sub_0))) (hK3 _ _ _ _)
set_option maxRecDepth 100000 in
theorem b_X7_appendWord_b3 {l : Launch} {G : gG} : ∀ (n : Nat) (h : gH) (l0 : Nat) (l1 : Int32) (l2 : Int32), GX l G M_X7_appendWord (g_phi G g_wU (m_R M_X7_appendWord).cells (m_R M_X7_appendWord).slots) 0 0 3 [some (.ref l0), some (.int l1), some (.int l2)] [] h (f_X7_appendWord_b3 n h l0 l1 l2) := by
  intro n
  induction n with
  | zero => intros; exact X_none
  | succ n ih =>
    intro h l0 l1 l2
    rw [f_X7_appendWord_b3]
    refine X_iload_n rfl rfl rfl ?_
    refine X_bif_lt rfl rfl (fun _ => ?_) (fun _ => ?_)
    · refine X_aload_n rfl rfl rfl ?_
      refine X_getI rfl rfl (fun v8 => ?_)
      refine X_aload_n rfl rfl rfl ?_
      refine X_getA rfl rfl (fun v12 => ?_)
      refine X_aln rfl rfl (fun v15 => ?_)
      refine X_bicmp_ge rfl rfl (fun _ => ?_) (fun _ => ?_)
      · refine X_aload_n rfl rfl rfl ?_
        refine X_getA rfl rfl (fun v20 => ?_)
        refine X_aload_n rfl rfl rfl ?_
        refine X_getI rfl rfl (fun v24 => ?_)
        refine X_iload_n rfl rfl rfl ?_
        refine X_iload_n rfl rfl rfl ?_
        refine X_iushr rfl rfl ?_
        refine X_i2b rfl rfl ?_
        refine X_bst rfl rfl (fun h31 => ?_)
        refine X_aload_n rfl rfl rfl ?_
        refine X_dup rfl rfl rfl ?_
        refine X_getI rfl rfl (fun v34 => ?_)
        refine X_iconst (v := 1) rfl rfl (by decide) ?_
        refine X_iadd rfl rfl ?_
        refine X_put rfl rfl rfl rfl rfl (fun h39 => ?_)
        exact X_sub (g_sub_s (g_sub_s (g_sub_s g_sub_0))) (b_X7_appendWord_b42 ih _ _ _ _)
      · exact X_sub (g_sub_s (g_sub_s (g_sub_s g_sub_0))) (b_X7_appendWord_b42 ih _ _ _ _)
    · exact X_vret rfl rfl rfl rfl rfl rfl
set_option maxRecDepth 100000 in
theorem ct_X7_appendWord {l : Launch} {G : gG} {h : gH} {a0 : Nat} {p1 : Int32} {h1 : gH} (e : f_X7_appendWord h a0 p1 = some h1) : Ct l G M_X7_appendWord [.ref a0, .int p1] h none h1 := by
  refine Ct_of (L := [some (.ref a0), some (.int p1), none]) ok_X7_appendWord (by decide +kernel) rfl rfl rfl (ρ := g_wU) (F := f_X7_appendWord h a0 p1) ?_ e rfl
  unfold f_X7_appendWord
  refine X_bipush (v := 24) rfl rfl (by decide) ?_
  refine X_istore_n rfl rfl rfl rfl ?_
  exact X_sub (g_sub_s (g_sub_s (g_sub_s g_sub_0))) (b_X7_appendWord_b3  _ _ _ _ _)
def f_X7_append (h : gH) (a0 : Nat) (p1 : Int32) (p2 : Int32) (p3 : Int32) (p4 : Int32) (p5 : Int32) : Option (Int32 × gH) :=
  (g_gI h a0 7 1).bind fun v1 =>
  (if 500 < (v1 + 20) then
    some (-1, h)
  else
    bif g_is h a0 7 then
    (f_X7_appendWord h a0 p1).bind fun h17 =>
    bif g_is h17 a0 7 then
    (f_X7_appendWord h17 a0 p2).bind fun h22 =>
    bif g_is h22 a0 7 then
    (f_X7_appendWord h22 a0 p3).bind fun h27 =>
    bif g_is h27 a0 7 then
    (f_X7_appendWord h27 a0 p4).bind fun h33 =>
    bif g_is h33 a0 7 then
    (f_X7_appendWord h33 a0 p5).bind fun h39 =>
    (g_gI h39 a0 7 1).bind fun v43 =>
    some (v43, h39)
    else none
    else none
    else none
    else none
    else none)
set_option maxRecDepth 100000 in
theorem ct_X7_append {l : Launch} {G : gG} {h : gH} {a0 : Nat} {p1 : Int32} {p2 : Int32} {p3 : Int32} {p4 : Int32} {p5 : Int32} {r : Int32} {h1 : gH} (e : f_X7_append h a0 p1 p2 p3 p4 p5 = some (r, h1)) : Ct l G M_X7_append [.ref a0, .int p1, .int p2, .int p3, .int p4, .int p5] h (some (.int r)) h1 := by
  refine Ct_of (L := [some (.ref a0), some (.int p1), some (.int p2), some (.int p3), some (.int p4), some (.int p5)]) ok_X7_append (by decide +kernel) rfl rfl rfl (ρ := g_wI) (F := f_X7_append h a0 p1 p2 p3 p4 p5) ?_ e rfl
  unfold f_X7_append
  refine X_aload_n rfl rfl rfl ?_
  refine X_getI rfl rfl (fun v1 => ?_)
  refine X_bipush (v := 20) rfl rfl (by decide) ?_
  refine X_iadd rfl rfl ?_
  refine X_sipush (v := 500) rfl rfl (by decide) ?_
  refine X_bicmp_le rfl rfl (fun _ => ?_) (fun _ => ?_)
  · refine X_iconst (v := -1) rfl rfl (by decide) ?_
    exact X_iret rfl rfl rfl rfl rfl rfl rfl
  · refine X_aload_n rfl rfl rfl ?_
    refine X_iload_n rfl rfl rfl ?_
    refine X_callV_UW (M' := M_X7_appendWord) (nA := 1) (As := [.int p1]) (st := []) (b := a0) (ci := 7) rfl rfl (by decide +kernel) rfl rfl rfl rfl rfl rfl rfl rfl (fun _ e => ct_X7_appendWord e) (fun h17 => ?_)
    refine X_aload_n rfl rfl rfl ?_
    refine X_iload_n rfl rfl rfl ?_
    refine X_callV_UW (M' := M_X7_appendWord) (nA := 1) (As := [.int p2]) (st := []) (b := a0) (ci := 7) rfl rfl (by decide +kernel) rfl rfl rfl rfl rfl rfl rfl rfl (fun _ e => ct_X7_appendWord e) (fun h22 => ?_)
    refine X_aload_n rfl rfl rfl ?_
    refine X_iload_n rfl rfl rfl ?_
    refine X_callV_UW (M' := M_X7_appendWord) (nA := 1) (As := [.int p3]) (st := []) (b := a0) (ci := 7) rfl rfl (by decide +kernel) rfl rfl rfl rfl rfl rfl rfl rfl (fun _ e => ct_X7_appendWord e) (fun h27 => ?_)
    refine X_aload_n rfl rfl rfl ?_
    refine X_iload rfl rfl rfl ?_
    refine X_callV_UW (M' := M_X7_appendWord) (nA := 1) (As := [.int p4]) (st := []) (b := a0) (ci := 7) rfl rfl (by decide +kernel) rfl rfl rfl rfl rfl rfl rfl rfl (fun _ e => ct_X7_appendWord e) (fun h33 => ?_)
    refine X_aload_n rfl rfl rfl ?_
    refine X_iload rfl rfl rfl ?_
    refine X_callV_UW (M' := M_X7_appendWord) (nA := 1) (As := [.int p5]) (st := []) (b := a0) (ci := 7) rfl rfl (by decide +kernel) rfl rfl rfl rfl rfl rfl rfl rfl (fun _ e => ct_X7_appendWord e) (fun h39 => ?_)
    refine X_aload_n rfl rfl rfl ?_
    refine X_getI rfl rfl (fun v43 => ?_)
    exact X_iret rfl rfl rfl rfl rfl rfl rfl
def f_X7_load_b12 (h : gH) : Option ((Nat ⊕ Int32) × gH) :=
  some (.inl 1, h)
def f_X7_load (h : gH) (a0 : Nat) (p1 : Int32) : Option ((Nat ⊕ Int32) × gH) :=
  (if 0 ≤ p1 then
    (g_gI h a0 7 1).bind fun v6 =>
    (if v6 < p1 then
      f_X7_load_b12 h
    else
      (g_put h a0 7 1 (.int 0)).bind fun h24 =>
      (g_mk h24 (.inr (5, g_dfl 5))).bind fun h27 =>
      (g_gA h27 a0 7 0).bind fun v32 =>
      (f_X5_init h27 h24.1 v32 p1).bind fun h36 =>
      (g_gA h36 a0 7 4).bind fun v42 =>
      bif g_is h36 h24.1 5 then
      (f_X5_readInto h36 h24.1 v42).bind fun y45 =>
      (if y45.1 = 0 then
        (g_gI y45.2 h24.1 5 6).bind fun v53 =>
        (g_put y45.2 a0 7 2 (.int v53)).bind fun h56 =>
        (g_gI h56 h24.1 5 5).bind fun v60 =>
        some (.inr v60, h56)
      else
        (g_put y45.2 a0 7 2 (.int (-1))).bind fun h66 =>
        (g_gA h66 a0 7 5).bind fun v70 =>
        (g_gA h66 a0 7 3).bind fun v74 =>
        bif g_is h66 v70 1 then
        (f_X1_keep h66 v70 v74).bind fun h77 =>
        (g_gA h77 a0 7 3).bind fun v81 =>
        (g_gA h77 a0 7 4).bind fun v85 =>
        bif g_is h77 v81 6 then
        (f_X6_copyFrom h77 v81 v85).bind fun h88 =>
        (g_gA h88 a0 7 3).bind fun v92 =>
        (g_gI h88 v92 6 1).bind fun v95 =>
        some (.inr v95, h88)
        else none
        else none)
      else none)
  else
    f_X7_load_b12 h)
set_option maxRecDepth 100000 in
theorem b_X7_load_b12 {l : Launch} {G : gG} (hl : l.stackTraces = false) (h : gH) : GX l G M_X7_load (g_phx G g_xI (m_R M_X7_load).cells (m_R M_X7_load).slots) 0 0 12 [none, none, none] [] h (f_X7_load_b12 h) := by
  unfold f_X7_load_b12
  exact X_thr (is := 43) (i := 5) (tx := "length") thr_1 hl rfl (by decide +kernel) (by decide) rfl (by decide) rfl rfl rfl rfl rfl rfl rfl rfl
set_option maxRecDepth 100000 in
theorem ct_X7_load {l : Launch} {G : gG} {h : gH} {a0 : Nat} {p1 : Int32} (hl : l.stackTraces = false) {o : Nat ⊕ Int32} {h1 : gH} (e : f_X7_load h a0 p1 = some (o, h1)) : Cx l G M_X7_load [.ref a0, .int p1] h (g_xI (o, h1)).1 h1 := by
  refine Cx_of (L := [some (.ref a0), some (.int p1), none]) ok_X7_load (by decide +kernel) rfl rfl rfl rfl (ρ := g_xI) (F := f_X7_load h a0 p1) ?_ e rfl
  unfold f_X7_load
  refine X_iload_n rfl rfl rfl ?_
  refine X_bif_lt rfl rfl (fun _ => ?_) (fun _ => ?_)
  · refine X_iload_n rfl rfl rfl ?_
    refine X_aload_n rfl rfl rfl ?_
    refine X_getI rfl rfl (fun v6 => ?_)
    refine X_bicmp_le rfl rfl (fun _ => ?_) (fun _ => ?_)
    · exact X_sub (g_sub_n (g_sub_n (g_sub_n g_sub_0))) (b_X7_load_b12 hl _)
    · refine X_aload_n rfl rfl rfl ?_
      refine X_iconst (v := 0) rfl rfl (by decide) ?_
      refine X_put rfl rfl rfl rfl rfl (fun h24 => ?_)
      refine X_newO (k1 := 1) (n1 := 7) rfl rfl rfl (by decide +kernel) rfl rfl (fun h27 => ?_)
      refine X_dup rfl rfl rfl ?_
      refine X_aload_n rfl rfl rfl ?_
      refine X_getA rfl rfl (fun v32 => ?_)
      refine X_iload_n rfl rfl rfl ?_
      refine X_callI_U (M' := M_X5_init) (nA := 2) (As := [.ref v32, .int p1]) (st := [.ref h24.1]) (b := h24.1) (k1 := 1) (n1 := 7) rfl rfl (by decide +kernel) rfl rfl rfl rfl rfl rfl rfl (fun _ e => ct_X5_init e) (fun h36 => ?_)
      refine X_astore_n rfl rfl rfl rfl ?_
      refine X_aload_n rfl rfl rfl ?_
      refine X_aload_n rfl rfl rfl ?_
      refine X_getA rfl rfl (fun v42 => ?_)
      refine X_callV_IW (M' := M_X5_readInto) (nA := 1) (As := [.ref v42]) (st := []) (b := (h24.1)) (ci := 5) rfl rfl (by decide +kernel) rfl rfl rfl rfl rfl rfl rfl rfl (fun _ _ e => ct_X5_readInto e) (fun y45 => ?_)
      refine X_bif_ne rfl rfl (fun _ => ?_) (fun _ => ?_)
      · refine X_aload_n rfl rfl rfl ?_
        refine X_aload_n rfl rfl rfl ?_
        refine X_getI rfl rfl (fun v53 => ?_)
        refine X_put rfl rfl rfl rfl rfl (fun h56 => ?_)
        refine X_aload_n rfl rfl rfl ?_
        refine X_getI rfl rfl (fun v60 => ?_)
        exact X_vx rfl (X_iret rfl rfl rfl rfl rfl rfl rfl)
      · refine X_aload_n rfl rfl rfl ?_
        refine X_iconst (v := -1) rfl rfl (by decide) ?_
        refine X_put rfl rfl rfl rfl rfl (fun h66 => ?_)
        refine X_aload_n rfl rfl rfl ?_
        refine X_getA rfl rfl (fun v70 => ?_)
        refine X_aload_n rfl rfl rfl ?_
        refine X_getA rfl rfl (fun v74 => ?_)
        refine X_callV_UW (M' := M_X1_keep) (nA := 1) (As := [.ref v74]) (st := []) (b := v70) (ci := 1) rfl rfl (by decide +kernel) rfl rfl rfl rfl rfl rfl rfl rfl (fun _ e => ct_X1_keep e) (fun h77 => ?_)
        refine X_aload_n rfl rfl rfl ?_
        refine X_getA rfl rfl (fun v81 => ?_)
        refine X_aload_n rfl rfl rfl ?_
        refine X_getA rfl rfl (fun v85 => ?_)
        refine X_callV_UW (M' := M_X6_copyFrom) (nA := 1) (As := [.ref v85]) (st := []) (b := v81) (ci := 6) rfl rfl (by decide +kernel) rfl rfl rfl rfl rfl rfl rfl rfl (fun _ e => ct_X6_copyFrom e) (fun h88 => ?_)
        refine X_aload_n rfl rfl rfl ?_
        refine X_getA rfl rfl (fun v92 => ?_)
        refine X_getI rfl rfl (fun v95 => ?_)
        exact X_vx rfl (X_iret rfl rfl rfl rfl rfl rfl rfl)
  · exact X_sub (g_sub_n (g_sub_n (g_sub_n g_sub_0))) (b_X7_load_b12 hl _)
def f_X7_errorOffset (h : gH) (a0 : Nat) : Option (Int32) :=
  (g_gI h a0 7 2).bind fun v1 =>
  some v1
set_option maxRecDepth 100000 in
theorem ct_X7_errorOffset {l : Launch} {G : gG} {h : gH} {a0 : Nat} {r : Int32} (e : f_X7_errorOffset h a0 = some r) : Ct l G M_X7_errorOffset [.ref a0] h (some (.int r)) h := by
  refine Ct_of (L := [some (.ref a0)]) ok_X7_errorOffset (by decide +kernel) rfl rfl rfl (ρ := (g_rI h)) (F := f_X7_errorOffset h a0) ?_ e rfl
  unfold f_X7_errorOffset
  refine X_aload_n rfl rfl rfl ?_
  refine X_getI rfl rfl (fun v1 => ?_)
  exact X_iret rfl rfl rfl rfl rfl rfl rfl
def f_X7_state (h : gH) (a0 : Nat) (p1 : Int32) : Option ((Nat ⊕ Int32) × gH) :=
  (if (f_X7_isWithin p1 0 12) = 0 then
    some (.inl 1, h)
  else
    (g_gA h a0 7 3).bind fun v21 =>
    bif g_is h v21 6 then
    (f_X6_figure h v21 p1).bind fun v25 =>
    some (.inr v25, h)
    else none)
set_option maxRecDepth 100000 in
theorem ct_X7_state {l : Launch} {G : gG} {h : gH} {a0 : Nat} {p1 : Int32} (hl : l.stackTraces = false) {o : Nat ⊕ Int32} {h1 : gH} (e : f_X7_state h a0 p1 = some (o, h1)) : Cx l G M_X7_state [.ref a0, .int p1] h (g_xI (o, h1)).1 h1 := by
  refine Cx_of (L := [some (.ref a0), some (.int p1)]) ok_X7_state (by decide +kernel) rfl rfl rfl rfl (ρ := g_xI) (F := f_X7_state h a0 p1) ?_ e rfl
  unfold f_X7_state
  refine X_iload_n rfl rfl rfl ?_
  refine X_iconst (v := 0) rfl rfl (by decide) ?_
  refine X_bipush (v := 12) rfl rfl (by decide) ?_
  refine X_callS_IP (v := f_X7_isWithin p1 0 12) (M' := M_X7_isWithin) (nA := 3) (As := [.int p1, .int 0, .int 12]) (st := []) rfl rfl (by decide +kernel) rfl rfl rfl rfl rfl rfl rfl ct_X7_isWithin ?_
  refine X_bif_ne rfl rfl (fun _ => ?_) (fun _ => ?_)
  · exact X_thr (is := 77) (i := 6) (tx := "what") thr_1 hl rfl (by decide +kernel) (by decide) rfl (by decide) rfl rfl rfl rfl rfl rfl rfl rfl
  · refine X_aload_n rfl rfl rfl ?_
    refine X_getA rfl rfl (fun v21 => ?_)
    refine X_iload_n rfl rfl rfl ?_
    refine X_callV_IR (M' := M_X6_figure) (nA := 1) (As := [.int p1]) (st := []) (b := v21) (ci := 6) rfl rfl (by decide +kernel) rfl rfl rfl rfl rfl rfl rfl rfl (fun _ e => ct_X6_figure e) (fun v25 => ?_)
    exact X_vx rfl (X_iret rfl rfl rfl rfl rfl rfl rfl)
def f_X7_channel (h : gH) (a0 : Nat) (p1 : Int32) (p2 : Int32) : Option ((Nat ⊕ Int32) × gH) :=
  (if (f_X7_isWithin p1 0 1) = 0 then
    some (.inl 2, h)
  else
    (if (f_X7_isWithin p2 0 5) = 0 then
      some (.inl 1, h)
    else
      (g_gA h a0 7 3).bind fun v39 =>
      bif g_is h v39 6 then
      (f_X6_channelNumbered h v39 p1).bind fun v43 =>
      (g_gA h a0 7 3).bind fun v48 =>
      (g_gI h v48 6 0).bind fun v51 =>
      bif g_is h v43 0 then
      (f_X0_figure h v43 p2 v51).bind fun v54 =>
      some (.inr v54, h)
      else none
      else none))
set_option maxRecDepth 100000 in
theorem ct_X7_channel {l : Launch} {G : gG} {h : gH} {a0 : Nat} {p1 : Int32} {p2 : Int32} (hl : l.stackTraces = false) {o : Nat ⊕ Int32} {h1 : gH} (e : f_X7_channel h a0 p1 p2 = some (o, h1)) : Cx l G M_X7_channel [.ref a0, .int p1, .int p2] h (g_xI (o, h1)).1 h1 := by
  refine Cx_of (L := [some (.ref a0), some (.int p1), some (.int p2)]) ok_X7_channel (by decide +kernel) rfl rfl rfl rfl (ρ := g_xI) (F := f_X7_channel h a0 p1 p2) ?_ e rfl
  unfold f_X7_channel
  refine X_iload_n rfl rfl rfl ?_
  refine X_iconst (v := 0) rfl rfl (by decide) ?_
  refine X_iconst (v := 1) rfl rfl (by decide) ?_
  refine X_callS_IP (v := f_X7_isWithin p1 0 1) (M' := M_X7_isWithin) (nA := 3) (As := [.int p1, .int 0, .int 1]) (st := []) rfl rfl (by decide +kernel) rfl rfl rfl rfl rfl rfl rfl ct_X7_isWithin ?_
  refine X_bif_ne rfl rfl (fun _ => ?_) (fun _ => ?_)
  · exact X_thr (is := 85) (i := 7) (tx := "channel") thr_2 hl rfl (by decide +kernel) (by decide) rfl (by decide) rfl rfl rfl rfl rfl rfl rfl rfl
  · refine X_iload_n rfl rfl rfl ?_
    refine X_iconst (v := 0) rfl rfl (by decide) ?_
    refine X_iconst (v := 5) rfl rfl (by decide) ?_
    refine X_callS_IP (v := f_X7_isWithin p2 0 5) (M' := M_X7_isWithin) (nA := 3) (As := [.int p2, .int 0, .int 5]) (st := []) rfl rfl (by decide +kernel) rfl rfl rfl rfl rfl rfl rfl ct_X7_isWithin ?_
    refine X_bif_ne rfl rfl (fun _ => ?_) (fun _ => ?_)
    · exact X_thr (is := 77) (i := 6) (tx := "what") thr_1 hl rfl (by decide +kernel) (by decide) rfl (by decide) rfl rfl rfl rfl rfl rfl rfl rfl
    · refine X_aload_n rfl rfl rfl ?_
      refine X_getA rfl rfl (fun v39 => ?_)
      refine X_iload_n rfl rfl rfl ?_
      refine X_callV_AR (M' := M_X6_channelNumbered) (nA := 1) (As := [.int p1]) (st := []) (b := v39) (ci := 6) rfl rfl (by decide +kernel) rfl rfl rfl rfl rfl rfl rfl rfl (fun _ e => ct_X6_channelNumbered e) (fun v43 => ?_)
      refine X_iload_n rfl rfl rfl ?_
      refine X_aload_n rfl rfl rfl ?_
      refine X_getA rfl rfl (fun v48 => ?_)
      refine X_getI rfl rfl (fun v51 => ?_)
      refine X_callV_IR (M' := M_X0_figure) (nA := 2) (As := [.int p2, .int v51]) (st := []) (b := v43) (ci := 0) rfl rfl (by decide +kernel) rfl rfl rfl rfl rfl rfl rfl rfl (fun _ e => ct_X0_figure e) (fun v54 => ?_)
      exact X_vx rfl (X_iret rfl rfl rfl rfl rfl rfl rfl)
def f_X7_message (h : gH) (a0 : Nat) (p1 : Int32) (p2 : Int32) : Option ((Nat ⊕ Int32) × gH) :=
  (g_gA h a0 7 3).bind fun v1 =>
  bif g_is h v1 6 then
  (f_X6_hasMessage h v1 p1).bind fun v5 =>
  (if v5 = 0 then
    some (.inl 2, h)
  else
    (if (f_X7_isWithin p2 0 9) = 0 then
      some (.inl 1, h)
    else
      (g_gA h a0 7 3).bind fun v42 =>
      bif g_is h v42 6 then
      (f_X6_messageNumbered h v42 p1).bind fun v46 =>
      bif g_is h v46 3 then
      (f_X3_figure h v46 p2).bind fun v50 =>
      some (.inr v50, h)
      else none
      else none))
  else none
set_option maxRecDepth 100000 in
theorem ct_X7_message {l : Launch} {G : gG} {h : gH} {a0 : Nat} {p1 : Int32} {p2 : Int32} (hl : l.stackTraces = false) {o : Nat ⊕ Int32} {h1 : gH} (e : f_X7_message h a0 p1 p2 = some (o, h1)) : Cx l G M_X7_message [.ref a0, .int p1, .int p2] h (g_xI (o, h1)).1 h1 := by
  refine Cx_of (L := [some (.ref a0), some (.int p1), some (.int p2)]) ok_X7_message (by decide +kernel) rfl rfl rfl rfl (ρ := g_xI) (F := f_X7_message h a0 p1 p2) ?_ e rfl
  unfold f_X7_message
  refine X_aload_n rfl rfl rfl ?_
  refine X_getA rfl rfl (fun v1 => ?_)
  refine X_iload_n rfl rfl rfl ?_
  refine X_callV_IR (M' := M_X6_hasMessage) (nA := 1) (As := [.int p1]) (st := []) (b := v1) (ci := 6) rfl rfl (by decide +kernel) rfl rfl rfl rfl rfl rfl rfl rfl (fun _ e => ct_X6_hasMessage e) (fun v5 => ?_)
  refine X_bif_ne rfl rfl (fun _ => ?_) (fun _ => ?_)
  · exact X_thr (is := 104) (i := 8) (tx := "message") thr_2 hl rfl (by decide +kernel) (by decide) rfl (by decide) rfl rfl rfl rfl rfl rfl rfl rfl
  · refine X_iload_n rfl rfl rfl ?_
    refine X_iconst (v := 0) rfl rfl (by decide) ?_
    refine X_bipush (v := 9) rfl rfl (by decide) ?_
    refine X_callS_IP (v := f_X7_isWithin p2 0 9) (M' := M_X7_isWithin) (nA := 3) (As := [.int p2, .int 0, .int 9]) (st := []) rfl rfl (by decide +kernel) rfl rfl rfl rfl rfl rfl rfl ct_X7_isWithin ?_
    refine X_bif_ne rfl rfl (fun _ => ?_) (fun _ => ?_)
    · exact X_thr (is := 77) (i := 6) (tx := "what") thr_1 hl rfl (by decide +kernel) (by decide) rfl (by decide) rfl rfl rfl rfl rfl rfl rfl rfl
    · refine X_aload_n rfl rfl rfl ?_
      refine X_getA rfl rfl (fun v42 => ?_)
      refine X_iload_n rfl rfl rfl ?_
      refine X_callV_AR (M' := M_X6_messageNumbered) (nA := 1) (As := [.int p1]) (st := []) (b := v42) (ci := 6) rfl rfl (by decide +kernel) rfl rfl rfl rfl rfl rfl rfl rfl (fun _ e => ct_X6_messageNumbered e) (fun v46 => ?_)
      refine X_iload_n rfl rfl rfl ?_
      refine X_callV_IR (M' := M_X3_figure) (nA := 1) (As := [.int p2]) (st := []) (b := v46) (ci := 3) rfl rfl (by decide +kernel) rfl rfl rfl rfl rfl rfl rfl rfl (fun _ e => ct_X3_figure e) (fun v50 => ?_)
      exact X_vx rfl (X_iret rfl rfl rfl rfl rfl rfl rfl)
def f_X7_letter (h : gH) (a0 : Nat) (p1 : Int32) (p2 : Int32) (p3 : Int32) : Option ((Nat ⊕ Int32) × gH) :=
  (g_gA h a0 7 3).bind fun v1 =>
  bif g_is h v1 6 then
  (f_X6_hasMessage h v1 p1).bind fun v5 =>
  (if v5 = 0 then
    some (.inl 2, h)
  else
    (g_gA h a0 7 3).bind fun v22 =>
    bif g_is h v22 6 then
    (f_X6_messageNumbered h v22 p1).bind fun v26 =>
    bif g_is h v26 3 then
    (f_X3_hasPlace h v26 p2).bind fun v34 =>
    (if v34 = 0 then
      some (.inl 3, h)
    else
      (if p3 = 0 then
        bif g_is h v26 3 then
        (f_X3_letterAt h v26 p2).bind fun v66 =>
        some (.inr v66, h)
        else none
      else
        bif g_is h v26 3 then
        (f_X3_loggedAt h v26 p2).bind fun v57 =>
        some (.inr v57, h)
        else none))
    else none
    else none)
  else none
set_option maxRecDepth 100000 in
theorem ct_X7_letter {l : Launch} {G : gG} {h : gH} {a0 : Nat} {p1 : Int32} {p2 : Int32} {p3 : Int32} (hl : l.stackTraces = false) {o : Nat ⊕ Int32} {h1 : gH} (e : f_X7_letter h a0 p1 p2 p3 = some (o, h1)) : Cx l G M_X7_letter [.ref a0, .int p1, .int p2, .int p3] h (g_xI (o, h1)).1 h1 := by
  refine Cx_of (L := [some (.ref a0), some (.int p1), some (.int p2), some (.int p3), none]) ok_X7_letter (by decide +kernel) rfl rfl rfl rfl (ρ := g_xI) (F := f_X7_letter h a0 p1 p2 p3) ?_ e rfl
  unfold f_X7_letter
  refine X_aload_n rfl rfl rfl ?_
  refine X_getA rfl rfl (fun v1 => ?_)
  refine X_iload_n rfl rfl rfl ?_
  refine X_callV_IR (M' := M_X6_hasMessage) (nA := 1) (As := [.int p1]) (st := []) (b := v1) (ci := 6) rfl rfl (by decide +kernel) rfl rfl rfl rfl rfl rfl rfl rfl (fun _ e => ct_X6_hasMessage e) (fun v5 => ?_)
  refine X_bif_ne rfl rfl (fun _ => ?_) (fun _ => ?_)
  · exact X_thr (is := 104) (i := 8) (tx := "message") thr_2 hl rfl (by decide +kernel) (by decide) rfl (by decide) rfl rfl rfl rfl rfl rfl rfl rfl
  · refine X_aload_n rfl rfl rfl ?_
    refine X_getA rfl rfl (fun v22 => ?_)
    refine X_iload_n rfl rfl rfl ?_
    refine X_callV_AR (M' := M_X6_messageNumbered) (nA := 1) (As := [.int p1]) (st := []) (b := v22) (ci := 6) rfl rfl (by decide +kernel) rfl rfl rfl rfl rfl rfl rfl rfl (fun _ e => ct_X6_messageNumbered e) (fun v26 => ?_)
    refine X_astore rfl rfl rfl rfl ?_
    refine X_aload rfl rfl rfl ?_
    refine X_iload_n rfl rfl rfl ?_
    refine X_callV_IR (M' := M_X3_hasPlace) (nA := 1) (As := [.int p2]) (st := []) (b := v26) (ci := 3) rfl rfl (by decide +kernel) rfl rfl rfl rfl rfl rfl rfl rfl (fun _ e => ct_X3_hasPlace e) (fun v34 => ?_)
    refine X_bif_ne rfl rfl (fun _ => ?_) (fun _ => ?_)
    · exact X_thrN (is := 118) (i := 9) (tx := "k") hl rfl (by decide +kernel) (by decide) rfl (by decide) rfl rfl rfl rfl rfl rfl rfl rfl
    · refine X_iload_n rfl rfl rfl ?_
      refine X_bif_eq rfl rfl (fun _ => ?_) (fun _ => ?_)
      · refine X_aload rfl rfl rfl ?_
        refine X_iload_n rfl rfl rfl ?_
        refine X_callV_IR (M' := M_X3_letterAt) (nA := 1) (As := [.int p2]) (st := []) (b := v26) (ci := 3) rfl rfl (by decide +kernel) rfl rfl rfl rfl rfl rfl rfl rfl (fun _ e => ct_X3_letterAt e) (fun v66 => ?_)
        exact X_vx rfl (X_iret rfl rfl rfl rfl rfl rfl rfl)
      · refine X_aload rfl rfl rfl ?_
        refine X_iload_n rfl rfl rfl ?_
        refine X_callV_IR (M' := M_X3_loggedAt) (nA := 1) (As := [.int p2]) (st := []) (b := v26) (ci := 3) rfl rfl (by decide +kernel) rfl rfl rfl rfl rfl rfl rfl rfl (fun _ e => ct_X3_loggedAt e) (fun v57 => ?_)
        refine X_goto rfl rfl ?_
        exact X_vx rfl (X_iret rfl rfl rfl rfl rfl rfl rfl)
def f_X7_why (h : gH) (a0 : Nat) (p1 : Int32) (p2 : Int32) : Option ((Nat ⊕ Int32) × gH) :=
  (g_gA h a0 7 3).bind fun v1 =>
  bif g_is h v1 6 then
  (f_X6_hasMessage h v1 p1).bind fun v5 =>
  (if v5 = 0 then
    some (.inl 2, h)
  else
    (g_gA h a0 7 3).bind fun v22 =>
    bif g_is h v22 6 then
    (f_X6_messageNumbered h v22 p1).bind fun v26 =>
    bif g_is h v26 3 then
    (f_X3_hasPlace h v26 p2).bind fun v32 =>
    (if v32 = 0 then
      some (.inl 3, h)
    else
      bif g_is h v26 3 then
      (f_X3_reasonAt h v26 p2).bind fun v50 =>
      some (.inr v50, h)
      else none)
    else none
    else none)
  else none
set_option maxRecDepth 100000 in
theorem ct_X7_why {l : Launch} {G : gG} {h : gH} {a0 : Nat} {p1 : Int32} {p2 : Int32} (hl : l.stackTraces = false) {o : Nat ⊕ Int32} {h1 : gH} (e : f_X7_why h a0 p1 p2 = some (o, h1)) : Cx l G M_X7_why [.ref a0, .int p1, .int p2] h (g_xI (o, h1)).1 h1 := by
  refine Cx_of (L := [some (.ref a0), some (.int p1), some (.int p2), none]) ok_X7_why (by decide +kernel) rfl rfl rfl rfl (ρ := g_xI) (F := f_X7_why h a0 p1 p2) ?_ e rfl
  unfold f_X7_why
  refine X_aload_n rfl rfl rfl ?_
  refine X_getA rfl rfl (fun v1 => ?_)
  refine X_iload_n rfl rfl rfl ?_
  refine X_callV_IR (M' := M_X6_hasMessage) (nA := 1) (As := [.int p1]) (st := []) (b := v1) (ci := 6) rfl rfl (by decide +kernel) rfl rfl rfl rfl rfl rfl rfl rfl (fun _ e => ct_X6_hasMessage e) (fun v5 => ?_)
  refine X_bif_ne rfl rfl (fun _ => ?_) (fun _ => ?_)
  · exact X_thr (is := 104) (i := 8) (tx := "message") thr_2 hl rfl (by decide +kernel) (by decide) rfl (by decide) rfl rfl rfl rfl rfl rfl rfl rfl
  · refine X_aload_n rfl rfl rfl ?_
    refine X_getA rfl rfl (fun v22 => ?_)
    refine X_iload_n rfl rfl rfl ?_
    refine X_callV_AR (M' := M_X6_messageNumbered) (nA := 1) (As := [.int p1]) (st := []) (b := v22) (ci := 6) rfl rfl (by decide +kernel) rfl rfl rfl rfl rfl rfl rfl rfl (fun _ e => ct_X6_messageNumbered e) (fun v26 => ?_)
    refine X_astore_n rfl rfl rfl rfl ?_
    refine X_aload_n rfl rfl rfl ?_
    refine X_iload_n rfl rfl rfl ?_
    refine X_callV_IR (M' := M_X3_hasPlace) (nA := 1) (As := [.int p2]) (st := []) (b := v26) (ci := 3) rfl rfl (by decide +kernel) rfl rfl rfl rfl rfl rfl rfl rfl (fun _ e => ct_X3_hasPlace e) (fun v32 => ?_)
    refine X_bif_ne rfl rfl (fun _ => ?_) (fun _ => ?_)
    · exact X_thrN (is := 118) (i := 9) (tx := "k") hl rfl (by decide +kernel) (by decide) rfl (by decide) rfl rfl rfl rfl rfl rfl rfl rfl
    · refine X_aload_n rfl rfl rfl ?_
      refine X_iload_n rfl rfl rfl ?_
      refine X_callV_IR (M' := M_X3_reasonAt) (nA := 1) (As := [.int p2]) (st := []) (b := v26) (ci := 3) rfl rfl (by decide +kernel) rfl rfl rfl rfl rfl rfl rfl rfl (fun _ e => ct_X3_reasonAt e) (fun v50 => ?_)
      exact X_vx rfl (X_iret rfl rfl rfl rfl rfl rfl rfl)
def f_X7_mist (h : gH) (a0 : Nat) (p1 : Int32) : Option ((Nat ⊕ Int32) × gH) :=
  (if (f_X7_isWithin p1 0 20000) = 0 then
    some (.inl 1, h)
  else
    (g_gA h a0 7 3).bind fun v22 =>
    (g_gA h v22 6 15).bind fun v25 =>
    bif g_is h v25 4 then
    (f_X4_levelAt h v25 p1).bind fun v29 =>
    some (.inr v29, h)
    else none)
set_option maxRecDepth 100000 in
theorem ct_X7_mist {l : Launch} {G : gG} {h : gH} {a0 : Nat} {p1 : Int32} (hl : l.stackTraces = false) {o : Nat ⊕ Int32} {h1 : gH} (e : f_X7_mist h a0 p1 = some (o, h1)) : Cx l G M_X7_mist [.ref a0, .int p1] h (g_xI (o, h1)).1 h1 := by
  refine Cx_of (L := [some (.ref a0), some (.int p1)]) ok_X7_mist (by decide +kernel) rfl rfl rfl rfl (ρ := g_xI) (F := f_X7_mist h a0 p1) ?_ e rfl
  unfold f_X7_mist
  refine X_iload_n rfl rfl rfl ?_
  refine X_iconst (v := 0) rfl rfl (by decide) ?_
  refine X_sipush (v := 20000) rfl rfl (by decide) ?_
  refine X_callS_IP (v := f_X7_isWithin p1 0 20000) (M' := M_X7_isWithin) (nA := 3) (As := [.int p1, .int 0, .int 20000]) (st := []) rfl rfl (by decide +kernel) rfl rfl rfl rfl rfl rfl rfl ct_X7_isWithin ?_
  refine X_bif_ne rfl rfl (fun _ => ?_) (fun _ => ?_)
  · exact X_thr (is := 130) (i := 10) (tx := "tick") thr_1 hl rfl (by decide +kernel) (by decide) rfl (by decide) rfl rfl rfl rfl rfl rfl rfl rfl
  · refine X_aload_n rfl rfl rfl ?_
    refine X_getA rfl rfl (fun v22 => ?_)
    refine X_getA rfl rfl (fun v25 => ?_)
    refine X_iload_n rfl rfl rfl ?_
    refine X_callV_IR (M' := M_X4_levelAt) (nA := 1) (As := [.int p1]) (st := []) (b := v25) (ci := 4) rfl rfl (by decide +kernel) rfl rfl rfl rfl rfl rfl rfl rfl (fun _ e => ct_X4_levelAt e) (fun v29 => ?_)
    exact X_vx rfl (X_iret rfl rfl rfl rfl rfl rfl rfl)
def f_X7_key (h : gH) (a0 : Nat) (p1 : Int32) (p2 : Int32) : Option ((Nat ⊕ Int32) × gH) :=
  (if (f_X7_isWithin p1 0 1) = 0 then
    some (.inl 2, h)
  else
    (if (f_X7_isWithin p2 0 20000) = 0 then
      some (.inl 1, h)
    else
      (g_gA h a0 7 3).bind fun v41 =>
      bif g_is h v41 6 then
      (f_X6_keepersOf h v41 p1).bind fun v45 =>
      bif g_is h v45 2 then
      (f_X2_keyAt h v45 p2).bind fun v49 =>
      some (.inr v49, h)
      else none
      else none))
set_option maxRecDepth 100000 in
theorem ct_X7_key {l : Launch} {G : gG} {h : gH} {a0 : Nat} {p1 : Int32} {p2 : Int32} (hl : l.stackTraces = false) {o : Nat ⊕ Int32} {h1 : gH} (e : f_X7_key h a0 p1 p2 = some (o, h1)) : Cx l G M_X7_key [.ref a0, .int p1, .int p2] h (g_xI (o, h1)).1 h1 := by
  refine Cx_of (L := [some (.ref a0), some (.int p1), some (.int p2)]) ok_X7_key (by decide +kernel) rfl rfl rfl rfl (ρ := g_xI) (F := f_X7_key h a0 p1 p2) ?_ e rfl
  unfold f_X7_key
  refine X_iload_n rfl rfl rfl ?_
  refine X_iconst (v := 0) rfl rfl (by decide) ?_
  refine X_iconst (v := 1) rfl rfl (by decide) ?_
  refine X_callS_IP (v := f_X7_isWithin p1 0 1) (M' := M_X7_isWithin) (nA := 3) (As := [.int p1, .int 0, .int 1]) (st := []) rfl rfl (by decide +kernel) rfl rfl rfl rfl rfl rfl rfl ct_X7_isWithin ?_
  refine X_bif_ne rfl rfl (fun _ => ?_) (fun _ => ?_)
  · exact X_thr (is := 141) (i := 11) (tx := "station") thr_2 hl rfl (by decide +kernel) (by decide) rfl (by decide) rfl rfl rfl rfl rfl rfl rfl rfl
  · refine X_iload_n rfl rfl rfl ?_
    refine X_iconst (v := 0) rfl rfl (by decide) ?_
    refine X_sipush (v := 20000) rfl rfl (by decide) ?_
    refine X_callS_IP (v := f_X7_isWithin p2 0 20000) (M' := M_X7_isWithin) (nA := 3) (As := [.int p2, .int 0, .int 20000]) (st := []) rfl rfl (by decide +kernel) rfl rfl rfl rfl rfl rfl rfl ct_X7_isWithin ?_
    refine X_bif_ne rfl rfl (fun _ => ?_) (fun _ => ?_)
    · exact X_thr (is := 130) (i := 10) (tx := "tick") thr_1 hl rfl (by decide +kernel) (by decide) rfl (by decide) rfl rfl rfl rfl rfl rfl rfl rfl
    · refine X_aload_n rfl rfl rfl ?_
      refine X_getA rfl rfl (fun v41 => ?_)
      refine X_iload_n rfl rfl rfl ?_
      refine X_callV_AR (M' := M_X6_keepersOf) (nA := 1) (As := [.int p1]) (st := []) (b := v41) (ci := 6) rfl rfl (by decide +kernel) rfl rfl rfl rfl rfl rfl rfl rfl (fun _ e => ct_X6_keepersOf e) (fun v45 => ?_)
      refine X_iload_n rfl rfl rfl ?_
      refine X_callV_IR (M' := M_X2_keyAt) (nA := 1) (As := [.int p2]) (st := []) (b := v45) (ci := 2) rfl rfl (by decide +kernel) rfl rfl rfl rfl rfl rfl rfl rfl (fun _ e => ct_X2_keyAt e) (fun v49 => ?_)
      exact X_vx rfl (X_iret rfl rfl rfl rfl rfl rfl rfl)
def f_X7_next (h : gH) (a0 : Nat) (p1 : Int32) : Option ((Nat ⊕ Int32) × gH) :=
  (g_gA h a0 7 3).bind fun v1 =>
  bif g_is h v1 6 then
  (f_X6_servedAs h v1 p1).bind fun v5 =>
  (if v5 = (-1) then
    some (.inl 3, h)
  else
    some (.inr v5, h))
  else none
set_option maxRecDepth 100000 in
theorem ct_X7_next {l : Launch} {G : gG} {h : gH} {a0 : Nat} {p1 : Int32} (hl : l.stackTraces = false) {o : Nat ⊕ Int32} {h1 : gH} (e : f_X7_next h a0 p1 = some (o, h1)) : Cx l G M_X7_next [.ref a0, .int p1] h (g_xI (o, h1)).1 h1 := by
  refine Cx_of (L := [some (.ref a0), some (.int p1), none]) ok_X7_next (by decide +kernel) rfl rfl rfl rfl (ρ := g_xI) (F := f_X7_next h a0 p1) ?_ e rfl
  unfold f_X7_next
  refine X_aload_n rfl rfl rfl ?_
  refine X_getA rfl rfl (fun v1 => ?_)
  refine X_iload_n rfl rfl rfl ?_
  refine X_callV_IR (M' := M_X6_servedAs) (nA := 1) (As := [.int p1]) (st := []) (b := v1) (ci := 6) rfl rfl (by decide +kernel) rfl rfl rfl rfl rfl rfl rfl rfl (fun _ e => ct_X6_servedAs e) (fun v5 => ?_)
  refine X_istore_n rfl rfl rfl rfl ?_
  refine X_iload_n rfl rfl rfl ?_
  refine X_iconst (v := -1) rfl rfl (by decide) ?_
  refine X_bicmp_ne rfl rfl (fun _ => ?_) (fun _ => ?_)
  · exact X_thrN (is := 118) (i := 9) (tx := "k") hl rfl (by decide +kernel) (by decide) rfl (by decide) rfl rfl rfl rfl rfl rfl rfl rfl
  · refine X_iload_n rfl rfl rfl ?_
    exact X_vx rfl (X_iret rfl rfl rfl rfl rfl rfl rfl)
def f_X7_foretold (h : gH) (a0 : Nat) (p1 : Int32) : Option ((Nat ⊕ Int32) × gH) :=
  (if (f_X7_isWithin p1 0 2) = 0 then
    some (.inl 1, h)
  else
    (g_gA h a0 7 4).bind fun v20 =>
    (g_gA h a0 7 3).bind fun v24 =>
    bif g_is h v20 6 then
    (f_X6_copyFrom h v20 v24).bind fun h27 =>
    (g_gA h27 a0 7 4).bind fun v31 =>
    bif g_is h27 v31 6 then
    (f_X6_letForetoldTicksPass h27 v31 0).bind fun y35 =>
    (if p1 = 0 then
      (g_gA y35.2 a0 7 4).bind fun v69 =>
      bif g_is y35.2 v69 6 then
      (f_X6_isBusy y35.2 v69).bind fun v72 =>
      (if v72 = 0 then
        (g_gA y35.2 a0 7 4).bind fun v83 =>
        (g_gI y35.2 v83 6 0).bind fun v86 =>
        (g_gA y35.2 a0 7 3).bind fun v90 =>
        (g_gI y35.2 v90 6 0).bind fun v93 =>
        some (.inr (v86 - v93), y35.2)
      else
        some (.inr (-1), y35.2))
      else none
    else
      (if p1 = 1 then
        (g_gA y35.2 a0 7 4).bind fun v99 =>
        bif g_is y35.2 v99 6 then
        (f_X6_agreeing y35.2 v99).bind fun v102 =>
        some (.inr v102, y35.2)
        else none
      else
        (g_gA y35.2 a0 7 4).bind fun v107 =>
        (g_gI y35.2 v107 6 8).bind fun v110 =>
        (g_gA y35.2 a0 7 3).bind fun v114 =>
        (g_gI y35.2 v114 6 8).bind fun v117 =>
        some (.inr (v110 - v117), y35.2)))
    else none
    else none)
set_option maxRecDepth 100000 in
theorem ct_X7_foretold {l : Launch} {G : gG} {h : gH} {a0 : Nat} {p1 : Int32} (hl : l.stackTraces = false) {o : Nat ⊕ Int32} {h1 : gH} (e : f_X7_foretold h a0 p1 = some (o, h1)) : Cx l G M_X7_foretold [.ref a0, .int p1] h (g_xI (o, h1)).1 h1 := by
  refine Cx_of (L := [some (.ref a0), some (.int p1)]) ok_X7_foretold (by decide +kernel) rfl rfl rfl rfl (ρ := g_xI) (F := f_X7_foretold h a0 p1) ?_ e rfl
  unfold f_X7_foretold
  refine X_iload_n rfl rfl rfl ?_
  refine X_iconst (v := 0) rfl rfl (by decide) ?_
  refine X_iconst (v := 2) rfl rfl (by decide) ?_
  refine X_callS_IP (v := f_X7_isWithin p1 0 2) (M' := M_X7_isWithin) (nA := 3) (As := [.int p1, .int 0, .int 2]) (st := []) rfl rfl (by decide +kernel) rfl rfl rfl rfl rfl rfl rfl ct_X7_isWithin ?_
  refine X_bif_ne rfl rfl (fun _ => ?_) (fun _ => ?_)
  · exact X_thr (is := 77) (i := 6) (tx := "what") thr_1 hl rfl (by decide +kernel) (by decide) rfl (by decide) rfl rfl rfl rfl rfl rfl rfl rfl
  · refine X_aload_n rfl rfl rfl ?_
    refine X_getA rfl rfl (fun v20 => ?_)
    refine X_aload_n rfl rfl rfl ?_
    refine X_getA rfl rfl (fun v24 => ?_)
    refine X_callV_UW (M' := M_X6_copyFrom) (nA := 1) (As := [.ref v24]) (st := []) (b := v20) (ci := 6) rfl rfl (by decide +kernel) rfl rfl rfl rfl rfl rfl rfl rfl (fun _ e => ct_X6_copyFrom e) (fun h27 => ?_)
    refine X_aload_n rfl rfl rfl ?_
    refine X_getA rfl rfl (fun v31 => ?_)
    refine X_iconst (v := 0) rfl rfl (by decide) ?_
    refine X_callV_IW (M' := M_X6_letForetoldTicksPass) (nA := 1) (As := [.int 0]) (st := []) (b := v31) (ci := 6) rfl rfl (by decide +kernel) rfl rfl rfl rfl rfl rfl rfl rfl (fun _ _ e => ct_X6_letForetoldTicksPass e) (fun y35 => ?_)
    refine X_pop rfl rfl rfl ?_
    refine X_iload_n rfl rfl rfl ?_
    refine X_if (fun c40_0 => ?_) (fun c40_0 => ?_)
    · refine X_rfl (st' := .int 0 :: []) (by rw [c40_0]) ?_
      refine X_lsw (len := 28) (off := 28) (tgt := 68) rfl rfl (by decide) rfl rfl ?_
      refine X_aload_n rfl rfl rfl ?_
      refine X_getA rfl rfl (fun v69 => ?_)
      refine X_callV_IR (M' := M_X6_isBusy) (nA := 0) (As := []) (st := []) (b := v69) (ci := 6) rfl rfl (by decide +kernel) rfl rfl rfl rfl rfl rfl rfl rfl (fun _ e => ct_X6_isBusy e) (fun v72 => ?_)
      refine X_bif_eq rfl rfl (fun _ => ?_) (fun _ => ?_)
      · refine X_aload_n rfl rfl rfl ?_
        refine X_getA rfl rfl (fun v83 => ?_)
        refine X_getI rfl rfl (fun v86 => ?_)
        refine X_aload_n rfl rfl rfl ?_
        refine X_getA rfl rfl (fun v90 => ?_)
        refine X_getI rfl rfl (fun v93 => ?_)
        refine X_isub rfl rfl ?_
        exact X_vx rfl (X_iret rfl rfl rfl rfl rfl rfl rfl)
      · refine X_iconst (v := -1) rfl rfl (by decide) ?_
        refine X_goto rfl rfl ?_
        exact X_vx rfl (X_iret rfl rfl rfl rfl rfl rfl rfl)
    · refine X_if (fun c40_1 => ?_) (fun c40_1 => ?_)
      · refine X_rfl (st' := .int 1 :: []) (by rw [c40_1]) ?_
        refine X_lsw (len := 28) (off := 58) (tgt := 98) rfl rfl (by decide) rfl rfl ?_
        refine X_aload_n rfl rfl rfl ?_
        refine X_getA rfl rfl (fun v99 => ?_)
        refine X_callV_IR (M' := M_X6_agreeing) (nA := 0) (As := []) (st := []) (b := v99) (ci := 6) rfl rfl (by decide +kernel) rfl rfl rfl rfl rfl rfl rfl rfl (fun _ e => ct_X6_agreeing e) (fun v102 => ?_)
        exact X_vx rfl (X_iret rfl rfl rfl rfl rfl rfl rfl)
      · refine X_lsw (len := 28) (off := 66) (tgt := 106) rfl rfl (by decide) (by rw [lv_osw c40_0 (show Int32.toInt (0) = 0 by decide)]; rw [lv_osw c40_1 (show Int32.toInt (1) = 1 by decide)]; rfl) rfl ?_
        refine X_aload_n rfl rfl rfl ?_
        refine X_getA rfl rfl (fun v107 => ?_)
        refine X_getI rfl rfl (fun v110 => ?_)
        refine X_aload_n rfl rfl rfl ?_
        refine X_getA rfl rfl (fun v114 => ?_)
        refine X_getI rfl rfl (fun v117 => ?_)
        refine X_isub rfl rfl ?_
        exact X_vx rfl (X_iret rfl rfl rfl rfl rfl rfl rfl)
def f_X7_leastPower_b33 : Nat → gH → Nat → Int32 → Int32 → Option ((Nat ⊕ Int32) × gH)
  | 0, _, _, _, _ => none
  | n + 1, h, l0, l1, l2 =>
    (if l2 ≤ 9 then
      (g_gA h l0 7 4).bind fun v40 =>
      (g_gA h l0 7 3).bind fun v44 =>
      bif g_is h v40 6 then
      (f_X6_copyFrom h v40 v44).bind fun h47 =>
      (g_gA h47 l0 7 4).bind fun v51 =>
      bif g_is h47 v51 6 then
      (f_X6_channelNumbered h47 v51 l1).bind fun v55 =>
      (g_put h47 v55 0 0 (.int l2)).bind fun h59 =>
      (g_gA h59 l0 7 4).bind fun v63 =>
      bif g_is h59 v63 6 then
      (f_X6_letForetoldTicksPass h59 v63 1).bind fun y67 =>
      (if y67.1 = 0 then
        f_X7_leastPower_b33  n y67.2 l0 l1 (l2 + 1)
      else
        some (.inr l2, y67.2))
      else none
      else none
      else none
    else
      some (.inr (-1), h))
def f_X7_leastPower (h : gH) (a0 : Nat) (p1 : Int32) : Option ((Nat ⊕ Int32) × gH) :=
  (if (f_X7_isWithin p1 0 1) = 0 then
    some (.inl 2, h)
  else
    (g_gA h a0 7 3).bind fun v20 =>
    bif g_is h v20 6 then
    (f_X6_isBusy h v20).bind fun v23 =>
    (if v23 = 0 then
      some (.inr 0, h)
    else
      f_X7_leastPower_b33 g_N h a0 p1 0)
    else none)
set_option maxRecDepth 100000 in
theorem b_X7_leastPower_b33 {l : Launch} {G : gG} (hl : l.stackTraces = false) : ∀ (n : Nat) (h : gH) (l0 : Nat) (l1 : Int32) (l2 : Int32), GX l G M_X7_leastPower (g_phx G g_xI (m_R M_X7_leastPower).cells (m_R M_X7_leastPower).slots) 0 0 33 [some (.ref l0), some (.int l1), some (.int l2)] [] h (f_X7_leastPower_b33 n h l0 l1 l2) := by
  intro n
  induction n with
  | zero => intros; exact X_none
  | succ n ih =>
    intro h l0 l1 l2
    rw [f_X7_leastPower_b33]
    refine X_iload_n rfl rfl rfl ?_
    refine X_bipush (v := 9) rfl rfl (by decide) ?_
    refine X_bicmp_gt rfl rfl (fun _ => ?_) (fun _ => ?_)
    · refine X_aload_n rfl rfl rfl ?_
      refine X_getA rfl rfl (fun v40 => ?_)
      refine X_aload_n rfl rfl rfl ?_
      refine X_getA rfl rfl (fun v44 => ?_)
      refine X_callV_UW (M' := M_X6_copyFrom) (nA := 1) (As := [.ref v44]) (st := []) (b := v40) (ci := 6) rfl rfl (by decide +kernel) rfl rfl rfl rfl rfl rfl rfl rfl (fun _ e => ct_X6_copyFrom e) (fun h47 => ?_)
      refine X_aload_n rfl rfl rfl ?_
      refine X_getA rfl rfl (fun v51 => ?_)
      refine X_iload_n rfl rfl rfl ?_
      refine X_callV_AR (M' := M_X6_channelNumbered) (nA := 1) (As := [.int l1]) (st := []) (b := v51) (ci := 6) rfl rfl (by decide +kernel) rfl rfl rfl rfl rfl rfl rfl rfl (fun _ e => ct_X6_channelNumbered e) (fun v55 => ?_)
      refine X_iload_n rfl rfl rfl ?_
      refine X_put rfl rfl rfl rfl rfl (fun h59 => ?_)
      refine X_aload_n rfl rfl rfl ?_
      refine X_getA rfl rfl (fun v63 => ?_)
      refine X_iconst (v := 1) rfl rfl (by decide) ?_
      refine X_callV_IW (M' := M_X6_letForetoldTicksPass) (nA := 1) (As := [.int 1]) (st := []) (b := v63) (ci := 6) rfl rfl (by decide +kernel) rfl rfl rfl rfl rfl rfl rfl rfl (fun _ _ e => ct_X6_letForetoldTicksPass e) (fun y67 => ?_)
      refine X_bif_eq rfl rfl (fun _ => ?_) (fun _ => ?_)
      · refine X_iinc (v := l2 + 1) rfl rfl rfl (congrArg (fun z => l2 + z) (by decide : Int32.ofInt 1 = 1)) rfl ?_
        refine X_goto rfl rfl ?_
        exact X_sub (g_sub_s (g_sub_s (g_sub_s g_sub_0))) (ih _ _ _ _)
      · refine X_iload_n rfl rfl rfl ?_
        exact X_vx rfl (X_iret rfl rfl rfl rfl rfl rfl rfl)
    · refine X_iconst (v := -1) rfl rfl (by decide) ?_
      exact X_vx rfl (X_iret rfl rfl rfl rfl rfl rfl rfl)
set_option maxRecDepth 100000 in
theorem ct_X7_leastPower {l : Launch} {G : gG} {h : gH} {a0 : Nat} {p1 : Int32} (hl : l.stackTraces = false) {o : Nat ⊕ Int32} {h1 : gH} (e : f_X7_leastPower h a0 p1 = some (o, h1)) : Cx l G M_X7_leastPower [.ref a0, .int p1] h (g_xI (o, h1)).1 h1 := by
  refine Cx_of (L := [some (.ref a0), some (.int p1), none]) ok_X7_leastPower (by decide +kernel) rfl rfl rfl rfl (ρ := g_xI) (F := f_X7_leastPower h a0 p1) ?_ e rfl
  unfold f_X7_leastPower
  refine X_iload_n rfl rfl rfl ?_
  refine X_iconst (v := 0) rfl rfl (by decide) ?_
  refine X_iconst (v := 1) rfl rfl (by decide) ?_
  refine X_callS_IP (v := f_X7_isWithin p1 0 1) (M' := M_X7_isWithin) (nA := 3) (As := [.int p1, .int 0, .int 1]) (st := []) rfl rfl (by decide +kernel) rfl rfl rfl rfl rfl rfl rfl ct_X7_isWithin ?_
  refine X_bif_ne rfl rfl (fun _ => ?_) (fun _ => ?_)
  · exact X_thr (is := 85) (i := 7) (tx := "channel") thr_2 hl rfl (by decide +kernel) (by decide) rfl (by decide) rfl rfl rfl rfl rfl rfl rfl rfl
  · refine X_aload_n rfl rfl rfl ?_
    refine X_getA rfl rfl (fun v20 => ?_)
    refine X_callV_IR (M' := M_X6_isBusy) (nA := 0) (As := []) (st := []) (b := v20) (ci := 6) rfl rfl (by decide +kernel) rfl rfl rfl rfl rfl rfl rfl rfl (fun _ e => ct_X6_isBusy e) (fun v23 => ?_)
    refine X_bif_ne rfl rfl (fun _ => ?_) (fun _ => ?_)
    · refine X_iconst (v := 0) rfl rfl (by decide) ?_
      exact X_vx rfl (X_iret rfl rfl rfl rfl rfl rfl rfl)
    · refine X_iconst (v := 0) rfl rfl (by decide) ?_
      refine X_istore_n rfl rfl rfl rfl ?_
      exact X_sub (g_sub_s (g_sub_s (g_sub_s g_sub_0))) (b_X7_leastPower_b33 hl _ _ _ _ _)
def f_X7_pass_b54 (K35 : gH → Nat → Int32 → Int32 → Int32 → Option ((Nat ⊕ Int32) × gH)) (h : gH) (l0 : Nat) (l1 : Int32) (l2 : Int32) (l3 : Int32) : Option ((Nat ⊕ Int32) × gH) :=
  K35 h l0 l1 l2 (l3 + 1)
def f_X7_pass_b35 : Nat → gH → Nat → Int32 → Int32 → Int32 → Option ((Nat ⊕ Int32) × gH)
  | 0, _, _, _, _, _ => none
  | n + 1, h, l0, l1, l2, l3 =>
    (if l3 < l1 then
      (g_gA h l0 7 3).bind fun v41 =>
      bif g_is h v41 6 then
      (f_X6_letTickPass h v41).bind fun y44 =>
      (if y44.1 = (-1) then
        f_X7_pass_b54 (f_X7_pass_b35  n) y44.2 l0 l1 l2 l3
      else
        f_X7_pass_b54 (f_X7_pass_b35  n) y44.2 l0 l1 (l2 + 1) l3)
      else none
    else
      some (.inr l2, h))
def f_X7_pass (h : gH) (a0 : Nat) (p1 : Int32) : Option ((Nat ⊕ Int32) × gH) :=
  (if (f_X7_isWithin p1 1 100) = 0 then
    some (.inl 1, h)
  else
    (g_gA h a0 7 5).bind fun v21 =>
    (g_gA h a0 7 3).bind fun v25 =>
    bif g_is h v21 1 then
    (f_X1_keep h v21 v25).bind fun h28 =>
    f_X7_pass_b35 g_N h28 a0 p1 0 0
    else none)
set_option maxRecDepth 100000 in
theorem b_X7_pass_b54 {l : Launch} {G : gG} (hl : l.stackTraces = false) {K35 : gH → Nat → Int32 → Int32 → Int32 → Option ((Nat ⊕ Int32) × gH)} (hK35 : ∀ (h : gH) (l0 : Nat) (l1 : Int32) (l2 : Int32) (l3 : Int32), GX l G M_X7_pass (g_phx G g_xI (m_R M_X7_pass).cells (m_R M_X7_pass).slots) 0 0 35 [some (.ref l0), some (.int l1), some (.int l2), some (.int l3)] [] h (K35 h l0 l1 l2 l3)) (h : gH) (l0 : Nat) (l1 : Int32) (l2 : Int32) (l3 : Int32) : GX l G M_X7_pass (g_phx G g_xI (m_R M_X7_pass).cells (m_R M_X7_pass).slots) 0 0 54 [some (.ref l0), some (.int l1), some (.int l2), some (.int l3)] [] h (f_X7_pass_b54 K35 h l0 l1 l2 l3) := by
  unfold f_X7_pass_b54
  refine X_iinc (v := l3 + 1) rfl rfl rfl (congrArg (fun z => l3 + z) (by decide : Int32.ofInt 1 = 1)) rfl ?_
  refine X_goto rfl rfl ?_
  exact X_sub (g_sub_s (g_sub_s (g_sub_s (g_sub_s g_sub_0)))) (hK35 _ _ _ _ _)
set_option maxRecDepth 100000 in
theorem b_X7_pass_b35 {l : Launch} {G : gG} (hl : l.stackTraces = false) : ∀ (n : Nat) (h : gH) (l0 : Nat) (l1 : Int32) (l2 : Int32) (l3 : Int32), GX l G M_X7_pass (g_phx G g_xI (m_R M_X7_pass).cells (m_R M_X7_pass).slots) 0 0 35 [some (.ref l0), some (.int l1), some (.int l2), some (.int l3)] [] h (f_X7_pass_b35 n h l0 l1 l2 l3) := by
  intro n
  induction n with
  | zero => intros; exact X_none
  | succ n ih =>
    intro h l0 l1 l2 l3
    rw [f_X7_pass_b35]
    refine X_iload_n rfl rfl rfl ?_
    refine X_iload_n rfl rfl rfl ?_
    refine X_bicmp_ge rfl rfl (fun _ => ?_) (fun _ => ?_)
    · refine X_aload_n rfl rfl rfl ?_
      refine X_getA rfl rfl (fun v41 => ?_)
      refine X_callV_IW (M' := M_X6_letTickPass) (nA := 0) (As := []) (st := []) (b := v41) (ci := 6) rfl rfl (by decide +kernel) rfl rfl rfl rfl rfl rfl rfl rfl (fun _ _ e => ct_X6_letTickPass e) (fun y44 => ?_)
      refine X_iconst (v := -1) rfl rfl (by decide) ?_
      refine X_bicmp_eq rfl rfl (fun _ => ?_) (fun _ => ?_)
      · exact X_sub (g_sub_s (g_sub_s (g_sub_s (g_sub_s g_sub_0)))) (b_X7_pass_b54 hl ih _ _ _ _ _)
      · refine X_iinc (v := l2 + 1) rfl rfl rfl (congrArg (fun z => l2 + z) (by decide : Int32.ofInt 1 = 1)) rfl ?_
        exact X_sub (g_sub_s (g_sub_s (g_sub_s (g_sub_s g_sub_0)))) (b_X7_pass_b54 hl ih _ _ _ _ _)
    · refine X_iload_n rfl rfl rfl ?_
      exact X_vx rfl (X_iret rfl rfl rfl rfl rfl rfl rfl)
set_option maxRecDepth 100000 in
theorem ct_X7_pass {l : Launch} {G : gG} {h : gH} {a0 : Nat} {p1 : Int32} (hl : l.stackTraces = false) {o : Nat ⊕ Int32} {h1 : gH} (e : f_X7_pass h a0 p1 = some (o, h1)) : Cx l G M_X7_pass [.ref a0, .int p1] h (g_xI (o, h1)).1 h1 := by
  refine Cx_of (L := [some (.ref a0), some (.int p1), none, none]) ok_X7_pass (by decide +kernel) rfl rfl rfl rfl (ρ := g_xI) (F := f_X7_pass h a0 p1) ?_ e rfl
  unfold f_X7_pass
  refine X_iload_n rfl rfl rfl ?_
  refine X_iconst (v := 1) rfl rfl (by decide) ?_
  refine X_bipush (v := 100) rfl rfl (by decide) ?_
  refine X_callS_IP (v := f_X7_isWithin p1 1 100) (M' := M_X7_isWithin) (nA := 3) (As := [.int p1, .int 1, .int 100]) (st := []) rfl rfl (by decide +kernel) rfl rfl rfl rfl rfl rfl rfl ct_X7_isWithin ?_
  refine X_bif_ne rfl rfl (fun _ => ?_) (fun _ => ?_)
  · exact X_thr (is := 182) (i := 12) (tx := "ticks") thr_1 hl rfl (by decide +kernel) (by decide) rfl (by decide) rfl rfl rfl rfl rfl rfl rfl rfl
  · refine X_aload_n rfl rfl rfl ?_
    refine X_getA rfl rfl (fun v21 => ?_)
    refine X_aload_n rfl rfl rfl ?_
    refine X_getA rfl rfl (fun v25 => ?_)
    refine X_callV_UW (M' := M_X1_keep) (nA := 1) (As := [.ref v25]) (st := []) (b := v21) (ci := 1) rfl rfl (by decide +kernel) rfl rfl rfl rfl rfl rfl rfl rfl (fun _ e => ct_X1_keep e) (fun h28 => ?_)
    refine X_iconst (v := 0) rfl rfl (by decide) ?_
    refine X_istore_n rfl rfl rfl rfl ?_
    refine X_iconst (v := 0) rfl rfl (by decide) ?_
    refine X_istore_n rfl rfl rfl rfl ?_
    exact X_sub (g_sub_s (g_sub_s (g_sub_s (g_sub_s g_sub_0)))) (b_X7_pass_b35 hl _ _ _ _ _ _)
def f_X7_buffersLetters_b22 (h : gH) : Nat → Nat → Int32 → Int32 → Option (Int32)
  | 0, _, _, _ => none
  | n + 1, l0, l1, l2 =>
    (if l2 < l1 then
      (g_gA h l0 7 0).bind fun v29 =>
      (g_aln h v29).bind fun v32 =>
      (if l2 < v32 then
        (g_gA h l0 7 0).bind fun v37 =>
        (g_bld h v37 l2).bind fun v41 =>
        (if (f_X7_isWithin v41 97 122) = 0 then
          some 0
        else
          f_X7_buffersLetters_b22 h n l0 l1 (l2 + 1))
      else
        some 1)
    else
      some 1)
def f_X7_buffersLetters (h : gH) (a0 : Nat) (p1 : Int32) : Option (Int32) :=
  (if (f_X7_isWithin p1 1 24) = 0 then
    some 0
  else
    (g_gI h a0 7 1).bind fun v12 =>
    (if v12 < p1 then
      some 0
    else
      f_X7_buffersLetters_b22 h g_N a0 p1 0))
set_option maxRecDepth 100000 in
theorem b_X7_buffersLetters_b22 {l : Launch} {G : gG} {h : gH} : ∀ (n : Nat) (l0 : Nat) (l1 : Int32) (l2 : Int32), GX l G M_X7_buffersLetters (g_phi G (g_rI h) (m_R M_X7_buffersLetters).cells (m_R M_X7_buffersLetters).slots) 0 0 22 [some (.ref l0), some (.int l1), some (.int l2)] [] h (f_X7_buffersLetters_b22 h n l0 l1 l2) := by
  intro n
  induction n with
  | zero => intros; exact X_none
  | succ n ih =>
    intro l0 l1 l2
    rw [f_X7_buffersLetters_b22]
    refine X_iload_n rfl rfl rfl ?_
    refine X_iload_n rfl rfl rfl ?_
    refine X_bicmp_ge rfl rfl (fun _ => ?_) (fun _ => ?_)
    · refine X_iload_n rfl rfl rfl ?_
      refine X_aload_n rfl rfl rfl ?_
      refine X_getA rfl rfl (fun v29 => ?_)
      refine X_aln rfl rfl (fun v32 => ?_)
      refine X_bicmp_ge rfl rfl (fun _ => ?_) (fun _ => ?_)
      · refine X_aload_n rfl rfl rfl ?_
        refine X_getA rfl rfl (fun v37 => ?_)
        refine X_iload_n rfl rfl rfl ?_
        refine X_bld rfl rfl (fun v41 => ?_)
        refine X_bipush (v := 97) rfl rfl (by decide) ?_
        refine X_bipush (v := 122) rfl rfl (by decide) ?_
        refine X_callS_IP (v := f_X7_isWithin v41 97 122) (M' := M_X7_isWithin) (nA := 3) (As := [.int v41, .int 97, .int 122]) (st := []) rfl rfl (by decide +kernel) rfl rfl rfl rfl rfl rfl rfl ct_X7_isWithin ?_
        refine X_bif_ne rfl rfl (fun _ => ?_) (fun _ => ?_)
        · refine X_iconst (v := 0) rfl rfl (by decide) ?_
          exact X_iret rfl rfl rfl rfl rfl rfl rfl
        · refine X_iinc (v := l2 + 1) rfl rfl rfl (congrArg (fun z => l2 + z) (by decide : Int32.ofInt 1 = 1)) rfl ?_
          refine X_goto rfl rfl ?_
          exact X_sub (g_sub_s (g_sub_s (g_sub_s g_sub_0))) (ih _ _ _)
      · refine X_iconst (v := 1) rfl rfl (by decide) ?_
        exact X_iret rfl rfl rfl rfl rfl rfl rfl
    · refine X_iconst (v := 1) rfl rfl (by decide) ?_
      exact X_iret rfl rfl rfl rfl rfl rfl rfl
set_option maxRecDepth 100000 in
theorem ct_X7_buffersLetters {l : Launch} {G : gG} {h : gH} {a0 : Nat} {p1 : Int32} {r : Int32} (e : f_X7_buffersLetters h a0 p1 = some r) : Ct l G M_X7_buffersLetters [.ref a0, .int p1] h (some (.int r)) h := by
  refine Ct_of (L := [some (.ref a0), some (.int p1), none]) ok_X7_buffersLetters (by decide +kernel) rfl rfl rfl (ρ := (g_rI h)) (F := f_X7_buffersLetters h a0 p1) ?_ e rfl
  unfold f_X7_buffersLetters
  refine X_iload_n rfl rfl rfl ?_
  refine X_iconst (v := 1) rfl rfl (by decide) ?_
  refine X_bipush (v := 24) rfl rfl (by decide) ?_
  refine X_callS_IP (v := f_X7_isWithin p1 1 24) (M' := M_X7_isWithin) (nA := 3) (As := [.int p1, .int 1, .int 24]) (st := []) rfl rfl (by decide +kernel) rfl rfl rfl rfl rfl rfl rfl ct_X7_isWithin ?_
  refine X_bif_eq rfl rfl (fun _ => ?_) (fun _ => ?_)
  · refine X_iconst (v := 0) rfl rfl (by decide) ?_
    exact X_iret rfl rfl rfl rfl rfl rfl rfl
  · refine X_iload_n rfl rfl rfl ?_
    refine X_aload_n rfl rfl rfl ?_
    refine X_getI rfl rfl (fun v12 => ?_)
    refine X_bicmp_le rfl rfl (fun _ => ?_) (fun _ => ?_)
    · refine X_iconst (v := 0) rfl rfl (by decide) ?_
      exact X_iret rfl rfl rfl rfl rfl rfl rfl
    · refine X_iconst (v := 0) rfl rfl (by decide) ?_
      refine X_istore_n rfl rfl rfl rfl ?_
      exact X_sub (g_sub_s (g_sub_s (g_sub_s g_sub_0))) (b_X7_buffersLetters_b22  _ _ _ _)
def f_X7_send_b37 (h : gH) : Option ((Nat ⊕ Int32) × gH) :=
  some (.inl 1, h)
def f_X7_send (h : gH) (a0 : Nat) (p1 : Int32) (p2 : Int32) (p3 : Int32) : Option ((Nat ⊕ Int32) × gH) :=
  (if (f_X7_isWithin p1 0 1) = 0 then
    some (.inl 2, h)
  else
    (if (f_X7_isWithin p2 0 9) = 0 then
      f_X7_send_b37 h
    else
      bif g_is h a0 7 then
      (f_X7_buffersLetters h a0 p3).bind fun v31 =>
      (if v31 = 0 then
        f_X7_send_b37 h
      else
        (g_gA h a0 7 3).bind fun v48 =>
        (g_gI h v48 6 1).bind fun v51 =>
        (if 8 ≤ v51 then
          some (.inl 4, h)
        else
          (g_gA h a0 7 5).bind fun v70 =>
          (g_gA h a0 7 3).bind fun v74 =>
          bif g_is h v70 1 then
          (f_X1_keep h v70 v74).bind fun h77 =>
          (g_gA h77 a0 7 3).bind fun v81 =>
          (g_gA h77 a0 7 0).bind fun v87 =>
          bif g_is h77 v81 6 then
          (f_X6_addMessage h77 v81 p1 p2 v87 0 p3).bind fun h92 =>
          (g_put h92 a0 7 1 (.int 0)).bind fun h97 =>
          (g_gA h97 a0 7 3).bind fun v101 =>
          (g_gI h97 v101 6 1).bind fun v104 =>
          some (.inr (v104 - 1), h97)
          else none
          else none))
      else none))
set_option maxRecDepth 100000 in
theorem b_X7_send_b37 {l : Launch} {G : gG} (hl : l.stackTraces = false) (h : gH) : GX l G M_X7_send (g_phx G g_xI (m_R M_X7_send).cells (m_R M_X7_send).slots) 0 0 37 [none, none, none, none] [] h (f_X7_send_b37 h) := by
  unfold f_X7_send_b37
  exact X_thr (is := 190) (i := 13) (tx := "urgency, length or letters") thr_1 hl rfl (by decide +kernel) (by decide) rfl (by decide) rfl rfl rfl rfl rfl rfl rfl rfl
set_option maxRecDepth 100000 in
theorem ct_X7_send {l : Launch} {G : gG} {h : gH} {a0 : Nat} {p1 : Int32} {p2 : Int32} {p3 : Int32} (hl : l.stackTraces = false) {o : Nat ⊕ Int32} {h1 : gH} (e : f_X7_send h a0 p1 p2 p3 = some (o, h1)) : Cx l G M_X7_send [.ref a0, .int p1, .int p2, .int p3] h (g_xI (o, h1)).1 h1 := by
  refine Cx_of (L := [some (.ref a0), some (.int p1), some (.int p2), some (.int p3)]) ok_X7_send (by decide +kernel) rfl rfl rfl rfl (ρ := g_xI) (F := f_X7_send h a0 p1 p2 p3) ?_ e rfl
  unfold f_X7_send
  refine X_iload_n rfl rfl rfl ?_
  refine X_iconst (v := 0) rfl rfl (by decide) ?_
  refine X_iconst (v := 1) rfl rfl (by decide) ?_
  refine X_callS_IP (v := f_X7_isWithin p1 0 1) (M' := M_X7_isWithin) (nA := 3) (As := [.int p1, .int 0, .int 1]) (st := []) rfl rfl (by decide +kernel) rfl rfl rfl rfl rfl rfl rfl ct_X7_isWithin ?_
  refine X_bif_ne rfl rfl (fun _ => ?_) (fun _ => ?_)
  · exact X_thr (is := 141) (i := 11) (tx := "station") thr_2 hl rfl (by decide +kernel) (by decide) rfl (by decide) rfl rfl rfl rfl rfl rfl rfl rfl
  · refine X_iload_n rfl rfl rfl ?_
    refine X_iconst (v := 0) rfl rfl (by decide) ?_
    refine X_bipush (v := 9) rfl rfl (by decide) ?_
    refine X_callS_IP (v := f_X7_isWithin p2 0 9) (M' := M_X7_isWithin) (nA := 3) (As := [.int p2, .int 0, .int 9]) (st := []) rfl rfl (by decide +kernel) rfl rfl rfl rfl rfl rfl rfl ct_X7_isWithin ?_
    refine X_bif_eq rfl rfl (fun _ => ?_) (fun _ => ?_)
    · exact X_sub (g_sub_n (g_sub_n (g_sub_n (g_sub_n g_sub_0)))) (b_X7_send_b37 hl _)
    · refine X_aload_n rfl rfl rfl ?_
      refine X_iload_n rfl rfl rfl ?_
      refine X_callV_IR (M' := M_X7_buffersLetters) (nA := 1) (As := [.int p3]) (st := []) (b := a0) (ci := 7) rfl rfl (by decide +kernel) rfl rfl rfl rfl rfl rfl rfl rfl (fun _ e => ct_X7_buffersLetters e) (fun v31 => ?_)
      refine X_bif_ne rfl rfl (fun _ => ?_) (fun _ => ?_)
      · exact X_sub (g_sub_n (g_sub_n (g_sub_n (g_sub_n g_sub_0)))) (b_X7_send_b37 hl _)
      · refine X_aload_n rfl rfl rfl ?_
        refine X_getA rfl rfl (fun v48 => ?_)
        refine X_getI rfl rfl (fun v51 => ?_)
        refine X_bipush (v := 8) rfl rfl (by decide) ?_
        refine X_bicmp_lt rfl rfl (fun _ => ?_) (fun _ => ?_)
        · exact X_thr (is := 194) (i := 14) (tx := "messages") thr_4 hl rfl (by decide +kernel) (by decide) rfl (by decide) rfl rfl rfl rfl rfl rfl rfl rfl
        · refine X_aload_n rfl rfl rfl ?_
          refine X_getA rfl rfl (fun v70 => ?_)
          refine X_aload_n rfl rfl rfl ?_
          refine X_getA rfl rfl (fun v74 => ?_)
          refine X_callV_UW (M' := M_X1_keep) (nA := 1) (As := [.ref v74]) (st := []) (b := v70) (ci := 1) rfl rfl (by decide +kernel) rfl rfl rfl rfl rfl rfl rfl rfl (fun _ e => ct_X1_keep e) (fun h77 => ?_)
          refine X_aload_n rfl rfl rfl ?_
          refine X_getA rfl rfl (fun v81 => ?_)
          refine X_iload_n rfl rfl rfl ?_
          refine X_iload_n rfl rfl rfl ?_
          refine X_aload_n rfl rfl rfl ?_
          refine X_getA rfl rfl (fun v87 => ?_)
          refine X_iconst (v := 0) rfl rfl (by decide) ?_
          refine X_iload_n rfl rfl rfl ?_
          refine X_callV_UW (M' := M_X6_addMessage) (nA := 5) (As := [.int p1, .int p2, .ref v87, .int 0, .int p3]) (st := []) (b := v81) (ci := 6) rfl rfl (by decide +kernel) rfl rfl rfl rfl rfl rfl rfl rfl (fun _ e => ct_X6_addMessage e) (fun h92 => ?_)
          refine X_aload_n rfl rfl rfl ?_
          refine X_iconst (v := 0) rfl rfl (by decide) ?_
          refine X_put rfl rfl rfl rfl rfl (fun h97 => ?_)
          refine X_aload_n rfl rfl rfl ?_
          refine X_getA rfl rfl (fun v101 => ?_)
          refine X_getI rfl rfl (fun v104 => ?_)
          refine X_iconst (v := 1) rfl rfl (by decide) ?_
          refine X_isub rfl rfl ?_
          exact X_vx rfl (X_iret rfl rfl rfl rfl rfl rfl rfl)
def f_X7_fog_b32 (h : gH) : Option ((Nat ⊕ Int32) × gH) :=
  some (.inl 1, h)
def f_X7_fog (h : gH) (a0 : Nat) (p1 : Int32) (p2 : Int32) (p3 : Int32) : Option ((Nat ⊕ Int32) × gH) :=
  (if (f_X7_isWithin p1 0 9999) = 0 then
    f_X7_fog_b32 h
  else
    (if (f_X7_isWithin p2 p1 9999) = 0 then
      f_X7_fog_b32 h
    else
      (if (f_X7_isWithin p3 0 9) = 0 then
        f_X7_fog_b32 h
      else
        (g_gA h a0 7 3).bind fun v43 =>
        (g_gA h v43 6 15).bind fun v46 =>
        bif g_is h v46 4 then
        (f_X4_isFull h v46).bind fun v49 =>
        (if v49 = 0 then
          (g_gA h a0 7 5).bind fun v66 =>
          (g_gA h a0 7 3).bind fun v70 =>
          bif g_is h v66 1 then
          (f_X1_keep h v66 v70).bind fun h73 =>
          (g_gA h73 a0 7 3).bind fun v77 =>
          (g_gA h73 v77 6 15).bind fun v80 =>
          bif g_is h73 v80 4 then
          (f_X4_add h73 v80 p1 p2 p3).bind fun h86 =>
          (g_gA h86 a0 7 3).bind fun v90 =>
          (g_gA h86 v90 6 15).bind fun v93 =>
          (g_gI h86 v93 4 0).bind fun v96 =>
          some (.inr v96, h86)
          else none
          else none
        else
          some (.inl 4, h))
        else none)))
set_option maxRecDepth 100000 in
theorem b_X7_fog_b32 {l : Launch} {G : gG} (hl : l.stackTraces = false) (h : gH) : GX l G M_X7_fog (g_phx G g_xI (m_R M_X7_fog).cells (m_R M_X7_fog).slots) 0 0 32 [none, none, none, none] [] h (f_X7_fog_b32 h) := by
  unfold f_X7_fog_b32
  exact X_thr (is := 201) (i := 15) (tx := "first, last or level") thr_1 hl rfl (by decide +kernel) (by decide) rfl (by decide) rfl rfl rfl rfl rfl rfl rfl rfl
set_option maxRecDepth 100000 in
theorem ct_X7_fog {l : Launch} {G : gG} {h : gH} {a0 : Nat} {p1 : Int32} {p2 : Int32} {p3 : Int32} (hl : l.stackTraces = false) {o : Nat ⊕ Int32} {h1 : gH} (e : f_X7_fog h a0 p1 p2 p3 = some (o, h1)) : Cx l G M_X7_fog [.ref a0, .int p1, .int p2, .int p3] h (g_xI (o, h1)).1 h1 := by
  refine Cx_of (L := [some (.ref a0), some (.int p1), some (.int p2), some (.int p3)]) ok_X7_fog (by decide +kernel) rfl rfl rfl rfl (ρ := g_xI) (F := f_X7_fog h a0 p1 p2 p3) ?_ e rfl
  unfold f_X7_fog
  refine X_iload_n rfl rfl rfl ?_
  refine X_iconst (v := 0) rfl rfl (by decide) ?_
  refine X_sipush (v := 9999) rfl rfl (by decide) ?_
  refine X_callS_IP (v := f_X7_isWithin p1 0 9999) (M' := M_X7_isWithin) (nA := 3) (As := [.int p1, .int 0, .int 9999]) (st := []) rfl rfl (by decide +kernel) rfl rfl rfl rfl rfl rfl rfl ct_X7_isWithin ?_
  refine X_bif_eq rfl rfl (fun _ => ?_) (fun _ => ?_)
  · exact X_sub (g_sub_n (g_sub_n (g_sub_n (g_sub_n g_sub_0)))) (b_X7_fog_b32 hl _)
  · refine X_iload_n rfl rfl rfl ?_
    refine X_iload_n rfl rfl rfl ?_
    refine X_sipush (v := 9999) rfl rfl (by decide) ?_
    refine X_callS_IP (v := f_X7_isWithin p2 p1 9999) (M' := M_X7_isWithin) (nA := 3) (As := [.int p2, .int p1, .int 9999]) (st := []) rfl rfl (by decide +kernel) rfl rfl rfl rfl rfl rfl rfl ct_X7_isWithin ?_
    refine X_bif_eq rfl rfl (fun _ => ?_) (fun _ => ?_)
    · exact X_sub (g_sub_n (g_sub_n (g_sub_n (g_sub_n g_sub_0)))) (b_X7_fog_b32 hl _)
    · refine X_iload_n rfl rfl rfl ?_
      refine X_iconst (v := 0) rfl rfl (by decide) ?_
      refine X_bipush (v := 9) rfl rfl (by decide) ?_
      refine X_callS_IP (v := f_X7_isWithin p3 0 9) (M' := M_X7_isWithin) (nA := 3) (As := [.int p3, .int 0, .int 9]) (st := []) rfl rfl (by decide +kernel) rfl rfl rfl rfl rfl rfl rfl ct_X7_isWithin ?_
      refine X_bif_ne rfl rfl (fun _ => ?_) (fun _ => ?_)
      · exact X_sub (g_sub_n (g_sub_n (g_sub_n (g_sub_n g_sub_0)))) (b_X7_fog_b32 hl _)
      · refine X_aload_n rfl rfl rfl ?_
        refine X_getA rfl rfl (fun v43 => ?_)
        refine X_getA rfl rfl (fun v46 => ?_)
        refine X_callV_IR (M' := M_X4_isFull) (nA := 0) (As := []) (st := []) (b := v46) (ci := 4) rfl rfl (by decide +kernel) rfl rfl rfl rfl rfl rfl rfl rfl (fun _ e => ct_X4_isFull e) (fun v49 => ?_)
        refine X_bif_eq rfl rfl (fun _ => ?_) (fun _ => ?_)
        · refine X_aload_n rfl rfl rfl ?_
          refine X_getA rfl rfl (fun v66 => ?_)
          refine X_aload_n rfl rfl rfl ?_
          refine X_getA rfl rfl (fun v70 => ?_)
          refine X_callV_UW (M' := M_X1_keep) (nA := 1) (As := [.ref v70]) (st := []) (b := v66) (ci := 1) rfl rfl (by decide +kernel) rfl rfl rfl rfl rfl rfl rfl rfl (fun _ e => ct_X1_keep e) (fun h73 => ?_)
          refine X_aload_n rfl rfl rfl ?_
          refine X_getA rfl rfl (fun v77 => ?_)
          refine X_getA rfl rfl (fun v80 => ?_)
          refine X_iload_n rfl rfl rfl ?_
          refine X_iload_n rfl rfl rfl ?_
          refine X_iload_n rfl rfl rfl ?_
          refine X_callV_UW (M' := M_X4_add) (nA := 3) (As := [.int p1, .int p2, .int p3]) (st := []) (b := v80) (ci := 4) rfl rfl (by decide +kernel) rfl rfl rfl rfl rfl rfl rfl rfl (fun _ e => ct_X4_add e) (fun h86 => ?_)
          refine X_aload_n rfl rfl rfl ?_
          refine X_getA rfl rfl (fun v90 => ?_)
          refine X_getA rfl rfl (fun v93 => ?_)
          refine X_getI rfl rfl (fun v96 => ?_)
          exact X_vx rfl (X_iret rfl rfl rfl rfl rfl rfl rfl)
        · exact X_thr (is := 206) (i := 16) (tx := "mists") thr_4 hl rfl (by decide +kernel) (by decide) rfl (by decide) rfl rfl rfl rfl rfl rfl rfl rfl
def f_X7_relieve_b92 (h : gH) (l0 : Nat) (l2 : Int32) (l3 : Nat) : Option ((Nat ⊕ Int32) × gH) :=
  (g_gA h l0 7 5).bind fun v93 =>
  (g_gA h l0 7 3).bind fun v97 =>
  bif g_is h v93 1 then
  (f_X1_keep h v93 v97).bind fun h100 =>
  (g_gA h100 l0 7 3).bind fun v105 =>
  (g_gI h100 v105 6 0).bind fun v108 =>
  bif g_is h100 l3 2 then
  (f_X2_keyAt h100 l3 v108).bind fun v111 =>
  (g_gA h100 l0 7 3).bind fun v118 =>
  (g_gI h100 v118 6 0).bind fun v121 =>
  bif g_is h100 l3 2 then
  (f_X2_come h100 l3 v121 l2).bind fun h125 =>
  some (.inr v111, h125)
  else none
  else none
  else none
def f_X7_relieve_b82 (h : gH) : Option ((Nat ⊕ Int32) × gH) :=
  some (.inl 4, h)
def f_X7_relieve (h : gH) (a0 : Nat) (p1 : Int32) (p2 : Int32) : Option ((Nat ⊕ Int32) × gH) :=
  (if (f_X7_isWithin p1 0 1) = 0 then
    some (.inl 2, h)
  else
    (if (f_X7_isWithin p2 0 25) = 0 then
      some (.inl 1, h)
    else
      (g_gA h a0 7 3).bind fun v40 =>
      bif g_is h v40 6 then
      (f_X6_keepersOf h v40 p1).bind fun v44 =>
      (g_gA h a0 7 3).bind fun v49 =>
      (g_gI h v49 6 0).bind fun v52 =>
      (if v52 ≤ 9999 then
        bif g_is h v44 2 then
        (f_X2_isFull h v44).bind fun v62 =>
        (if v62 = 0 then
          f_X7_relieve_b92 h a0 p2 v44
        else
          (g_gA h a0 7 3).bind fun v70 =>
          (g_gI h v70 6 0).bind fun v73 =>
          bif g_is h v44 2 then
          (f_X2_hasOneAt h v44 v73).bind fun v76 =>
          (if v76 = 0 then
            f_X7_relieve_b82 h
          else
            f_X7_relieve_b92 h a0 p2 v44)
          else none)
        else none
      else
        f_X7_relieve_b82 h)
      else none))
set_option maxRecDepth 100000 in
theorem b_X7_relieve_b92 {l : Launch} {G : gG} (hl : l.stackTraces = false) (h : gH) (l0 : Nat) (l2 : Int32) (l3 : Nat) : GX l G M_X7_relieve (g_phx G g_xI (m_R M_X7_relieve).cells (m_R M_X7_relieve).slots) 0 0 92 [some (.ref l0), none, some (.int l2), some (.ref l3), none] [] h (f_X7_relieve_b92 h l0 l2 l3) := by
  unfold f_X7_relieve_b92
  refine X_aload_n rfl rfl rfl ?_
  refine X_getA rfl rfl (fun v93 => ?_)
  refine X_aload_n rfl rfl rfl ?_
  refine X_getA rfl rfl (fun v97 => ?_)
  refine X_callV_UW (M' := M_X1_keep) (nA := 1) (As := [.ref v97]) (st := []) (b := v93) (ci := 1) rfl rfl (by decide +kernel) rfl rfl rfl rfl rfl rfl rfl rfl (fun _ e => ct_X1_keep e) (fun h100 => ?_)
  refine X_aload_n rfl rfl rfl ?_
  refine X_aload_n rfl rfl rfl ?_
  refine X_getA rfl rfl (fun v105 => ?_)
  refine X_getI rfl rfl (fun v108 => ?_)
  refine X_callV_IR (M' := M_X2_keyAt) (nA := 1) (As := [.int v108]) (st := []) (b := l3) (ci := 2) rfl rfl (by decide +kernel) rfl rfl rfl rfl rfl rfl rfl rfl (fun _ e => ct_X2_keyAt e) (fun v111 => ?_)
  refine X_istore rfl rfl rfl rfl ?_
  refine X_aload_n rfl rfl rfl ?_
  refine X_aload_n rfl rfl rfl ?_
  refine X_getA rfl rfl (fun v118 => ?_)
  refine X_getI rfl rfl (fun v121 => ?_)
  refine X_iload_n rfl rfl rfl ?_
  refine X_callV_UW (M' := M_X2_come) (nA := 2) (As := [.int v121, .int l2]) (st := []) (b := l3) (ci := 2) rfl rfl (by decide +kernel) rfl rfl rfl rfl rfl rfl rfl rfl (fun _ e => ct_X2_come e) (fun h125 => ?_)
  refine X_iload rfl rfl rfl ?_
  exact X_vx rfl (X_iret rfl rfl rfl rfl rfl rfl rfl)
set_option maxRecDepth 100000 in
theorem b_X7_relieve_b82 {l : Launch} {G : gG} (hl : l.stackTraces = false) (h : gH) : GX l G M_X7_relieve (g_phx G g_xI (m_R M_X7_relieve).cells (m_R M_X7_relieve).slots) 0 0 82 [none, none, none, none, none] [] h (f_X7_relieve_b82 h) := by
  unfold f_X7_relieve_b82
  exact X_thr (is := 218) (i := 18) (tx := "keepers or time") thr_4 hl rfl (by decide +kernel) (by decide) rfl (by decide) rfl rfl rfl rfl rfl rfl rfl rfl
set_option maxRecDepth 100000 in
theorem ct_X7_relieve {l : Launch} {G : gG} {h : gH} {a0 : Nat} {p1 : Int32} {p2 : Int32} (hl : l.stackTraces = false) {o : Nat ⊕ Int32} {h1 : gH} (e : f_X7_relieve h a0 p1 p2 = some (o, h1)) : Cx l G M_X7_relieve [.ref a0, .int p1, .int p2] h (g_xI (o, h1)).1 h1 := by
  refine Cx_of (L := [some (.ref a0), some (.int p1), some (.int p2), none, none]) ok_X7_relieve (by decide +kernel) rfl rfl rfl rfl (ρ := g_xI) (F := f_X7_relieve h a0 p1 p2) ?_ e rfl
  unfold f_X7_relieve
  refine X_iload_n rfl rfl rfl ?_
  refine X_iconst (v := 0) rfl rfl (by decide) ?_
  refine X_iconst (v := 1) rfl rfl (by decide) ?_
  refine X_callS_IP (v := f_X7_isWithin p1 0 1) (M' := M_X7_isWithin) (nA := 3) (As := [.int p1, .int 0, .int 1]) (st := []) rfl rfl (by decide +kernel) rfl rfl rfl rfl rfl rfl rfl ct_X7_isWithin ?_
  refine X_bif_ne rfl rfl (fun _ => ?_) (fun _ => ?_)
  · exact X_thr (is := 141) (i := 11) (tx := "station") thr_2 hl rfl (by decide +kernel) (by decide) rfl (by decide) rfl rfl rfl rfl rfl rfl rfl rfl
  · refine X_iload_n rfl rfl rfl ?_
    refine X_iconst (v := 0) rfl rfl (by decide) ?_
    refine X_bipush (v := 25) rfl rfl (by decide) ?_
    refine X_callS_IP (v := f_X7_isWithin p2 0 25) (M' := M_X7_isWithin) (nA := 3) (As := [.int p2, .int 0, .int 25]) (st := []) rfl rfl (by decide +kernel) rfl rfl rfl rfl rfl rfl rfl ct_X7_isWithin ?_
    refine X_bif_ne rfl rfl (fun _ => ?_) (fun _ => ?_)
    · exact X_thr (is := 212) (i := 17) (tx := "key") thr_1 hl rfl (by decide +kernel) (by decide) rfl (by decide) rfl rfl rfl rfl rfl rfl rfl rfl
    · refine X_aload_n rfl rfl rfl ?_
      refine X_getA rfl rfl (fun v40 => ?_)
      refine X_iload_n rfl rfl rfl ?_
      refine X_callV_AR (M' := M_X6_keepersOf) (nA := 1) (As := [.int p1]) (st := []) (b := v40) (ci := 6) rfl rfl (by decide +kernel) rfl rfl rfl rfl rfl rfl rfl rfl (fun _ e => ct_X6_keepersOf e) (fun v44 => ?_)
      refine X_astore_n rfl rfl rfl rfl ?_
      refine X_aload_n rfl rfl rfl ?_
      refine X_getA rfl rfl (fun v49 => ?_)
      refine X_getI rfl rfl (fun v52 => ?_)
      refine X_sipush (v := 9999) rfl rfl (by decide) ?_
      refine X_bicmp_gt rfl rfl (fun _ => ?_) (fun _ => ?_)
      · refine X_aload_n rfl rfl rfl ?_
        refine X_callV_IR (M' := M_X2_isFull) (nA := 0) (As := []) (st := []) (b := v44) (ci := 2) rfl rfl (by decide +kernel) rfl rfl rfl rfl rfl rfl rfl rfl (fun _ e => ct_X2_isFull e) (fun v62 => ?_)
        refine X_bif_eq rfl rfl (fun _ => ?_) (fun _ => ?_)
        · exact X_sub (g_sub_s (g_sub_n (g_sub_s (g_sub_s (g_sub_n g_sub_0))))) (b_X7_relieve_b92 hl _ _ _ _)
        · refine X_aload_n rfl rfl rfl ?_
          refine X_aload_n rfl rfl rfl ?_
          refine X_getA rfl rfl (fun v70 => ?_)
          refine X_getI rfl rfl (fun v73 => ?_)
          refine X_callV_IR (M' := M_X2_hasOneAt) (nA := 1) (As := [.int v73]) (st := []) (b := v44) (ci := 2) rfl rfl (by decide +kernel) rfl rfl rfl rfl rfl rfl rfl rfl (fun _ e => ct_X2_hasOneAt e) (fun v76 => ?_)
          refine X_bif_ne rfl rfl (fun _ => ?_) (fun _ => ?_)
          · exact X_sub (g_sub_n (g_sub_n (g_sub_n (g_sub_n (g_sub_n g_sub_0))))) (b_X7_relieve_b82 hl _)
          · exact X_sub (g_sub_s (g_sub_n (g_sub_s (g_sub_s (g_sub_n g_sub_0))))) (b_X7_relieve_b92 hl _ _ _ _)
      · exact X_sub (g_sub_n (g_sub_n (g_sub_n (g_sub_n (g_sub_n g_sub_0))))) (b_X7_relieve_b82 hl _)
def f_X7_power (h : gH) (a0 : Nat) (p1 : Int32) (p2 : Int32) : Option ((Nat ⊕ Int32) × gH) :=
  (if (f_X7_isWithin p1 0 1) = 0 then
    some (.inl 2, h)
  else
    (if (f_X7_isWithin p2 0 9) = 0 then
      some (.inl 1, h)
    else
      (g_gA h a0 7 5).bind fun v40 =>
      (g_gA h a0 7 3).bind fun v44 =>
      bif g_is h v40 1 then
      (f_X1_keep h v40 v44).bind fun h47 =>
      (g_gA h47 a0 7 3).bind fun v51 =>
      bif g_is h47 v51 6 then
      (f_X6_channelNumbered h47 v51 p1).bind fun v55 =>
      (g_gI h47 v55 0 0).bind fun v60 =>
      (g_put h47 v55 0 0 (.int p2)).bind fun h67 =>
      some (.inr v60, h67)
      else none
      else none))
set_option maxRecDepth 100000 in
theorem ct_X7_power {l : Launch} {G : gG} {h : gH} {a0 : Nat} {p1 : Int32} {p2 : Int32} (hl : l.stackTraces = false) {o : Nat ⊕ Int32} {h1 : gH} (e : f_X7_power h a0 p1 p2 = some (o, h1)) : Cx l G M_X7_power [.ref a0, .int p1, .int p2] h (g_xI (o, h1)).1 h1 := by
  refine Cx_of (L := [some (.ref a0), some (.int p1), some (.int p2), none, none]) ok_X7_power (by decide +kernel) rfl rfl rfl rfl (ρ := g_xI) (F := f_X7_power h a0 p1 p2) ?_ e rfl
  unfold f_X7_power
  refine X_iload_n rfl rfl rfl ?_
  refine X_iconst (v := 0) rfl rfl (by decide) ?_
  refine X_iconst (v := 1) rfl rfl (by decide) ?_
  refine X_callS_IP (v := f_X7_isWithin p1 0 1) (M' := M_X7_isWithin) (nA := 3) (As := [.int p1, .int 0, .int 1]) (st := []) rfl rfl (by decide +kernel) rfl rfl rfl rfl rfl rfl rfl ct_X7_isWithin ?_
  refine X_bif_ne rfl rfl (fun _ => ?_) (fun _ => ?_)
  · exact X_thr (is := 85) (i := 7) (tx := "channel") thr_2 hl rfl (by decide +kernel) (by decide) rfl (by decide) rfl rfl rfl rfl rfl rfl rfl rfl
  · refine X_iload_n rfl rfl rfl ?_
    refine X_iconst (v := 0) rfl rfl (by decide) ?_
    refine X_bipush (v := 9) rfl rfl (by decide) ?_
    refine X_callS_IP (v := f_X7_isWithin p2 0 9) (M' := M_X7_isWithin) (nA := 3) (As := [.int p2, .int 0, .int 9]) (st := []) rfl rfl (by decide +kernel) rfl rfl rfl rfl rfl rfl rfl ct_X7_isWithin ?_
    refine X_bif_ne rfl rfl (fun _ => ?_) (fun _ => ?_)
    · exact X_thr (is := 224) (i := 19) (tx := "power") thr_1 hl rfl (by decide +kernel) (by decide) rfl (by decide) rfl rfl rfl rfl rfl rfl rfl rfl
    · refine X_aload_n rfl rfl rfl ?_
      refine X_getA rfl rfl (fun v40 => ?_)
      refine X_aload_n rfl rfl rfl ?_
      refine X_getA rfl rfl (fun v44 => ?_)
      refine X_callV_UW (M' := M_X1_keep) (nA := 1) (As := [.ref v44]) (st := []) (b := v40) (ci := 1) rfl rfl (by decide +kernel) rfl rfl rfl rfl rfl rfl rfl rfl (fun _ e => ct_X1_keep e) (fun h47 => ?_)
      refine X_aload_n rfl rfl rfl ?_
      refine X_getA rfl rfl (fun v51 => ?_)
      refine X_iload_n rfl rfl rfl ?_
      refine X_callV_AR (M' := M_X6_channelNumbered) (nA := 1) (As := [.int p1]) (st := []) (b := v51) (ci := 6) rfl rfl (by decide +kernel) rfl rfl rfl rfl rfl rfl rfl rfl (fun _ e => ct_X6_channelNumbered e) (fun v55 => ?_)
      refine X_astore_n rfl rfl rfl rfl ?_
      refine X_aload_n rfl rfl rfl ?_
      refine X_getI rfl rfl (fun v60 => ?_)
      refine X_istore rfl rfl rfl rfl ?_
      refine X_aload_n rfl rfl rfl ?_
      refine X_iload_n rfl rfl rfl ?_
      refine X_put rfl rfl rfl rfl rfl (fun h67 => ?_)
      refine X_iload rfl rfl rfl ?_
      exact X_vx rfl (X_iret rfl rfl rfl rfl rfl rfl rfl)
def f_X7_cancel (h : gH) (a0 : Nat) (p1 : Int32) : Option ((Nat ⊕ Int32) × gH) :=
  (g_gA h a0 7 3).bind fun v1 =>
  bif g_is h v1 6 then
  (f_X6_hasMessage h v1 p1).bind fun v5 =>
  (if v5 = 0 then
    some (.inl 2, h)
  else
    (g_gA h a0 7 3).bind fun v22 =>
    bif g_is h v22 6 then
    (f_X6_messageNumbered h v22 p1).bind fun v26 =>
    bif g_is h v26 3 then
    (f_X3_canBeCancelled h v26).bind fun v29 =>
    (if v29 = 0 then
      some (.inl 4, h)
    else
      (g_gA h a0 7 5).bind fun v46 =>
      (g_gA h a0 7 3).bind fun v50 =>
      bif g_is h v46 1 then
      (f_X1_keep h v46 v50).bind fun h53 =>
      (g_gA h53 a0 7 3).bind fun v57 =>
      bif g_is h53 v57 6 then
      (f_X6_takeBack h53 v57 p1).bind fun y61 =>
      (g_z y61.1).bind fun z => some (.inr y61.1, y61.2)
      else none
      else none)
    else none
    else none)
  else none
set_option maxRecDepth 100000 in
theorem ct_X7_cancel {l : Launch} {G : gG} {h : gH} {a0 : Nat} {p1 : Int32} (hl : l.stackTraces = false) {o : Nat ⊕ Int32} {h1 : gH} (e : f_X7_cancel h a0 p1 = some (o, h1)) : Cx l G M_X7_cancel [.ref a0, .int p1] h (g_xI (o, h1)).1 h1 := by
  refine Cx_of (L := [some (.ref a0), some (.int p1)]) ok_X7_cancel (by decide +kernel) rfl rfl rfl rfl (ρ := g_xI) (F := f_X7_cancel h a0 p1) ?_ e rfl
  unfold f_X7_cancel
  refine X_aload_n rfl rfl rfl ?_
  refine X_getA rfl rfl (fun v1 => ?_)
  refine X_iload_n rfl rfl rfl ?_
  refine X_callV_IR (M' := M_X6_hasMessage) (nA := 1) (As := [.int p1]) (st := []) (b := v1) (ci := 6) rfl rfl (by decide +kernel) rfl rfl rfl rfl rfl rfl rfl rfl (fun _ e => ct_X6_hasMessage e) (fun v5 => ?_)
  refine X_bif_ne rfl rfl (fun _ => ?_) (fun _ => ?_)
  · exact X_thr (is := 104) (i := 8) (tx := "message") thr_2 hl rfl (by decide +kernel) (by decide) rfl (by decide) rfl rfl rfl rfl rfl rfl rfl rfl
  · refine X_aload_n rfl rfl rfl ?_
    refine X_getA rfl rfl (fun v22 => ?_)
    refine X_iload_n rfl rfl rfl ?_
    refine X_callV_AR (M' := M_X6_messageNumbered) (nA := 1) (As := [.int p1]) (st := []) (b := v22) (ci := 6) rfl rfl (by decide +kernel) rfl rfl rfl rfl rfl rfl rfl rfl (fun _ e => ct_X6_messageNumbered e) (fun v26 => ?_)
    refine X_callV_IR (M' := M_X3_canBeCancelled) (nA := 0) (As := []) (st := []) (b := v26) (ci := 3) rfl rfl (by decide +kernel) rfl rfl rfl rfl rfl rfl rfl rfl (fun _ e => ct_X3_canBeCancelled e) (fun v29 => ?_)
    refine X_bif_ne rfl rfl (fun _ => ?_) (fun _ => ?_)
    · exact X_thr (is := 228) (i := 20) (tx := "over or cancelled") thr_4 hl rfl (by decide +kernel) (by decide) rfl (by decide) rfl rfl rfl rfl rfl rfl rfl rfl
    · refine X_aload_n rfl rfl rfl ?_
      refine X_getA rfl rfl (fun v46 => ?_)
      refine X_aload_n rfl rfl rfl ?_
      refine X_getA rfl rfl (fun v50 => ?_)
      refine X_callV_UW (M' := M_X1_keep) (nA := 1) (As := [.ref v50]) (st := []) (b := v46) (ci := 1) rfl rfl (by decide +kernel) rfl rfl rfl rfl rfl rfl rfl rfl (fun _ e => ct_X1_keep e) (fun h53 => ?_)
      refine X_aload_n rfl rfl rfl ?_
      refine X_getA rfl rfl (fun v57 => ?_)
      refine X_iload_n rfl rfl rfl ?_
      refine X_callV_IW (M' := M_X6_takeBack) (nA := 1) (As := [.int p1]) (st := []) (b := v57) (ci := 6) rfl rfl (by decide +kernel) rfl rfl rfl rfl rfl rfl rfl rfl (fun _ _ e => ct_X6_takeBack e) (fun y61 => ?_)
      refine X_zb (fun z zz => ?_)
      exact X_vx rfl (X_iret rfl rfl rfl (g_znar zz) rfl rfl rfl)
def f_X7_undo (h : gH) (a0 : Nat) : Option (Int32 × gH) :=
  (g_gA h a0 7 5).bind fun v1 =>
  (g_gA h a0 7 3).bind fun v5 =>
  bif g_is h v1 1 then
  (f_X1_restore h v1 v5).bind fun y8 =>
  (if y8.1 = 0 then
    some (-1, y8.2)
  else
    (g_gA y8.2 a0 7 5).bind fun v15 =>
    (g_gI y8.2 v15 1 2).bind fun v18 =>
    some (v18, y8.2))
  else none
set_option maxRecDepth 100000 in
theorem ct_X7_undo {l : Launch} {G : gG} {h : gH} {a0 : Nat} {r : Int32} {h1 : gH} (e : f_X7_undo h a0 = some (r, h1)) : Ct l G M_X7_undo [.ref a0] h (some (.int r)) h1 := by
  refine Ct_of (L := [some (.ref a0)]) ok_X7_undo (by decide +kernel) rfl rfl rfl (ρ := g_wI) (F := f_X7_undo h a0) ?_ e rfl
  unfold f_X7_undo
  refine X_aload_n rfl rfl rfl ?_
  refine X_getA rfl rfl (fun v1 => ?_)
  refine X_aload_n rfl rfl rfl ?_
  refine X_getA rfl rfl (fun v5 => ?_)
  refine X_callV_IW (M' := M_X1_restore) (nA := 1) (As := [.ref v5]) (st := []) (b := v1) (ci := 1) rfl rfl (by decide +kernel) rfl rfl rfl rfl rfl rfl rfl rfl (fun _ _ e => ct_X1_restore e) (fun y8 => ?_)
  refine X_bif_eq rfl rfl (fun _ => ?_) (fun _ => ?_)
  · refine X_iconst (v := -1) rfl rfl (by decide) ?_
    exact X_iret rfl rfl rfl rfl rfl rfl rfl
  · refine X_aload_n rfl rfl rfl ?_
    refine X_getA rfl rfl (fun v15 => ?_)
    refine X_getI rfl rfl (fun v18 => ?_)
    refine X_goto rfl rfl ?_
    exact X_iret rfl rfl rfl rfl rfl rfl rfl
def f_X7_checksum_b42 (h : gH) (K34 : Nat → Int64 → Int32 → Option (Int64)) : Nat → Nat → Int64 → Int32 → Int32 → Option (Int64)
  | 0, _, _, _, _ => none
  | n + 1, l0, l1, l3, l4 =>
    (if l4 < 6 then
      (g_gA h l0 7 3).bind fun v55 =>
      bif g_is h v55 6 then
      (f_X6_channelNumbered h v55 l3).bind fun v59 =>
      (g_gA h l0 7 3).bind fun v65 =>
      (g_gI h v65 6 0).bind fun v68 =>
      bif g_is h v59 0 then
      (f_X0_figure h v59 l4 v68).bind fun v71 =>
      f_X7_checksum_b42 h K34 n l0 ((31 * l1) + (Int32.toInt64 v71)) l3 (l4 + 1)
      else none
      else none
    else
      K34 l0 l1 (l3 + 1))
def f_X7_checksum_b91 (h : gH) : Nat → Nat → Int64 → Int32 → Option (Int64)
  | 0, _, _, _ => none
  | n + 1, l0, l1, l3 =>
    (g_gA h l0 7 3).bind fun v93 =>
    (g_gI h v93 6 1).bind fun v96 =>
    (if l3 < v96 then
      (g_gA h l0 7 3).bind fun v103 =>
      bif g_is h v103 6 then
      (f_X6_messageNumbered h v103 l3).bind fun v107 =>
      bif g_is h v107 3 then
      (f_X3_addedTo h v107 l1).bind fun v111 =>
      f_X7_checksum_b91 h n l0 v111 (l3 + 1)
      else none
      else none
    else
      some l1)
def f_X7_checksum_b34 (h : gH) : Nat → Nat → Int64 → Int32 → Option (Int64)
  | 0, _, _, _ => none
  | n + 1, l0, l1, l3 =>
    (if l3 < 2 then
      f_X7_checksum_b42 h (f_X7_checksum_b34 h n) g_N l0 l1 l3 0
    else
      f_X7_checksum_b91 h g_N l0 l1 0)
def f_X7_checksum_b4 (h : gH) : Nat → Nat → Int64 → Int32 → Option (Int64)
  | 0, _, _, _ => none
  | n + 1, l0, l1, l3 =>
    (if l3 < 13 then
      (g_gA h l0 7 3).bind fun v16 =>
      bif g_is h v16 6 then
      (f_X6_figure h v16 l3).bind fun v20 =>
      f_X7_checksum_b4 h n l0 ((31 * l1) + (Int32.toInt64 v20)) (l3 + 1)
      else none
    else
      f_X7_checksum_b34 h g_N l0 l1 0)
def f_X7_checksum (h : gH) (a0 : Nat) : Option (Int64) :=
  f_X7_checksum_b4 h g_N a0 0 0
set_option maxRecDepth 100000 in
theorem b_X7_checksum_b42 {l : Launch} {G : gG} {h : gH} {K34 : Nat → Int64 → Int32 → Option (Int64)} (hK34 : ∀ (l0 : Nat) (l1 : Int64) (l3 : Int32), GX l G M_X7_checksum (g_phi G (g_rL h) (m_R M_X7_checksum).cells (m_R M_X7_checksum).slots) 0 0 34 [some (.ref l0), some (.long l1), none, some (.int l3), none] [] h (K34 l0 l1 l3)) : ∀ (n : Nat) (l0 : Nat) (l1 : Int64) (l3 : Int32) (l4 : Int32), GX l G M_X7_checksum (g_phi G (g_rL h) (m_R M_X7_checksum).cells (m_R M_X7_checksum).slots) 0 0 42 [some (.ref l0), some (.long l1), none, some (.int l3), some (.int l4)] [] h (f_X7_checksum_b42 h K34 n l0 l1 l3 l4) := by
  intro n
  induction n with
  | zero => intros; exact X_none
  | succ n ih =>
    intro l0 l1 l3 l4
    rw [f_X7_checksum_b42]
    refine X_iload rfl rfl rfl ?_
    refine X_bipush (v := 6) rfl rfl (by decide) ?_
    refine X_bicmp_ge rfl rfl (fun _ => ?_) (fun _ => ?_)
    · refine X_ldc2 (v := 31) rfl rfl (by decide +kernel) ?_
      refine X_lload_n rfl rfl rfl ?_
      refine X_lmul rfl rfl ?_
      refine X_aload_n rfl rfl rfl ?_
      refine X_getA rfl rfl (fun v55 => ?_)
      refine X_iload_n rfl rfl rfl ?_
      refine X_callV_AR (M' := M_X6_channelNumbered) (nA := 1) (As := [.int l3]) (st := [.long (31 * l1)]) (b := v55) (ci := 6) rfl rfl (by decide +kernel) rfl rfl rfl rfl rfl rfl rfl rfl (fun _ e => ct_X6_channelNumbered e) (fun v59 => ?_)
      refine X_iload rfl rfl rfl ?_
      refine X_aload_n rfl rfl rfl ?_
      refine X_getA rfl rfl (fun v65 => ?_)
      refine X_getI rfl rfl (fun v68 => ?_)
      refine X_callV_IR (M' := M_X0_figure) (nA := 2) (As := [.int l4, .int v68]) (st := [.long (31 * l1)]) (b := v59) (ci := 0) rfl rfl (by decide +kernel) rfl rfl rfl rfl rfl rfl rfl rfl (fun _ e => ct_X0_figure e) (fun v71 => ?_)
      refine X_i2l rfl rfl ?_
      refine X_ladd rfl rfl ?_
      refine X_lstore_n rfl rfl rfl rfl ?_
      refine X_iinc (v := l4 + 1) rfl rfl rfl (congrArg (fun z => l4 + z) (by decide : Int32.ofInt 1 = 1)) rfl ?_
      refine X_goto rfl rfl ?_
      exact X_sub (g_sub_s (g_sub_s (g_sub_n (g_sub_s (g_sub_s g_sub_0))))) (ih _ _ _ _)
    · refine X_iinc (v := l3 + 1) rfl rfl rfl (congrArg (fun z => l3 + z) (by decide : Int32.ofInt 1 = 1)) rfl ?_
      refine X_goto rfl rfl ?_
      exact X_sub (g_sub_s (g_sub_s (g_sub_n (g_sub_s (g_sub_n g_sub_0))))) (hK34 _ _ _)
set_option maxRecDepth 100000 in
theorem b_X7_checksum_b91 {l : Launch} {G : gG} {h : gH} : ∀ (n : Nat) (l0 : Nat) (l1 : Int64) (l3 : Int32), GX l G M_X7_checksum (g_phi G (g_rL h) (m_R M_X7_checksum).cells (m_R M_X7_checksum).slots) 0 0 91 [some (.ref l0), some (.long l1), none, some (.int l3), none] [] h (f_X7_checksum_b91 h n l0 l1 l3) := by
  intro n
  induction n with
  | zero => intros; exact X_none
  | succ n ih =>
    intro l0 l1 l3
    rw [f_X7_checksum_b91]
    refine X_iload_n rfl rfl rfl ?_
    refine X_aload_n rfl rfl rfl ?_
    refine X_getA rfl rfl (fun v93 => ?_)
    refine X_getI rfl rfl (fun v96 => ?_)
    refine X_bicmp_ge rfl rfl (fun _ => ?_) (fun _ => ?_)
    · refine X_aload_n rfl rfl rfl ?_
      refine X_getA rfl rfl (fun v103 => ?_)
      refine X_iload_n rfl rfl rfl ?_
      refine X_callV_AR (M' := M_X6_messageNumbered) (nA := 1) (As := [.int l3]) (st := []) (b := v103) (ci := 6) rfl rfl (by decide +kernel) rfl rfl rfl rfl rfl rfl rfl rfl (fun _ e => ct_X6_messageNumbered e) (fun v107 => ?_)
      refine X_lload_n rfl rfl rfl ?_
      refine X_callV_LR (M' := M_X3_addedTo) (nA := 1) (As := [.long l1]) (st := []) (b := v107) (ci := 3) rfl rfl (by decide +kernel) rfl rfl rfl rfl rfl rfl rfl rfl (fun _ e => ct_X3_addedTo e) (fun v111 => ?_)
      refine X_lstore_n rfl rfl rfl rfl ?_
      refine X_iinc (v := l3 + 1) rfl rfl rfl (congrArg (fun z => l3 + z) (by decide : Int32.ofInt 1 = 1)) rfl ?_
      refine X_goto rfl rfl ?_
      exact X_sub (g_sub_s (g_sub_s (g_sub_n (g_sub_s (g_sub_n g_sub_0))))) (ih _ _ _)
    · refine X_lload_n rfl rfl rfl ?_
      exact X_lret rfl rfl rfl rfl rfl rfl
set_option maxRecDepth 100000 in
theorem b_X7_checksum_b34 {l : Launch} {G : gG} {h : gH} : ∀ (n : Nat) (l0 : Nat) (l1 : Int64) (l3 : Int32), GX l G M_X7_checksum (g_phi G (g_rL h) (m_R M_X7_checksum).cells (m_R M_X7_checksum).slots) 0 0 34 [some (.ref l0), some (.long l1), none, some (.int l3), none] [] h (f_X7_checksum_b34 h n l0 l1 l3) := by
  intro n
  induction n with
  | zero => intros; exact X_none
  | succ n ih =>
    intro l0 l1 l3
    rw [f_X7_checksum_b34]
    refine X_iload_n rfl rfl rfl ?_
    refine X_iconst (v := 2) rfl rfl (by decide) ?_
    refine X_bicmp_ge rfl rfl (fun _ => ?_) (fun _ => ?_)
    · refine X_iconst (v := 0) rfl rfl (by decide) ?_
      refine X_istore rfl rfl rfl rfl ?_
      exact X_sub (g_sub_s (g_sub_s (g_sub_n (g_sub_s (g_sub_s g_sub_0))))) (b_X7_checksum_b42 ih _ _ _ _ _)
    · refine X_iconst (v := 0) rfl rfl (by decide) ?_
      refine X_istore_n rfl rfl rfl rfl ?_
      exact X_sub (g_sub_s (g_sub_s (g_sub_n (g_sub_s (g_sub_n g_sub_0))))) (b_X7_checksum_b91  _ _ _ _)
set_option maxRecDepth 100000 in
theorem b_X7_checksum_b4 {l : Launch} {G : gG} {h : gH} : ∀ (n : Nat) (l0 : Nat) (l1 : Int64) (l3 : Int32), GX l G M_X7_checksum (g_phi G (g_rL h) (m_R M_X7_checksum).cells (m_R M_X7_checksum).slots) 0 0 4 [some (.ref l0), some (.long l1), none, some (.int l3), none] [] h (f_X7_checksum_b4 h n l0 l1 l3) := by
  intro n
  induction n with
  | zero => intros; exact X_none
  | succ n ih =>
    intro l0 l1 l3
    rw [f_X7_checksum_b4]
    refine X_iload_n rfl rfl rfl ?_
    refine X_bipush (v := 13) rfl rfl (by decide) ?_
    refine X_bicmp_ge rfl rfl (fun _ => ?_) (fun _ => ?_)
    · refine X_ldc2 (v := 31) rfl rfl (by decide +kernel) ?_
      refine X_lload_n rfl rfl rfl ?_
      refine X_lmul rfl rfl ?_
      refine X_aload_n rfl rfl rfl ?_
      refine X_getA rfl rfl (fun v16 => ?_)
      refine X_iload_n rfl rfl rfl ?_
      refine X_callV_IR (M' := M_X6_figure) (nA := 1) (As := [.int l3]) (st := [.long (31 * l1)]) (b := v16) (ci := 6) rfl rfl (by decide +kernel) rfl rfl rfl rfl rfl rfl rfl rfl (fun _ e => ct_X6_figure e) (fun v20 => ?_)
      refine X_i2l rfl rfl ?_
      refine X_ladd rfl rfl ?_
      refine X_lstore_n rfl rfl rfl rfl ?_
      refine X_iinc (v := l3 + 1) rfl rfl rfl (congrArg (fun z => l3 + z) (by decide : Int32.ofInt 1 = 1)) rfl ?_
      refine X_goto rfl rfl ?_
      exact X_sub (g_sub_s (g_sub_s (g_sub_n (g_sub_s (g_sub_n g_sub_0))))) (ih _ _ _)
    · refine X_iconst (v := 0) rfl rfl (by decide) ?_
      refine X_istore_n rfl rfl rfl rfl ?_
      exact X_sub (g_sub_s (g_sub_s (g_sub_n (g_sub_s (g_sub_n g_sub_0))))) (b_X7_checksum_b34  _ _ _ _)
set_option maxRecDepth 100000 in
theorem ct_X7_checksum {l : Launch} {G : gG} {h : gH} {a0 : Nat} {r : Int64} (e : f_X7_checksum h a0 = some r) : Ct l G M_X7_checksum [.ref a0] h (some (.long r)) h := by
  refine Ct_of (L := [some (.ref a0), none, none, none, none]) ok_X7_checksum (by decide +kernel) rfl rfl rfl (ρ := (g_rL h)) (F := f_X7_checksum h a0) ?_ e rfl
  unfold f_X7_checksum
  refine X_lconst (v := 0) rfl rfl (by decide) ?_
  refine X_lstore_n rfl rfl rfl rfl ?_
  refine X_iconst (v := 0) rfl rfl (by decide) ?_
  refine X_istore_n rfl rfl rfl rfl ?_
  exact X_sub (g_sub_s (g_sub_s (g_sub_n (g_sub_s (g_sub_n g_sub_0))))) (b_X7_checksum_b4  _ _ _ _)
end
