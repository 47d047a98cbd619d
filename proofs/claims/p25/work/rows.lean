section
-- ===== PART A: goes FIRST, ahead of the names: the tables' words, and 'selects' of the private methods out of them =====
/-- a private method of a class that the tables say can be made, by its rows of tables_1 -/
def lw_okq (q : MethodName × Nat) : Prop := (q.1.cls ≠ "java/lang/invoke/MethodHandle" ∧ q.1.cls ≠ "java/lang/invoke/VarHandle") ∧ Cond.instantiable q.1.cls q.2 ∈ tables_1 ∧ Cond.privateMethod q.1 ∈ tables_1 ∧ Cond.instanceMethod q.1 ∈ tables_1
theorem lw_p0 : lw_okq (⟨"LampRelay$History", "keptAt", "(I)LLampRelay$World;"⟩, 3) := ⟨⟨by decide +kernel, by decide +kernel⟩, List.mem_of_getElem? (i := 258) (by decide +kernel), List.mem_of_getElem? (i := 309) (by decide +kernel), List.mem_of_getElem? (i := 310) (by decide +kernel)⟩
theorem lw_p1 : lw_okq (⟨"LampRelayLaw$Line", "steps", "(LLampRelayLaw$Talk;LLampRelayLaw$Lamp;)V"⟩, 12) := ⟨⟨by decide +kernel, by decide +kernel⟩, List.mem_of_getElem? (i := 349) (by decide +kernel), List.mem_of_getElem? (i := 575) (by decide +kernel), List.mem_of_getElem? (i := 576) (by decide +kernel)⟩
theorem lw_p2 : lw_okq (⟨"LampRelayLaw$Line", "letters", "(LLampRelayLaw$Talk;I)I"⟩, 12) := ⟨⟨by decide +kernel, by decide +kernel⟩, List.mem_of_getElem? (i := 349) (by decide +kernel), List.mem_of_getElem? (i := 579) (by decide +kernel), List.mem_of_getElem? (i := 580) (by decide +kernel)⟩
theorem lw_p3 : lw_okq (⟨"LampRelayLaw$Line", "air", "(LLampRelayLaw$Lamp;)I"⟩, 12) := ⟨⟨by decide +kernel, by decide +kernel⟩, List.mem_of_getElem? (i := 349) (by decide +kernel), List.mem_of_getElem? (i := 584) (by decide +kernel), List.mem_of_getElem? (i := 585) (by decide +kernel)⟩
theorem lw_p4 : lw_okq (⟨"java/lang/Throwable", "fillInStackTrace", "(I)Ljava/lang/Throwable;"⟩, 6) := ⟨⟨by decide +kernel, by decide +kernel⟩, List.mem_of_getElem? (i := 698) (by decide +kernel), List.mem_of_getElem? (i := 696) (by decide +kernel), List.mem_of_getElem? (i := 697) (by decide +kernel)⟩
theorem lw_p5 : lw_okq (⟨"LampRelay$SetupReader", "readRelay", "(LLampRelay$World;)Z"⟩, 7) := ⟨⟨by decide +kernel, by decide +kernel⟩, List.mem_of_getElem? (i := 727) (by decide +kernel), List.mem_of_getElem? (i := 761) (by decide +kernel), List.mem_of_getElem? (i := 762) (by decide +kernel)⟩
theorem lw_p6 : lw_okq (⟨"LampRelay$SetupReader", "readWord", "()V"⟩, 7) := ⟨⟨by decide +kernel, by decide +kernel⟩, List.mem_of_getElem? (i := 727) (by decide +kernel), List.mem_of_getElem? (i := 765) (by decide +kernel), List.mem_of_getElem? (i := 766) (by decide +kernel)⟩
theorem lw_p7 : lw_okq (⟨"LampRelay$SetupReader", "findToken", "()Z"⟩, 7) := ⟨⟨by decide +kernel, by decide +kernel⟩, List.mem_of_getElem? (i := 727) (by decide +kernel), List.mem_of_getElem? (i := 769) (by decide +kernel), List.mem_of_getElem? (i := 770) (by decide +kernel)⟩
theorem lw_p8 : lw_okq (⟨"LampRelay$SetupReader", "byteAt", "(I)I"⟩, 7) := ⟨⟨by decide +kernel, by decide +kernel⟩, List.mem_of_getElem? (i := 727) (by decide +kernel), List.mem_of_getElem? (i := 773) (by decide +kernel), List.mem_of_getElem? (i := 774) (by decide +kernel)⟩
theorem lw_p9 : lw_okq (⟨"LampRelay$SetupReader", "isToken", "(Ljava/lang/String;)Z"⟩, 7) := ⟨⟨by decide +kernel, by decide +kernel⟩, List.mem_of_getElem? (i := 727) (by decide +kernel), List.mem_of_getElem? (i := 781) (by decide +kernel), List.mem_of_getElem? (i := 782) (by decide +kernel)⟩
theorem lw_p10 : lw_okq (⟨"LampRelay$SetupReader", "isError", "(I)Z"⟩, 7) := ⟨⟨by decide +kernel, by decide +kernel⟩, List.mem_of_getElem? (i := 727) (by decide +kernel), List.mem_of_getElem? (i := 787) (by decide +kernel), List.mem_of_getElem? (i := 788) (by decide +kernel)⟩
theorem lw_p11 : lw_okq (⟨"LampRelay$SetupReader", "readNumber", "(II)I"⟩, 7) := ⟨⟨by decide +kernel, by decide +kernel⟩, List.mem_of_getElem? (i := 727) (by decide +kernel), List.mem_of_getElem? (i := 791) (by decide +kernel), List.mem_of_getElem? (i := 792) (by decide +kernel)⟩
theorem lw_p12 : lw_okq (⟨"LampRelay$SetupReader", "readSemicolon", "()Z"⟩, 7) := ⟨⟨by decide +kernel, by decide +kernel⟩, List.mem_of_getElem? (i := 727) (by decide +kernel), List.mem_of_getElem? (i := 798) (by decide +kernel), List.mem_of_getElem? (i := 799) (by decide +kernel)⟩
theorem lw_p13 : lw_okq (⟨"LampRelay$SetupReader", "readStatement", "(LLampRelay$World;)Z"⟩, 7) := ⟨⟨by decide +kernel, by decide +kernel⟩, List.mem_of_getElem? (i := 727) (by decide +kernel), List.mem_of_getElem? (i := 802) (by decide +kernel), List.mem_of_getElem? (i := 803) (by decide +kernel)⟩
theorem lw_p14 : lw_okq (⟨"LampRelay$SetupReader", "readChannel", "(LLampRelay$World;)Z"⟩, 7) := ⟨⟨by decide +kernel, by decide +kernel⟩, List.mem_of_getElem? (i := 727) (by decide +kernel), List.mem_of_getElem? (i := 807) (by decide +kernel), List.mem_of_getElem? (i := 808) (by decide +kernel)⟩
theorem lw_p15 : lw_okq (⟨"LampRelay$SetupReader", "readKeeper", "(LLampRelay$World;)Z"⟩, 7) := ⟨⟨by decide +kernel, by decide +kernel⟩, List.mem_of_getElem? (i := 727) (by decide +kernel), List.mem_of_getElem? (i := 816) (by decide +kernel), List.mem_of_getElem? (i := 817) (by decide +kernel)⟩
def lw_privs_1 : List (MethodName × Nat) := [(⟨"LampRelay$History", "keptAt", "(I)LLampRelay$World;"⟩, 3), (⟨"LampRelayLaw$Line", "steps", "(LLampRelayLaw$Talk;LLampRelayLaw$Lamp;)V"⟩, 12), (⟨"LampRelayLaw$Line", "letters", "(LLampRelayLaw$Talk;I)I"⟩, 12), (⟨"LampRelayLaw$Line", "air", "(LLampRelayLaw$Lamp;)I"⟩, 12), (⟨"java/lang/Throwable", "fillInStackTrace", "(I)Ljava/lang/Throwable;"⟩, 6), (⟨"LampRelay$SetupReader", "readRelay", "(LLampRelay$World;)Z"⟩, 7), (⟨"LampRelay$SetupReader", "readWord", "()V"⟩, 7), (⟨"LampRelay$SetupReader", "findToken", "()Z"⟩, 7), (⟨"LampRelay$SetupReader", "byteAt", "(I)I"⟩, 7), (⟨"LampRelay$SetupReader", "isToken", "(Ljava/lang/String;)Z"⟩, 7), (⟨"LampRelay$SetupReader", "isError", "(I)Z"⟩, 7), (⟨"LampRelay$SetupReader", "readNumber", "(II)I"⟩, 7), (⟨"LampRelay$SetupReader", "readSemicolon", "()Z"⟩, 7), (⟨"LampRelay$SetupReader", "readStatement", "(LLampRelay$World;)Z"⟩, 7), (⟨"LampRelay$SetupReader", "readChannel", "(LLampRelay$World;)Z"⟩, 7), (⟨"LampRelay$SetupReader", "readKeeper", "(LLampRelay$World;)Z"⟩, 7)]
theorem lw_r1 : ∀ q ∈ lw_privs_1, lw_okq q := List.forall_mem_cons.mpr ⟨lw_p0, List.forall_mem_cons.mpr ⟨lw_p1, List.forall_mem_cons.mpr ⟨lw_p2, List.forall_mem_cons.mpr ⟨lw_p3, List.forall_mem_cons.mpr ⟨lw_p4, List.forall_mem_cons.mpr ⟨lw_p5, List.forall_mem_cons.mpr ⟨lw_p6, List.forall_mem_cons.mpr ⟨lw_p7, List.forall_mem_cons.mpr ⟨lw_p8, List.forall_mem_cons.mpr ⟨lw_p9, List.forall_mem_cons.mpr ⟨lw_p10, List.forall_mem_cons.mpr ⟨lw_p11, List.forall_mem_cons.mpr ⟨lw_p12, List.forall_mem_cons.mpr ⟨lw_p13, List.forall_mem_cons.mpr ⟨lw_p14, List.forall_mem_cons.mpr ⟨lw_p15, fun _ h => absurd h List.not_mem_nil⟩⟩⟩⟩⟩⟩⟩⟩⟩⟩⟩⟩⟩⟩⟩⟩
theorem lw_p16 : lw_okq (⟨"LampRelay$Keepers", "placeOf", "(I)I"⟩, 3) := ⟨⟨by decide +kernel, by decide +kernel⟩, List.mem_of_getElem? (i := 149) (by decide +kernel), List.mem_of_getElem? (i := 832) (by decide +kernel), List.mem_of_getElem? (i := 833) (by decide +kernel)⟩
theorem lw_p17 : lw_okq (⟨"LampRelay$SetupReader", "readMist", "(LLampRelay$World;)Z"⟩, 7) := ⟨⟨by decide +kernel, by decide +kernel⟩, List.mem_of_getElem? (i := 727) (by decide +kernel), List.mem_of_getElem? (i := 850) (by decide +kernel), List.mem_of_getElem? (i := 851) (by decide +kernel)⟩
theorem lw_p18 : lw_okq (⟨"LampRelay$SetupReader", "readMessage", "(LLampRelay$World;)Z"⟩, 7) := ⟨⟨by decide +kernel, by decide +kernel⟩, List.mem_of_getElem? (i := 727) (by decide +kernel), List.mem_of_getElem? (i := 865) (by decide +kernel), List.mem_of_getElem? (i := 866) (by decide +kernel)⟩
theorem lw_p19 : lw_okq (⟨"LampRelay$World", "messagesIn", "(I)I"⟩, 16) := ⟨⟨by decide +kernel, by decide +kernel⟩, List.mem_of_getElem? (i := 42) (by decide +kernel), List.mem_of_getElem? (i := 1028) (by decide +kernel), List.mem_of_getElem? (i := 1029) (by decide +kernel)⟩
theorem lw_p20 : lw_okq (⟨"LampRelay$World", "startFirstWaiting", "()V"⟩, 16) := ⟨⟨by decide +kernel, by decide +kernel⟩, List.mem_of_getElem? (i := 42) (by decide +kernel), List.mem_of_getElem? (i := 1036) (by decide +kernel), List.mem_of_getElem? (i := 1037) (by decide +kernel)⟩
theorem lw_p21 : lw_okq (⟨"LampRelay$World", "servedBefore", "(I)I"⟩, 16) := ⟨⟨by decide +kernel, by decide +kernel⟩, List.mem_of_getElem? (i := 42) (by decide +kernel), List.mem_of_getElem? (i := 1044) (by decide +kernel), List.mem_of_getElem? (i := 1045) (by decide +kernel)⟩
theorem lw_p22 : lw_okq (⟨"LampRelay$World", "serve", "(LLampRelay$Channel;I)V"⟩, 16) := ⟨⟨by decide +kernel, by decide +kernel⟩, List.mem_of_getElem? (i := 42) (by decide +kernel), List.mem_of_getElem? (i := 1053) (by decide +kernel), List.mem_of_getElem? (i := 1054) (by decide +kernel)⟩
theorem lw_p23 : lw_okq (⟨"LampRelay$World", "countSymbol", "(ZZ)V"⟩, 16) := ⟨⟨by decide +kernel, by decide +kernel⟩, List.mem_of_getElem? (i := 42) (by decide +kernel), List.mem_of_getElem? (i := 1064) (by decide +kernel), List.mem_of_getElem? (i := 1065) (by decide +kernel)⟩
theorem lw_p24 : lw_okq (⟨"LampRelay$World", "makeStep", "(LLampRelay$Channel;LLampRelay$Message;ZZ)V"⟩, 16) := ⟨⟨by decide +kernel, by decide +kernel⟩, List.mem_of_getElem? (i := 42) (by decide +kernel), List.mem_of_getElem? (i := 1068) (by decide +kernel), List.mem_of_getElem? (i := 1069) (by decide +kernel)⟩
theorem lw_p25 : lw_okq (⟨"LampRelay$Message", "emptyPlaces", "()I"⟩, 13) := ⟨⟨by decide +kernel, by decide +kernel⟩, List.mem_of_getElem? (i := 49) (by decide +kernel), List.mem_of_getElem? (i := 1120) (by decide +kernel), List.mem_of_getElem? (i := 1121) (by decide +kernel)⟩
theorem lw_p26 : lw_okq (⟨"LampRelay$Message", "wrongPlaces", "()I"⟩, 13) := ⟨⟨by decide +kernel, by decide +kernel⟩, List.mem_of_getElem? (i := 49) (by decide +kernel), List.mem_of_getElem? (i := 1124) (by decide +kernel), List.mem_of_getElem? (i := 1125) (by decide +kernel)⟩
theorem lw_p27 : lw_okq (⟨"LampRelay", "buffersLetters", "(I)Z"⟩, 6) := ⟨⟨by decide +kernel, by decide +kernel⟩, List.mem_of_getElem? (i := 34) (by decide +kernel), List.mem_of_getElem? (i := 1157) (by decide +kernel), List.mem_of_getElem? (i := 1158) (by decide +kernel)⟩
theorem lw_p28 : lw_okq (⟨"LampRelay", "appendWord", "(I)V"⟩, 6) := ⟨⟨by decide +kernel, by decide +kernel⟩, List.mem_of_getElem? (i := 34) (by decide +kernel), List.mem_of_getElem? (i := 1245) (by decide +kernel), List.mem_of_getElem? (i := 1246) (by decide +kernel)⟩
theorem lw_p29 : lw_okq (⟨"LampRelay$Message", "allTries", "()I"⟩, 13) := ⟨⟨by decide +kernel, by decide +kernel⟩, List.mem_of_getElem? (i := 49) (by decide +kernel), List.mem_of_getElem? (i := 1523) (by decide +kernel), List.mem_of_getElem? (i := 1524) (by decide +kernel)⟩
def lw_privs_2 : List (MethodName × Nat) := [(⟨"LampRelay$Keepers", "placeOf", "(I)I"⟩, 3), (⟨"LampRelay$SetupReader", "readMist", "(LLampRelay$World;)Z"⟩, 7), (⟨"LampRelay$SetupReader", "readMessage", "(LLampRelay$World;)Z"⟩, 7), (⟨"LampRelay$World", "messagesIn", "(I)I"⟩, 16), (⟨"LampRelay$World", "startFirstWaiting", "()V"⟩, 16), (⟨"LampRelay$World", "servedBefore", "(I)I"⟩, 16), (⟨"LampRelay$World", "serve", "(LLampRelay$Channel;I)V"⟩, 16), (⟨"LampRelay$World", "countSymbol", "(ZZ)V"⟩, 16), (⟨"LampRelay$World", "makeStep", "(LLampRelay$Channel;LLampRelay$Message;ZZ)V"⟩, 16), (⟨"LampRelay$Message", "emptyPlaces", "()I"⟩, 13), (⟨"LampRelay$Message", "wrongPlaces", "()I"⟩, 13), (⟨"LampRelay", "buffersLetters", "(I)Z"⟩, 6), (⟨"LampRelay", "appendWord", "(I)V"⟩, 6), (⟨"LampRelay$Message", "allTries", "()I"⟩, 13)]
theorem lw_r2 : ∀ q ∈ lw_privs_2, lw_okq q := List.forall_mem_cons.mpr ⟨lw_p16, List.forall_mem_cons.mpr ⟨lw_p17, List.forall_mem_cons.mpr ⟨lw_p18, List.forall_mem_cons.mpr ⟨lw_p19, List.forall_mem_cons.mpr ⟨lw_p20, List.forall_mem_cons.mpr ⟨lw_p21, List.forall_mem_cons.mpr ⟨lw_p22, List.forall_mem_cons.mpr ⟨lw_p23, List.forall_mem_cons.mpr ⟨lw_p24, List.forall_mem_cons.mpr ⟨lw_p25, List.forall_mem_cons.mpr ⟨lw_p26, List.forall_mem_cons.mpr ⟨lw_p27, List.forall_mem_cons.mpr ⟨lw_p28, List.forall_mem_cons.mpr ⟨lw_p29, fun _ h => absurd h List.not_mem_nil⟩⟩⟩⟩⟩⟩⟩⟩⟩⟩⟩⟩⟩⟩
def lw_privs : List (MethodName × Nat) := lw_privs_1 ++ (lw_privs_2)
def lw_tb0 : List Cond := k2_sels lw_privs ++ tables_1
/-- private methods of java/lang/AbstractStringBuilder, selected for a java/lang/StringBuilder -/
def lw_sbs : List MethodName := [⟨"java/lang/AbstractStringBuilder", "ensureCapacityInternal", "(I)V"⟩, ⟨"java/lang/AbstractStringBuilder", "putStringAt", "(ILjava/lang/String;)V"⟩, ⟨"java/lang/AbstractStringBuilder", "inflateIfNeededFor", "(Ljava/lang/String;)V"⟩]
def lw_sbz : MethodName := ⟨"java/lang/AbstractStringBuilder", "isLatin1", "()Z"⟩
def lw_tbl : List Cond := (lw_sbs.map fun y => Cond.selects "java/lang/StringBuilder" y y) ++ lw_tb0
theorem lw_selP {y z : MethodName} {C : String} {s : State} {args : Array Value} {n : Nat} (hy : y.cls ≠ "java/lang/invoke/MethodHandle" ∧ y.cls ≠ "java/lang/invoke/VarHandle") (hzy : z.cls = y.cls) (hins : (Cond.instantiable C n).before args s = true) (hpriv : (Cond.privateMethod y).before args s = true) (hinst : (Cond.instanceMethod y).before args s = true) (hz : (Cond.selects C z z).before args s = true) : (Cond.selects C y y).before args s = true := by
  obtain ⟨c, k, hc, hk, -, -, -, -⟩ := Cond.instantiable_spec hins
  obtain ⟨mk, methM, hnamed, hmethM, -, -⟩ := Cond.instanceMethod_spec hinst
  have hfound : s.methodFound? y.cls y.name y.desc = some mk := State.methodFound?_of_named hnamed hy
  have hsel : selectMethod {} s.vm c mk = .method mk := selectMethod_private hmethM (Cond.privateMethod_at hpriv mk methM hnamed hmethM)
  obtain ⟨c2, r2, m2, -, -, q3, -, kP, hkP, hkPi⟩ := Cond.selects_spec hz
  have hcls : mk.cls = m2.cls := by
    have h1 := findClass_of_methodNamed hnamed
    have h2 := findClass_of_methodNamed q3
    rw [hzy] at h2
    exact Option.some.inj (h1.symm.trans h2)
  simp only [Cond.before, Cond.holds, Cond.value, hc, hfound, hnamed, hsel, hcls, hkP]
  simp; exact hkPi
theorem lw_sb_ok : Cond.instantiable "java/lang/StringBuilder" 4 ∈ tables_1 ∧ Cond.selects "java/lang/StringBuilder" lw_sbz lw_sbz ∈ tables_1 ∧ ∀ y ∈ lw_sbs, y.cls = lw_sbz.cls ∧ Cond.privateMethod y ∈ tables_1 ∧ Cond.instanceMethod y ∈ tables_1 := by decide +kernel
theorem lw_sb_hts {args : Array Value} {s : State} (hts : ∀ w ∈ lw_tb0, w.before args s = true) : ∀ w ∈ lw_tbl, w.before args s = true := by
  intro w hw
  rcases List.mem_append.mp hw with hw | hw
  · obtain ⟨y, hy, rfl⟩ := List.mem_map.mp hw
    have ht : ∀ w ∈ tables_1, w.before args s = true := fun w h => hts w (List.mem_append_right _ h)
    obtain ⟨h1, h2, h3⟩ := lw_sb_ok.2.2 y hy
    exact lw_selP (z := lw_sbz) (by rw [h1]; decide +kernel) h1.symm (ht _ lw_sb_ok.1) (ht _ h2) (ht _ h3) (ht _ lw_sb_ok.2.1)
  · exact hts w hw
theorem lw_privs_ok : ∀ q ∈ lw_privs, lw_okq q := by
  show ∀ q ∈ lw_privs_1 ++ (lw_privs_2), lw_okq q
  exact List.forall_mem_append.mpr ⟨lw_r1, lw_r2⟩
end
section
/-! rows that a program printed for this claim (NAMES.whole, its head), given for pasting; va_AOA is wanting there: said here as va_AO is -/
def va_AOA (ty : FieldType) (U : State) : Prop := (Cond.arrayOver (.array ty)).before #[] U = true
theorem va_AOA.use {ty : FieldType} {A : Array Value} {U : State} (h : va_AOA ty U) : (Cond.arrayOver (.array ty)).before A U = true := h
/-! ===== BEGIN words of one list among another's, by their places ===== -/
theorem goodIn_r {big : List Cond} (ws : List Cond) (ps : List Nat) (hp : ws = ps.filterMap (fun i => big[i]?)) (h : ws.all goodWord = true) : GoodIn big ws := by
  intro w hw
  have h1 := List.all_eq_true.mp h w hw
  rw [hp] at hw
  obtain ⟨i, -, hi⟩ := List.mem_filterMap.mp hw
  have hm : w ∈ big := by first | exact List.mem_of_getElem? hi | exact List.getElem?_mem hi
  exact ⟨hm, good_of_word h1⟩
theorem goodIn_app {big a b : List Cond} (ha : GoodIn big a) (hb : GoodIn big b) : GoodIn big (a ++ b) := fun w h => (List.mem_append.mp h).elim (ha w) (hb w)
theorem goodIn_ca {big a b : List Cond} {c : Cond} (ha : GoodIn big (c :: a)) (hb : GoodIn big b) : GoodIn big (c :: (a ++ b)) := fun w h => (List.mem_cons.mp h).elim (fun e => ha w (List.mem_cons.mpr (Or.inl e))) (fun h => (List.mem_append.mp h).elim (fun h => ha w (List.mem_cons.mpr (Or.inr h))) (hb w))
theorem goodIn_sub {big ws : List Cond} (hm : ∀ w ∈ ws, w ∈ big) (h : ws.all goodWord = true) : GoodIn big ws := fun w hw => ⟨hm w hw, good_of_word (List.all_eq_true.mp h w hw)⟩
/-! ===== END ===== -/

/-! ===== BEGIN new T[n][m]: the outer array a place, the inner ones among the pooled ===== -/
/-- f, but v at every address of l -/
def vr_up {α : Type} (f : Nat → α) (l : List Nat) (v : α) : Nat → α := fun a => if a ∈ l then v else f a
theorem vr_up_in {α : Type} {f : Nat → α} {l : List Nat} {v : α} {a : Nat} (h : a ∈ l) : vr_up f l v a = v := if_pos h
theorem vr_up_ne {α : Type} {f : Nat → α} {l : List Nat} {v : α} {a : Nat} (h : a ∉ l) : vr_up f l v a = f a := if_neg h
theorem vr_rows {L l : List Nat} {f : Nat → va_E} {e : va_E} (h : ∀ a, a ∈ l → a ∉ L) : va_pl L f ++ l.map (fun a => (a, e)) = va_pl (L ++ l) (vr_up f l e) := by
  unfold va_pl
  rw [List.map_append]
  congr 1
  · apply List.map_congr_left
    intro a ha
    rw [vr_up_ne (fun q => h a q ha)]
  · apply List.map_congr_left
    intro a ha
    rw [vr_up_in ha]
theorem vr_lay {X rows : va_W} {x : Nat × va_E} {pl : va_W} {D : va_G} {cl : List vw_C} {H : Heap} (hP : va_P D cl (((X ++ pl) ++ [x]) ++ rows) H) : va_P D cl ((X ++ [x]) ++ (pl ++ rows)) H := by
  rw [List.append_assoc (X ++ pl)] at hP
  have h := va_P.swap hP
  rw [← List.append_assoc X] at h
  have h2 := va_P.swap h
  rw [List.append_assoc (X ++ [x])] at h2
  exact h2
theorem vr_layD {X rows : va_W} {x : Nat × va_E} {pl : va_W} {A : Nat → Prop} (hD : va_D A (((X ++ pl) ++ [x]) ++ rows)) : va_D A ((X ++ [x]) ++ (pl ++ rows)) := by
  rw [List.append_assoc (X ++ pl)] at hD
  have h := va_D.swap hD
  rw [← List.append_assoc X] at h
  have h2 := va_D.swap h
  rw [List.append_assoc (X ++ [x])] at h2
  exact h2
theorem vr_outer (c : ClassId) (N h0 : Nat) : ∀ i : Nat, Jvm.Free.Multi.outerC c N h0 i = arrV c N (fun j => va_rf (if j < i then some (h0 + 1 + j) else none))
  | 0 => by
    show ({ cls := c, slots := Array.replicate N .null, vm := .none } : Cell) = _
    rw [arrV_new]
    refine congrArg (arrV c N) (funext fun j => ?_)
    simp [va_rf]
  | i + 1 => by
    show (Jvm.Free.Multi.outerC c N h0 i).setSlot i (.ref (h0 + 1 + i)) = _
    rw [vr_outer c N h0 i, arrV_store]
    refine congrArg (arrV c N) (funext fun j => ?_)
    by_cases e : j = i
    · subst e
      simp [updV, va_rf]
    · by_cases h : j < i
      · simp [updV, e, h, Nat.lt_succ_of_lt h]
      · simp [updV, e, h, show ¬ j < i + 1 by omega]
section VGM
variable {p : Program} {l : Launch} {e : Env} {R : Room} {s : State} {m : MethodId} {args : Array Value} {below : List Frame} {meth : Method} {c : Code} {H : Heap} {locs : List Loc} {cells slots : Nat} {Q : State → Prop}
variable {cc : ByteArray} {pc : Nat} {ls : Array Slot} {rest : List Value} {D : va_G} {cl : List vw_C} {A : Nat → Prop} {a : Nat} {tys : List (ClassId × FieldType)} {ws : va_W} {H0 : Heap}
theorem va_mna {X : va_W} {L : List Nat} {f : Nat → va_E} {cc : ByteArray} (hexec : p.tables.exec = Jvm.exec) (hb : c.code = cc) {own : String} {index : Nat} {ty : FieldType} {cy : ClassId} (hown : s.vm.findClass own = some m.cls) (hclink : (Cond.classLink own index ("[" ++ (FieldType.array ty).toString)).before args s = true) (hover : va_AOA ty s) (harr : (Cond.arrayClass ty).before args s = true) (hcy : s.vm.findClass (FieldType.array ty).toString = some cy)
    (hK : va_K D cl tys s) (hP : va_P D cl (X ++ va_pl L f) H) (hD : va_D A (X ++ va_pl L f)) (hS : va_S A H0 H locs) (hA : ∀ q, H0.size ≤ q → A q) {n k : Int32} {N' K' : Nat} {z : vp_A} (hn : ¬ n < 0) (hk : ¬ k < 0) (hN : n.toNatClampNeg = N') (hM : k.toNatClampNeg = K')
    (hb1 : N' * 4 ≤ 536870912) (hb2 : K' * componentBytes ty ≤ 536870912) (hb3 : K' ≤ 536870912) (hdf : fits ty (defaultValue ty) = true) (hdd : (defaultValue ty).isDefault = true) (hcells : cells + (1 + N') ≤ R.cells) (hslots : slots + (N' + N' * K') ≤ R.slots) (hz : ∀ c : ClassId, Jvm.Free.Multi.innerC c K' (defaultValue ty) = vp_cell c z) (hdg : decode cc pc = .ok (.multianewarray index 2, 4))
    (kk : ∀ (q : Nat) (r : Nat → Nat) (cA : ClassId) (H1 : Heap), (∀ i j : Nat, i < N' → j < N' → r i = r j → i = j) → (∀ i : Nat, i < N' → r i ∉ L) → va_K D cl (tys ++ [(cA, .array ty)]) s →
      va_P D cl ((X ++ [(q, .inl (cA, N', .inr (.inr (.inr (.inr (fun i => if i < N' then some (r i) else none))))))]) ++ va_pl (L ++ (List.range N').map r) (vr_up f ((List.range N').map r) (.inl (cy, z)))) H1 → va_D A ((X ++ [(q, .inl (cA, N', .inr (.inr (.inr (.inr (fun i => if i < N' then some (r i) else none))))))]) ++ va_pl (L ++ (List.range N').map r) (vr_up f ((List.range N').map r) (.inl (cy, z)))) → va_S A H0 H1 locs →
      W p l e R s m args below meth c H1 locs (cells + 1 + N') (slots + N' + N' * K') Q (F0 m (pc + 4) ls (.ref q :: rest))) : W p l e R s m args below meth c H locs cells slots Q (F0 m pc ls (.int k :: .int n :: rest)) := by
  subst hN
  subst hM
  intro T hT Xs
  obtain ⟨vm₁, cA, comp, -, fA, fC, hO, -, X', step⟩ := Xs.multianewarray2F hexec hown hclink (va_AOA.use hover) harr (g := F0 m pc ls (.int k :: .int n :: rest)) rfl (by rw [hb]; exact hdg) rfl hn hk hb1 hb2 hb3 hdf hdd hcells hslots
  have ec : some cy = some comp := hcy.symm.trans fC
  cases ec
  generalize hF : Jvm.Free.Multi.fill (T.setVm vm₁) cA cy n.toNatClampNeg k.toNatClampNeg (defaultValue ty) n.toNatClampNeg = F at X' step
  have hTh : (T.setVm vm₁).heap = H := hT
  obtain ⟨f1, f2, -, -⟩ := Jvm.Free.Multi.fill_facts (T.setVm vm₁) cA cy n.toNatClampNeg k.toNatClampNeg (defaultValue ty) n.toNatClampNeg
  rw [hF, hTh] at f1 f2
  have hold : ∀ x : Nat, x < H.size → F.heap[x]? = H[x]? := fun x hx => by
    have := Jvm.Free.Multi.fill_old (T.setVm vm₁) cA cy n.toNatClampNeg k.toNatClampNeg (defaultValue ty) (a := x) (by rw [hTh]; exact hx) n.toNatClampNeg
    rw [hF, hTh] at this
    exact this
  have hrow : ∀ j : Nat, j < n.toNatClampNeg → F.heap[H.size + 1 + j]? = some (vp_cell cy z) := fun j hj => by
    have := Jvm.Free.Multi.fill_inner (T.setVm vm₁) cA cy n.toNatClampNeg k.toNatClampNeg (defaultValue ty) n.toNatClampNeg j hj
    rw [hF, hTh, hz] at this
    exact this
  have hout : Jvm.Free.Multi.outerC cA n.toNatClampNeg H.size n.toNatClampNeg = vp_cell cA (n.toNatClampNeg, .inr (.inr (.inr (.inr (fun i => if i < n.toNatClampNeg then some (H.size + 1 + i) else none))))) := by
    rw [vp_cell_q]
    exact vr_outer cA n.toNatClampNeg H.size n.toNatClampNeg
  rw [hout] at f2
  have hlt : ∀ a, a ∈ L → a < H.size := fun a ha => by
    obtain ⟨k9, hk9⟩ := va_pl_get (X := X) (f := f) ha
    exact (hP k9 _ hk9).lt
  have hnl : ∀ i : Nat, i < n.toNatClampNeg → H.size + 1 + i ∉ L := fun i _ h => by
    have := hlt _ h
    omega
  have hnm : ∀ a, a ∈ (List.range n.toNatClampNeg).map (fun i => H.size + 1 + i) → a ∉ L := fun a ha h => by
    obtain ⟨i, -, rfl⟩ := List.mem_map.mp ha
    have := hlt _ h
    omega
  have hP0 : va_P D cl (X ++ va_pl L f) F.heap := hP.kept (fun k9 x hx => hold x.1 ((hP k9 x hx).lt))
  have hP1 : va_P D cl ((X ++ va_pl L f) ++ [(H.size, .inl (cA, n.toNatClampNeg, .inr (.inr (.inr (.inr (fun i => if i < n.toNatClampNeg then some (H.size + 1 + i) else none))))))]) F.heap := hP0.app (fun k9 x hx => by
    have h0 : k9 < 1 := (List.getElem?_eq_some_iff.mp hx).1
    rw [show k9 = 0 by omega] at hx
    cases hx
    exact f2)
  have hP2 : va_P D cl (((X ++ va_pl L f) ++ [(H.size, .inl (cA, n.toNatClampNeg, .inr (.inr (.inr (.inr (fun i => if i < n.toNatClampNeg then some (H.size + 1 + i) else none))))))]) ++ ((List.range n.toNatClampNeg).map (fun i => H.size + 1 + i)).map (fun a => (a, .inl (cy, z)))) F.heap := hP1.app (fun k9 x hx => by
    obtain ⟨a, ha, rfl⟩ := List.mem_map.mp (List.mem_of_getElem? hx)
    obtain ⟨i, hi, rfl⟩ := List.mem_map.mp ha
    exact hrow i (List.mem_range.mp hi))
  have hD2 : va_D A (((X ++ va_pl L f) ++ [(H.size, .inl (cA, n.toNatClampNeg, .inr (.inr (.inr (.inr (fun i => if i < n.toNatClampNeg then some (H.size + 1 + i) else none))))))]) ++ ((List.range n.toNatClampNeg).map (fun i => H.size + 1 + i)).map (fun a => (a, .inl (cy, z)))) := by
    have hD1 := hD.push (e := .inl (cA, n.toNatClampNeg, .inr (.inr (.inr (.inr (fun i => if i < n.toNatClampNeg then some (H.size + 1 + i) else none)))))) hP rfl (hA _ hS.1)
    generalize hW1 : (X ++ va_pl L f) ++ [(H.size, .inl (cA, n.toNatClampNeg, .inr (.inr (.inr (.inr (fun i => if i < n.toNatClampNeg then some (H.size + 1 + i) else none))))))] = W1 at hD1 hP1 ⊢
    have hle : ∀ (k9 : Nat) (x : Nat × va_E), W1[k9]? = some x → x.1 ≤ H.size := fun k9 x hx => by
      rw [← hW1] at hx
      by_cases hl : k9 < (X ++ va_pl L f).length
      · rw [List.getElem?_append_left hl] at hx
        exact Nat.le_of_lt ((hP k9 x hx).lt)
      · rw [List.getElem?_append_right (by omega)] at hx
        have h0 : k9 - (X ++ va_pl L f).length < 1 := (List.getElem?_eq_some_iff.mp hx).1
        rw [show k9 - (X ++ va_pl L f).length = 0 by omega] at hx
        cases hx
        exact Nat.le_refl _
    have hr : ∀ (k9 : Nat) (x : Nat × va_E), (((List.range n.toNatClampNeg).map (fun i => H.size + 1 + i)).map (fun a => ((a, .inl (cy, z)) : Nat × va_E)))[k9]? = some x → x.1 = H.size + 1 + k9 := fun k9 x hx => by
      rw [List.getElem?_map, List.getElem?_map] at hx
      by_cases h9 : k9 < n.toNatClampNeg
      · rw [List.getElem?_range h9] at hx
        cases hx
        rfl
      · have hn0 : (List.range n.toNatClampNeg)[k9]? = none := List.getElem?_eq_none (by rw [List.length_range]; omega)
        rw [hn0] at hx
        cases hx
    refine ⟨fun i j x y hi hj hxy => ?_, fun k9 x hx => ?_⟩
    · by_cases h1 : i < W1.length <;> by_cases h2 : j < W1.length
      · rw [List.getElem?_append_left h1] at hi
        rw [List.getElem?_append_left h2] at hj
        exact hD1.1 i j x y hi hj hxy
      · rw [List.getElem?_append_left h1] at hi
        rw [List.getElem?_append_right (by omega)] at hj
        have := hle _ _ hi
        have := hr _ _ hj
        omega
      · rw [List.getElem?_append_right (by omega)] at hi
        rw [List.getElem?_append_left h2] at hj
        have := hle _ _ hj
        have := hr _ _ hi
        omega
      · rw [List.getElem?_append_right (by omega)] at hi hj
        have := hr _ _ hi
        have := hr _ _ hj
        omega
    · by_cases h1 : k9 < W1.length
      · rw [List.getElem?_append_left h1] at hx
        exact hD1.2 k9 x hx
      · rw [List.getElem?_append_right (by omega)] at hx
        have := hr _ _ hx
        exact hA _ (by have := hS.1; omega)
  have hAr : ArrOfT s cA (.array ty) := fun N9 z9 => by
    obtain ⟨-, k9, hk9, cm9, hkk9⟩ := (hO 0 0 0).1
    exact ⟨(fun q hq => by cases hq), k9, hk9, cm9, hkk9⟩
  have hK2 : va_K D cl (tys ++ [(cA, .array ty)]) s := ⟨hK.1, fun k9 x hx => by
    by_cases hl : k9 < tys.length
    · rw [List.getElem?_append_left hl] at hx
      exact hK.2 k9 x hx
    · rw [List.getElem?_append_right (by omega)] at hx
      have h0 : k9 - tys.length < 1 := (List.getElem?_eq_some_iff.mp hx).1
      rw [show k9 - tys.length = 0 by omega] at hx
      cases hx
      exact ⟨hAr, fA⟩⟩
  obtain ⟨t, a1, b1⟩ := kk H.size (fun i => H.size + 1 + i) cA F.heap (fun i j _ _ h => by have h9 : H.size + 1 + i = H.size + 1 + j := h; omega) hnl hK2 (by rw [← vr_rows hnm]; exact vr_lay hP2) (by rw [← vr_rows hnm]; exact vr_layD hD2) ⟨by rw [f1]; have := hS.1; omega, fun x h1 h2 => (hold x (Nat.lt_of_lt_of_le h1 hS.1)).trans (hS.2.1 x h1 h2), hS.2.2⟩ F rfl X'
  refine ⟨t, step t ?_, b1⟩
  have e : T.heap.size = H.size := by rw [hT]
  rw [e]
  exact a1
end VGM
/-! ===== END ===== -/

/-! ===== BEGIN exceptions that leave a method, and their catching by the caller (launches without stack traces) ===== -/
section VXA
/-! The laws vx_back, vx_callV, vx_callS, vx_callSW, vx_throw0, vx_throwS follow proofs of the library, with one case more: JvmDerived/Free/Laws.lean (Back.of_free), Shelf42/LK1.lean (callV, callS), Shelf/KitTraced.lean (throwNew0V, throwNewS). -/
/-- where a method has thrown q: the class by its name, the cell, what was written, the world -/
def vx_T (XC : String → State → State → Prop) (st : State) (q : Addr) (t : State) (mc ms : Nat) (free : Addr → Prop) : Prop :=
  ∃ (E : String) (ce : Cell) (L : List Loc), XC E st t ∧ t.heap[q]? = some ce ∧ ce.vm = .none ∧ st.vm.findClass E = some ce.cls ∧ st.WarmedH t.vm ∧ st.sameButNew ({ t with vm := st.vm } : State) L mc ms ∧ ∀ z ∈ L, free z.base
def vx_Q (Qc : Array Value → State → Outcome → State → Prop) (XC : String → State → State → Prop) (mc ms : Nat) (free : Addr → Prop) : Array Value → State → Outcome → State → Prop := fun a st o t =>
  (Qc a st o t ∧ ∃ L, FrameEnd st o t L mc ms ∧ ∀ q ∈ L, free q.base) ∨ ∃ q, o = .threw q ∧ vx_T XC st q t mc ms free
/-- a callee that returns or throws -/
def vx_Met (l : Launch) (y : MethodName) (ws : List Cond) (rm : Room) (Pc : Array Value → State → Prop) (Qc : Array Value → State → Outcome → State → Prop) (XC : String → State → State → Prop) (mc ms : Nat) (free : Addr → Prop) : Prop :=
  MetFree l y (headSpec ws rm) Pc (fun _ _ _ _ _ => True) (vx_Q Qc XC mc ms free)
def vx_Post (XC : String → State → State → Prop) (mc ms : Nat) (free : Addr → Prop) : Pt → Array Value → Addr → Pt → Prop := fun A a q B =>
  ∃ (g : JFrame) (mk : MethodId) (t : State) (L : List Loc) (E : String) (ce : Cell), B.U.heap = t.heap ∧ B.U.vm = t.vm ∧ XC E (A.U.calling g mk a) t ∧ t.heap[q]? = some ce ∧ ce.vm = .none ∧ A.U.vm.findClass E = some ce.cls ∧ B.locs = A.locs ++ L ∧ (∀ z ∈ L, free z.base) ∧ B.cells = A.cells + mc ∧ B.slots = A.slots + ms
def vx_Back (l : Launch) (R : Room) (p : Program) (e : Env) (below : List Frame) (s : State) (sargs : Array Value) (y : MethodName) (len W9 : Nat)
    (Pre : Pt → Array Value → Prop) (Post : Pt → Array Value → Option Value → Pt → Prop) (PostX : Pt → Array Value → Addr → Pt → Prop) : Prop :=
  ∀ (m : MethodId) (meth : Method) (c : Code) (A : Pt) (g : JFrame) (ig : Instr) (mk : MethodId) (a : Array Value),
    Stand p l e R s m sargs below meth c A.U A.locs A.cells A.slots → g.method = m → g.locals.size = c.maxLocals → decode c.code g.pc = .ok (ig, len) →
    2 * g.monitorRoom + (g.stack.map fun v => v.category).sum ≤ W9 → A.U.methodNamed? y = some mk → Pre A a →
    (∃ (v : Option Value) (B : Pt), Stand p l e R s m sargs below meth c B.U B.locs B.cells B.slots ∧ Post A a v B ∧
      Steps p.tables e below (doInvoke e (A.U.setTop g) [] mk a).1 (B.U.setTop { g with pc := g.pc + len, stack := v.toList ++ g.stack })) ∨
    (∃ (q : Addr) (B : Pt), Stand p l e R s m sargs below meth c B.U B.locs B.cells B.slots ∧ PostX A a q B ∧
      Steps p.tables e below (doInvoke e (A.U.setTop g) [] mk a).1 ((B.U.setTop g).pushFrame (.throwing q)))
section Payer
variable {l : Launch} {R : Room} {p : Program} {e : Env} {below : List Frame} {s : State} {sargs : Array Value} {y : MethodName} {len W9 : Nat}
theorem vx_back {ws : List Cond} {rm : Room} {Pc : Array Value → State → Prop} {Qc : Array Value → State → Outcome → State → Prop} {XC : String → State → State → Prop} {mc ms : Nat} {free : Addr → Prop} {bytes : ByteArray} {maxL : Nat} {ret : Option FieldType}
    (hM : vx_Met l y ws rm Pc Qc XC mc ms free) (hblind : FrameBlind Pc) (hrc : rm.cells = mc) (hrs : rm.slots = ms)
    (hframes : rm.frames + 1 ≤ R.frames) (hlocals : W9 + (maxL + 11) + rm.locals ≤ R.locals)
    (hws : ∀ w ∈ ws, ∀ a' U, s.WarmedH U.vm → w.before a' U = true) (hcode : Cond.code y bytes maxL ret ∈ ws) (hinit : ∀ a' U, s.WarmedH U.vm → (Cond.initialized y.cls).before a' U = true) :
    vx_Back l R p e below s sargs y len W9 (PreOf R mc ms Pc) (PostOf Qc mc ms free) (vx_Post XC mc ms free) := by
  intro m meth c A g ig mk a X hg hsize hdg hW hn hp
  have h1 : (headSpec ws rm).pre.before a A.U = true := atoms_intro fun w hw => hws w hw _ _ X.warmed
  have h2 : (Cond.code y bytes maxL ret).before a A.U = true := hws _ hcode _ _ X.warmed
  have h3 : (Cond.initialized y.cls).before a A.U = true := hinit _ _ X.warmed
  have h4 : A.cells + (headSpec ws rm).room.cells ≤ R.cells := by rw [show (headSpec ws rm).room.cells = mc from hrc]; exact hp.1
  have h5 : A.slots + (headSpec ws rm).room.slots ≤ R.slots := by rw [show (headSpec ws rm).room.slots = ms from hrs]; exact hp.2.1
  have hPc : Pc a (A.U.calling g mk a) := hblind _ _ _ _ hp.2.2
  obtain ⟨U, Ls, c0, s0⟩ := A
  dsimp only [Pt.U, Pt.locs, Pt.cells, Pt.slots] at h1 h2 h3 h4 h5 X hn hPc ⊢
  obtain ⟨methY, cY, hmY, hcY, -, hlY, -, -, -, -⟩ := Cond.code_spec hn h2
  obtain ⟨kY, hkY, -⟩ := className_of_methodNamed hn
  have hinitY : kY.init = .initialized := Cond.initialized_spec (findClass_of_methodNamed hn) hkY h3
  have h : At U g.method c below := by rw [hg]; exact X.here
  have hlocals9 : W9 + (maxL + 11) + (headSpec ws rm).room.locals ≤ R.locals := hlocals
  have happ : (headSpec ws rm).appliesLoose y e.platform (U.calling g mk a) = true :=
    Spec.appliesLoose_calling (g := g) h hdg hn hkY hinitY
      (X.room_calling (g := g) (R' := (headSpec ws rm).room) hsize hmY hcY hframes (by rw [hlY]; omega) h4 h5) h1
  obtain ⟨mid, hmid⟩ := h.above
  have hfr : (U.setTop g).frames = (.java g :: mid) ++ below := by rw [State.frames_setTop' g h.top, hmid]; rfl
  obtain ⟨o, s₂, hsteps, -, hend, hq⟩ := Steps.callFree hM p X.admits X.cas X.clock (acts := []) hfr happ hPc trivial
  have hq' : vx_Q Qc XC mc ms free a (U.calling g mk a) o s₂ := hq
  rw [State.frames_setTop' g h.top] at hend
  obtain ⟨g₀, hg0⟩ := Option.isSome_iff_exists.mp h.top
  obtain ⟨r, hr⟩ := State.topJava?_eq_some.mp hg0
  have hr' : (({ U with heap := s₂.heap, slotsUsed := s₂.slotsUsed } : State).setVm s₂.vm).frames = .java g₀ :: r := hr
  rcases hq' with ⟨hqc, L, hfe, hL⟩ | ⟨q, rfl, E, ce, L, hx, hce, hcv, hcl, hW₂, hsm, hL⟩
  · obtain ⟨⟨v, rfl⟩, hW₂, e2, q2, q3, q4, q5, q6⟩ := id hfe
    have e3 : s₂ = ({ (U.calling g mk a).setFrames s₂.frames with heap := s₂.heap, slotsUsed := s₂.slotsUsed } : State).setVm s₂.vm := by
      have : s₂ = ({ s₂ with vm := (U.calling g mk a).vm } : State).setVm s₂.vm := rfl
      rw [e2] at this
      exact this
    obtain ⟨c₂, i₂, len₂, hc₂, hd₂, hf₂⟩ := hend
    have hW' : U.WarmedH s₂.vm := hW₂
    have hcc : c₂ = c := by
      have h1 : s₂.code? g.method = U.code? g.method := by
        rw [State.code?_eq, State.code?_eq, hW'.alike.method?]
      exact Option.some.inj (hc₂.symm.trans (h1.trans h.code))
    subst hcc
    have hlen : len₂ = len := by rw [hdg] at hd₂; cases hd₂; rfl
    subst hlen
    have hs₂ : s₂ = (({ U with heap := s₂.heap, slotsUsed := s₂.slotsUsed } : State).setVm s₂.vm).setTop { g with pc := g.pc + len₂, stack := v.toList ++ g.stack } := by
      refine e3.trans ?_
      rw [hf₂, State.calling_eq h.top, State.setFrames_setFrames, State.setTop_of_frames _ hr', hr]
      rfl
    have hsame : U.sameButNew ({ U with heap := s₂.heap, slotsUsed := s₂.slotsUsed } : State) L mc ms := by
      refine ⟨?_, q2, q3, q4, q5, q6⟩
      obtain ⟨t, ht, -⟩ := State.frames_cons hr
      show ({ U with heap := s₂.heap, slotsUsed := s₂.slotsUsed } : State) = { U.setFrames U.frames with heap := s₂.heap, slotsUsed := s₂.slotsUsed }
      rw [State.setFrames_self ht]
    subst hg
    refine Or.inl ⟨v, ⟨(({ U with heap := s₂.heap, slotsUsed := s₂.slotsUsed } : State).setVm s₂.vm), Ls ++ L, c0 + mc, s0 + ms⟩,
      ⟨X.admits, X.cas, X.clock, X.frames, X.room, X.hears, X.method, X.code, (X.here.setHeapUsed s₂.heap s₂.slotsUsed).setVm hW'.alike, X.tail, State.WarmedH.trans X.warmed hW', X.limits, X.bytes, X.same.trans (hsame.setVm s.vm)⟩,
      ⟨g, mk, s₂, L, rfl, rfl, hqc, rfl, hL, rfl, rfl⟩, ?_⟩
    show Steps p.tables e below _ ((({ U with heap := s₂.heap, slotsUsed := s₂.slotsUsed } : State).setVm s₂.vm).setTop { g with pc := g.pc + len₂, stack := v.toList ++ g.stack })
    rw [← hs₂]
    exact hsteps
  · obtain ⟨e2, q2, q3, q4, q5, q6⟩ := id hsm
    have e3 : s₂ = ({ (U.calling g mk a).setFrames s₂.frames with heap := s₂.heap, slotsUsed := s₂.slotsUsed } : State).setVm s₂.vm := by
      have : s₂ = ({ s₂ with vm := (U.calling g mk a).vm } : State).setVm s₂.vm := rfl
      rw [e2] at this
      exact this
    have hf₂ : s₂.frames = .throwing q :: .java g :: U.frames.tail := hend
    have hW' : U.WarmedH s₂.vm := hW₂
    have hs₂ : s₂ = ((({ U with heap := s₂.heap, slotsUsed := s₂.slotsUsed } : State).setVm s₂.vm).setTop g).pushFrame (.throwing q) := by
      refine e3.trans ?_
      rw [hf₂, State.calling_eq h.top, State.setFrames_setFrames, State.pushFrame, State.frames_setTop _ hr', State.setTop_of_frames _ hr', State.setFrames_setFrames, hr]
      rfl
    have hsame : U.sameButNew ({ U with heap := s₂.heap, slotsUsed := s₂.slotsUsed } : State) L mc ms := by
      refine ⟨?_, q2, q3, q4, q5, q6⟩
      obtain ⟨t, ht, -⟩ := State.frames_cons hr
      show ({ U with heap := s₂.heap, slotsUsed := s₂.slotsUsed } : State) = { U.setFrames U.frames with heap := s₂.heap, slotsUsed := s₂.slotsUsed }
      rw [State.setFrames_self ht]
    subst hg
    refine Or.inr ⟨q, ⟨(({ U with heap := s₂.heap, slotsUsed := s₂.slotsUsed } : State).setVm s₂.vm), Ls ++ L, c0 + mc, s0 + ms⟩,
      ⟨X.admits, X.cas, X.clock, X.frames, X.room, X.hears, X.method, X.code, (X.here.setHeapUsed s₂.heap s₂.slotsUsed).setVm hW'.alike, X.tail, State.WarmedH.trans X.warmed hW', X.limits, X.bytes, X.same.trans (hsame.setVm s.vm)⟩,
      ⟨g, mk, s₂, L, E, ce, rfl, rfl, hx, hce, hcv, hcl, rfl, hL, rfl, rfl⟩, ?_⟩
    show Steps p.tables e below _ (((({ U with heap := s₂.heap, slotsUsed := s₂.slotsUsed } : State).setVm s₂.vm).setTop g).pushFrame (.throwing q))
    rw [← hs₂]
    exact hsteps
end Payer
section Calls
variable {p : Program} {l : Launch} {e : Env} {R : Room} {s : State} {m : MethodId} {args : Array Value} {below : List Frame} {meth : Method} {c : Code} {T : State} {locs : List Loc} {cells slots : Nat}
theorem vx_callV (X : Stand p l e R s m args below meth c T locs cells slots) (hexec : p.tables.exec = Jvm.exec) {own C : String} {index : Nat} {y : MethodName} {bytes : ByteArray} {maxL : Nat} {ret : Option FieldType}
    (hown : s.vm.findClass own = some m.cls) (hlink : (Cond.methodLink own index y).before args s = true) (hinst : (Cond.instanceMethod y).before args s = true) (hsel : (Cond.selects C y y).before args s = true)
    (hcode : (Cond.code y bytes maxL ret).before args s = true) (hy : y.cls ≠ "java/lang/invoke/MethodHandle" ∧ y.cls ≠ "java/lang/invoke/VarHandle")
    {W9 : Nat} {Pre : Pt → Array Value → Prop} {Post : Pt → Array Value → Option Value → Pt → Prop} {PostX : Pt → Array Value → Addr → Pt → Prop} (hK : vx_Back l R p e below s args y 3 W9 Pre Post PostX)
    {b : Addr} {cellB : Cell} (hcell : T.heap[b]? = some cellB) (hobj : cellB.vm.isStatics = false) (hcls : s.vm.findClass C = some cellB.cls)
    {g : JFrame} (hg : g.method = m) (hsize : g.locals.size = c.maxLocals) {argsL rest : List Value} (hlen : ∀ sig, parseMethodDescriptor y.desc = some sig → argsL.length = sig.parameters.length)
    (hstack : g.stack = argsL.reverse ++ .ref b :: rest) (hW : 2 * g.monitorRoom + (rest.map fun v => v.category).sum ≤ W9) (hdg : decode c.code g.pc = .ok (.invokevirtual index, 3))
    (hpre : ∀ vm₁, s.WarmedH vm₁ → Pre ⟨T.setVm vm₁, locs, cells, slots⟩ (Value.ref b :: argsL).toArray) :
    (∃ (v : Option Value) (vm₁ : Vm) (B : Pt), s.WarmedH vm₁ ∧ Stand p l e R s m args below meth c B.U B.locs B.cells B.slots ∧ Post ⟨T.setVm vm₁, locs, cells, slots⟩ (Value.ref b :: argsL).toArray v B ∧
      ∀ target, Steps p.tables e below (B.U.setTop { g with pc := g.pc + 3, stack := v.toList ++ rest }) target → Steps p.tables e below (T.setTop g) target) ∨
    (∃ (q : Addr) (vm₁ : Vm) (B : Pt), s.WarmedH vm₁ ∧ Stand p l e R s m args below meth c B.U B.locs B.cells B.slots ∧ PostX ⟨T.setVm vm₁, locs, cells, slots⟩ (Value.ref b :: argsL).toArray q B ∧
      Steps p.tables e below (T.setTop g) ((B.U.setTop { g with stack := rest }).pushFrame (.throwing q))) := by
  obtain ⟨mk, methM, hnamed, hmethM, hstM, habM⟩ := Cond.instanceMethod_spec hinst
  obtain ⟨methM', cM, hmethM', -, -, -, -, -, -, hsigM⟩ := Cond.code_spec hnamed hcode
  cases hmethM.symm.trans hmethM'
  obtain ⟨c2, r2, m2, q1, q2, q3, q4, kP, hkP, hkPi⟩ := Cond.selects_spec hsel
  cases hcls.symm.trans q1
  cases (State.methodFound?_of_named hnamed hy).symm.trans q2
  cases hnamed.symm.trans q3
  have hselP : selectMethod e.platform s.vm cellB.cls mk = .method mk := by rw [Launch.admits_selectMethod X.admits]; exact q4
  obtain ⟨vm₁, X₁, hstep₁⟩ := X.invokevirtual hexec hown hlink hnamed hmethM hstM hkP hkPi hy (a := b) (cell := cellB) hcell
    (fun z h => by rw [h] at hobj; cases hobj) hselP hmethM habM hkP hkPi (g := g) hg (argsL := argsL) (rest := rest) (hlen _ hsigM) hstack hdg
  rcases hK m meth c ⟨T.setVm vm₁, locs, cells, slots⟩ { g with stack := rest } (.invokevirtual index) mk (Value.ref b :: argsL).toArray X₁ hg hsize hdg hW (X₁.named hnamed) (hpre vm₁ X₁.warmed) with ⟨v, B, X', hpost, hsteps⟩ | ⟨q, B, X', hpost, hsteps⟩
  · exact Or.inl ⟨v, vm₁, B, X₁.warmed, X', hpost, fun target h => hstep₁ _ fun acts => by rw [doInvoke_state]; exact hsteps.trans h⟩
  · exact Or.inr ⟨q, vm₁, B, X₁.warmed, X', hpost, hstep₁ _ fun acts => by rw [doInvoke_state]; exact hsteps⟩
theorem vx_callS (X : Stand p l e R s m args below meth c T locs cells slots) (hexec : p.tables.exec = Jvm.exec) {own : String} {index : Nat} {y : MethodName} {bytes : ByteArray} {maxL : Nat} {ret : Option FieldType}
    (hown : s.vm.findClass own = some m.cls) (hlink : (Cond.methodLink own index y).before args s = true) (hstat : (Cond.static y).before args s = true) (hinit : (Cond.initialized y.cls).before args s = true)
    (hcode : (Cond.code y bytes maxL ret).before args s = true) (hy : y.cls ≠ "java/lang/invoke/MethodHandle" ∧ y.cls ≠ "java/lang/invoke/VarHandle")
    {W9 : Nat} {Pre : Pt → Array Value → Prop} {Post : Pt → Array Value → Option Value → Pt → Prop} {PostX : Pt → Array Value → Addr → Pt → Prop} (hK : vx_Back l R p e below s args y 3 W9 Pre Post PostX)
    {g : JFrame} (hg : g.method = m) (hsize : g.locals.size = c.maxLocals) {argsL rest : List Value} (hlen : ∀ sig, parseMethodDescriptor y.desc = some sig → argsL.length = sig.parameters.length)
    (hstack : g.stack = argsL.reverse ++ rest) (hW : 2 * g.monitorRoom + (rest.map fun v => v.category).sum ≤ W9) (hdg : decode c.code g.pc = .ok (.invokestatic index, 3))
    (hpre : ∀ vm₁, s.WarmedH vm₁ → Pre ⟨T.setVm vm₁, locs, cells, slots⟩ argsL.toArray) :
    (∃ (v : Option Value) (vm₁ : Vm) (B : Pt), s.WarmedH vm₁ ∧ Stand p l e R s m args below meth c B.U B.locs B.cells B.slots ∧ Post ⟨T.setVm vm₁, locs, cells, slots⟩ argsL.toArray v B ∧
      ∀ target, Steps p.tables e below (B.U.setTop { g with pc := g.pc + 3, stack := v.toList ++ rest }) target → Steps p.tables e below (T.setTop g) target) ∨
    (∃ (q : Addr) (vm₁ : Vm) (B : Pt), s.WarmedH vm₁ ∧ Stand p l e R s m args below meth c B.U B.locs B.cells B.slots ∧ PostX ⟨T.setVm vm₁, locs, cells, slots⟩ argsL.toArray q B ∧
      Steps p.tables e below (T.setTop g) ((B.U.setTop { g with stack := rest }).pushFrame (.throwing q))) := by
  obtain ⟨mk, hnamed⟩ := Cond.code_named hcode
  obtain ⟨methM, cM, hmethM, -, -, -, -, -, -, hsigM⟩ := Cond.code_spec hnamed hcode
  have hstatic : methM.isStatic = true := Cond.static_spec hnamed hmethM hstat
  obtain ⟨kP, hkP, -⟩ := className_of_methodNamed hnamed
  have hinitP : kP.init = .initialized := Cond.initialized_spec (findClass_of_methodNamed hnamed) hkP hinit
  obtain ⟨vm₁, X₁, hstep₁⟩ := X.invokestatic hexec hown hlink hnamed hmethM hstatic hkP hinitP hy (g := g) hg (argsL := argsL) (rest := rest) (hlen _ hsigM) hstack hdg
  rcases hK m meth c ⟨T.setVm vm₁, locs, cells, slots⟩ { g with stack := rest } (.invokestatic index) mk argsL.toArray X₁ hg hsize hdg hW (X₁.named hnamed) (hpre vm₁ X₁.warmed) with ⟨v, B, X', hpost, hsteps⟩ | ⟨q, B, X', hpost, hsteps⟩
  · exact Or.inl ⟨v, vm₁, B, X₁.warmed, X', hpost, fun target h => hstep₁ _ fun acts => by rw [doInvoke_state]; exact hsteps.trans h⟩
  · exact Or.inr ⟨q, vm₁, B, X₁.warmed, X', hpost, hstep₁ _ fun acts => by rw [doInvoke_state]; exact hsteps⟩
end Calls
theorem vx_cls {s : State} {T : State} {vm₁ : Vm} {E : String} {k : ClassId} (hW : s.WarmedH vm₁) (h : (T.setVm vm₁).vm.findClass E = some k) : s.vm.findClass E = some k := by
  have h1 : vm₁.findClass E = some k := h
  rw [hW.alike.findClass] at h1
  exact h1
/-- the method's frame g, with q thrown over it -/
def vx_W (p : Program) (l : Launch) (e : Env) (R : Room) (s : State) (m : MethodId) (args : Array Value) (below : List Frame) (meth : Method) (c : Code) (H : Heap) (locs : List Loc) (cells slots : Nat) (Q : State → Prop) (g : JFrame) (q : Addr) : Prop :=
  ∀ T : State, T.heap = H → Stand p l e R s m args below meth c T locs cells slots → ∃ t, Steps p.tables e below ((T.setTop g).pushFrame (.throwing q)) t ∧ Q t
def vx_Run (p : Program) (l : Launch) (e : Env) (R : Room) (s : State) (m : MethodId) (args : Array Value) (below : List Frame) (meth : Method) (c : Code) (H : Heap) (locs : List Loc) (cells slots mc ms : Nat) (g : JFrame) (rest : List Value) (Qa : State → Outcome → State → Prop) (XC : String → State → State → Prop) (free : Addr → Prop) : Prop :=
  ∀ T : State, T.heap = H → Stand p l e R s m args below meth c T locs cells slots →
    (∃ (v : Option Value) (st₀ t T' : State) (L : List Loc), st₀.heap = H ∧ Stand p l e R s m args below meth c T' (locs ++ L) (cells + mc) (slots + ms) ∧ (∀ q ∈ L, free q.base) ∧ T'.heap = t.heap ∧ T'.vm = t.vm ∧ Qa st₀ (.returned v) t ∧
      Goes p e below T g T' { g with pc := g.pc + 3, stack := v.toList ++ rest }) ∨
    (∃ (q : Addr) (st₀ t T' : State) (L : List Loc) (E : String) (ce : Cell), st₀.heap = H ∧ Stand p l e R s m args below meth c T' (locs ++ L) (cells + mc) (slots + ms) ∧ (∀ z ∈ L, free z.base) ∧ T'.heap = t.heap ∧ T'.vm = t.vm ∧ XC E st₀ t ∧ t.heap[q]? = some ce ∧ ce.vm = .none ∧ s.vm.findClass E = some ce.cls ∧
      Steps p.tables e below (T.setTop g) ((T'.setTop { g with stack := rest }).pushFrame (.throwing q)))
def vx_X {S : Type} (px : S → Prop) (B : String → S → State → Prop) (A : Nat → Prop) : String → State → State → Prop := fun E st t => ∃ u : S, px u ∧ B E u t ∧ va_F A st t
section Runs
variable {p : Program} {l : Launch} {e : Env} {R : Room} {s : State} {m : MethodId} {args : Array Value} {below : List Frame} {meth : Method} {c : Code} {H : Heap} {locs : List Loc} {cells slots : Nat}
variable {y : MethodName} {bytes cc : ByteArray} {maxL nL mc ms n index : Nat} {ret : Option FieldType} {ws : List Cond} {rm : Room} {Pc : Array Value → State → Prop} {Qc : Array Value → State → Outcome → State → Prop} {XC : String → State → State → Prop} {free : Addr → Prop} {Ts : List Cond} {own C : String} {b : Addr} {As rest : List Value} {g : JFrame}
theorem vx_callBack (cb : CallB R s args own index y bytes maxL ret ws rm mc ms n) (hM : vx_Met l y ws rm Pc Qc XC mc ms free) (hbl : FrameBlind Pc) : vx_Back l R p e below s args y 3 8 (PreOf R mc ms Pc) (PostOf Qc mc ms free) (vx_Post XC mc ms free) := by
  obtain ⟨hrc, hrs, hfr, hlo, hws, hcw, -, hini, -⟩ := cb
  exact vx_back (bytes := bytes) (maxL := maxL) (ret := ret) hM hbl hrc hrs hfr hlo hws hcw (fun a' U hW => word_at hW (Or.inl (by first | rfl | simp [Cond.onTables, Cond.keeps, Cond.steady])) hini)
theorem vx_runV (S : CallFix p m c cc nL s args Ts own) (hM : vx_Met l y ws rm Pc Qc XC mc ms free) (cw : CallW R s args own C index y bytes maxL ret ws rm mc ms n) (hp : PreV s H C b Pc As)
    (hg : g.method = m) (hn : As.length = n) (hsize : g.locals.size = nL) (hstack : g.stack = As.reverse ++ .ref b :: rest) (hW : 2 * g.monitorRoom + (rest.map fun v => v.category).sum ≤ 8) (hdg : decode cc g.pc = .ok (.invokevirtual index, 3)) (hf : cells + mc ≤ R.cells ∧ slots + ms ≤ R.slots) :
    vx_Run p l e R s m args below meth c H locs cells slots mc ms g rest (Qc (Value.ref b :: As).toArray) XC free := by
  have hK : vx_Back l R p e below s args y 3 8 (PreOf R mc ms Pc) (PostOf Qc mc ms free) (vx_Post XC mc ms free) := vx_callBack cw.1 hM hp.1
  obtain ⟨⟨-, -, -, -, -, -, hcode, -, hy, hlen, hl⟩, hin, hse⟩ := cw
  obtain ⟨hx, hb, hml, ho, -⟩ := S
  obtain ⟨-, ⟨cellB, hcB, hoB, hclB⟩, hPc⟩ := hp
  intro T hT X
  rcases vx_callV X hx (C := C) (bytes := bytes) (maxL := maxL) (ret := ret) ho hl hin hse hcode hy hK (by rw [hT]; exact hcB) hoB hclB hg (hsize.trans hml.symm) (argsL := As) (rest := rest) (fun sig h => hn.trans (hlen sig h)) hstack hW (by rw [hb]; exact hdg)
    (fun vm₁ hW₁ => ⟨hf.1, hf.2, hPc (T.setVm vm₁) hT hW₁⟩) with ⟨v, vm₁, ⟨U', l2, c2, s2⟩, hW₁, X', ⟨g', mk, t, L, e1, e2, hq, h1, hL, h2, h3⟩, st⟩ | ⟨q, vm₁, ⟨U', l2, c2, s2⟩, hW₁, X', ⟨g', mk, t, L, E, ce, e1, e2, hq, hce, hcv, hcl, h1, hL, h2, h3⟩, st⟩
  · dsimp only [Pt.U, Pt.locs, Pt.cells, Pt.slots] at X' e1 e2 h1 h2 h3 st
    subst h1; subst h2; subst h3
    exact Or.inl ⟨v, (T.setVm vm₁).calling g' mk (Value.ref b :: As).toArray, t, U', L, hT, X', hL, e1, e2, hq, st⟩
  · dsimp only [Pt.U, Pt.locs, Pt.cells, Pt.slots] at X' e1 e2 h1 h2 h3 st hcl
    subst h1; subst h2; subst h3
    exact Or.inr ⟨q, (T.setVm vm₁).calling g' mk (Value.ref b :: As).toArray, t, U', L, E, ce, hT, X', hL, e1, e2, hq, hce, hcv, vx_cls hW₁ hcl, st⟩
theorem vx_runS (S : CallFix p m c cc nL s args Ts own) (hM : vx_Met l y ws rm Pc Qc XC mc ms free) (cw : CallB R s args own index y bytes maxL ret ws rm mc ms n ∧ (Cond.static y).before args s = true) (hp : PreS s H Pc As)
    (hg : g.method = m) (hn : As.length = n) (hsize : g.locals.size = nL) (hstack : g.stack = As.reverse ++ rest) (hW : 2 * g.monitorRoom + (rest.map fun v => v.category).sum ≤ 8) (hdg : decode cc g.pc = .ok (.invokestatic index, 3)) (hf : cells + mc ≤ R.cells ∧ slots + ms ≤ R.slots) :
    vx_Run p l e R s m args below meth c H locs cells slots mc ms g rest (Qc As.toArray) XC free := by
  have hK : vx_Back l R p e below s args y 3 8 (PreOf R mc ms Pc) (PostOf Qc mc ms free) (vx_Post XC mc ms free) := vx_callBack cw.1 hM hp.1
  obtain ⟨⟨-, -, -, -, -, -, hcode, hini, hy, hlen, hl⟩, hstt⟩ := cw
  obtain ⟨hx, hb, hml, ho, -⟩ := S
  intro T hT X
  rcases vx_callS X hx (bytes := bytes) (maxL := maxL) (ret := ret) ho hl hstt hini hcode hy hK hg (hsize.trans hml.symm) (argsL := As) (rest := rest) (fun sig h => hn.trans (hlen sig h)) hstack hW (by rw [hb]; exact hdg)
    (fun vm₁ hW₁ => ⟨hf.1, hf.2, hp.2 (T.setVm vm₁) hT hW₁⟩) with ⟨v, vm₁, ⟨U', l2, c2, s2⟩, hW₁, X', ⟨g', mk, t, L, e1, e2, hq, h1, hL, h2, h3⟩, st⟩ | ⟨q, vm₁, ⟨U', l2, c2, s2⟩, hW₁, X', ⟨g', mk, t, L, E, ce, e1, e2, hq, hce, hcv, hcl, h1, hL, h2, h3⟩, st⟩
  · dsimp only [Pt.U, Pt.locs, Pt.cells, Pt.slots] at X' e1 e2 h1 h2 h3 st
    subst h1; subst h2; subst h3
    exact Or.inl ⟨v, (T.setVm vm₁).calling g' mk As.toArray, t, U', L, hT, X', hL, e1, e2, hq, st⟩
  · dsimp only [Pt.U, Pt.locs, Pt.cells, Pt.slots] at X' e1 e2 h1 h2 h3 st hcl
    subst h1; subst h2; subst h3
    exact Or.inr ⟨q, (T.setVm vm₁).calling g' mk As.toArray, t, U', L, E, ce, hT, X', hL, e1, e2, hq, hce, hcv, vx_cls hW₁ hcl, st⟩
end Runs
section Rows
variable {p : Program} {l : Launch} {e : Env} {R : Room} {s : State} {m : MethodId} {args : Array Value} {below : List Frame} {meth : Method} {c : Code} {H : Heap} {locs : List Loc} {cells slots : Nat} {Q : State → Prop}
variable {mc ms : Nat} {free : Addr → Prop} {A0 A1 : Nat → Prop} {H0 : Heap} {a : Array Value} {pc : Nat} {ls : Array Slot} {st0 rest : List Value}
theorem vx_keep {st₀ t T' : State} {L : List Loc} (h0 : st₀.heap = H) (e1 : T'.heap = t.heap) (hS : va_S A0 H0 H locs) (hA : ∀ q, q < H.size → A1 q → A0 q) (hf : ∀ q, free q → A0 q) (hL : ∀ q ∈ L, free q.base) (hF : va_F A1 st₀ t) :
    H.size ≤ T'.heap.size ∧ (∀ q : Nat, q < H.size → ¬ A1 q → T'.heap[q]? = H[q]?) ∧ va_S A0 H0 T'.heap (locs ++ L) := by
  obtain ⟨hz, hk⟩ := hF
  rw [h0] at hz hk
  exact ⟨by rw [e1]; exact hz, fun q h1 h2 => by rw [e1]; exact hk q h1 h2,
    ⟨Nat.le_trans hS.1 (by rw [e1]; exact hz), fun q h1 h2 => by rw [e1, hk q (Nat.lt_of_lt_of_le h1 hS.1) (fun z => h2 (hA q (Nat.lt_of_lt_of_le h1 hS.1) z))]; exact hS.2.1 q h1 h2, fun q hq => by
      rcases List.mem_append.mp hq with h | h
      · exact hS.2.2 q h
      · exact hf _ (hL q h)⟩⟩
theorem vx_calli {S SX : Type} {post : Int32 → S → Prop} {px : SX → Prop} {B : S → State → Prop} {BX : String → SX → State → Prop} {AX : Nat → Prop} (hr : vx_Run p l e R s m args below meth c H locs cells slots mc ms (F0 m pc ls st0) rest (va_Qi post B A1 a) (vx_X px BX AX) free) (hS : va_S A0 H0 H locs) (hA : ∀ q, q < H.size → A1 q → A0 q) (hf : ∀ q, free q → A0 q) (hAX : ∀ q, q < H.size → AX q → A0 q)
    (kx : ∀ (E : String) (ce : Cell) (q9 : Addr) (u : SX) (t : State) (H1 : Heap) (locs1 : List Loc), t.heap = H1 → s.vm.Alike t.vm → px u → BX E u t → H.size ≤ H1.size → (∀ q : Nat, q < H.size → ¬ AX q → H1[q]? = H[q]?) → va_S A0 H0 H1 locs1 → H1[q9]? = some ce → ce.vm = .none → s.vm.findClass E = some ce.cls → vx_W p l e R s m args below meth c H1 locs1 (cells + mc) (slots + ms) Q (F0 m pc ls rest) q9)
    (kk : ∀ (r : Int32) (u : S) (t : State) (H1 : Heap) (locs1 : List Loc), t.heap = H1 → s.vm.Alike t.vm → post r u → B u t → H.size ≤ H1.size → (∀ q : Nat, q < H.size → ¬ A1 q → H1[q]? = H[q]?) → va_S A0 H0 H1 locs1 → W p l e R s m args below meth c H1 locs1 (cells + mc) (slots + ms) Q (F0 m (pc + 3) ls (.int r :: rest))) : W p l e R s m args below meth c H locs cells slots Q (F0 m pc ls st0) := by
  intro T hT X
  rcases hr T hT X with ⟨v, st₀, t, T', L, h0, X', hL, e1, e2, ⟨⟨r, u, hv, hp, hb⟩, hF⟩, st⟩ | ⟨q, st₀, t, T', L, E, ce, h0, X', hL, e1, e2, ⟨u, hp, hb, hF⟩, hce, hcv, hcl, st⟩
  · cases hv
    obtain ⟨k1, k2, k3⟩ := vx_keep h0 e1 hS hA hf hL hF
    obtain ⟨t2, a1, b1⟩ := kk r u t T'.heap (locs ++ L) e1.symm (by rw [← e2]; exact X'.warmed.alike) hp hb k1 k2 k3 T' rfl X'
    exact ⟨t2, st t2 a1, b1⟩
  · obtain ⟨k1, k2, k3⟩ := vx_keep h0 e1 hS hAX hf hL hF
    obtain ⟨t2, a1, b1⟩ := kx E ce q u t T'.heap (locs ++ L) e1.symm (by rw [← e2]; exact X'.warmed.alike) hp hb k1 k2 k3 (by rw [e1]; exact hce) hcv hcl T' rfl X'
    exact ⟨t2, st.trans a1, b1⟩
theorem vx_calll {S SX : Type} {post : Int64 → S → Prop} {px : SX → Prop} {B : S → State → Prop} {BX : String → SX → State → Prop} {AX : Nat → Prop} (hr : vx_Run p l e R s m args below meth c H locs cells slots mc ms (F0 m pc ls st0) rest (va_Ql post B A1 a) (vx_X px BX AX) free) (hS : va_S A0 H0 H locs) (hA : ∀ q, q < H.size → A1 q → A0 q) (hf : ∀ q, free q → A0 q) (hAX : ∀ q, q < H.size → AX q → A0 q)
    (kx : ∀ (E : String) (ce : Cell) (q9 : Addr) (u : SX) (t : State) (H1 : Heap) (locs1 : List Loc), t.heap = H1 → s.vm.Alike t.vm → px u → BX E u t → H.size ≤ H1.size → (∀ q : Nat, q < H.size → ¬ AX q → H1[q]? = H[q]?) → va_S A0 H0 H1 locs1 → H1[q9]? = some ce → ce.vm = .none → s.vm.findClass E = some ce.cls → vx_W p l e R s m args below meth c H1 locs1 (cells + mc) (slots + ms) Q (F0 m pc ls rest) q9)
    (kk : ∀ (r : Int64) (u : S) (t : State) (H1 : Heap) (locs1 : List Loc), t.heap = H1 → s.vm.Alike t.vm → post r u → B u t → H.size ≤ H1.size → (∀ q : Nat, q < H.size → ¬ A1 q → H1[q]? = H[q]?) → va_S A0 H0 H1 locs1 → W p l e R s m args below meth c H1 locs1 (cells + mc) (slots + ms) Q (F0 m (pc + 3) ls (.long r :: rest))) : W p l e R s m args below meth c H locs cells slots Q (F0 m pc ls st0) := by
  intro T hT X
  rcases hr T hT X with ⟨v, st₀, t, T', L, h0, X', hL, e1, e2, ⟨⟨r, u, hv, hp, hb⟩, hF⟩, st⟩ | ⟨q, st₀, t, T', L, E, ce, h0, X', hL, e1, e2, ⟨u, hp, hb, hF⟩, hce, hcv, hcl, st⟩
  · cases hv
    obtain ⟨k1, k2, k3⟩ := vx_keep h0 e1 hS hA hf hL hF
    obtain ⟨t2, a1, b1⟩ := kk r u t T'.heap (locs ++ L) e1.symm (by rw [← e2]; exact X'.warmed.alike) hp hb k1 k2 k3 T' rfl X'
    exact ⟨t2, st t2 a1, b1⟩
  · obtain ⟨k1, k2, k3⟩ := vx_keep h0 e1 hS hAX hf hL hF
    obtain ⟨t2, a1, b1⟩ := kx E ce q u t T'.heap (locs ++ L) e1.symm (by rw [← e2]; exact X'.warmed.alike) hp hb k1 k2 k3 (by rw [e1]; exact hce) hcv hcl T' rfl X'
    exact ⟨t2, st.trans a1, b1⟩
theorem vx_callf {S SX : Type} {post : UInt32 → S → Prop} {px : SX → Prop} {B : S → State → Prop} {BX : String → SX → State → Prop} {AX : Nat → Prop} (hr : vx_Run p l e R s m args below meth c H locs cells slots mc ms (F0 m pc ls st0) rest (va_Qf post B A1 a) (vx_X px BX AX) free) (hS : va_S A0 H0 H locs) (hA : ∀ q, q < H.size → A1 q → A0 q) (hf : ∀ q, free q → A0 q) (hAX : ∀ q, q < H.size → AX q → A0 q)
    (kx : ∀ (E : String) (ce : Cell) (q9 : Addr) (u : SX) (t : State) (H1 : Heap) (locs1 : List Loc), t.heap = H1 → s.vm.Alike t.vm → px u → BX E u t → H.size ≤ H1.size → (∀ q : Nat, q < H.size → ¬ AX q → H1[q]? = H[q]?) → va_S A0 H0 H1 locs1 → H1[q9]? = some ce → ce.vm = .none → s.vm.findClass E = some ce.cls → vx_W p l e R s m args below meth c H1 locs1 (cells + mc) (slots + ms) Q (F0 m pc ls rest) q9)
    (kk : ∀ (r : UInt32) (u : S) (t : State) (H1 : Heap) (locs1 : List Loc), t.heap = H1 → s.vm.Alike t.vm → post r u → B u t → H.size ≤ H1.size → (∀ q : Nat, q < H.size → ¬ A1 q → H1[q]? = H[q]?) → va_S A0 H0 H1 locs1 → W p l e R s m args below meth c H1 locs1 (cells + mc) (slots + ms) Q (F0 m (pc + 3) ls (.float r :: rest))) : W p l e R s m args below meth c H locs cells slots Q (F0 m pc ls st0) := by
  intro T hT X
  rcases hr T hT X with ⟨v, st₀, t, T', L, h0, X', hL, e1, e2, ⟨⟨r, u, hv, hp, hb⟩, hF⟩, st⟩ | ⟨q, st₀, t, T', L, E, ce, h0, X', hL, e1, e2, ⟨u, hp, hb, hF⟩, hce, hcv, hcl, st⟩
  · cases hv
    obtain ⟨k1, k2, k3⟩ := vx_keep h0 e1 hS hA hf hL hF
    obtain ⟨t2, a1, b1⟩ := kk r u t T'.heap (locs ++ L) e1.symm (by rw [← e2]; exact X'.warmed.alike) hp hb k1 k2 k3 T' rfl X'
    exact ⟨t2, st t2 a1, b1⟩
  · obtain ⟨k1, k2, k3⟩ := vx_keep h0 e1 hS hAX hf hL hF
    obtain ⟨t2, a1, b1⟩ := kx E ce q u t T'.heap (locs ++ L) e1.symm (by rw [← e2]; exact X'.warmed.alike) hp hb k1 k2 k3 (by rw [e1]; exact hce) hcv hcl T' rfl X'
    exact ⟨t2, st.trans a1, b1⟩
theorem vx_calld {S SX : Type} {post : UInt64 → S → Prop} {px : SX → Prop} {B : S → State → Prop} {BX : String → SX → State → Prop} {AX : Nat → Prop} (hr : vx_Run p l e R s m args below meth c H locs cells slots mc ms (F0 m pc ls st0) rest (va_Qd post B A1 a) (vx_X px BX AX) free) (hS : va_S A0 H0 H locs) (hA : ∀ q, q < H.size → A1 q → A0 q) (hf : ∀ q, free q → A0 q) (hAX : ∀ q, q < H.size → AX q → A0 q)
    (kx : ∀ (E : String) (ce : Cell) (q9 : Addr) (u : SX) (t : State) (H1 : Heap) (locs1 : List Loc), t.heap = H1 → s.vm.Alike t.vm → px u → BX E u t → H.size ≤ H1.size → (∀ q : Nat, q < H.size → ¬ AX q → H1[q]? = H[q]?) → va_S A0 H0 H1 locs1 → H1[q9]? = some ce → ce.vm = .none → s.vm.findClass E = some ce.cls → vx_W p l e R s m args below meth c H1 locs1 (cells + mc) (slots + ms) Q (F0 m pc ls rest) q9)
    (kk : ∀ (r : UInt64) (u : S) (t : State) (H1 : Heap) (locs1 : List Loc), t.heap = H1 → s.vm.Alike t.vm → post r u → B u t → H.size ≤ H1.size → (∀ q : Nat, q < H.size → ¬ A1 q → H1[q]? = H[q]?) → va_S A0 H0 H1 locs1 → W p l e R s m args below meth c H1 locs1 (cells + mc) (slots + ms) Q (F0 m (pc + 3) ls (.double r :: rest))) : W p l e R s m args below meth c H locs cells slots Q (F0 m pc ls st0) := by
  intro T hT X
  rcases hr T hT X with ⟨v, st₀, t, T', L, h0, X', hL, e1, e2, ⟨⟨r, u, hv, hp, hb⟩, hF⟩, st⟩ | ⟨q, st₀, t, T', L, E, ce, h0, X', hL, e1, e2, ⟨u, hp, hb, hF⟩, hce, hcv, hcl, st⟩
  · cases hv
    obtain ⟨k1, k2, k3⟩ := vx_keep h0 e1 hS hA hf hL hF
    obtain ⟨t2, a1, b1⟩ := kk r u t T'.heap (locs ++ L) e1.symm (by rw [← e2]; exact X'.warmed.alike) hp hb k1 k2 k3 T' rfl X'
    exact ⟨t2, st t2 a1, b1⟩
  · obtain ⟨k1, k2, k3⟩ := vx_keep h0 e1 hS hAX hf hL hF
    obtain ⟨t2, a1, b1⟩ := kx E ce q u t T'.heap (locs ++ L) e1.symm (by rw [← e2]; exact X'.warmed.alike) hp hb k1 k2 k3 (by rw [e1]; exact hce) hcv hcl T' rfl X'
    exact ⟨t2, st.trans a1, b1⟩
theorem vx_callv {S SX : Type} {post : S → Prop} {px : SX → Prop} {B : S → State → Prop} {BX : String → SX → State → Prop} {AX : Nat → Prop} (hr : vx_Run p l e R s m args below meth c H locs cells slots mc ms (F0 m pc ls st0) rest (va_Qv post B A1 a) (vx_X px BX AX) free) (hS : va_S A0 H0 H locs) (hA : ∀ q, q < H.size → A1 q → A0 q) (hf : ∀ q, free q → A0 q) (hAX : ∀ q, q < H.size → AX q → A0 q)
    (kx : ∀ (E : String) (ce : Cell) (q9 : Addr) (u : SX) (t : State) (H1 : Heap) (locs1 : List Loc), t.heap = H1 → s.vm.Alike t.vm → px u → BX E u t → H.size ≤ H1.size → (∀ q : Nat, q < H.size → ¬ AX q → H1[q]? = H[q]?) → va_S A0 H0 H1 locs1 → H1[q9]? = some ce → ce.vm = .none → s.vm.findClass E = some ce.cls → vx_W p l e R s m args below meth c H1 locs1 (cells + mc) (slots + ms) Q (F0 m pc ls rest) q9)
    (kk : ∀ (u : S) (t : State) (H1 : Heap) (locs1 : List Loc), t.heap = H1 → s.vm.Alike t.vm → post u → B u t → H.size ≤ H1.size → (∀ q : Nat, q < H.size → ¬ A1 q → H1[q]? = H[q]?) → va_S A0 H0 H1 locs1 → W p l e R s m args below meth c H1 locs1 (cells + mc) (slots + ms) Q (F0 m (pc + 3) ls (rest))) : W p l e R s m args below meth c H locs cells slots Q (F0 m pc ls st0) := by
  intro T hT X
  rcases hr T hT X with ⟨v, st₀, t, T', L, h0, X', hL, e1, e2, ⟨⟨u, hv, hp, hb⟩, hF⟩, st⟩ | ⟨q, st₀, t, T', L, E, ce, h0, X', hL, e1, e2, ⟨u, hp, hb, hF⟩, hce, hcv, hcl, st⟩
  · cases hv
    obtain ⟨k1, k2, k3⟩ := vx_keep h0 e1 hS hA hf hL hF
    obtain ⟨t2, a1, b1⟩ := kk u t T'.heap (locs ++ L) e1.symm (by rw [← e2]; exact X'.warmed.alike) hp hb k1 k2 k3 T' rfl X'
    exact ⟨t2, st t2 a1, b1⟩
  · obtain ⟨k1, k2, k3⟩ := vx_keep h0 e1 hS hAX hf hL hF
    obtain ⟨t2, a1, b1⟩ := kx E ce q u t T'.heap (locs ++ L) e1.symm (by rw [← e2]; exact X'.warmed.alike) hp hb k1 k2 k3 (by rw [e1]; exact hce) hcv hcl T' rfl X'
    exact ⟨t2, st.trans a1, b1⟩
/-- caught by the row x of this method's table; the rows ahead don't take it -/
theorem vx_catch {own name : String} {E : String} {ce : Cell} {q : Addr} (hown : s.vm.findClass own = some m.cls) (pre : List ExceptionTableEntry) (x : ExceptionTableEntry) (suf : List ExceptionTableEntry) (hsplit : c.exceptionTable.toList = pre ++ x :: suf)
    (hpass : ∀ z ∈ pre, covers z pc = false ∨ (z.catchType ≠ 0 ∧ ∃ nm : String, (Cond.classLink own z.catchType nm).before args s = true ∧ va_Nc E nm s)) (hx : covers x pc = true) (h0 : x.catchType ≠ 0)
    (hlink : (Cond.classLink own x.catchType name).before args s = true) (hcast : (Cond.castable E name).before args s = true) (hcell : H[q]? = some ce) (hv : ce.vm = .none) (hcl : s.vm.findClass E = some ce.cls)
    (kk : W p l e R s m args below meth c H locs cells slots Q (F0 m x.handlerPc ls [.ref q])) : vx_W p l e R s m args below meth c H locs cells slots Q (F0 m pc ls rest) q := by
  intro T hT X
  have hpl : e.platform.magicAccessors = ({} : Platform).magicAccessors := by rw [X.admits.platform]
  obtain ⟨c3, c4, hc3, hc4, hasg⟩ := Cond.castable_spec hcast
  cases Option.some.inj (hc3.symm.trans hcl)
  obtain ⟨c5, hc5, hcl5⟩ := Cond.classLink_spec hown hlink e.platform hpl
  cases Option.some.inj (hc4.symm.trans hc5)
  obtain ⟨vm', X', st⟩ := X.thenCaughtThrough q (g := F0 m pc ls rest) rfl (Steps.refl _) (by rw [hT]; exact hcell) (by rw [hv]; rfl) (by obtain ⟨k9, h9, -⟩ := Vm.findClass_spec hcl; exact ⟨k9, h9⟩) pre x suf hsplit
    (fun z hz => by
      rcases hpass z hz with h | ⟨hz0, nm, hl1, hn1⟩
      · exact Or.inl h
      · obtain ⟨c6, hc6, hcl6⟩ := Cond.classLink_spec hown hl1 e.platform hpl
        obtain ⟨a8, b8, h1, h2, h3⟩ := hn1
        cases Option.some.inj (h1.symm.trans hcl)
        cases Option.some.inj (h2.symm.trans hc6)
        exact Or.inr ⟨hz0, _, hcl6, h3⟩) hx (Or.inr ⟨h0, c4, hcl5, hasg⟩)
  obtain ⟨t, a1, b1⟩ := kk (T.setVm vm') hT X'
  exact ⟨t, st.trans a1, b1⟩
end Rows
section Ends
variable {p : Program} {l : Launch} {e : Env} {R : Room} {s : State} {m : MethodId} {args : Array Value} {below : List Frame} {meth : Method} {c : Code} {H : Heap} {locs : List Loc} {cells slots : Nat} {Q : State → Prop}
variable {mc ms : Nat} {free : Addr → Prop} {A0 A1 : Nat → Prop} {H0 : Heap} {a : Array Value} {ls : Array Slot} {st0 rest : List Value}
variable {Qc : Array Value → State → Outcome → State → Prop} {XC : String → State → State → Prop}
/-- what a body that may throw owes at its end -/
def vx_MQ (below : List Frame) (Qc : Array Value → State → Outcome → State → Prop) (XC : String → State → State → Prop) (a : Array Value) (s : State) (mc ms : Nat) (free : Addr → Prop) : State → Prop := fun t =>
  ∃ o, t.status = .running ∧ Ended t below o ∧ vx_Q Qc XC mc ms free a s o t
theorem vx_ret {g : JFrame} {mc ms : Nat} (k : W p l e R s m args below meth c H locs cells slots (MQ below Qc args s mc ms free) g) : W p l e R s m args below meth c H locs cells slots (vx_MQ below Qc XC args s mc ms free) g := by
  intro T hT X
  obtain ⟨t, a1, o, b1, b2, b3, b4⟩ := k T hT X
  exact ⟨t, a1, o, b1, b2, Or.inl ⟨b3, b4⟩⟩
/-- not caught here: it goes on to the caller -/
theorem vx_widen {g : JFrame} {q : Addr} {k n : Nat} (h1 : cells ≤ k) (h2 : slots ≤ n) (kk : vx_W p l e R s m args below meth c H locs k n Q g q) : vx_W p l e R s m args below meth c H locs cells slots Q g q := fun T hT X => kk T hT (stand_widen X h1 h2)
theorem vx_out {pc : Nat} {E : String} {ce : Cell} {q : Addr} {mc ms : Nat} (hout : ∀ x ∈ c.exceptionTable.toList, covers x pc = false) (hlocks : meth.locks = false) (hcell : H[q]? = some ce) (hv : ce.vm = .none) (hcl : s.vm.findClass E = some ce.cls)
    (hx : ∀ t : State, t.heap = H → s.vm.Alike t.vm → XC E s t) (hf : ∀ z ∈ locs, free z.base) (hc : cells ≤ mc) (hs : slots ≤ ms) :
    vx_W p l e R s m args below meth c H locs cells slots (vx_MQ below Qc XC args s mc ms free) (F0 m pc ls rest) q := by
  intro T hT X
  obtain ⟨st1, hrun, hend, hW, hsm⟩ := X.leaveThrown q (g := F0 m pc ls rest) rfl rfl rfl hout hlocks
  have hcell9 : (T.setFrames (.throwing q :: below)).heap[q]? = some ce := by
    show T.heap[q]? = some ce
    rw [hT]; exact hcell
  exact ⟨_, st1, .threw q, hrun, hend, Or.inr ⟨q, rfl, E, ce, locs, hx _ hT hW.alike, hcell9, hv, hcl, hW, hsm.mono hc hs, hf⟩⟩
theorem vx_frame {U : State} {k n : Nat} (h : s.sameButNew ({ U with vm := s.vm } : State) locs k n) : s.heap.size ≤ U.heap.size ∧ ∀ q : Nat, q < s.heap.size → (∀ z ∈ locs, z.base ≠ q) → U.heap[q]? = s.heap[q]? := by
  obtain ⟨-, h2, -, -, -, h6⟩ := h
  refine ⟨h2, fun q hq hz => ?_⟩
  obtain ⟨c9, e1, e2, e3, e4⟩ := h6 q _ (Array.getElem?_eq_getElem hq)
  have hs : c9.slots = (s.heap[q]).slots := Array.ext_getElem? fun i => e4 i fun hm => hz _ hm rfl
  have h9 : c9 = s.heap[q] := by
    rw [hs] at e2
    exact e2
  have e5 : U.heap[q]? = some c9 := e1
  rw [e5, h9, Array.getElem?_eq_getElem hq]
/-- the words of a throw but the four that speak of the heap -/
def vx_no (w : Cond) : Bool := decide (w ≠ .isRef (.static Bundle.tN "UNASSIGNED_STACK" Bundle.steD)) && decide (w ≠ .isRef (.static Bundle.tN "SUPPRESSED_SENTINEL" Bundle.listD)) && decide (w ≠ .laysStatic Bundle.tN "UNASSIGNED_STACK" Bundle.steD) && decide (w ≠ .laysStatic Bundle.tN "SUPPRESSED_SENTINEL" Bundle.listD)
def vx_at0 (own : String) (ic : Nat) (X : String) (names : List String) : List Cond := (Bundle.ownAtoms0 own ic X names).filter vx_no
def vx_atS (own : String) (ic : Nat) (X : String) (names : List String) : List Cond := (Bundle.ownAtoms own ic X names).filter vx_no
/-- a word that the tables alone decide, or a good one -/
def vx_ot (w : Cond) : Bool := w.onTables || goodWord w
theorem vx_ot_at {args a' : Array Value} {s U : State} {w : Cond} (hW : s.WarmedH U.vm) (hvm : s.vm = U.vm) (hg : vx_ot w = true) (h : w.before args s = true) : w.before a' U = true := by
  simp only [vx_ot, Bool.or_eq_true] at hg
  rcases hg with hg | hg
  · exact va_tabs hg hvm h
  · exact word_at hW (good_of_word hg) h
/-- a list's words: the good ones out of the method's own list, the others by premises of their own -/
theorem vx_hat {args : Array Value} {s : State} {L B : List Cond} (h1 : ∀ w ∈ L.filter goodWord, w.before args s = true) (h2 : ∀ w ∈ L.filter (fun w => !goodWord w), w ∈ B) (h3 : ∀ w ∈ B, w.before args s = true) : ∀ w ∈ L, w.before args s = true := by
  intro w hw
  by_cases g : goodWord w = true
  · exact h1 w (List.mem_filter.mpr ⟨hw, g⟩)
  · refine h3 w (h2 w (List.mem_filter.mpr ⟨hw, ?_⟩))
    show (!goodWord w) = true
    cases hgw : goodWord w
    · rfl
    · exact absurd hgw g
theorem vx_c {args : Array Value} {s : State} {w : Cond} {B : List Cond} (h : w.before args s = true) (t : ∀ w ∈ B, w.before args s = true) : ∀ w' ∈ w :: B, w'.before args s = true := fun w' h' => (List.mem_cons.mp h').elim (fun e => by rw [e]; exact h) (t w')
theorem vx_n {args : Array Value} {s : State} : ∀ w ∈ ([] : List Cond), w.before args s = true := fun _ h => nomatch h
theorem vx_own {args : Array Value} {s : State} {L : List Cond} (h1 : ∀ w ∈ L.filter vx_no, w.before args s = true)
    (hU : (Cond.isRef (.static Bundle.tN "UNASSIGNED_STACK" Bundle.steD)).before args s = true) (hN : (Cond.isRef (.static Bundle.tN "SUPPRESSED_SENTINEL" Bundle.listD)).before args s = true)
    (lU : (Cond.laysStatic Bundle.tN "UNASSIGNED_STACK" Bundle.steD).before args s = true) (lN : (Cond.laysStatic Bundle.tN "SUPPRESSED_SENTINEL" Bundle.listD).before args s = true) : ∀ w ∈ L, w.before args s = true := by
  intro w hw
  by_cases e1 : w = .isRef (.static Bundle.tN "UNASSIGNED_STACK" Bundle.steD)
  · rw [e1]; exact hU
  · by_cases e2 : w = .isRef (.static Bundle.tN "SUPPRESSED_SENTINEL" Bundle.listD)
    · rw [e2]; exact hN
    · by_cases e3 : w = .laysStatic Bundle.tN "UNASSIGNED_STACK" Bundle.steD
      · rw [e3]; exact lU
      · by_cases e4 : w = .laysStatic Bundle.tN "SUPPRESSED_SENTINEL" Bundle.listD
        · rw [e4]; exact lN
        · exact h1 w (List.mem_filter.mpr ⟨hw, by unfold vx_no; rw [decide_eq_true e1, decide_eq_true e2, decide_eq_true e3, decide_eq_true e4]; rfl⟩)
/-- where a static field lies, its class's statics cell in H -/
def vx_L (C n d : String) (A : Nat → Prop) (U : State) (H : Heap) : Prop := ∃ (c : ClassId) (k : Class) (i : Nat) (f : Field) (a : Nat) (cell : Cell), U.vm.findClass C = some c ∧ U.fieldFound? C n d = some (c, k, i, f) ∧ f.isStatic = true ∧ k.statics = some a ∧ H[a]? = some cell ∧ cell.vm.isStatics = true ∧ cell.cls = c ∧ f.slot < cell.slots.size ∧ k.staticTypes[f.slot]? = some f.type ∧ ¬ A a
theorem vx_L.moved {C n d : String} {A : Nat → Prop} {u U : State} {H : Heap} (hvm : u.vm.Alike U.vm) (h : vx_L C n d A u H) : vx_L C n d A U H := by
  obtain ⟨c, k, i, f, a, cell, h1, h2, h3, h4, h5, h6, h7, h8, h9, h10⟩ := h
  obtain ⟨k', hi', he⟩ := State.fieldFound?_setVm hvm h2
  exact ⟨c, k', i, f, a, cell, by rw [hvm.findClass]; exact h1, hi', h3, by rw [he]; exact h4, h5, h6, h7, h8, by rw [he]; exact h9, h10⟩
theorem vx_L.kept {C n d : String} {A : Nat → Prop} {U : State} {H H1 : Heap} (h : vx_L C n d A U H) (hq : ∀ a : Nat, a < H.size → ¬ A a → H1[a]? = H[a]?) : vx_L C n d A U H1 := by
  obtain ⟨c, k, i, f, a, cell, h1, h2, h3, h4, h5, h6, h7, h8, h9, h10⟩ := h
  exact ⟨c, k, i, f, a, cell, h1, h2, h3, h4, by rw [hq a (Array.getElem?_eq_some_iff.mp h5).1 h10]; exact h5, h6, h7, h8, h9, h10⟩
theorem vx_L.narrow {C n d : String} {A B : Nat → Prop} {U : State} {H : Heap} (h : vx_L C n d A U H) (hAB : ∀ q, B q → A q) : vx_L C n d B U H := by
  obtain ⟨c, k, i, f, a, cell, h1, h2, h3, h4, h5, h6, h7, h8, h9, h10⟩ := h
  exact ⟨c, k, i, f, a, cell, h1, h2, h3, h4, h5, h6, h7, h8, h9, fun z => h10 (hAB _ z)⟩
theorem vx_L.word {C n d : String} {A : Nat → Prop} {s : State} {args : Array Value} (h : vx_L C n d A s s.heap) : (Cond.laysStatic C n d).before args s = true := by
  obtain ⟨c, k, i, f, a, cell, h1, h2, h3, h4, h5, h6, h7, h8, h9, -⟩ := h
  show (Cond.laysStatic C n d).holds args s none s [] = true
  exact Cond.laysStatic_of h1 h2 h3 h4 h5 h6 h7 h8 h9
/-- .. and what it holds: null or some reference -/
def vx_Zq (C n d : String) (A : Nat → Prop) (U : State) (H : Heap) : Prop := va_Zq C n d A U H ∧ vx_L C n d A U H
theorem vx_Zq.moved {C n d : String} {A : Nat → Prop} {u U : State} {H : Heap} (hvm : u.vm.Alike U.vm) (h : vx_Zq C n d A u H) : vx_Zq C n d A U H := ⟨va_Zq.moved hvm h.1, vx_L.moved hvm h.2⟩
theorem vx_Zq.kept {C n d : String} {A : Nat → Prop} {U : State} {H H1 : Heap} (h : vx_Zq C n d A U H) (hq : ∀ a : Nat, a < H.size → ¬ A a → H1[a]? = H[a]?) : vx_Zq C n d A U H1 := ⟨va_Zq.kept h.1 hq, vx_L.kept h.2 hq⟩
theorem vx_Zq.narrow {C n d : String} {A B : Nat → Prop} {U : State} {H : Heap} (h : vx_Zq C n d A U H) (hAB : ∀ q, B q → A q) : vx_Zq C n d B U H := ⟨va_Zq.narrow h.1 hAB, vx_L.narrow h.2 hAB⟩
theorem vx_Zqof {args : Array Value} {s : State} {C n d : String} {A : Nat → Prop} (hl : (Cond.laysStatic C n d).before args s = true) (hini : (Cond.initialized C).before args s = true) (h : (Cond.isRef (.static C n d)).before args s = true) (hA : ∀ a : Nat, a < s.heap.size → ¬ A a) : vx_Zq C n d A s s.heap := by
  refine ⟨va_Zqof hl hini h hA, ?_⟩
  obtain ⟨c, k, i, f, a, cell, h1, h2, h3, h4, h5, h6, h7, h8, h9⟩ := Cond.laysStatic_spec hl
  exact ⟨c, k, i, f, a, cell, h1, h2, h3, h4, h5, h6, h7, h8, h9, hA a (Array.getElem?_eq_some_iff.mp h5).1⟩
theorem vx_isRef {C n d : String} {v : Value} {A : Nat → Prop} {s : State} {args : Array Value} (h : va_Z C n d v A s s.heap) (hv : v.isRef = true) : (Cond.isRef (.static C n d)).before args s = true := by
  obtain ⟨cf, kf, fi, f, a, cell, h1, h2, h3, h4, h5, h6, h7, -⟩ := h
  have he : (Term.static C n d).eval args s none [] s = some v := by
    simp [Term.eval, State.fieldNamed?, h1, h2, h4, h5, h6, h7]
  simp only [Cond.before, Cond.holds, Cond.value, he]
  cases v <;> simp_all [Value.isRef]
theorem vx_isRefq {C n d : String} {A : Nat → Prop} {s : State} {args : Array Value} (h : va_Zq C n d A s s.heap) : (Cond.isRef (.static C n d)).before args s = true := by
  rcases h with h | ⟨t, h⟩
  · exact vx_isRef h rfl
  · exact vx_isRef h rfl
/-- the same frame, seen from here: as if the method were called anew in this heap -/
theorem vx_rebase {T : State} (X : Stand p l e R s m args below meth c T locs cells slots) {R' : Room} (hf : R'.frames ≤ R.frames) (hl : R'.locals ≤ R.locals) (hc : cells + R'.cells ≤ R.cells) (hs : slots + R'.slots ≤ R.slots) :
    Stand p l e R' ((T.setVm s.vm).setFrames (.invoking m args :: below)) m args below meth c T [] 0 0 := by
  have htop : (T.setVm s.vm).topJava?.isSome := X.here.top
  have hF : ((T.setVm s.vm).setFrames (.invoking m args :: below)).frames = .invoking m args :: below := State.frames_setFrames _ (State.cur_lt_of_top htop)
  obtain ⟨g₀, hg0⟩ := Option.isSome_iff_exists.mp htop
  obtain ⟨r, hr⟩ := State.topJava?_eq_some.mp hg0
  have hl9 : e.platform.stackLimits (T.setVm s.vm).me = e.platform.stackLimits s.me := X.limits
  have hb9 : (T.setVm s.vm).me.stackBytes = s.me.stackBytes := X.bytes
  refine ⟨X.admits, X.cas, X.clock, hF, ?_, X.hears, X.method, X.code, X.here, X.tail, X.warmed, ?_, ?_, ?_⟩
  · have h := X.room
    have hU : ((T.setVm s.vm).setFrames (.invoking m args :: below)).localsInUse = s.localsInUse := by
      rw [State.localsInUse_invoking hF (meth := meth) (c := c) X.method X.code, State.localsInUse_invoking X.frames X.method X.code]
    simp only [State.hasRoom, Bool.and_eq_true, decide_eq_true_eq] at h ⊢
    obtain ⟨⟨⟨⟨h1, h2, h3, h4, h5, h6⟩, h7⟩, h8⟩, h9⟩ := h
    rw [X.frames, List.length_cons] at h2 h3
    have q1 := X.heapSize
    have q2 := X.used
    simp only [hF, hU, List.length_cons, State.stackLimits_setFrames, State.stackBytes_setFrames, hl9, hb9]
    refine ⟨⟨⟨⟨by omega, by omega, by omega, by omega, by omega, h6⟩, ?_⟩, ?_⟩, X.book⟩
    · show T.heap.size + R'.cells ≤ e.platform.maxCells
      omega
    · show T.slotsUsed + R'.slots ≤ e.platform.maxSlots
      omega
  · rw [State.stackLimits_setFrames]; rfl
  · rw [State.stackBytes_setFrames]; rfl
  · refine ⟨?_, Nat.le_refl _, Nat.le_refl _, ?_, ?_, fun a c9 h9 => ⟨c9, h9, rfl, rfl, fun _ _ => rfl⟩⟩
    · obtain ⟨t, ht, -⟩ := State.frames_cons hr
      show T.setVm s.vm = { ((T.setVm s.vm).setFrames (.invoking m args :: below)).setFrames (T.setVm s.vm).frames with heap := T.heap, slotsUsed := T.slotsUsed }
      rw [State.setFrames_setFrames, State.setFrames_self ht]
      rfl
    · show T.slotsUsed = T.slotsUsed + ((T.heap.toList.drop T.heap.size).map (·.slots.size)).sum
      rw [List.drop_eq_nil_of_le (Nat.le_of_eq Array.length_toList)]
      rfl
    · show ((T.heap.toList.drop T.heap.size).map (·.slots.size)).sum ≤ 0
      rw [List.drop_eq_nil_of_le (Nat.le_of_eq Array.length_toList)]
      exact Nat.le_refl _
/-- 'throw new E()': new; dup; invokespecial; athrow -/
theorem vx_throw0 {cc : ByteArray} {pc : Nat} (hexec : p.tables.exec = Jvm.exec) (hb : c.code = cc) (hl : l.stackTraces = false) {own cls : String} {names : List String} {ik ic mc ms : Nat} {A : Nat → Prop}
    (hown : s.vm.findClass own = some m.cls) (hcls : Bundle.fit cls = true) (hnames : ∀ n ∈ names, Bundle.fit n = true)
    (hk : (Cond.classLink own ik cls).before args s = true) (hini : (Cond.initialized cls).before args s = true) (hat : ∀ w ∈ vx_at0 own ic cls names, w.before args s = true)
    (hgood : ∀ w ∈ Cond.classLink own ik cls :: Cond.initialized cls :: vx_at0 own ic cls names, vx_ot w = true)
    (hU : vx_Zq Bundle.tN "UNASSIGNED_STACK" Bundle.steD A s s.heap) (hN : vx_Zq Bundle.tN "SUPPRESSED_SENTINEL" Bundle.listD A s s.heap) (hS : va_S A s.heap H locs) (hsize : ls.size = c.maxLocals)
    (d0 : decode cc pc = .ok (.new ik, 3)) (d3 : decode cc (pc + 3) = .ok (.dup, 1)) (d4 : decode cc (pc + 4) = .ok (.invokespecial ic, 3)) (d7 : decode cc (pc + 7) = .ok (.athrow, 1))
    (hout : ∀ x ∈ c.exceptionTable.toList, covers x (pc + 7) = false)
    (hRframes : names.length + 3 < R.frames) (hRlocals : (rest.map fun v => v.category).sum + (13 * (names.length + 1) + 42) ≤ R.locals) (hRcells : cells + 1 ≤ R.cells) (hRslots : slots + 6 ≤ R.slots) (hlocks : meth.locks = false)
    (hx : ∀ t : State, s.vm.Alike t.vm → H.size ≤ t.heap.size → (∀ q : Nat, q < H.size → t.heap[q]? = H[q]?) → XC cls s t)
    (hf : ∀ z ∈ locs, free z.base) (hc : cells + 1 ≤ mc) (hs : slots + 6 ≤ ms) :
    W p l e R s m args below meth c H locs cells slots (vx_MQ below Qc XC args s mc ms free) (F0 m pc ls rest) := by
  intro T hT X
  have htr : e.platform.stackTraces = false := (show e.platform.stackTraces = l.stackTraces by rw [X.admits.platform]).trans hl
  have Y := vx_rebase X (R' := { frames := R.frames, locals := R.locals, cells := 1, slots := 6 }) (Nat.le_refl _) (Nat.le_refl _) hRcells hRslots
  obtain ⟨s', hA⟩ : ∃ z, z = (T.setVm s.vm).setFrames (.invoking m args :: below) := ⟨_, rfl⟩
  rw [← hA] at Y
  have hvm : s'.vm = s.vm := by rw [hA]; rfl
  have hhp : s'.heap = H := by rw [hA]; exact hT
  have hW0 : s.WarmedH s'.vm := by rw [hvm]; exact State.WarmedH.refl s
  have hat' : ∀ w ∈ vx_at0 own ic cls names, w.before args s' = true := fun w hw => vx_ot_at hW0 hvm.symm (hgood w (List.mem_cons_of_mem _ (List.mem_cons_of_mem _ hw))) (hat w hw)
  have hk' : (Cond.classLink own ik cls).before args s' = true := vx_ot_at hW0 hvm.symm (hgood _ List.mem_cons_self) hk
  have hini' : (Cond.initialized cls).before args s' = true := vx_ot_at hW0 hvm.symm (hgood _ (List.mem_cons_of_mem _ List.mem_cons_self)) hini
  have hU' : vx_Zq Bundle.tN "UNASSIGNED_STACK" Bundle.steD A s' s'.heap := by rw [hhp]; exact vx_Zq.moved hW0.alike (hU.kept hS.2.1)
  have hN' : vx_Zq Bundle.tN "SUPPRESSED_SENTINEL" Bundle.listD A s' s'.heap := by rw [hhp]; exact vx_Zq.moved hW0.alike (hN.kept hS.2.1)
  have h : ∀ w ∈ Bundle.ownAtoms0 own ic cls names, w.before args s' = true := vx_own hat' (vx_isRefq hU'.1) (vx_isRefq hN'.1) hU'.2.word hN'.2.word
  have hown' : s'.vm.findClass own = some m.cls := by rw [hvm]; exact hown
  have hins : (Cond.instantiable cls 6).before args s' = true := h _ (by simp [Bundle.ownAtoms0])
  obtain ⟨vm₁, cX, kX, hfX, hkX, -, -, X₁, st1⟩ := Y.newCold hexec (own := own) (C := cls) (index := ik) (n := 6) hown' hk' hins hini'
    (g := F0 m pc ls rest) rfl (by rw [hb]; exact d0) (Nat.le_refl _) (Nat.le_refl _)
  generalize hT1 : (T.setVm vm₁).pushCell { cls := cX, slots := kX.instanceTypes.map defaultValue, vm := .none } = T1 at X₁ st1
  have hcat : (Value.ref T.heap.size).category = 1 := rfl
  have hcellA : T1.heap[T.heap.size]? = some (freshCell cX kX) := by rw [← hT1]; exact State.heap_pushCell_size _ _
  have d3' : decode c.code (pc + 3) = .ok (.dup, 1) := by rw [hb]; exact d3
  obtain ⟨U, hsteps, hrun, hend, hW, hsame, ce, hce, hO⟩ := X₁.ctorThrow0 hexec htr (own := own) (cls := cls) (names := names) (ic := ic) hown' hcls hnames h (fun x hx => nomatch hx) hfX hkX hcellA (by rw [hhp, hT]; exact Nat.le_refl _)
    (g := { method := m, pc := pc + 4, locals := ls, stack := .ref T.heap.size :: .ref T.heap.size :: rest, locked := none }) rfl hsize rfl rfl (rest := rest) rfl
    (by rw [hb]; exact d4) (by rw [hb]; exact d7) hout hRframes (by simp only [List.map_cons, List.sum_cons, hcat]; omega) hlocks
  obtain ⟨f1, f2⟩ := vx_frame hsame
  rw [hhp] at f1 f2
  have hWs : s.WarmedH U.vm := State.WarmedH.trans hW0 hW
  have hcl : s.vm.findClass cls = some ce.cls := by
    have h9 := hO.cls
    rw [hvm] at h9
    exact h9
  have hall : s.sameButNew ({ U with vm := s.vm } : State) locs mc ms := by
    subst hA
    obtain ⟨e1, e2⟩ := hsame
    rw [State.setFrames_setFrames] at e1
    have h2 : (T.setVm s.vm).sameButNew ({ U with vm := s.vm } : State) [] (0 + 1) (0 + 6) := ⟨e1, e2⟩
    have h3 := X.same.trans h2
    rw [List.append_nil] at h3
    exact h3.mono hc hs
  refine ⟨U, ?_, .threw T.heap.size, hrun, hend, Or.inr ⟨T.heap.size, rfl, cls, ce, locs, hx U hWs.alike f1 (fun q hq => f2 q hq (fun z hz => nomatch hz)), hce, hO.vm, hcl, hWs, hall, hf⟩⟩
  refine st1 _ ?_
  show Steps p.tables e below (T1.setTop { method := m, pc := pc + 3, locals := ls, stack := .ref T.heap.size :: rest, locked := none }) _
  jvm_step X₁.here [X₁.here.top, hexec, d3', Value.category]
  exact hsteps
/-- 'throw new E("text")': new; dup; ldc; invokespecial; athrow -/
theorem vx_throwS {cc : ByteArray} {pc : Nat} (hexec : p.tables.exec = Jvm.exec) (hb : c.code = cc) (hl : l.stackTraces = false) {own cls text : String} {names : List String} {ik is ic mc ms sa : Nat} {A : Nat → Prop}
    (hown : s.vm.findClass own = some m.cls) (hcls : Bundle.fit cls = true) (hnames : ∀ n ∈ names, Bundle.fit n = true)
    (hk : (Cond.classLink own ik cls).before args s = true) (hini : (Cond.initialized cls).before args s = true) (hstr : vk_R own is text sa s) (hat : ∀ w ∈ vx_atS own ic cls names, w.before args s = true)
    (hgood : ∀ w ∈ Cond.classLink own ik cls :: Cond.initialized cls :: vx_atS own ic cls names, vx_ot w = true)
    (hU : vx_Zq Bundle.tN "UNASSIGNED_STACK" Bundle.steD A s s.heap) (hN : vx_Zq Bundle.tN "SUPPRESSED_SENTINEL" Bundle.listD A s s.heap) (hS : va_S A s.heap H locs) (hsize : ls.size = c.maxLocals)
    (d0 : decode cc pc = .ok (.new ik, 3)) (d3 : decode cc (pc + 3) = .ok (.dup, 1)) (d4 : decode cc (pc + 4) = .ok (.ldc is, 2)) (d6 : decode cc (pc + 6) = .ok (.invokespecial ic, 3)) (d9 : decode cc (pc + 9) = .ok (.athrow, 1))
    (hout : ∀ x ∈ c.exceptionTable.toList, covers x (pc + 9) = false)
    (hRframes : names.length + 3 < R.frames) (hRlocals : (rest.map fun v => v.category).sum + (13 * (names.length + 1) + 43) ≤ R.locals) (hRcells : cells + 1 ≤ R.cells) (hRslots : slots + 6 ≤ R.slots) (hlocks : meth.locks = false)
    (hx : ∀ t : State, s.vm.Alike t.vm → H.size ≤ t.heap.size → (∀ q : Nat, q < H.size → t.heap[q]? = H[q]?) → XC cls s t)
    (hf : ∀ z ∈ locs, free z.base) (hc : cells + 1 ≤ mc) (hs : slots + 6 ≤ ms) :
    W p l e R s m args below meth c H locs cells slots (vx_MQ below Qc XC args s mc ms free) (F0 m pc ls rest) := by
  intro T hT X
  have htr : e.platform.stackTraces = false := (show e.platform.stackTraces = l.stackTraces by rw [X.admits.platform]).trans hl
  have Y := vx_rebase X (R' := { frames := R.frames, locals := R.locals, cells := 1, slots := 6 }) (Nat.le_refl _) (Nat.le_refl _) hRcells hRslots
  obtain ⟨s', hA⟩ : ∃ z, z = (T.setVm s.vm).setFrames (.invoking m args :: below) := ⟨_, rfl⟩
  rw [← hA] at Y
  have hvm : s'.vm = s.vm := by rw [hA]; rfl
  have hhp : s'.heap = H := by rw [hA]; exact hT
  have hW0 : s.WarmedH s'.vm := by rw [hvm]; exact State.WarmedH.refl s
  have hat' : ∀ w ∈ vx_atS own ic cls names, w.before args s' = true := fun w hw => vx_ot_at hW0 hvm.symm (hgood w (List.mem_cons_of_mem _ (List.mem_cons_of_mem _ hw))) (hat w hw)
  have hk' : (Cond.classLink own ik cls).before args s' = true := vx_ot_at hW0 hvm.symm (hgood _ List.mem_cons_self) hk
  have hini' : (Cond.initialized cls).before args s' = true := vx_ot_at hW0 hvm.symm (hgood _ (List.mem_cons_of_mem _ List.mem_cons_self)) hini
  have hU' : vx_Zq Bundle.tN "UNASSIGNED_STACK" Bundle.steD A s' s'.heap := by rw [hhp]; exact vx_Zq.moved hW0.alike (hU.kept hS.2.1)
  have hN' : vx_Zq Bundle.tN "SUPPRESSED_SENTINEL" Bundle.listD A s' s'.heap := by rw [hhp]; exact vx_Zq.moved hW0.alike (hN.kept hS.2.1)
  have h : ∀ w ∈ Bundle.ownAtoms own ic cls names, w.before args s' = true := vx_own hat' (vx_isRefq hU'.1) (vx_isRefq hN'.1) hU'.2.word hN'.2.word
  have hown' : s'.vm.findClass own = some m.cls := by rw [hvm]; exact hown
  have hins : (Cond.instantiable cls 6).before args s' = true := h _ (by simp [Bundle.ownAtoms])
  obtain ⟨vm₁, cX, kX, hfX, hkX, -, -, X₁, st1⟩ := Y.newCold hexec (own := own) (C := cls) (index := ik) (n := 6) hown' hk' hins hini'
    (g := F0 m pc ls rest) rfl (by rw [hb]; exact d0) (Nat.le_refl _) (Nat.le_refl _)
  generalize hT1 : (T.setVm vm₁).pushCell { cls := cX, slots := kX.instanceTypes.map defaultValue, vm := .none } = T1 at X₁ st1
  have hcat : (Value.ref T.heap.size).category = 1 := rfl
  have hcellA : T1.heap[T.heap.size]? = some (freshCell cX kX) := by rw [← hT1]; exact State.heap_pushCell_size _ _
  have d3' : decode c.code (pc + 3) = .ok (.dup, 1) := by rw [hb]; exact d3
  have d4' : decode c.code (pc + 4) = .ok (.ldc is, 2) := by rw [hb]; exact d4
  have hstr' : vk_R own is text sa s' := vk_R.warm hW0 hstr
  obtain ⟨U, hsteps, hrun, hend, hW, hsame, ce, hce, hO⟩ := X₁.ctorThrowS hexec htr (own := own) (cls := cls) (names := names) (ic := ic) hown' hcls hnames h (fun x hx => nomatch hx) hfX hkX hcellA (by rw [hhp, hT]; exact Nat.le_refl _) (msg := .ref sa) rfl
    (g := { method := m, pc := pc + 6, locals := ls, stack := .ref sa :: .ref T.heap.size :: .ref T.heap.size :: rest, locked := none }) rfl hsize rfl rfl (rest := rest) rfl
    (by rw [hb]; exact d6) (by rw [hb]; exact d9) hout hRframes (by simp only [List.map_cons, List.sum_cons, hcat]; omega) hlocks
  obtain ⟨f1, f2⟩ := vx_frame hsame
  rw [hhp] at f1 f2
  have hWs : s.WarmedH U.vm := State.WarmedH.trans hW0 hW
  have hcl : s.vm.findClass cls = some ce.cls := by
    have h9 := hO.cls
    rw [hvm] at h9
    exact h9
  have hall : s.sameButNew ({ U with vm := s.vm } : State) locs mc ms := by
    subst hA
    obtain ⟨e1, e2⟩ := hsame
    rw [State.setFrames_setFrames] at e1
    have h2 : (T.setVm s.vm).sameButNew ({ U with vm := s.vm } : State) [] (0 + 1) (0 + 6) := ⟨e1, e2⟩
    have h3 := X.same.trans h2
    rw [List.append_nil] at h3
    exact h3.mono hc hs
  refine ⟨U, ?_, .threw T.heap.size, hrun, hend, Or.inr ⟨T.heap.size, rfl, cls, ce, locs, hx U hWs.alike f1 (fun q hq => f2 q hq (fun z hz => nomatch hz)), hce, hO.vm, hcl, hWs, hall, hf⟩⟩
  refine st1 _ ?_
  show Steps p.tables e below (T1.setTop { method := m, pc := pc + 3, locals := ls, stack := .ref T.heap.size :: rest, locked := none }) _
  jvm_step X₁.here [X₁.here.top, hexec, d3', Value.category]
  exact X₁.ldcString hexec (own := own) (text := text) (index := is) (a := sa) hown' hstr'.1 hstr'.2
    (g := { method := m, pc := pc + 4, locals := ls, stack := .ref T.heap.size :: .ref T.heap.size :: rest, locked := none }) rfl d4' _ hsteps
/-- 'throw new E("text")', the text by a wide index -/
theorem vx_throwSW {cc : ByteArray} {pc : Nat} (hexec : p.tables.exec = Jvm.exec) (hb : c.code = cc) (hl : l.stackTraces = false) {own cls text : String} {names : List String} {ik is ic mc ms sa : Nat} {A : Nat → Prop}
    (hown : s.vm.findClass own = some m.cls) (hcls : Bundle.fit cls = true) (hnames : ∀ n ∈ names, Bundle.fit n = true)
    (hk : (Cond.classLink own ik cls).before args s = true) (hini : (Cond.initialized cls).before args s = true) (hstr : vk_R own is text sa s) (hat : ∀ w ∈ vx_atS own ic cls names, w.before args s = true)
    (hgood : ∀ w ∈ Cond.classLink own ik cls :: Cond.initialized cls :: vx_atS own ic cls names, vx_ot w = true)
    (hU : vx_Zq Bundle.tN "UNASSIGNED_STACK" Bundle.steD A s s.heap) (hN : vx_Zq Bundle.tN "SUPPRESSED_SENTINEL" Bundle.listD A s s.heap) (hS : va_S A s.heap H locs) (hsize : ls.size = c.maxLocals)
    (d0 : decode cc pc = .ok (.new ik, 3)) (d3 : decode cc (pc + 3) = .ok (.dup, 1)) (d4 : decode cc (pc + 4) = .ok (.ldc_w is, 3)) (d7 : decode cc (pc + 7) = .ok (.invokespecial ic, 3)) (d10 : decode cc (pc + 10) = .ok (.athrow, 1))
    (hout : ∀ x ∈ c.exceptionTable.toList, covers x (pc + 10) = false)
    (hRframes : names.length + 3 < R.frames) (hRlocals : (rest.map fun v => v.category).sum + (13 * (names.length + 1) + 43) ≤ R.locals) (hRcells : cells + 1 ≤ R.cells) (hRslots : slots + 6 ≤ R.slots) (hlocks : meth.locks = false)
    (hx : ∀ t : State, s.vm.Alike t.vm → H.size ≤ t.heap.size → (∀ q : Nat, q < H.size → t.heap[q]? = H[q]?) → XC cls s t)
    (hf : ∀ z ∈ locs, free z.base) (hc : cells + 1 ≤ mc) (hs : slots + 6 ≤ ms) :
    W p l e R s m args below meth c H locs cells slots (vx_MQ below Qc XC args s mc ms free) (F0 m pc ls rest) := by
  intro T hT X
  have htr : e.platform.stackTraces = false := (show e.platform.stackTraces = l.stackTraces by rw [X.admits.platform]).trans hl
  have Y := vx_rebase X (R' := { frames := R.frames, locals := R.locals, cells := 1, slots := 6 }) (Nat.le_refl _) (Nat.le_refl _) hRcells hRslots
  obtain ⟨s', hA⟩ : ∃ z, z = (T.setVm s.vm).setFrames (.invoking m args :: below) := ⟨_, rfl⟩
  rw [← hA] at Y
  have hvm : s'.vm = s.vm := by rw [hA]; rfl
  have hhp : s'.heap = H := by rw [hA]; exact hT
  have hW0 : s.WarmedH s'.vm := by rw [hvm]; exact State.WarmedH.refl s
  have hat' : ∀ w ∈ vx_atS own ic cls names, w.before args s' = true := fun w hw => vx_ot_at hW0 hvm.symm (hgood w (List.mem_cons_of_mem _ (List.mem_cons_of_mem _ hw))) (hat w hw)
  have hk' : (Cond.classLink own ik cls).before args s' = true := vx_ot_at hW0 hvm.symm (hgood _ List.mem_cons_self) hk
  have hini' : (Cond.initialized cls).before args s' = true := vx_ot_at hW0 hvm.symm (hgood _ (List.mem_cons_of_mem _ List.mem_cons_self)) hini
  have hU' : vx_Zq Bundle.tN "UNASSIGNED_STACK" Bundle.steD A s' s'.heap := by rw [hhp]; exact vx_Zq.moved hW0.alike (hU.kept hS.2.1)
  have hN' : vx_Zq Bundle.tN "SUPPRESSED_SENTINEL" Bundle.listD A s' s'.heap := by rw [hhp]; exact vx_Zq.moved hW0.alike (hN.kept hS.2.1)
  have h : ∀ w ∈ Bundle.ownAtoms own ic cls names, w.before args s' = true := vx_own hat' (vx_isRefq hU'.1) (vx_isRefq hN'.1) hU'.2.word hN'.2.word
  have hown' : s'.vm.findClass own = some m.cls := by rw [hvm]; exact hown
  have hins : (Cond.instantiable cls 6).before args s' = true := h _ (by simp [Bundle.ownAtoms])
  obtain ⟨vm₁, cX, kX, hfX, hkX, -, -, X₁, st1⟩ := Y.newCold hexec (own := own) (C := cls) (index := ik) (n := 6) hown' hk' hins hini'
    (g := F0 m pc ls rest) rfl (by rw [hb]; exact d0) (Nat.le_refl _) (Nat.le_refl _)
  generalize hT1 : (T.setVm vm₁).pushCell { cls := cX, slots := kX.instanceTypes.map defaultValue, vm := .none } = T1 at X₁ st1
  have hcat : (Value.ref T.heap.size).category = 1 := rfl
  have hcellA : T1.heap[T.heap.size]? = some (freshCell cX kX) := by rw [← hT1]; exact State.heap_pushCell_size _ _
  have d3' : decode c.code (pc + 3) = .ok (.dup, 1) := by rw [hb]; exact d3
  have d4' : decode c.code (pc + 4) = .ok (.ldc_w is, 3) := by rw [hb]; exact d4
  have hstr' : vk_R own is text sa s' := vk_R.warm hW0 hstr
  obtain ⟨U, hsteps, hrun, hend, hW, hsame, ce, hce, hO⟩ := X₁.ctorThrowS hexec htr (own := own) (cls := cls) (names := names) (ic := ic) hown' hcls hnames h (fun x hx => nomatch hx) hfX hkX hcellA (by rw [hhp, hT]; exact Nat.le_refl _) (msg := .ref sa) rfl
    (g := { method := m, pc := pc + 7, locals := ls, stack := .ref sa :: .ref T.heap.size :: .ref T.heap.size :: rest, locked := none }) rfl hsize rfl rfl (rest := rest) rfl
    (by rw [hb]; exact d7) (by rw [hb]; exact d10) hout hRframes (by simp only [List.map_cons, List.sum_cons, hcat]; omega) hlocks
  obtain ⟨f1, f2⟩ := vx_frame hsame
  rw [hhp] at f1 f2
  have hWs : s.WarmedH U.vm := State.WarmedH.trans hW0 hW
  have hcl : s.vm.findClass cls = some ce.cls := by
    have h9 := hO.cls
    rw [hvm] at h9
    exact h9
  have hall : s.sameButNew ({ U with vm := s.vm } : State) locs mc ms := by
    subst hA
    obtain ⟨e1, e2⟩ := hsame
    rw [State.setFrames_setFrames] at e1
    have h2 : (T.setVm s.vm).sameButNew ({ U with vm := s.vm } : State) [] (0 + 1) (0 + 6) := ⟨e1, e2⟩
    have h3 := X.same.trans h2
    rw [List.append_nil] at h3
    exact h3.mono hc hs
  refine ⟨U, ?_, .threw T.heap.size, hrun, hend, Or.inr ⟨T.heap.size, rfl, cls, ce, locs, hx U hWs.alike f1 (fun q hq => f2 q hq (fun z hz => nomatch hz)), hce, hO.vm, hcl, hWs, hall, hf⟩⟩
  refine st1 _ ?_
  show Steps p.tables e below (T1.setTop { method := m, pc := pc + 3, locals := ls, stack := .ref T.heap.size :: rest, locked := none }) _
  jvm_step X₁.here [X₁.here.top, hexec, d3', Value.category]
  exact X₁.ldcStringW hexec (own := own) (text := text) (index := is) (a := sa) hown' hstr'.1 hstr'.2
    (g := { method := m, pc := pc + 4, locals := ls, stack := .ref T.heap.size :: .ref T.heap.size :: rest, locked := none }) rfl d4' _ hsteps
end Ends
section Bodies
variable {l : Launch}
theorem vx_ofW {y : MethodName} {ws ws' : List Cond} {rm : Room} {Pc : Array Value → State → Prop} {Qc : Array Value → State → Outcome → State → Prop} {XC : String → State → State → Prop} {mc ms : Nat} {free : Addr → Prop} {cc : ByteArray} {maxL : Nat} {ret : Option FieldType}
    (hy : plainName y.cls = true) (hw : ws = Cond.code y cc maxL ret :: ws')
    (body : ∀ p e s m args below meth c s₁, BodyLoose p l y (headSpec ws rm) cc maxL ret e s m args below meth c s₁ → c.maxLocals = maxL → (∀ x ∈ c.exceptionTable.toList, False) → Pc args s →
      W p l e (headSpec ws rm).room s m args below meth c s.heap [] 0 0 (vx_MQ below Qc XC args s mc ms free) (entryFrame m args maxL)) : vx_Met l y ws rm Pc Qc XC mc ms free := by
  refine MetFree.of_bodyS (code := cc) (maxLocals := maxL) (ret := ret) hy ?_ ?_
  · intro args s m h hn
    obtain ⟨meth, c, h1, h2, h3, h4, h5, h6, -, -⟩ := Cond.code_spec hn (atoms_spec (ws := ws) h _ (by rw [hw]; exact List.mem_cons_self))
    exact ⟨meth, c, h1, h2, h3, h4, h5, h6⟩
  · intro p e s m args below meth c s₁ B hml hP _
    have hh0 : s₁.heap = s.heap := by rw [B.state]; rfl
    have ht : ∀ x ∈ c.exceptionTable.toList, False := by
      obtain ⟨meth9, c9, h1, h2, -, -, -, -, h7, -⟩ := Cond.code_spec B.named (atoms_spec (ws := ws) B.pre _ (by rw [hw]; exact List.mem_cons_self))
      cases Option.some.inj (h1.symm.trans B.method)
      cases Option.some.inj (h2.symm.trans (Stand.of_body B).code)
      intro x hx
      rw [Array.isEmpty_iff.mp h7] at hx
      cases hx
    obtain ⟨t, a1, o, b1, b2, b3⟩ := body p e s m args below meth c s₁ B hml ht hP s₁ hh0 (Stand.of_body B)
    exact ⟨t, o, a1, b1, b2, b3⟩
/-- the table of a body with handlers -/
theorem vx_table {p : Program} {x y : MethodName} {S : Spec} {cc bytes : ByteArray} {maxL maxL' : Nat} {ret ret' : Option FieldType} {e : Env} {s s₁ : State} {m : MethodId} {args : Array Value} {below : List Frame} {meth : Method} {c : Code} {hh : List (Nat × Nat × Nat × Nat)}
    (B : BodyLoose p l y S cc maxL ret e s m args below meth c s₁) (h : (Cond.codeWith y bytes maxL' ret' hh).before args s = true) : c.exceptionTable.toList = tableOf hh := by
  obtain ⟨m9, meth9, c9, hn9, h1, h2, -, -, h6, -⟩ := Cond.codeWith_spec h
  cases Option.some.inj (hn9.symm.trans B.named)
  cases Option.some.inj (h1.symm.trans B.method)
  cases Option.some.inj (h2.symm.trans (Stand.of_body B).code)
  rw [← h6, table_eq]
end Bodies
end VXA
/-! ===== END ===== -/
/-! ===== BEGIN a static call of a method with an exception table ===== -/
section VXS
variable {p : Program} {l : Launch} {e : Env} {R : Room} {s : State} {m : MethodId} {args : Array Value} {below : List Frame} {meth : Method} {c : Code} {T : State} {H : Heap} {locs : List Loc} {cells slots : Nat}
abbrev vx_CSW (R : Room) (s : State) (args : Array Value) (own : String) (index : Nat) (y : MethodName) (bytes : ByteArray) (maxL : Nat) (ret : Option FieldType) (hh : List (Nat × Nat × Nat × Nat)) (ws : List Cond) (rm : Room) (mc ms n : Nat) : Prop :=
  (rm.cells = mc ∧ rm.slots = ms ∧ rm.frames + 1 ≤ R.frames ∧ 8 + (maxL + 11) + rm.locals ≤ R.locals ∧ (∀ w ∈ ws, ∀ (a' : Array Value) (U : State), s.WarmedH U.vm → w.before a' U = true) ∧ Cond.codeWith y bytes maxL ret hh ∈ ws) ∧
  (Cond.codeWith y bytes maxL ret hh).before args s = true ∧ (Cond.initialized y.cls).before args s = true ∧ (y.cls ≠ "java/lang/invoke/MethodHandle" ∧ y.cls ≠ "java/lang/invoke/VarHandle") ∧
  (∀ sig, parseMethodDescriptor y.desc = some sig → n = sig.parameters.length) ∧ (Cond.methodLink own index y).before args s = true ∧ (Cond.static y).before args s = true
theorem vx_cwSW {own : String} {index maxL mc ms : Nat} {y : MethodName} {bytes : ByteArray} {ret : Option FieldType} {hh : List (Nat × Nat × Nat × Nat)} {Ts ws ws' : List Cond} {rm : Room} (n : Nat) (ht : ∀ w ∈ Ts, w.before args s = true) (hT : GoodIn Ts (va_wsS own index y ws)) (hw : ws = Cond.codeWith y bytes maxL ret hh :: ws') (hrc : rm.cells = mc) (hrs : rm.slots = ms)
    (hd : y.cls ≠ "java/lang/invoke/MethodHandle" ∧ y.cls ≠ "java/lang/invoke/VarHandle" ∧ (parseMethodDescriptor y.desc).map (fun d => d.parameters.length) = some n) (hR : rm.frames + 1 ≤ R.frames ∧ 8 + (maxL + 11) + rm.locals ≤ R.locals) :
    vx_CSW R s args own index y bytes maxL ret hh ws rm mc ms n := by
  have ok : ∀ w ∈ va_wsS own index y ws, w.before args s = true := fun w h => ht w (hT w h).1
  have hG : GoodIn Ts ws := fun w h => hT w (by unfold va_wsS; exact List.mem_append_right _ h)
  have hc : Cond.codeWith y bytes maxL ret hh ∈ ws := by rw [hw]; exact List.mem_cons_self
  refine ⟨⟨hrc, hrs, hR.1, hR.2, pay_in ht hG, hc⟩, ht _ (hG _ hc).1, ok _ (by simp [va_wsS]), ⟨hd.1, hd.2.1⟩, fun sig h => ?_, ok _ (by simp [va_wsS]), ok _ (by simp [va_wsS])⟩
  have h2 := hd.2.2
  rw [h] at h2
  exact (Option.some.inj h2).symm
theorem vx_callSW (X : Stand p l e R s m args below meth c T locs cells slots) (hexec : p.tables.exec = Jvm.exec) {own : String} {index : Nat} {y : MethodName} {bytes : ByteArray} {maxL : Nat} {ret : Option FieldType} {hh : List (Nat × Nat × Nat × Nat)}
    (hown : s.vm.findClass own = some m.cls) (hlink : (Cond.methodLink own index y).before args s = true) (hstat : (Cond.static y).before args s = true) (hinit : (Cond.initialized y.cls).before args s = true)
    (hcode : (Cond.codeWith y bytes maxL ret hh).before args s = true) (hy : y.cls ≠ "java/lang/invoke/MethodHandle" ∧ y.cls ≠ "java/lang/invoke/VarHandle")
    {W9 : Nat} {Pre : Pt → Array Value → Prop} {Post : Pt → Array Value → Option Value → Pt → Prop} (hK : Back l R p e below s args y 3 W9 Pre Post)
    {g : JFrame} (hg : g.method = m) (hsize : g.locals.size = c.maxLocals) {argsL rest : List Value} (hlen : ∀ sig, parseMethodDescriptor y.desc = some sig → argsL.length = sig.parameters.length)
    (hstack : g.stack = argsL.reverse ++ rest) (hW : 2 * g.monitorRoom + (rest.map fun v => v.category).sum ≤ W9) (hdg : decode c.code g.pc = .ok (.invokestatic index, 3))
    (hpre : ∀ vm₁, s.WarmedH vm₁ → Pre ⟨T.setVm vm₁, locs, cells, slots⟩ argsL.toArray) :
    ∃ (v : Option Value) (vm₁ : Vm) (B : Pt), s.WarmedH vm₁ ∧ Stand p l e R s m args below meth c B.U B.locs B.cells B.slots ∧ Post ⟨T.setVm vm₁, locs, cells, slots⟩ argsL.toArray v B ∧
      ∀ target, Steps p.tables e below (B.U.setTop { g with pc := g.pc + 3, stack := v.toList ++ rest }) target → Steps p.tables e below (T.setTop g) target := by
  obtain ⟨mk, methM, cM, hnamed, hmethM, -, -, -, -, -, -, hsigM⟩ := Cond.codeWith_spec hcode
  have hstatic : methM.isStatic = true := Cond.static_spec hnamed hmethM hstat
  obtain ⟨kP, hkP, -⟩ := className_of_methodNamed hnamed
  have hinitP : kP.init = .initialized := Cond.initialized_spec (findClass_of_methodNamed hnamed) hkP hinit
  obtain ⟨vm₁, X₁, hstep₁⟩ := X.invokestatic hexec hown hlink hnamed hmethM hstatic hkP hinitP hy (g := g) hg (argsL := argsL) (rest := rest) (hlen _ hsigM) hstack hdg
  obtain ⟨v, B, X', hpost, hsteps⟩ := hK m meth c ⟨T.setVm vm₁, locs, cells, slots⟩ { g with stack := rest } (.invokestatic index) mk argsL.toArray X₁ hg hsize hdg hW (X₁.named hnamed) (hpre vm₁ X₁.warmed)
  exact ⟨v, vm₁, B, X₁.warmed, X', hpost, fun target h => hstep₁ _ fun acts => by rw [doInvoke_state]; exact hsteps.trans h⟩
theorem vx_runSW {y : MethodName} {bytes cc : ByteArray} {maxL nL mc ms n index : Nat} {ret : Option FieldType} {hh : List (Nat × Nat × Nat × Nat)} {ws : List Cond} {rm : Room} {Pc : Array Value → State → Prop} {Qc : Array Value → State → Outcome → State → Prop} {free : Addr → Prop} {Ts : List Cond} {own : String} {As rest : List Value} {g : JFrame}
    (S : CallFix p m c cc nL s args Ts own) (hM : Met l y ws rm Pc Qc mc ms free) (cw : vx_CSW R s args own index y bytes maxL ret hh ws rm mc ms n) (hp : PreS s H Pc As)
    (hg : g.method = m) (hn : As.length = n) (hsize : g.locals.size = nL) (hstack : g.stack = As.reverse ++ rest) (hW : 2 * g.monitorRoom + (rest.map fun v => v.category).sum ≤ 8) (hdg : decode cc g.pc = .ok (.invokestatic index, 3)) (hf : cells + mc ≤ R.cells ∧ slots + ms ≤ R.slots) :
    va_Run p l e R s m args below meth c H locs cells slots mc ms g rest (Qc As.toArray) (free) := by
  obtain ⟨⟨hrc, hrs, hfr, hlo, hws, hcw⟩, hcode, hini, hy, hlen, hl, hstt⟩ := cw
  have hK : Back l R p e below s args y 3 8 (PreOf R mc ms Pc) (PostOf Qc mc ms free) := va_backW (hh := hh) (bytes := bytes) (maxL := maxL) (ret := ret) hM hp.1 hrc hrs hfr hlo hws hcw (fun a' U hW => word_at hW (Or.inl (by first | rfl | simp [Cond.onTables, Cond.keeps, Cond.steady])) hini)
  obtain ⟨hx, hb, hml, ho, -⟩ := S
  intro T hT X
  obtain ⟨v, vm₁, ⟨U', l2, c2, s2⟩, hW₁, X', ⟨g', mk, t, L, e1, e2, hq, h1, hL, h2, h3⟩, st⟩ := vx_callSW X hx (hh := hh) (bytes := bytes) (maxL := maxL) (ret := ret) ho hl hstt hini hcode hy hK hg (hsize.trans hml.symm) (argsL := As) (rest := rest) (fun sig h => hn.trans (hlen sig h)) hstack hW (by rw [hb]; exact hdg)
    (fun vm₁ hW₁ => ⟨hf.1, hf.2, hp.2 (T.setVm vm₁) hT hW₁⟩)
  dsimp only [Pt.U, Pt.locs, Pt.cells, Pt.slots] at X' e1 e2 h1 h2 h3 st
  subst h1; subst h2; subst h3
  exact ⟨v, (T.setVm vm₁).calling g' mk As.toArray, t, U', L, hT, X', hL, e1, e2, hq, st⟩
/-- not caught here, past rows that name other classes: it goes on to the caller -/
theorem vx_outP {p : Program} {l : Launch} {e : Env} {R : Room} {s : State} {m : MethodId} {args : Array Value} {below : List Frame} {meth : Method} {c : Code} {H : Heap} {locs : List Loc} {cells slots : Nat} {free : Addr → Prop} {ls : Array Slot} {rest : List Value} {Qc : Array Value → State → Outcome → State → Prop} {XC : String → State → State → Prop}
    {pc : Nat} {own E : String} {ce : Cell} {q : Addr} {mc ms : Nat} (hown : s.vm.findClass own = some m.cls) (hlocks : meth.locks = false)
    (hpass : ∀ z ∈ c.exceptionTable.toList, covers z pc = false ∨ (z.catchType ≠ 0 ∧ ∃ nm : String, (Cond.classLink own z.catchType nm).before args s = true ∧ va_Nc E nm s)) (hcell : H[q]? = some ce) (hv : ce.vm = .none) (hcl : s.vm.findClass E = some ce.cls)
    (hx : ∀ t : State, t.heap = H → s.vm.Alike t.vm → XC E s t) (hf : ∀ z ∈ locs, free z.base) (hc : cells ≤ mc) (hs : slots ≤ ms) :
    vx_W p l e R s m args below meth c H locs cells slots (vx_MQ below Qc XC args s mc ms free) (F0 m pc ls rest) q := by
  intro T hT X
  have hpl : e.platform.magicAccessors = ({} : Platform).magicAccessors := by rw [X.admits.platform]
  obtain ⟨vm', hW', X', st⟩ := X.outThrough hlocks q (g := F0 m pc ls rest) rfl rfl rfl (cell := ce) (by rw [hT]; exact hcell) (by rw [hv]; rfl)
    (by obtain ⟨k9, h9, -⟩ := Vm.findClass_spec hcl; exact ⟨k9, h9⟩) (fun z hz => by
      rcases hpass z hz with h | ⟨hz0, nm, hl1, hn1⟩
      · exact Or.inl h
      · obtain ⟨c6, hc6, hcl6⟩ := Cond.classLink_spec hown hl1 e.platform hpl
        obtain ⟨a8, b8, h1, h2, h3⟩ := hn1
        cases Option.some.inj (h1.symm.trans hcl)
        cases Option.some.inj (h2.symm.trans hc6)
        exact Or.inr ⟨hz0, _, hcl6, h3⟩)
  obtain ⟨g₀, hfr⟩ := X'.frames_eq
  have hcell9 : ((T.setVm vm').setFrames (.throwing q :: below)).heap[q]? = some ce := by
    show T.heap[q]? = some ce
    rw [hT]; exact hcell
  have hend : Ended ((T.setVm vm').setFrames (.throwing q :: below)) below (.threw q) := State.frames_setFrames _ (State.cur_lt_of_frames hfr)
  refine ⟨(T.setVm vm').setFrames (.throwing q :: below), ?_, .threw q, X'.here.running, hend, Or.inr ⟨q, rfl, E, ce, locs, hx _ hT (X'.ends _).1.alike, hcell9, hv, hcl, (X'.ends _).1, (X'.ends _).2.mono hc hs, hf⟩⟩
  rw [X.pushThrowing_eq]
  exact st
/-- a thing of a world lies in the heap -/
theorem vx_lt {D : va_G} {cl : List vw_C} {ws : va_W} {H1 : Heap} (h : va_P D cl ws H1) {k : Nat} {q : Nat × va_E} (hk : ws[k]? = some q) : q.1 < H1.size := (h k q hk).lt
end VXS
/-! ===== END ===== -/
/-! ===== BEGIN methods with a table of their own: called by a name, returning or throwing ===== -/
section VXH
/-! vx_backW, vx_callVX, vx_callSX, vx_callVW, vx_runVW, vx_runVX, vx_runSX, vx_ofWH follow the same proofs as their sisters above (Free/Laws.lean, Shelf42/LK1.lean); vx_outP calls Shelf42/NT130.lean (outThrough). -/
section
variable {l : Launch} {R : Room} {p : Program} {e : Env} {below : List Frame} {s : State} {sargs : Array Value} {y : MethodName} {len W9 : Nat}
theorem vx_backW {ws : List Cond} {rm : Room} {Pc : Array Value → State → Prop} {Qc : Array Value → State → Outcome → State → Prop} {XC : String → State → State → Prop} {mc ms : Nat} {free : Addr → Prop} {bytes : ByteArray} {maxL : Nat} {ret : Option FieldType} {hh : List (Nat × Nat × Nat × Nat)}
    (hM : vx_Met l y ws rm Pc Qc XC mc ms free) (hblind : FrameBlind Pc) (hrc : rm.cells = mc) (hrs : rm.slots = ms)
    (hframes : rm.frames + 1 ≤ R.frames) (hlocals : W9 + (maxL + 11) + rm.locals ≤ R.locals)
    (hws : ∀ w ∈ ws, ∀ a' U, s.WarmedH U.vm → w.before a' U = true) (hcode : Cond.codeWith y bytes maxL ret hh ∈ ws) (hinit : ∀ a' U, s.WarmedH U.vm → (Cond.initialized y.cls).before a' U = true) :
    vx_Back l R p e below s sargs y len W9 (PreOf R mc ms Pc) (PostOf Qc mc ms free) (vx_Post XC mc ms free) := by
  intro m meth c A g ig mk a X hg hsize hdg hW hn hp
  have h1 : (headSpec ws rm).pre.before a A.U = true := atoms_intro fun w hw => hws w hw _ _ X.warmed
  have h2 : (Cond.codeWith y bytes maxL ret hh).before a A.U = true := hws _ hcode _ _ X.warmed
  have h3 : (Cond.initialized y.cls).before a A.U = true := hinit _ _ X.warmed
  have h4 : A.cells + (headSpec ws rm).room.cells ≤ R.cells := by rw [show (headSpec ws rm).room.cells = mc from hrc]; exact hp.1
  have h5 : A.slots + (headSpec ws rm).room.slots ≤ R.slots := by rw [show (headSpec ws rm).room.slots = ms from hrs]; exact hp.2.1
  have hPc : Pc a (A.U.calling g mk a) := hblind _ _ _ _ hp.2.2
  obtain ⟨U, Ls, c0, s0⟩ := A
  dsimp only [Pt.U, Pt.locs, Pt.cells, Pt.slots] at h1 h2 h3 h4 h5 X hn hPc ⊢
  obtain ⟨m9, methY, cY, hn9, hmY, hcY, -, hlY, -⟩ := Cond.codeWith_spec h2
  cases Option.some.inj (hn9.symm.trans hn)
  obtain ⟨kY, hkY, -⟩ := className_of_methodNamed hn
  have hinitY : kY.init = .initialized := Cond.initialized_spec (findClass_of_methodNamed hn) hkY h3
  have h : At U g.method c below := by rw [hg]; exact X.here
  have hlocals9 : W9 + (maxL + 11) + (headSpec ws rm).room.locals ≤ R.locals := hlocals
  have happ : (headSpec ws rm).appliesLoose y e.platform (U.calling g mk a) = true :=
    Spec.appliesLoose_calling (g := g) h hdg hn hkY hinitY
      (X.room_calling (g := g) (R' := (headSpec ws rm).room) hsize hmY hcY hframes (by rw [hlY]; omega) h4 h5) h1
  obtain ⟨mid, hmid⟩ := h.above
  have hfr : (U.setTop g).frames = (.java g :: mid) ++ below := by rw [State.frames_setTop' g h.top, hmid]; rfl
  obtain ⟨o, s₂, hsteps, -, hend, hq⟩ := Steps.callFree hM p X.admits X.cas X.clock (acts := []) hfr happ hPc trivial
  have hq' : vx_Q Qc XC mc ms free a (U.calling g mk a) o s₂ := hq
  rw [State.frames_setTop' g h.top] at hend
  obtain ⟨g₀, hg0⟩ := Option.isSome_iff_exists.mp h.top
  obtain ⟨r, hr⟩ := State.topJava?_eq_some.mp hg0
  have hr' : (({ U with heap := s₂.heap, slotsUsed := s₂.slotsUsed } : State).setVm s₂.vm).frames = .java g₀ :: r := hr
  rcases hq' with ⟨hqc, L, hfe, hL⟩ | ⟨q, rfl, E, ce, L, hx, hce, hcv, hcl, hW₂, hsm, hL⟩
  · obtain ⟨⟨v, rfl⟩, hW₂, e2, q2, q3, q4, q5, q6⟩ := id hfe
    have e3 : s₂ = ({ (U.calling g mk a).setFrames s₂.frames with heap := s₂.heap, slotsUsed := s₂.slotsUsed } : State).setVm s₂.vm := by
      have : s₂ = ({ s₂ with vm := (U.calling g mk a).vm } : State).setVm s₂.vm := rfl
      rw [e2] at this
      exact this
    obtain ⟨c₂, i₂, len₂, hc₂, hd₂, hf₂⟩ := hend
    have hW' : U.WarmedH s₂.vm := hW₂
    have hcc : c₂ = c := by
      have h1 : s₂.code? g.method = U.code? g.method := by
        rw [State.code?_eq, State.code?_eq, hW'.alike.method?]
      exact Option.some.inj (hc₂.symm.trans (h1.trans h.code))
    subst hcc
    have hlen : len₂ = len := by rw [hdg] at hd₂; cases hd₂; rfl
    subst hlen
    have hs₂ : s₂ = (({ U with heap := s₂.heap, slotsUsed := s₂.slotsUsed } : State).setVm s₂.vm).setTop { g with pc := g.pc + len₂, stack := v.toList ++ g.stack } := by
      refine e3.trans ?_
      rw [hf₂, State.calling_eq h.top, State.setFrames_setFrames, State.setTop_of_frames _ hr', hr]
      rfl
    have hsame : U.sameButNew ({ U with heap := s₂.heap, slotsUsed := s₂.slotsUsed } : State) L mc ms := by
      refine ⟨?_, q2, q3, q4, q5, q6⟩
      obtain ⟨t, ht, -⟩ := State.frames_cons hr
      show ({ U with heap := s₂.heap, slotsUsed := s₂.slotsUsed } : State) = { U.setFrames U.frames with heap := s₂.heap, slotsUsed := s₂.slotsUsed }
      rw [State.setFrames_self ht]
    subst hg
    refine Or.inl ⟨v, ⟨(({ U with heap := s₂.heap, slotsUsed := s₂.slotsUsed } : State).setVm s₂.vm), Ls ++ L, c0 + mc, s0 + ms⟩,
      ⟨X.admits, X.cas, X.clock, X.frames, X.room, X.hears, X.method, X.code, (X.here.setHeapUsed s₂.heap s₂.slotsUsed).setVm hW'.alike, X.tail, State.WarmedH.trans X.warmed hW', X.limits, X.bytes, X.same.trans (hsame.setVm s.vm)⟩,
      ⟨g, mk, s₂, L, rfl, rfl, hqc, rfl, hL, rfl, rfl⟩, ?_⟩
    show Steps p.tables e below _ ((({ U with heap := s₂.heap, slotsUsed := s₂.slotsUsed } : State).setVm s₂.vm).setTop { g with pc := g.pc + len₂, stack := v.toList ++ g.stack })
    rw [← hs₂]
    exact hsteps
  · obtain ⟨e2, q2, q3, q4, q5, q6⟩ := id hsm
    have e3 : s₂ = ({ (U.calling g mk a).setFrames s₂.frames with heap := s₂.heap, slotsUsed := s₂.slotsUsed } : State).setVm s₂.vm := by
      have : s₂ = ({ s₂ with vm := (U.calling g mk a).vm } : State).setVm s₂.vm := rfl
      rw [e2] at this
      exact this
    have hf₂ : s₂.frames = .throwing q :: .java g :: U.frames.tail := hend
    have hW' : U.WarmedH s₂.vm := hW₂
    have hs₂ : s₂ = ((({ U with heap := s₂.heap, slotsUsed := s₂.slotsUsed } : State).setVm s₂.vm).setTop g).pushFrame (.throwing q) := by
      refine e3.trans ?_
      rw [hf₂, State.calling_eq h.top, State.setFrames_setFrames, State.pushFrame, State.frames_setTop _ hr', State.setTop_of_frames _ hr', State.setFrames_setFrames, hr]
      rfl
    have hsame : U.sameButNew ({ U with heap := s₂.heap, slotsUsed := s₂.slotsUsed } : State) L mc ms := by
      refine ⟨?_, q2, q3, q4, q5, q6⟩
      obtain ⟨t, ht, -⟩ := State.frames_cons hr
      show ({ U with heap := s₂.heap, slotsUsed := s₂.slotsUsed } : State) = { U.setFrames U.frames with heap := s₂.heap, slotsUsed := s₂.slotsUsed }
      rw [State.setFrames_self ht]
    subst hg
    refine Or.inr ⟨q, ⟨(({ U with heap := s₂.heap, slotsUsed := s₂.slotsUsed } : State).setVm s₂.vm), Ls ++ L, c0 + mc, s0 + ms⟩,
      ⟨X.admits, X.cas, X.clock, X.frames, X.room, X.hears, X.method, X.code, (X.here.setHeapUsed s₂.heap s₂.slotsUsed).setVm hW'.alike, X.tail, State.WarmedH.trans X.warmed hW', X.limits, X.bytes, X.same.trans (hsame.setVm s.vm)⟩,
      ⟨g, mk, s₂, L, E, ce, rfl, rfl, hx, hce, hcv, hcl, rfl, hL, rfl, rfl⟩, ?_⟩
    show Steps p.tables e below _ (((({ U with heap := s₂.heap, slotsUsed := s₂.slotsUsed } : State).setVm s₂.vm).setTop g).pushFrame (.throwing q))
    rw [← hs₂]
    exact hsteps
end
variable {p : Program} {l : Launch} {e : Env} {R : Room} {s : State} {m : MethodId} {args : Array Value} {below : List Frame} {meth : Method} {c : Code} {T : State} {H : Heap} {locs : List Loc} {cells slots : Nat}
theorem vx_callVX (X : Stand p l e R s m args below meth c T locs cells slots) (hexec : p.tables.exec = Jvm.exec) {own C : String} {index : Nat} {y : MethodName} {bytes : ByteArray} {maxL : Nat} {ret : Option FieldType} {hh : List (Nat × Nat × Nat × Nat)}
    (hown : s.vm.findClass own = some m.cls) (hlink : (Cond.methodLink own index y).before args s = true) (hinst : (Cond.instanceMethod y).before args s = true) (hsel : (Cond.selects C y y).before args s = true)
    (hcode : (Cond.codeWith y bytes maxL ret hh).before args s = true) (hy : y.cls ≠ "java/lang/invoke/MethodHandle" ∧ y.cls ≠ "java/lang/invoke/VarHandle")
    {W9 : Nat} {Pre : Pt → Array Value → Prop} {Post : Pt → Array Value → Option Value → Pt → Prop} {PostX : Pt → Array Value → Addr → Pt → Prop} (hK : vx_Back l R p e below s args y 3 W9 Pre Post PostX)
    {b : Addr} {cellB : Cell} (hcell : T.heap[b]? = some cellB) (hobj : cellB.vm.isStatics = false) (hcls : s.vm.findClass C = some cellB.cls)
    {g : JFrame} (hg : g.method = m) (hsize : g.locals.size = c.maxLocals) {argsL rest : List Value} (hlen : ∀ sig, parseMethodDescriptor y.desc = some sig → argsL.length = sig.parameters.length)
    (hstack : g.stack = argsL.reverse ++ .ref b :: rest) (hW : 2 * g.monitorRoom + (rest.map fun v => v.category).sum ≤ W9) (hdg : decode c.code g.pc = .ok (.invokevirtual index, 3))
    (hpre : ∀ vm₁, s.WarmedH vm₁ → Pre ⟨T.setVm vm₁, locs, cells, slots⟩ (Value.ref b :: argsL).toArray) :
    (∃ (v : Option Value) (vm₁ : Vm) (B : Pt), s.WarmedH vm₁ ∧ Stand p l e R s m args below meth c B.U B.locs B.cells B.slots ∧ Post ⟨T.setVm vm₁, locs, cells, slots⟩ (Value.ref b :: argsL).toArray v B ∧
      ∀ target, Steps p.tables e below (B.U.setTop { g with pc := g.pc + 3, stack := v.toList ++ rest }) target → Steps p.tables e below (T.setTop g) target) ∨
    (∃ (q : Addr) (vm₁ : Vm) (B : Pt), s.WarmedH vm₁ ∧ Stand p l e R s m args below meth c B.U B.locs B.cells B.slots ∧ PostX ⟨T.setVm vm₁, locs, cells, slots⟩ (Value.ref b :: argsL).toArray q B ∧
      Steps p.tables e below (T.setTop g) ((B.U.setTop { g with stack := rest }).pushFrame (.throwing q))) := by
  obtain ⟨mk, methM, hnamed, hmethM, hstM, habM⟩ := Cond.instanceMethod_spec hinst
  obtain ⟨m8, methM', cM, hn8, hmethM', -, -, -, -, -, -, hsigM⟩ := Cond.codeWith_spec hcode
  cases Option.some.inj (hn8.symm.trans hnamed)
  cases hmethM.symm.trans hmethM'
  obtain ⟨c2, r2, m2, q1, q2, q3, q4, kP, hkP, hkPi⟩ := Cond.selects_spec hsel
  cases hcls.symm.trans q1
  cases (State.methodFound?_of_named hnamed hy).symm.trans q2
  cases hnamed.symm.trans q3
  have hselP : selectMethod e.platform s.vm cellB.cls mk = .method mk := by rw [Launch.admits_selectMethod X.admits]; exact q4
  obtain ⟨vm₁, X₁, hstep₁⟩ := X.invokevirtual hexec hown hlink hnamed hmethM hstM hkP hkPi hy (a := b) (cell := cellB) hcell
    (fun z h => by rw [h] at hobj; cases hobj) hselP hmethM habM hkP hkPi (g := g) hg (argsL := argsL) (rest := rest) (hlen _ hsigM) hstack hdg
  rcases hK m meth c ⟨T.setVm vm₁, locs, cells, slots⟩ { g with stack := rest } (.invokevirtual index) mk (Value.ref b :: argsL).toArray X₁ hg hsize hdg hW (X₁.named hnamed) (hpre vm₁ X₁.warmed) with ⟨v, B, X', hpost, hsteps⟩ | ⟨q, B, X', hpost, hsteps⟩
  · exact Or.inl ⟨v, vm₁, B, X₁.warmed, X', hpost, fun target h => hstep₁ _ fun acts => by rw [doInvoke_state]; exact hsteps.trans h⟩
  · exact Or.inr ⟨q, vm₁, B, X₁.warmed, X', hpost, hstep₁ _ fun acts => by rw [doInvoke_state]; exact hsteps⟩
theorem vx_callSX (X : Stand p l e R s m args below meth c T locs cells slots) (hexec : p.tables.exec = Jvm.exec) {own : String} {index : Nat} {y : MethodName} {bytes : ByteArray} {maxL : Nat} {ret : Option FieldType} {hh : List (Nat × Nat × Nat × Nat)}
    (hown : s.vm.findClass own = some m.cls) (hlink : (Cond.methodLink own index y).before args s = true) (hstat : (Cond.static y).before args s = true) (hinit : (Cond.initialized y.cls).before args s = true)
    (hcode : (Cond.codeWith y bytes maxL ret hh).before args s = true) (hy : y.cls ≠ "java/lang/invoke/MethodHandle" ∧ y.cls ≠ "java/lang/invoke/VarHandle")
    {W9 : Nat} {Pre : Pt → Array Value → Prop} {Post : Pt → Array Value → Option Value → Pt → Prop} {PostX : Pt → Array Value → Addr → Pt → Prop} (hK : vx_Back l R p e below s args y 3 W9 Pre Post PostX)
    {g : JFrame} (hg : g.method = m) (hsize : g.locals.size = c.maxLocals) {argsL rest : List Value} (hlen : ∀ sig, parseMethodDescriptor y.desc = some sig → argsL.length = sig.parameters.length)
    (hstack : g.stack = argsL.reverse ++ rest) (hW : 2 * g.monitorRoom + (rest.map fun v => v.category).sum ≤ W9) (hdg : decode c.code g.pc = .ok (.invokestatic index, 3))
    (hpre : ∀ vm₁, s.WarmedH vm₁ → Pre ⟨T.setVm vm₁, locs, cells, slots⟩ argsL.toArray) :
    (∃ (v : Option Value) (vm₁ : Vm) (B : Pt), s.WarmedH vm₁ ∧ Stand p l e R s m args below meth c B.U B.locs B.cells B.slots ∧ Post ⟨T.setVm vm₁, locs, cells, slots⟩ argsL.toArray v B ∧
      ∀ target, Steps p.tables e below (B.U.setTop { g with pc := g.pc + 3, stack := v.toList ++ rest }) target → Steps p.tables e below (T.setTop g) target) ∨
    (∃ (q : Addr) (vm₁ : Vm) (B : Pt), s.WarmedH vm₁ ∧ Stand p l e R s m args below meth c B.U B.locs B.cells B.slots ∧ PostX ⟨T.setVm vm₁, locs, cells, slots⟩ argsL.toArray q B ∧
      Steps p.tables e below (T.setTop g) ((B.U.setTop { g with stack := rest }).pushFrame (.throwing q))) := by
  obtain ⟨mk, methM, cM, hnamed, hmethM, -, -, -, -, -, -, hsigM⟩ := Cond.codeWith_spec hcode
  have hstatic : methM.isStatic = true := Cond.static_spec hnamed hmethM hstat
  obtain ⟨kP, hkP, -⟩ := className_of_methodNamed hnamed
  have hinitP : kP.init = .initialized := Cond.initialized_spec (findClass_of_methodNamed hnamed) hkP hinit
  obtain ⟨vm₁, X₁, hstep₁⟩ := X.invokestatic hexec hown hlink hnamed hmethM hstatic hkP hinitP hy (g := g) hg (argsL := argsL) (rest := rest) (hlen _ hsigM) hstack hdg
  rcases hK m meth c ⟨T.setVm vm₁, locs, cells, slots⟩ { g with stack := rest } (.invokestatic index) mk argsL.toArray X₁ hg hsize hdg hW (X₁.named hnamed) (hpre vm₁ X₁.warmed) with ⟨v, B, X', hpost, hsteps⟩ | ⟨q, B, X', hpost, hsteps⟩
  · exact Or.inl ⟨v, vm₁, B, X₁.warmed, X', hpost, fun target h => hstep₁ _ fun acts => by rw [doInvoke_state]; exact hsteps.trans h⟩
  · exact Or.inr ⟨q, vm₁, B, X₁.warmed, X', hpost, hstep₁ _ fun acts => by rw [doInvoke_state]; exact hsteps⟩
theorem vx_callVW (X : Stand p l e R s m args below meth c T locs cells slots) (hexec : p.tables.exec = Jvm.exec) {own C : String} {index : Nat} {y : MethodName} {bytes : ByteArray} {maxL : Nat} {ret : Option FieldType} {hh : List (Nat × Nat × Nat × Nat)}
    (hown : s.vm.findClass own = some m.cls) (hlink : (Cond.methodLink own index y).before args s = true) (hinst : (Cond.instanceMethod y).before args s = true) (hsel : (Cond.selects C y y).before args s = true)
    (hcode : (Cond.codeWith y bytes maxL ret hh).before args s = true) (hy : y.cls ≠ "java/lang/invoke/MethodHandle" ∧ y.cls ≠ "java/lang/invoke/VarHandle")
    {W9 : Nat} {Pre : Pt → Array Value → Prop} {Post : Pt → Array Value → Option Value → Pt → Prop} (hK : Back l R p e below s args y 3 W9 Pre Post)
    {b : Addr} {cellB : Cell} (hcell : T.heap[b]? = some cellB) (hobj : cellB.vm.isStatics = false) (hcls : s.vm.findClass C = some cellB.cls)
    {g : JFrame} (hg : g.method = m) (hsize : g.locals.size = c.maxLocals) {argsL rest : List Value} (hlen : ∀ sig, parseMethodDescriptor y.desc = some sig → argsL.length = sig.parameters.length)
    (hstack : g.stack = argsL.reverse ++ .ref b :: rest) (hW : 2 * g.monitorRoom + (rest.map fun v => v.category).sum ≤ W9) (hdg : decode c.code g.pc = .ok (.invokevirtual index, 3))
    (hpre : ∀ vm₁, s.WarmedH vm₁ → Pre ⟨T.setVm vm₁, locs, cells, slots⟩ (Value.ref b :: argsL).toArray) :
    ∃ (v : Option Value) (vm₁ : Vm) (B : Pt), s.WarmedH vm₁ ∧ Stand p l e R s m args below meth c B.U B.locs B.cells B.slots ∧ Post ⟨T.setVm vm₁, locs, cells, slots⟩ (Value.ref b :: argsL).toArray v B ∧
      ∀ target, Steps p.tables e below (B.U.setTop { g with pc := g.pc + 3, stack := v.toList ++ rest }) target → Steps p.tables e below (T.setTop g) target := by
  obtain ⟨mk, methM, hnamed, hmethM, hstM, habM⟩ := Cond.instanceMethod_spec hinst
  obtain ⟨m8, methM', cM, hn8, hmethM', -, -, -, -, -, -, hsigM⟩ := Cond.codeWith_spec hcode
  cases Option.some.inj (hn8.symm.trans hnamed)
  cases hmethM.symm.trans hmethM'
  obtain ⟨c2, r2, m2, q1, q2, q3, q4, kP, hkP, hkPi⟩ := Cond.selects_spec hsel
  cases hcls.symm.trans q1
  cases (State.methodFound?_of_named hnamed hy).symm.trans q2
  cases hnamed.symm.trans q3
  have hselP : selectMethod e.platform s.vm cellB.cls mk = .method mk := by rw [Launch.admits_selectMethod X.admits]; exact q4
  obtain ⟨vm₁, X₁, hstep₁⟩ := X.invokevirtual hexec hown hlink hnamed hmethM hstM hkP hkPi hy (a := b) (cell := cellB) hcell
    (fun z h => by rw [h] at hobj; cases hobj) hselP hmethM habM hkP hkPi (g := g) hg (argsL := argsL) (rest := rest) (hlen _ hsigM) hstack hdg
  obtain ⟨v, B, X', hpost, hsteps⟩ := hK m meth c ⟨T.setVm vm₁, locs, cells, slots⟩ { g with stack := rest } (.invokevirtual index) mk (Value.ref b :: argsL).toArray X₁ hg hsize hdg hW (X₁.named hnamed) (hpre vm₁ X₁.warmed)
  exact ⟨v, vm₁, B, X₁.warmed, X', hpost, fun target h => hstep₁ _ fun acts => by rw [doInvoke_state]; exact hsteps.trans h⟩
abbrev vx_CVW (R : Room) (s : State) (args : Array Value) (own C : String) (index : Nat) (y : MethodName) (bytes : ByteArray) (maxL : Nat) (ret : Option FieldType) (hh : List (Nat × Nat × Nat × Nat)) (ws : List Cond) (rm : Room) (mc ms n : Nat) : Prop :=
  (rm.cells = mc ∧ rm.slots = ms ∧ rm.frames + 1 ≤ R.frames ∧ 8 + (maxL + 11) + rm.locals ≤ R.locals ∧ (∀ w ∈ ws, ∀ (a' : Array Value) (U : State), s.WarmedH U.vm → w.before a' U = true) ∧ Cond.codeWith y bytes maxL ret hh ∈ ws) ∧
  (Cond.codeWith y bytes maxL ret hh).before args s = true ∧ (Cond.initialized y.cls).before args s = true ∧ (y.cls ≠ "java/lang/invoke/MethodHandle" ∧ y.cls ≠ "java/lang/invoke/VarHandle") ∧
  (∀ sig, parseMethodDescriptor y.desc = some sig → n = sig.parameters.length) ∧ (Cond.methodLink own index y).before args s = true ∧ (Cond.instanceMethod y).before args s = true ∧ (Cond.selects C y y).before args s = true
theorem vx_cwVW {own C : String} {index maxL mc ms : Nat} {y : MethodName} {bytes : ByteArray} {ret : Option FieldType} {hh : List (Nat × Nat × Nat × Nat)} {Ts ws ws' : List Cond} {rm : Room} (n : Nat) (ht : ∀ w ∈ Ts, w.before args s = true) (hT : GoodIn Ts (wsV own index C y ws)) (hw : ws = Cond.codeWith y bytes maxL ret hh :: ws') (hrc : rm.cells = mc) (hrs : rm.slots = ms)
    (hd : y.cls = C ∧ y.cls ≠ "java/lang/invoke/MethodHandle" ∧ y.cls ≠ "java/lang/invoke/VarHandle" ∧ (parseMethodDescriptor y.desc).map (fun d => d.parameters.length) = some n) (hR : rm.frames + 1 ≤ R.frames ∧ 8 + (maxL + 11) + rm.locals ≤ R.locals) :
    vx_CVW R s args own C index y bytes maxL ret hh ws rm mc ms n := by
  obtain ⟨hC, hd⟩ := hd
  subst hC
  have ok : ∀ w ∈ wsV own index y.cls y ws, w.before args s = true := fun w h => ht w (hT w h).1
  have hG : GoodIn Ts ws := fun w h => hT w (by unfold wsV; exact List.mem_append_right _ h)
  have hc : Cond.codeWith y bytes maxL ret hh ∈ ws := by rw [hw]; exact List.mem_cons_self
  refine ⟨⟨hrc, hrs, hR.1, hR.2, pay_in ht hG, hc⟩, ht _ (hG _ hc).1, ok _ (by simp [wsV]), ⟨hd.1, hd.2.1⟩, fun sig h => ?_, ok _ (by simp [wsV]), ok _ (by simp [wsV]), ok _ (by simp [wsV])⟩
  have h2 := hd.2.2
  rw [h] at h2
  exact (Option.some.inj h2).symm
theorem vx_runVW {y : MethodName} {bytes cc : ByteArray} {maxL nL mc ms n index : Nat} {ret : Option FieldType} {hh : List (Nat × Nat × Nat × Nat)} {ws : List Cond} {rm : Room} {Pc : Array Value → State → Prop} {Qc : Array Value → State → Outcome → State → Prop} {free : Addr → Prop} {Ts : List Cond} {own C : String} {b : Addr} {As rest : List Value} {g : JFrame}
    (S : CallFix p m c cc nL s args Ts own) (hM : Met l y ws rm Pc Qc mc ms free) (cw : vx_CVW R s args own C index y bytes maxL ret hh ws rm mc ms n) (hp : PreV s H C b Pc As)
    (hg : g.method = m) (hn : As.length = n) (hsize : g.locals.size = nL) (hstack : g.stack = As.reverse ++ .ref b :: rest) (hW : 2 * g.monitorRoom + (rest.map fun v => v.category).sum ≤ 8) (hdg : decode cc g.pc = .ok (.invokevirtual index, 3)) (hf : cells + mc ≤ R.cells ∧ slots + ms ≤ R.slots) :
    va_Run p l e R s m args below meth c H locs cells slots mc ms g rest (Qc (Value.ref b :: As).toArray) free := by
  obtain ⟨⟨hrc, hrs, hfr, hlo, hws, hcw⟩, hcode, hini, hy, hlen, hl, hin, hse⟩ := cw
  have hK : Back l R p e below s args y 3 8 (PreOf R mc ms Pc) (PostOf Qc mc ms free) := va_backW (hh := hh) (bytes := bytes) (maxL := maxL) (ret := ret) hM hp.1 hrc hrs hfr hlo hws hcw (fun a' U hW => word_at hW (Or.inl (by first | rfl | simp [Cond.onTables, Cond.keeps, Cond.steady])) hini)
  obtain ⟨hx, hb, hml, ho, -⟩ := S
  obtain ⟨-, ⟨cellB, hcB, hoB, hclB⟩, hPc⟩ := hp
  intro T hT X
  obtain ⟨v, vm₁, ⟨U', l2, c2, s2⟩, hW₁, X', ⟨g', mk, t, L, e1, e2, hq, h1, hL, h2, h3⟩, st⟩ := vx_callVW X hx (C := C) (hh := hh) (bytes := bytes) (maxL := maxL) (ret := ret) ho hl hin hse hcode hy hK (by rw [hT]; exact hcB) hoB hclB hg (hsize.trans hml.symm) (argsL := As) (rest := rest) (fun sig h => hn.trans (hlen sig h)) hstack hW (by rw [hb]; exact hdg)
    (fun vm₁ hW₁ => ⟨hf.1, hf.2, hPc (T.setVm vm₁) hT hW₁⟩)
  dsimp only [Pt.U, Pt.locs, Pt.cells, Pt.slots] at X' e1 e2 h1 h2 h3 st
  subst h1; subst h2; subst h3
  exact ⟨v, (T.setVm vm₁).calling g' mk (Value.ref b :: As).toArray, t, U', L, hT, X', hL, e1, e2, hq, st⟩
section
variable {y : MethodName} {bytes cc : ByteArray} {maxL nL mc ms n index : Nat} {ret : Option FieldType} {ws : List Cond} {rm : Room} {Pc : Array Value → State → Prop} {Qc : Array Value → State → Outcome → State → Prop} {XC : String → State → State → Prop} {free : Addr → Prop} {Ts : List Cond} {own C : String} {b : Addr} {As rest : List Value} {g : JFrame}
theorem vx_runVX {hh : List (Nat × Nat × Nat × Nat)} (S : CallFix p m c cc nL s args Ts own) (hM : vx_Met l y ws rm Pc Qc XC mc ms free) (cw : vx_CVW R s args own C index y bytes maxL ret hh ws rm mc ms n) (hp : PreV s H C b Pc As)
    (hg : g.method = m) (hn : As.length = n) (hsize : g.locals.size = nL) (hstack : g.stack = As.reverse ++ .ref b :: rest) (hW : 2 * g.monitorRoom + (rest.map fun v => v.category).sum ≤ 8) (hdg : decode cc g.pc = .ok (.invokevirtual index, 3)) (hf : cells + mc ≤ R.cells ∧ slots + ms ≤ R.slots) :
    vx_Run p l e R s m args below meth c H locs cells slots mc ms g rest (Qc (Value.ref b :: As).toArray) XC free := by
  obtain ⟨⟨hrc, hrs, hfr, hlo, hws, hcw⟩, hcode, hini, hy, hlen, hl, hin, hse⟩ := cw
  have hK : vx_Back l R p e below s args y 3 8 (PreOf R mc ms Pc) (PostOf Qc mc ms free) (vx_Post XC mc ms free) := vx_backW (hh := hh) (bytes := bytes) (maxL := maxL) (ret := ret) hM hp.1 hrc hrs hfr hlo hws hcw (fun a' U hW => word_at hW (Or.inl (by first | rfl | simp [Cond.onTables, Cond.keeps, Cond.steady])) hini)
  obtain ⟨hx, hb, hml, ho, -⟩ := S
  obtain ⟨-, ⟨cellB, hcB, hoB, hclB⟩, hPc⟩ := hp
  intro T hT X
  rcases vx_callVX X hx (C := C) (hh := hh) (bytes := bytes) (maxL := maxL) (ret := ret) ho hl hin hse hcode hy hK (by rw [hT]; exact hcB) hoB hclB hg (hsize.trans hml.symm) (argsL := As) (rest := rest) (fun sig h => hn.trans (hlen sig h)) hstack hW (by rw [hb]; exact hdg)
    (fun vm₁ hW₁ => ⟨hf.1, hf.2, hPc (T.setVm vm₁) hT hW₁⟩) with ⟨v, vm₁, ⟨U', l2, c2, s2⟩, hW₁, X', ⟨g', mk, t, L, e1, e2, hq, h1, hL, h2, h3⟩, st⟩ | ⟨q, vm₁, ⟨U', l2, c2, s2⟩, hW₁, X', ⟨g', mk, t, L, E, ce, e1, e2, hq, hce, hcv, hcl, h1, hL, h2, h3⟩, st⟩
  · dsimp only [Pt.U, Pt.locs, Pt.cells, Pt.slots] at X' e1 e2 h1 h2 h3 st
    subst h1; subst h2; subst h3
    exact Or.inl ⟨v, (T.setVm vm₁).calling g' mk (Value.ref b :: As).toArray, t, U', L, hT, X', hL, e1, e2, hq, st⟩
  · dsimp only [Pt.U, Pt.locs, Pt.cells, Pt.slots] at X' e1 e2 h1 h2 h3 st hcl
    subst h1; subst h2; subst h3
    exact Or.inr ⟨q, (T.setVm vm₁).calling g' mk (Value.ref b :: As).toArray, t, U', L, E, ce, hT, X', hL, e1, e2, hq, hce, hcv, vx_cls hW₁ hcl, st⟩
theorem vx_runSX {hh : List (Nat × Nat × Nat × Nat)} (S : CallFix p m c cc nL s args Ts own) (hM : vx_Met l y ws rm Pc Qc XC mc ms free) (cw : vx_CSW R s args own index y bytes maxL ret hh ws rm mc ms n) (hp : PreS s H Pc As)
    (hg : g.method = m) (hn : As.length = n) (hsize : g.locals.size = nL) (hstack : g.stack = As.reverse ++ rest) (hW : 2 * g.monitorRoom + (rest.map fun v => v.category).sum ≤ 8) (hdg : decode cc g.pc = .ok (.invokestatic index, 3)) (hf : cells + mc ≤ R.cells ∧ slots + ms ≤ R.slots) :
    vx_Run p l e R s m args below meth c H locs cells slots mc ms g rest (Qc As.toArray) XC free := by
  obtain ⟨⟨hrc, hrs, hfr, hlo, hws, hcw⟩, hcode, hini, hy, hlen, hl, hstt⟩ := cw
  have hK : vx_Back l R p e below s args y 3 8 (PreOf R mc ms Pc) (PostOf Qc mc ms free) (vx_Post XC mc ms free) := vx_backW (hh := hh) (bytes := bytes) (maxL := maxL) (ret := ret) hM hp.1 hrc hrs hfr hlo hws hcw (fun a' U hW => word_at hW (Or.inl (by first | rfl | simp [Cond.onTables, Cond.keeps, Cond.steady])) hini)
  obtain ⟨hx, hb, hml, ho, -⟩ := S
  intro T hT X
  rcases vx_callSX X hx (hh := hh) (bytes := bytes) (maxL := maxL) (ret := ret) ho hl hstt hini hcode hy hK hg (hsize.trans hml.symm) (argsL := As) (rest := rest) (fun sig h => hn.trans (hlen sig h)) hstack hW (by rw [hb]; exact hdg)
    (fun vm₁ hW₁ => ⟨hf.1, hf.2, hp.2 (T.setVm vm₁) hT hW₁⟩) with ⟨v, vm₁, ⟨U', l2, c2, s2⟩, hW₁, X', ⟨g', mk, t, L, e1, e2, hq, h1, hL, h2, h3⟩, st⟩ | ⟨q, vm₁, ⟨U', l2, c2, s2⟩, hW₁, X', ⟨g', mk, t, L, E, ce, e1, e2, hq, hce, hcv, hcl, h1, hL, h2, h3⟩, st⟩
  · dsimp only [Pt.U, Pt.locs, Pt.cells, Pt.slots] at X' e1 e2 h1 h2 h3 st
    subst h1; subst h2; subst h3
    exact Or.inl ⟨v, (T.setVm vm₁).calling g' mk As.toArray, t, U', L, hT, X', hL, e1, e2, hq, st⟩
  · dsimp only [Pt.U, Pt.locs, Pt.cells, Pt.slots] at X' e1 e2 h1 h2 h3 st hcl
    subst h1; subst h2; subst h3
    exact Or.inr ⟨q, (T.setVm vm₁).calling g' mk As.toArray, t, U', L, E, ce, hT, X', hL, e1, e2, hq, hce, hcv, vx_cls hW₁ hcl, st⟩
end
end VXH
theorem vx_ofWH {l : Launch} {y : MethodName} {ws ws' : List Cond} {rm : Room} {Pc : Array Value → State → Prop} {Qc : Array Value → State → Outcome → State → Prop} {XC : String → State → State → Prop} {mc ms : Nat} {free : Addr → Prop} {cc : ByteArray} {maxL : Nat} {ret : Option FieldType} {hh : List (Nat × Nat × Nat × Nat)}
    (hy : plainName y.cls = true) (hw : ws = Cond.codeWith y cc maxL ret hh :: ws')
    (body : ∀ p e s m args below meth c s₁, BodyLoose p l y (headSpec ws rm) cc maxL ret e s m args below meth c s₁ → c.maxLocals = maxL → Pc args s →
      W p l e (headSpec ws rm).room s m args below meth c s.heap [] 0 0 (vx_MQ below Qc XC args s mc ms free) (entryFrame m args maxL)) : vx_Met l y ws rm Pc Qc XC mc ms free := by
  refine MetFree.of_bodyS (code := cc) (maxLocals := maxL) (ret := ret) hy ?_ ?_
  · intro args s m h hn
    obtain ⟨m9, meth, c, hn9, h1, h2, h3, h4, -, h5, h6, -⟩ := Cond.codeWith_spec (atoms_spec (ws := ws) h _ (by rw [hw]; exact List.mem_cons_self))
    cases hn.symm.trans hn9
    exact ⟨meth, c, h1, h2, h3, h4, h5, h6⟩
  · intro p e s m args below meth c s₁ B hml hP _
    have hh0 : s₁.heap = s.heap := by rw [B.state]; rfl
    obtain ⟨t, a1, o, b1, b2, b3⟩ := body p e s m args below meth c s₁ B hml hP s₁ hh0 (Stand.of_body B)
    exact ⟨t, o, a1, b1, b2, b3⟩
/-! ===== END ===== -/
end
section
/-! names that a program printed for this claim, given for pasting: classes, fields, codes, methods -/
def RX0 : String := "LampRelay$Channel"
def TX0 : u_T := fun k => match k with
  | 0 => ("LampRelay$Channel", "power", "I", false)
  | 1 => ("LampRelay$Channel", "opening", "I", false)
  | 2 => ("LampRelay$Channel", "closing", "I", false)
  | 3 => ("LampRelay$Channel", "frame", "I", false)
  | 4 => ("LampRelay$Channel", "step", "I", false)
  | 5 => ("LampRelay$Channel", "number", "I", false)
  | 6 => ("LampRelay$Channel", "heardLetters", "I", false)
  | 7 => ("LampRelay$Channel", "heard", "[I", true)
  | 8 => ("LampRelay$Channel", "hasLost", "Z", false)
  | _ => ("LampRelay$Channel", "isGood", "Z", false)
def tyX0 : Nat → FieldType := fun k => match k with
  | 0 => .int
  | 1 => .int
  | 2 => .int
  | 3 => .int
  | 4 => .int
  | 5 => .int
  | 6 => .int
  | 7 => .array .int
  | 8 => .boolean
  | _ => .boolean
abbrev wsX00 : List Cond := u_ws RX0 TX0 10
theorem nmX0 : ∀ a, a < 10 → ∀ b, b < 10 → a ≠ b → (TX0 a).2.1 ≠ (TX0 b).2.1 := by decide +kernel
theorem tyX0_ok : ∀ k, k < 10 → parseFieldDescriptor (TX0 k).2.2.1 = some (tyX0 k) := by decide +kernel
abbrev cX0_init : ByteArray := prog_2_method_1_code
def yX0_init : MethodName := ⟨RX0, "<init>", "()V"⟩
abbrev cX0_clear : ByteArray := prog_2_method_2_code
def yX0_clear : MethodName := ⟨RX0, "clear", "()V"⟩
abbrev cX0_becomeIdle : ByteArray := prog_2_method_3_code
def yX0_becomeIdle : MethodName := ⟨RX0, "becomeIdle", "()V"⟩
abbrev cX0_take : ByteArray := prog_2_method_4_code
def yX0_take : MethodName := ⟨RX0, "take", "(I)V"⟩
abbrev cX0_copyFrom : ByteArray := prog_2_method_5_code
def yX0_copyFrom : MethodName := ⟨RX0, "copyFrom", "(LLampRelay$Channel;)V"⟩
abbrev cX0_figure : ByteArray := prog_2_method_6_code
def yX0_figure : MethodName := ⟨RX0, "figure", "(II)I"⟩
abbrev cX0_isIdle : ByteArray := prog_2_method_7_code
def yX0_isIdle : MethodName := ⟨RX0, "isIdle", "()Z"⟩
abbrev cX0_isOpenAt : ByteArray := prog_2_method_8_code
def yX0_isOpenAt : MethodName := ⟨RX0, "isOpenAt", "(I)Z"⟩
abbrev cX0_hear : ByteArray := prog_2_method_9_code
def yX0_hear : MethodName := ⟨RX0, "hear", "(I)V"⟩
abbrev cX0_judge : ByteArray := prog_2_method_10_code
def yX0_judge : MethodName := ⟨RX0, "judge", "(II)V"⟩
def RX1 : String := "LampRelay$History"
def TX1 : u_T := fun k => match k with
  | 0 => ("LampRelay$History", "ring", "[LLampRelay$World;", true)
  | 1 => ("LampRelay$History", "place", "I", false)
  | _ => ("LampRelay$History", "count", "I", false)
def tyX1 : Nat → FieldType := fun k => match k with
  | 0 => .array (.object "LampRelay$World")
  | 1 => .int
  | _ => .int
abbrev wsX10 : List Cond := u_ws RX1 TX1 3
theorem nmX1 : ∀ a, a < 3 → ∀ b, b < 3 → a ≠ b → (TX1 a).2.1 ≠ (TX1 b).2.1 := by decide +kernel
theorem tyX1_ok : ∀ k, k < 3 → parseFieldDescriptor (TX1 k).2.2.1 = some (tyX1 k) := by decide +kernel
abbrev cX1_init : ByteArray := prog_3_method_1_code
def yX1_init : MethodName := ⟨RX1, "<init>", "()V"⟩
abbrev cX1_keep : ByteArray := prog_3_method_2_code
def yX1_keep : MethodName := ⟨RX1, "keep", "(LLampRelay$World;)V"⟩
abbrev cX1_restore : ByteArray := prog_3_method_3_code
def yX1_restore : MethodName := ⟨RX1, "restore", "(LLampRelay$World;)Z"⟩
abbrev cX1_keptAt : ByteArray := prog_3_method_4_code
def yX1_keptAt : MethodName := ⟨RX1, "keptAt", "(I)LLampRelay$World;"⟩
def RX2 : String := "LampRelay$Keepers"
def TX2 : u_T := fun k => match k with
  | 0 => ("LampRelay$Keepers", "told", "I", false)
  | 1 => ("LampRelay$Keepers", "ticks", "[I", true)
  | _ => ("LampRelay$Keepers", "keys", "[I", true)
def tyX2 : Nat → FieldType := fun k => match k with
  | 0 => .int
  | 1 => .array .int
  | _ => .array .int
abbrev wsX20 : List Cond := u_ws RX2 TX2 3
theorem nmX2 : ∀ a, a < 3 → ∀ b, b < 3 → a ≠ b → (TX2 a).2.1 ≠ (TX2 b).2.1 := by decide +kernel
theorem tyX2_ok : ∀ k, k < 3 → parseFieldDescriptor (TX2 k).2.2.1 = some (tyX2 k) := by decide +kernel
abbrev cX2_init : ByteArray := prog_4_method_1_code
def yX2_init : MethodName := ⟨RX2, "<init>", "()V"⟩
abbrev cX2_copyFrom : ByteArray := prog_4_method_2_code
def yX2_copyFrom : MethodName := ⟨RX2, "copyFrom", "(LLampRelay$Keepers;)V"⟩
abbrev cX2_isFull : ByteArray := prog_4_method_3_code
def yX2_isFull : MethodName := ⟨RX2, "isFull", "()Z"⟩
abbrev cX2_hasOneAt : ByteArray := prog_4_method_4_code
def yX2_hasOneAt : MethodName := ⟨RX2, "hasOneAt", "(I)Z"⟩
abbrev cX2_placeOf : ByteArray := prog_4_method_5_code
def yX2_placeOf : MethodName := ⟨RX2, "placeOf", "(I)I"⟩
abbrev cX2_come : ByteArray := prog_4_method_6_code
def yX2_come : MethodName := ⟨RX2, "come", "(II)V"⟩
abbrev cX2_keyAt : ByteArray := prog_4_method_7_code
def yX2_keyAt : MethodName := ⟨RX2, "keyAt", "(I)I"⟩
def RX3 : String := "LampRelay$Message"
def TX3 : u_T := fun k => match k with
  | 0 => ("LampRelay$Message", "sender", "I", false)
  | 1 => ("LampRelay$Message", "urgency", "I", false)
  | 2 => ("LampRelay$Message", "length", "I", false)
  | 3 => ("LampRelay$Message", "frameSize", "I", false)
  | 4 => ("LampRelay$Message", "frames", "I", false)
  | 5 => ("LampRelay$Message", "phase", "I", false)
  | 6 => ("LampRelay$Message", "startTime", "I", false)
  | 7 => ("LampRelay$Message", "endTime", "I", false)
  | 8 => ("LampRelay$Message", "unfinished", "I", false)
  | 9 => ("LampRelay$Message", "letters", "[I", true)
  | 10 => ("LampRelay$Message", "log", "[I", true)
  | 11 => ("LampRelay$Message", "frameStates", "[I", true)
  | _ => ("LampRelay$Message", "tries", "[I", true)
def tyX3 : Nat → FieldType := fun k => match k with
  | 0 => .int
  | 1 => .int
  | 2 => .int
  | 3 => .int
  | 4 => .int
  | 5 => .int
  | 6 => .int
  | 7 => .int
  | 8 => .int
  | 9 => .array .int
  | 10 => .array .int
  | 11 => .array .int
  | _ => .array .int
abbrev wsX30 : List Cond := u_ws RX3 TX3 13
theorem nmX3 : ∀ a, a < 13 → ∀ b, b < 13 → a ≠ b → (TX3 a).2.1 ≠ (TX3 b).2.1 := by decide +kernel
theorem tyX3_ok : ∀ k, k < 13 → parseFieldDescriptor (TX3 k).2.2.1 = some (tyX3 k) := by decide +kernel
abbrev cX3_init : ByteArray := prog_5_method_1_code
def yX3_init : MethodName := ⟨RX3, "<init>", "()V"⟩
abbrev cX3_become : ByteArray := prog_5_method_2_code
def yX3_become : MethodName := ⟨RX3, "become", "(III)V"⟩
abbrev cX3_takeLetters : ByteArray := prog_5_method_3_code
def yX3_takeLetters : MethodName := ⟨RX3, "takeLetters", "([BII)V"⟩
abbrev cX3_copyFrom : ByteArray := prog_5_method_4_code
def yX3_copyFrom : MethodName := ⟨RX3, "copyFrom", "(LLampRelay$Message;)V"⟩
abbrev cX3_figure : ByteArray := prog_5_method_5_code
def yX3_figure : MethodName := ⟨RX3, "figure", "(I)I"⟩
abbrev cX3_emptyPlaces : ByteArray := prog_5_method_6_code
def yX3_emptyPlaces : MethodName := ⟨RX3, "emptyPlaces", "()I"⟩
abbrev cX3_wrongPlaces : ByteArray := prog_5_method_7_code
def yX3_wrongPlaces : MethodName := ⟨RX3, "wrongPlaces", "()I"⟩
abbrev cX3_allTries : ByteArray := prog_5_method_8_code
def yX3_allTries : MethodName := ⟨RX3, "allTries", "()I"⟩
abbrev cX3_agrees : ByteArray := prog_5_method_9_code
def yX3_agrees : MethodName := ⟨RX3, "agrees", "()Z"⟩
abbrev cX3_canBeCancelled : ByteArray := prog_5_method_10_code
def yX3_canBeCancelled : MethodName := ⟨RX3, "canBeCancelled", "()Z"⟩
abbrev cX3_hasPlace : ByteArray := prog_5_method_11_code
def yX3_hasPlace : MethodName := ⟨RX3, "hasPlace", "(I)Z"⟩
abbrev cX3_letterAt : ByteArray := prog_5_method_12_code
def yX3_letterAt : MethodName := ⟨RX3, "letterAt", "(I)I"⟩
abbrev cX3_loggedAt : ByteArray := prog_5_method_13_code
def yX3_loggedAt : MethodName := ⟨RX3, "loggedAt", "(I)I"⟩
abbrev cX3_reasonAt : ByteArray := prog_5_method_14_code
def yX3_reasonAt : MethodName := ⟨RX3, "reasonAt", "(I)I"⟩
abbrev cX3_addedTo : ByteArray := prog_5_method_15_code
def yX3_addedTo : MethodName := ⟨RX3, "addedTo", "(J)J"⟩
abbrev cX3_start : ByteArray := prog_5_method_16_code
def yX3_start : MethodName := ⟨RX3, "start", "(I)V"⟩
abbrev cX3_end : ByteArray := prog_5_method_17_code
def yX3_end : MethodName := ⟨RX3, "end", "(II)V"⟩
abbrev cX3_takeOpenFrame : ByteArray := prog_5_method_18_code
def yX3_takeOpenFrame : MethodName := ⟨RX3, "takeOpenFrame", "()I"⟩
abbrev cX3_firstPlaceOf : ByteArray := prog_5_method_19_code
def yX3_firstPlaceOf : MethodName := ⟨RX3, "firstPlaceOf", "(I)I"⟩
abbrev cX3_lettersIn : ByteArray := prog_5_method_20_code
def yX3_lettersIn : MethodName := ⟨RX3, "lettersIn", "(I)I"⟩
abbrev cX3_checkOf : ByteArray := prog_5_method_21_code
def yX3_checkOf : MethodName := ⟨RX3, "checkOf", "(I)I"⟩
abbrev cX3_writeDown : ByteArray := prog_5_method_22_code
def yX3_writeDown : MethodName := ⟨RX3, "writeDown", "(I[II)V"⟩
abbrev cX3_endTry : ByteArray := prog_5_method_23_code
def yX3_endTry : MethodName := ⟨RX3, "endTry", "(IZI)Z"⟩
def RX4 : String := "LampRelay$Mists"
def TX4 : u_T := fun k => match k with
  | 0 => ("LampRelay$Mists", "told", "I", false)
  | 1 => ("LampRelay$Mists", "firsts", "[I", true)
  | 2 => ("LampRelay$Mists", "lasts", "[I", true)
  | _ => ("LampRelay$Mists", "levels", "[I", true)
def tyX4 : Nat → FieldType := fun k => match k with
  | 0 => .int
  | 1 => .array .int
  | 2 => .array .int
  | _ => .array .int
abbrev wsX40 : List Cond := u_ws RX4 TX4 4
theorem nmX4 : ∀ a, a < 4 → ∀ b, b < 4 → a ≠ b → (TX4 a).2.1 ≠ (TX4 b).2.1 := by decide +kernel
theorem tyX4_ok : ∀ k, k < 4 → parseFieldDescriptor (TX4 k).2.2.1 = some (tyX4 k) := by decide +kernel
abbrev cX4_init : ByteArray := prog_6_method_1_code
def yX4_init : MethodName := ⟨RX4, "<init>", "()V"⟩
abbrev cX4_copyFrom : ByteArray := prog_6_method_2_code
def yX4_copyFrom : MethodName := ⟨RX4, "copyFrom", "(LLampRelay$Mists;)V"⟩
abbrev cX4_isFull : ByteArray := prog_6_method_3_code
def yX4_isFull : MethodName := ⟨RX4, "isFull", "()Z"⟩
abbrev cX4_add : ByteArray := prog_6_method_4_code
def yX4_add : MethodName := ⟨RX4, "add", "(III)V"⟩
abbrev cX4_levelAt : ByteArray := prog_6_method_5_code
def yX4_levelAt : MethodName := ⟨RX4, "levelAt", "(I)I"⟩
def RX5 : String := "LampRelay$SetupReader"
def TX5 : u_T := fun k => match k with
  | 0 => ("LampRelay$SetupReader", "text", "[B", true)
  | 1 => ("LampRelay$SetupReader", "length", "I", true)
  | 2 => ("LampRelay$SetupReader", "at", "I", false)
  | 3 => ("LampRelay$SetupReader", "tokenAt", "I", false)
  | 4 => ("LampRelay$SetupReader", "channelsTold", "I", false)
  | 5 => ("LampRelay$SetupReader", "errorCode", "I", false)
  | _ => ("LampRelay$SetupReader", "errorAt", "I", false)
def tyX5 : Nat → FieldType := fun k => match k with
  | 0 => .array .byte
  | 1 => .int
  | 2 => .int
  | 3 => .int
  | 4 => .int
  | 5 => .int
  | _ => .int
abbrev wsX50 : List Cond := u_ws RX5 TX5 7
theorem nmX5 : ∀ a, a < 7 → ∀ b, b < 7 → a ≠ b → (TX5 a).2.1 ≠ (TX5 b).2.1 := by decide +kernel
theorem tyX5_ok : ∀ k, k < 7 → parseFieldDescriptor (TX5 k).2.2.1 = some (tyX5 k) := by decide +kernel
abbrev cX5_init : ByteArray := prog_7_method_1_code
def yX5_init : MethodName := ⟨RX5, "<init>", "([BI)V"⟩
abbrev cX5_readInto : ByteArray := prog_7_method_2_code
def yX5_readInto : MethodName := ⟨RX5, "readInto", "(LLampRelay$World;)Z"⟩
abbrev cX5_readRelay : ByteArray := prog_7_method_3_code
def yX5_readRelay : MethodName := ⟨RX5, "readRelay", "(LLampRelay$World;)Z"⟩
abbrev cX5_readStatement : ByteArray := prog_7_method_4_code
def yX5_readStatement : MethodName := ⟨RX5, "readStatement", "(LLampRelay$World;)Z"⟩
abbrev cX5_readChannel : ByteArray := prog_7_method_5_code
def yX5_readChannel : MethodName := ⟨RX5, "readChannel", "(LLampRelay$World;)Z"⟩
abbrev cX5_readKeeper : ByteArray := prog_7_method_6_code
def yX5_readKeeper : MethodName := ⟨RX5, "readKeeper", "(LLampRelay$World;)Z"⟩
abbrev cX5_readMist : ByteArray := prog_7_method_7_code
def yX5_readMist : MethodName := ⟨RX5, "readMist", "(LLampRelay$World;)Z"⟩
abbrev cX5_readMessage : ByteArray := prog_7_method_8_code
def yX5_readMessage : MethodName := ⟨RX5, "readMessage", "(LLampRelay$World;)Z"⟩
abbrev cX5_isError : ByteArray := prog_7_method_9_code
def yX5_isError : MethodName := ⟨RX5, "isError", "(I)Z"⟩
abbrev cX5_findToken : ByteArray := prog_7_method_10_code
def yX5_findToken : MethodName := ⟨RX5, "findToken", "()Z"⟩
abbrev cX5_readWord : ByteArray := prog_7_method_11_code
def yX5_readWord : MethodName := ⟨RX5, "readWord", "()V"⟩
abbrev cX5_readNumber : ByteArray := prog_7_method_12_code
def yX5_readNumber : MethodName := ⟨RX5, "readNumber", "(II)I"⟩
abbrev cX5_readSemicolon : ByteArray := prog_7_method_13_code
def yX5_readSemicolon : MethodName := ⟨RX5, "readSemicolon", "()Z"⟩
abbrev cX5_isToken : ByteArray := prog_7_method_14_code
def yX5_isToken : MethodName := ⟨RX5, "isToken", "(Ljava/lang/String;)Z"⟩
abbrev cX5_byteAt : ByteArray := prog_7_method_15_code
def yX5_byteAt : MethodName := ⟨RX5, "byteAt", "(I)I"⟩
def RX6 : String := "LampRelay$World"
def TX6 : u_T := fun k => match k with
  | 0 => ("LampRelay$World", "time", "I", false)
  | 1 => ("LampRelay$World", "told", "I", false)
  | 2 => ("LampRelay$World", "onTheWay", "I", false)
  | 3 => ("LampRelay$World", "frameSize", "I", false)
  | 4 => ("LampRelay$World", "limit", "I", false)
  | 5 => ("LampRelay$World", "sent", "I", false)
  | 6 => ("LampRelay$World", "lost", "I", false)
  | 7 => ("LampRelay$World", "garbled", "I", false)
  | 8 => ("LampRelay$World", "givenUp", "I", false)
  | 9 => ("LampRelay$World", "messages", "[LLampRelay$Message;", true)
  | 10 => ("LampRelay$World", "noMessage", "LLampRelay$Message;", true)
  | 11 => ("LampRelay$World", "channel0", "LLampRelay$Channel;", true)
  | 12 => ("LampRelay$World", "channel1", "LLampRelay$Channel;", true)
  | 13 => ("LampRelay$World", "keepers0", "LLampRelay$Keepers;", true)
  | 14 => ("LampRelay$World", "keepers1", "LLampRelay$Keepers;", true)
  | _ => ("LampRelay$World", "mists", "LLampRelay$Mists;", true)
def tyX6 : Nat → FieldType := fun k => match k with
  | 0 => .int
  | 1 => .int
  | 2 => .int
  | 3 => .int
  | 4 => .int
  | 5 => .int
  | 6 => .int
  | 7 => .int
  | 8 => .int
  | 9 => .array (.object "LampRelay$Message")
  | 10 => .object "LampRelay$Message"
  | 11 => .object "LampRelay$Channel"
  | 12 => .object "LampRelay$Channel"
  | 13 => .object "LampRelay$Keepers"
  | 14 => .object "LampRelay$Keepers"
  | _ => .object "LampRelay$Mists"
abbrev wsX60 : List Cond := u_ws RX6 TX6 16
theorem nmX6 : ∀ a, a < 16 → ∀ b, b < 16 → a ≠ b → (TX6 a).2.1 ≠ (TX6 b).2.1 := by decide +kernel
theorem tyX6_ok : ∀ k, k < 16 → parseFieldDescriptor (TX6 k).2.2.1 = some (tyX6 k) := by decide +kernel
abbrev cX6_init : ByteArray := prog_8_method_1_code
def yX6_init : MethodName := ⟨RX6, "<init>", "()V"⟩
abbrev cX6_clear : ByteArray := prog_8_method_2_code
def yX6_clear : MethodName := ⟨RX6, "clear", "(II)V"⟩
abbrev cX6_copyFrom : ByteArray := prog_8_method_3_code
def yX6_copyFrom : MethodName := ⟨RX6, "copyFrom", "(LLampRelay$World;)V"⟩
abbrev cX6_hasMessage : ByteArray := prog_8_method_4_code
def yX6_hasMessage : MethodName := ⟨RX6, "hasMessage", "(I)Z"⟩
abbrev cX6_messageNumbered : ByteArray := prog_8_method_5_code
def yX6_messageNumbered : MethodName := ⟨RX6, "messageNumbered", "(I)LLampRelay$Message;"⟩
abbrev cX6_channelNumbered : ByteArray := prog_8_method_6_code
def yX6_channelNumbered : MethodName := ⟨RX6, "channelNumbered", "(I)LLampRelay$Channel;"⟩
abbrev cX6_keepersOf : ByteArray := prog_8_method_7_code
def yX6_keepersOf : MethodName := ⟨RX6, "keepersOf", "(I)LLampRelay$Keepers;"⟩
abbrev cX6_addMessage : ByteArray := prog_8_method_8_code
def yX6_addMessage : MethodName := ⟨RX6, "addMessage", "(II[BII)V"⟩
abbrev cX6_figure : ByteArray := prog_8_method_9_code
def yX6_figure : MethodName := ⟨RX6, "figure", "(I)I"⟩
abbrev cX6_messagesIn : ByteArray := prog_8_method_10_code
def yX6_messagesIn : MethodName := ⟨RX6, "messagesIn", "(I)I"⟩
abbrev cX6_agreeing : ByteArray := prog_8_method_11_code
def yX6_agreeing : MethodName := ⟨RX6, "agreeing", "()I"⟩
abbrev cX6_isBusy : ByteArray := prog_8_method_12_code
def yX6_isBusy : MethodName := ⟨RX6, "isBusy", "()Z"⟩
abbrev cX6_servedAs : ByteArray := prog_8_method_13_code
def yX6_servedAs : MethodName := ⟨RX6, "servedAs", "(I)I"⟩
abbrev cX6_servedBefore : ByteArray := prog_8_method_14_code
def yX6_servedBefore : MethodName := ⟨RX6, "servedBefore", "(I)I"⟩
abbrev cX6_takeBack : ByteArray := prog_8_method_15_code
def yX6_takeBack : MethodName := ⟨RX6, "takeBack", "(I)Z"⟩
abbrev cX6_letForetoldTicksPass : ByteArray := prog_8_method_16_code
def yX6_letForetoldTicksPass : MethodName := ⟨RX6, "letForetoldTicksPass", "(Z)Z"⟩
abbrev cX6_letTickPass : ByteArray := prog_8_method_17_code
def yX6_letTickPass : MethodName := ⟨RX6, "letTickPass", "()I"⟩
abbrev cX6_startFirstWaiting : ByteArray := prog_8_method_18_code
def yX6_startFirstWaiting : MethodName := ⟨RX6, "startFirstWaiting", "()V"⟩
abbrev cX6_serve : ByteArray := prog_8_method_19_code
def yX6_serve : MethodName := ⟨RX6, "serve", "(LLampRelay$Channel;I)V"⟩
abbrev cX6_countSymbol : ByteArray := prog_8_method_20_code
def yX6_countSymbol : MethodName := ⟨RX6, "countSymbol", "(ZZ)V"⟩
abbrev cX6_makeStep : ByteArray := prog_8_method_21_code
def yX6_makeStep : MethodName := ⟨RX6, "makeStep", "(LLampRelay$Channel;LLampRelay$Message;ZZ)V"⟩
def RX7 : String := "LampRelay"
def TX7 : u_T := fun k => match k with
  | 0 => ("LampRelay", "buffer", "[B", true)
  | 1 => ("LampRelay", "bufferLength", "I", false)
  | 2 => ("LampRelay", "foundErrorOffset", "I", false)
  | 3 => ("LampRelay", "now", "LLampRelay$World;", true)
  | 4 => ("LampRelay", "trial", "LLampRelay$World;", true)
  | _ => ("LampRelay", "history", "LLampRelay$History;", true)
def tyX7 : Nat → FieldType := fun k => match k with
  | 0 => .array .byte
  | 1 => .int
  | 2 => .int
  | 3 => .object "LampRelay$World"
  | 4 => .object "LampRelay$World"
  | _ => .object "LampRelay$History"
abbrev wsX70 : List Cond := u_ws RX7 TX7 6
theorem nmX7 : ∀ a, a < 6 → ∀ b, b < 6 → a ≠ b → (TX7 a).2.1 ≠ (TX7 b).2.1 := by decide +kernel
theorem tyX7_ok : ∀ k, k < 6 → parseFieldDescriptor (TX7 k).2.2.1 = some (tyX7 k) := by decide +kernel
abbrev cX7_init : ByteArray := prog_1_method_1_code
def yX7_init : MethodName := ⟨RX7, "<init>", "()V"⟩
abbrev cX7_append : ByteArray := prog_1_method_2_code
def yX7_append : MethodName := ⟨RX7, "append", "(IIIII)I"⟩
abbrev cX7_load : ByteArray := prog_1_method_3_code
def yX7_load : MethodName := ⟨RX7, "load", "(I)I"⟩
abbrev cX7_errorOffset : ByteArray := prog_1_method_4_code
def yX7_errorOffset : MethodName := ⟨RX7, "errorOffset", "()I"⟩
abbrev cX7_state : ByteArray := prog_1_method_5_code
def yX7_state : MethodName := ⟨RX7, "state", "(I)I"⟩
abbrev cX7_channel : ByteArray := prog_1_method_6_code
def yX7_channel : MethodName := ⟨RX7, "channel", "(II)I"⟩
abbrev cX7_message : ByteArray := prog_1_method_7_code
def yX7_message : MethodName := ⟨RX7, "message", "(II)I"⟩
abbrev cX7_letter : ByteArray := prog_1_method_8_code
def yX7_letter : MethodName := ⟨RX7, "letter", "(IIZ)I"⟩
abbrev cX7_why : ByteArray := prog_1_method_9_code
def yX7_why : MethodName := ⟨RX7, "why", "(II)I"⟩
abbrev cX7_mist : ByteArray := prog_1_method_10_code
def yX7_mist : MethodName := ⟨RX7, "mist", "(I)I"⟩
abbrev cX7_key : ByteArray := prog_1_method_11_code
def yX7_key : MethodName := ⟨RX7, "key", "(II)I"⟩
abbrev cX7_next : ByteArray := prog_1_method_12_code
def yX7_next : MethodName := ⟨RX7, "next", "(I)I"⟩
abbrev cX7_foretold : ByteArray := prog_1_method_13_code
def yX7_foretold : MethodName := ⟨RX7, "foretold", "(I)I"⟩
abbrev cX7_leastPower : ByteArray := prog_1_method_14_code
def yX7_leastPower : MethodName := ⟨RX7, "leastPower", "(I)I"⟩
abbrev cX7_pass : ByteArray := prog_1_method_16_code
def yX7_pass : MethodName := ⟨RX7, "pass", "(I)I"⟩
abbrev cX7_send : ByteArray := prog_1_method_17_code
def yX7_send : MethodName := ⟨RX7, "send", "(III)I"⟩
abbrev cX7_fog : ByteArray := prog_1_method_18_code
def yX7_fog : MethodName := ⟨RX7, "fog", "(III)I"⟩
abbrev cX7_relieve : ByteArray := prog_1_method_19_code
def yX7_relieve : MethodName := ⟨RX7, "relieve", "(II)I"⟩
abbrev cX7_power : ByteArray := prog_1_method_20_code
def yX7_power : MethodName := ⟨RX7, "power", "(II)I"⟩
abbrev cX7_cancel : ByteArray := prog_1_method_21_code
def yX7_cancel : MethodName := ⟨RX7, "cancel", "(I)Z"⟩
abbrev cX7_undo : ByteArray := prog_1_method_22_code
def yX7_undo : MethodName := ⟨RX7, "undo", "()I"⟩
abbrev cX7_checksum : ByteArray := prog_1_method_23_code
def yX7_checksum : MethodName := ⟨RX7, "checksum", "()J"⟩
abbrev cX7_appendWord : ByteArray := prog_1_method_24_code
def yX7_appendWord : MethodName := ⟨RX7, "appendWord", "(I)V"⟩
abbrev cX7_buffersLetters : ByteArray := prog_1_method_25_code
def yX7_buffersLetters : MethodName := ⟨RX7, "buffersLetters", "(I)Z"⟩
abbrev cX7_isWithin : ByteArray := prog_1_method_26_code
def yX7_isWithin : MethodName := ⟨RX7, "isWithin", "(III)Z"⟩
abbrev cX7_valueAt : ByteArray := prog_1_method_27_code
def yX7_valueAt : MethodName := ⟨RX7, "valueAt", "([II)I"⟩
abbrev cX7_setAt : ByteArray := prog_1_method_28_code
def yX7_setAt : MethodName := ⟨RX7, "setAt", "([III)V"⟩
abbrev cX7_copyRow : ByteArray := prog_1_method_29_code
def yX7_copyRow : MethodName := ⟨RX7, "copyRow", "([I[I)V"⟩
def RX8 : String := "LampRelayLaw$Frame"
def TX8 : u_T := fun k => match k with
  | 0 => ("LampRelayLaw$Frame", "state", "I", false)
  | _ => ("LampRelayLaw$Frame", "tries", "I", false)
def tyX8 : Nat → FieldType := fun k => match k with
  | 0 => .int
  | _ => .int
abbrev wsX80 : List Cond := u_ws RX8 TX8 2
theorem nmX8 : ∀ a, a < 2 → ∀ b, b < 2 → a ≠ b → (TX8 a).2.1 ≠ (TX8 b).2.1 := by decide +kernel
theorem tyX8_ok : ∀ k, k < 2 → parseFieldDescriptor (TX8 k).2.2.1 = some (tyX8 k) := by decide +kernel
abbrev cX8_init : ByteArray := prog_10_method_1_code
def yX8_init : MethodName := ⟨RX8, "<init>", "()V"⟩
abbrev cX8_copy : ByteArray := prog_10_method_2_code
def yX8_copy : MethodName := ⟨RX8, "copy", "()LLampRelayLaw$Frame;"⟩
def RX9 : String := "LampRelayLaw$Lamp"
def TX9 : u_T := fun k => match k with
  | 0 => ("LampRelayLaw$Lamp", "power", "I", false)
  | 1 => ("LampRelayLaw$Lamp", "opens", "I", false)
  | 2 => ("LampRelayLaw$Lamp", "closes", "I", false)
  | 3 => ("LampRelayLaw$Lamp", "work", "I", false)
  | 4 => ("LampRelayLaw$Lamp", "step", "I", false)
  | 5 => ("LampRelayLaw$Lamp", "isLost", "Z", false)
  | 6 => ("LampRelayLaw$Lamp", "number", "I", false)
  | 7 => ("LampRelayLaw$Lamp", "came", "[I", false)
  | _ => ("LampRelayLaw$Lamp", "isGood", "Z", false)
def tyX9 : Nat → FieldType := fun k => match k with
  | 0 => .int
  | 1 => .int
  | 2 => .int
  | 3 => .int
  | 4 => .int
  | 5 => .boolean
  | 6 => .int
  | 7 => .array .int
  | _ => .boolean
abbrev wsX90 : List Cond := u_ws RX9 TX9 9
theorem nmX9 : ∀ a, a < 9 → ∀ b, b < 9 → a ≠ b → (TX9 a).2.1 ≠ (TX9 b).2.1 := by decide +kernel
theorem tyX9_ok : ∀ k, k < 9 → parseFieldDescriptor (TX9 k).2.2.1 = some (tyX9 k) := by decide +kernel
abbrev cX9_init : ByteArray := prog_11_method_1_code
def yX9_init : MethodName := ⟨RX9, "<init>", "()V"⟩
abbrev cX9_copy : ByteArray := prog_11_method_2_code
def yX9_copy : MethodName := ⟨RX9, "copy", "()LLampRelayLaw$Lamp;"⟩
abbrev cX9_isOpen : ByteArray := prog_11_method_3_code
def yX9_isOpen : MethodName := ⟨RX9, "isOpen", "(I)Z"⟩
def RX10 : String := "LampRelayLaw$Line"
def TX10 : u_T := fun k => match k with
  | 0 => ("LampRelayLaw$Line", "lamps", "[LLampRelayLaw$Lamp;", false)
  | 1 => ("LampRelayLaw$Line", "talks", "[LLampRelayLaw$Talk;", false)
  | 2 => ("LampRelayLaw$Line", "keepers", "[[I", false)
  | 3 => ("LampRelayLaw$Line", "mists", "[[I", false)
  | 4 => ("LampRelayLaw$Line", "size", "I", false)
  | 5 => ("LampRelayLaw$Line", "limit", "I", false)
  | 6 => ("LampRelayLaw$Line", "time", "I", false)
  | 7 => ("LampRelayLaw$Line", "onWay", "I", false)
  | 8 => ("LampRelayLaw$Line", "sent", "I", false)
  | 9 => ("LampRelayLaw$Line", "lost", "I", false)
  | 10 => ("LampRelayLaw$Line", "garbled", "I", false)
  | _ => ("LampRelayLaw$Line", "given", "I", false)
def tyX10 : Nat → FieldType := fun k => match k with
  | 0 => .array (.object "LampRelayLaw$Lamp")
  | 1 => .array (.object "LampRelayLaw$Talk")
  | 2 => .array (.array .int)
  | 3 => .array (.array .int)
  | 4 => .int
  | 5 => .int
  | 6 => .int
  | 7 => .int
  | 8 => .int
  | 9 => .int
  | 10 => .int
  | _ => .int
abbrev wsX100 : List Cond := u_ws RX10 TX10 12
theorem nmX10 : ∀ a, a < 12 → ∀ b, b < 12 → a ≠ b → (TX10 a).2.1 ≠ (TX10 b).2.1 := by decide +kernel
theorem tyX10_ok : ∀ k, k < 12 → parseFieldDescriptor (TX10 k).2.2.1 = some (tyX10 k) := by decide +kernel
abbrev cX10_init : ByteArray := prog_12_method_1_code
def yX10_init : MethodName := ⟨RX10, "<init>", "()V"⟩
abbrev cX10_copy : ByteArray := prog_12_method_2_code
def yX10_copy : MethodName := ⟨RX10, "copy", "()LLampRelayLaw$Line;"⟩
abbrev cX10_adds : ByteArray := prog_12_method_3_code
def yX10_adds : MethodName := ⟨RX10, "adds", "(IILjava/lang/String;)V"⟩
abbrev cX10_mist : ByteArray := prog_12_method_4_code
def yX10_mist : MethodName := ⟨RX10, "mist", "(I)I"⟩
abbrev cX10_key : ByteArray := prog_12_method_5_code
def yX10_key : MethodName := ⟨RX10, "key", "(II)I"⟩
abbrev cX10_air : ByteArray := prog_12_method_6_code
def yX10_air : MethodName := ⟨RX10, "air", "(LLampRelayLaw$Lamp;)I"⟩
abbrev cX10_letters : ByteArray := prog_12_method_7_code
def yX10_letters : MethodName := ⟨RX10, "letters", "(LLampRelayLaw$Talk;I)I"⟩
abbrev cX10_steps : ByteArray := prog_12_method_8_code
def yX10_steps : MethodName := ⟨RX10, "steps", "(LLampRelayLaw$Talk;LLampRelayLaw$Lamp;)V"⟩
abbrev cX10_next : ByteArray := prog_12_method_9_code
def yX10_next : MethodName := ⟨RX10, "next", "(I)I"⟩
abbrev cX10_ticks : ByteArray := prog_12_method_10_code
def yX10_ticks : MethodName := ⟨RX10, "ticks", "()I"⟩
abbrev cX10_inState : ByteArray := prog_12_method_11_code
def yX10_inState : MethodName := ⟨RX10, "inState", "(I)I"⟩
abbrev cX10_agreeing : ByteArray := prog_12_method_12_code
def yX10_agreeing : MethodName := ⟨RX10, "agreeing", "()I"⟩
abbrev cX10_cancels : ByteArray := prog_12_method_15_code
def yX10_cancels : MethodName := ⟨RX10, "cancels", "(I)Z"⟩
abbrev cX10_why : ByteArray := prog_12_method_16_code
def yX10_why : MethodName := ⟨RX10, "why", "(II)I"⟩
abbrev cX10_told : ByteArray := prog_12_method_17_code
def yX10_told : MethodName := ⟨RX10, "told", "(I)I"⟩
abbrev cX10_ofLamp : ByteArray := prog_12_method_18_code
def yX10_ofLamp : MethodName := ⟨RX10, "ofLamp", "(II)I"⟩
abbrev cX10_ofTalk : ByteArray := prog_12_method_19_code
def yX10_ofTalk : MethodName := ⟨RX10, "ofTalk", "(II)I"⟩
abbrev cX10_checksum : ByteArray := prog_12_method_20_code
def yX10_checksum : MethodName := ⟨RX10, "checksum", "()J"⟩
def RX11 : String := "LampRelayLaw$Random"
def TX11 : u_T := fun k => match k with
  | _ => ("LampRelayLaw$Random", "seed", "I", false)
def tyX11 : Nat → FieldType := fun k => match k with
  | _ => .int
abbrev wsX110 : List Cond := u_ws RX11 TX11 1
theorem nmX11 : ∀ a, a < 1 → ∀ b, b < 1 → a ≠ b → (TX11 a).2.1 ≠ (TX11 b).2.1 := by decide +kernel
theorem tyX11_ok : ∀ k, k < 1 → parseFieldDescriptor (TX11 k).2.2.1 = some (tyX11 k) := by decide +kernel
abbrev cX11_init : ByteArray := prog_13_method_1_code
def yX11_init : MethodName := ⟨RX11, "<init>", "(I)V"⟩
abbrev cX11_below : ByteArray := prog_13_method_2_code
def yX11_below : MethodName := ⟨RX11, "below", "(I)I"⟩
def RX12 : String := "LampRelayLaw$Talk"
def TX12 : u_T := fun k => match k with
  | 0 => ("LampRelayLaw$Talk", "sender", "I", false)
  | 1 => ("LampRelayLaw$Talk", "urgency", "I", false)
  | 2 => ("LampRelayLaw$Talk", "word", "Ljava/lang/String;", false)
  | 3 => ("LampRelayLaw$Talk", "log", "[I", false)
  | 4 => ("LampRelayLaw$Talk", "frames", "[LLampRelayLaw$Frame;", false)
  | 5 => ("LampRelayLaw$Talk", "state", "I", false)
  | 6 => ("LampRelayLaw$Talk", "began", "I", false)
  | _ => ("LampRelayLaw$Talk", "ended", "I", false)
def tyX12 : Nat → FieldType := fun k => match k with
  | 0 => .int
  | 1 => .int
  | 2 => .object "java/lang/String"
  | 3 => .array .int
  | 4 => .array (.object "LampRelayLaw$Frame")
  | 5 => .int
  | 6 => .int
  | _ => .int
abbrev wsX120 : List Cond := u_ws RX12 TX12 8
theorem nmX12 : ∀ a, a < 8 → ∀ b, b < 8 → a ≠ b → (TX12 a).2.1 ≠ (TX12 b).2.1 := by decide +kernel
theorem tyX12_ok : ∀ k, k < 8 → parseFieldDescriptor (TX12 k).2.2.1 = some (tyX12 k) := by decide +kernel
abbrev cX12_init : ByteArray := prog_14_method_1_code
def yX12_init : MethodName := ⟨RX12, "<init>", "()V"⟩
abbrev cX12_copy : ByteArray := prog_14_method_2_code
def yX12_copy : MethodName := ⟨RX12, "copy", "()LLampRelayLaw$Talk;"⟩
abbrev cX12_letter : ByteArray := prog_14_method_3_code
def yX12_letter : MethodName := ⟨RX12, "letter", "(I)I"⟩
abbrev cX12_empty : ByteArray := prog_14_method_4_code
def yX12_empty : MethodName := ⟨RX12, "empty", "()I"⟩
abbrev cX12_wrong : ByteArray := prog_14_method_5_code
def yX12_wrong : MethodName := ⟨RX12, "wrong", "()I"⟩
abbrev cX12_agrees : ByteArray := prog_14_method_6_code
def yX12_agrees : MethodName := ⟨RX12, "agrees", "()Z"⟩
abbrev cX12_tries : ByteArray := prog_14_method_7_code
def yX12_tries : MethodName := ⟨RX12, "tries", "()I"⟩
def RX13 : String := "LampRelayModel"
def TX13 : u_T := fun k => match k with
  | _ => ("", "", "", false)
def tyX13 : Nat → FieldType := fun k => match k with
  | _ => .int
abbrev wsX130 : List Cond := u_ws RX13 TX13 0
theorem nmX13 : ∀ a, a < 0 → ∀ b, b < 0 → a ≠ b → (TX13 a).2.1 ≠ (TX13 b).2.1 := by decide +kernel
theorem tyX13_ok : ∀ k, k < 0 → parseFieldDescriptor (TX13 k).2.2.1 = some (tyX13 k) := by decide +kernel
def RJx145de : String := "java/io/Serializable"
def RJ5 : String := "java/lang/AbstractStringBuilder"
abbrev cJ5_init_d00df : ByteArray := prog_17_method_2_code
def yJ5_init_d00df : MethodName := ⟨RJ5, "<init>", "(I)V"⟩
abbrev cJ5_length_8abf5 : ByteArray := prog_17_method_6_code
def yJ5_length_8abf5 : MethodName := ⟨RJ5, "length", "()I"⟩
abbrev cJ5_ensureCapacityInternal_d00df : ByteArray := prog_17_method_9_code
def yJ5_ensureCapacityInternal_d00df : MethodName := ⟨RJ5, "ensureCapacityInternal", "(I)V"⟩
abbrev cJ5_newCapacity_0f7a4 : ByteArray := prog_17_method_10_code
def yJ5_newCapacity_0f7a4 : MethodName := ⟨RJ5, "newCapacity", "(I)I"⟩
abbrev cJ5_inflate_da8c8 : ByteArray := prog_17_method_11_code
def yJ5_inflate_da8c8 : MethodName := ⟨RJ5, "inflate", "()V"⟩
abbrev cJ5_append_cf1ce : ByteArray := prog_17_method_22_code
def yJ5_append_cf1ce : MethodName := ⟨RJ5, "append", "(Ljava/lang/String;)Ljava/lang/AbstractStringBuilder;"⟩
abbrev cJ5_appendNull_278bc : ByteArray := prog_17_method_26_code
def yJ5_appendNull_278bc : MethodName := ⟨RJ5, "appendNull", "()Ljava/lang/AbstractStringBuilder;"⟩
abbrev cJ5_append_3fe6f : ByteArray := prog_17_method_31_code
def yJ5_append_3fe6f : MethodName := ⟨RJ5, "append", "(C)Ljava/lang/AbstractStringBuilder;"⟩
abbrev cJ5_append_c97b9 : ByteArray := prog_17_method_32_code
def yJ5_append_c97b9 : MethodName := ⟨RJ5, "append", "(I)Ljava/lang/AbstractStringBuilder;"⟩
abbrev cJ5_getValue_6d5f1 : ByteArray := prog_17_method_64_code
def yJ5_getValue_6d5f1 : MethodName := ⟨RJ5, "getValue", "()[B"⟩
abbrev cJ5_isLatin1_aae02 : ByteArray := prog_17_method_68_code
def yJ5_isLatin1_aae02 : MethodName := ⟨RJ5, "isLatin1", "()Z"⟩
abbrev cJ5_inflateIfNeededFor_a7421 : ByteArray := prog_17_method_71_code
def yJ5_inflateIfNeededFor_a7421 : MethodName := ⟨RJ5, "inflateIfNeededFor", "(Ljava/lang/String;)V"⟩
abbrev cJ5_putStringAt_47b60 : ByteArray := prog_17_method_73_code
def yJ5_putStringAt_47b60 : MethodName := ⟨RJ5, "putStringAt", "(ILjava/lang/String;)V"⟩
def RJx2cfe8 : String := "java/lang/Appendable"
def RJx9f9b0 : String := "java/lang/CharSequence"
def RJx8e188 : String := "java/lang/Cloneable"
def RJxb160c : String := "java/lang/Comparable"
def RJ6 : String := "java/lang/Integer"
abbrev cJ6_getChars_ba4f3 : ByteArray := prog_26_method_12_code
def yJ6_getChars_ba4f3 : MethodName := ⟨RJ6, "getChars", "(II[B)I"⟩
abbrev cJ6_stringSize_0f7a4 : ByteArray := prog_26_method_13_code
def yJ6_stringSize_0f7a4 : MethodName := ⟨RJ6, "stringSize", "(I)I"⟩
def RJ9 : String := "java/lang/Math"
abbrev cJ9_floorMod_7cf53 : ByteArray := prog_27_method_50_code
def yJ9_floorMod_7cf53 : MethodName := ⟨RJ9, "floorMod", "(II)I"⟩
abbrev cJ9_max_7cf53 : ByteArray := prog_27_method_65_code
def yJ9_max_7cf53 : MethodName := ⟨RJ9, "max", "(II)I"⟩
abbrev cJ9_min_7cf53 : ByteArray := prog_27_method_69_code
def yJ9_min_7cf53 : MethodName := ⟨RJ9, "min", "(II)I"⟩
def RJxd2413 : String := "java/lang/Number"
def RJ0 : String := "java/lang/String"
def TJ0 : u_T := fun k => match k with
  | 0 => ("java/lang/String", "value", "[B", true)
  | 1 => ("java/lang/String", "coder", "B", true)
  | 2 => ("java/lang/String", "hash", "I", false)
  | _ => ("java/lang/String", "hashIsZero", "Z", false)
def tyJ0 : Nat → FieldType := fun k => match k with
  | 0 => .array .byte
  | 1 => .byte
  | 2 => .int
  | _ => .boolean
abbrev wsJ00 : List Cond := u_ws RJ0 TJ0 4
theorem nmJ0 : ∀ a, a < 4 → ∀ b, b < 4 → a ≠ b → (TJ0 a).2.1 ≠ (TJ0 b).2.1 := by decide +kernel
theorem tyJ0_ok : ∀ k, k < 4 → parseFieldDescriptor (TJ0 k).2.2.1 = some (tyJ0 k) := by decide +kernel
abbrev cJ0_init_81219 : ByteArray := prog_30_method_53_code
def yJ0_init_81219 : MethodName := ⟨RJ0, "<init>", "(Ljava/lang/StringBuilder;)V"⟩
abbrev cJ0_length_8abf5 : ByteArray := prog_30_method_54_code
def yJ0_length_8abf5 : MethodName := ⟨RJ0, "length", "()I"⟩
abbrev cJ0_charAt_5068e : ByteArray := prog_30_method_56_code
def yJ0_charAt_5068e : MethodName := ⟨RJ0, "charAt", "(I)C"⟩
abbrev cJ0_getBytes_840e7 : ByteArray := prog_30_method_147_code
def yJ0_getBytes_840e7 : MethodName := ⟨RJ0, "getBytes", "([BIB)V"⟩
abbrev cJ0_init_db425 : ByteArray := prog_30_method_150_code
def yJ0_init_db425 : MethodName := ⟨RJ0, "<init>", "(Ljava/lang/AbstractStringBuilder;Ljava/lang/Void;)V"⟩
abbrev cJ0_coder_7d493 : ByteArray := prog_30_method_152_code
def yJ0_coder_7d493 : MethodName := ⟨RJ0, "coder", "()B"⟩
abbrev cJ0_isLatin1_aae02 : ByteArray := prog_30_method_154_code
def yJ0_isLatin1_aae02 : MethodName := ⟨RJ0, "isLatin1", "()Z"⟩
abbrev cJ0_checkIndex_df160 : ByteArray := prog_30_method_155_code
def yJ0_checkIndex_df160 : MethodName := ⟨RJ0, "checkIndex", "(II)V"⟩
abbrev cJ0_checkBoundsOffCount_cabcc : ByteArray := prog_30_method_157_code
def yJ0_checkBoundsOffCount_cabcc : MethodName := ⟨RJ0, "checkBoundsOffCount", "(III)I"⟩
abbrev cJ0_checkBoundsBeginEnd_23922 : ByteArray := prog_30_method_158_code
def yJ0_checkBoundsBeginEnd_23922 : MethodName := ⟨RJ0, "checkBoundsBeginEnd", "(III)V"⟩
def RJ4 : String := "java/lang/StringBuilder"
def TJ4 : u_T := fun k => match k with
  | 0 => ("java/lang/AbstractStringBuilder", "value", "[B", false)
  | 1 => ("java/lang/AbstractStringBuilder", "coder", "B", false)
  | 2 => ("java/lang/AbstractStringBuilder", "maybeLatin1", "Z", false)
  | _ => ("java/lang/AbstractStringBuilder", "count", "I", false)
def tyJ4 : Nat → FieldType := fun k => match k with
  | 0 => .array .byte
  | 1 => .byte
  | 2 => .boolean
  | _ => .int
abbrev wsJ40 : List Cond := u_ws RJ4 TJ4 4
theorem nmJ4 : ∀ a, a < 4 → ∀ b, b < 4 → a ≠ b → (TJ4 a).2.1 ≠ (TJ4 b).2.1 := by decide +kernel
theorem tyJ4_ok : ∀ k, k < 4 → parseFieldDescriptor (TJ4 k).2.2.1 = some (tyJ4 k) := by decide +kernel
abbrev cJ4_init_da8c8 : ByteArray := prog_31_method_1_code
def yJ4_init_da8c8 : MethodName := ⟨RJ4, "<init>", "()V"⟩
abbrev cJ4_append_15ec4 : ByteArray := prog_31_method_7_code
def yJ4_append_15ec4 : MethodName := ⟨RJ4, "append", "(Ljava/lang/String;)Ljava/lang/StringBuilder;"⟩
abbrev cJ4_append_cf468 : ByteArray := prog_31_method_14_code
def yJ4_append_cf468 : MethodName := ⟨RJ4, "append", "(C)Ljava/lang/StringBuilder;"⟩
abbrev cJ4_append_bf812 : ByteArray := prog_31_method_15_code
def yJ4_append_bf812 : MethodName := ⟨RJ4, "append", "(I)Ljava/lang/StringBuilder;"⟩
abbrev cJ4_toString_0e30d : ByteArray := prog_31_method_42_code
def yJ4_toString_0e30d : MethodName := ⟨RJ4, "toString", "()Ljava/lang/String;"⟩
abbrev cJ4_length_8abf5 : ByteArray := prog_31_method_93_code
def yJ4_length_8abf5 : MethodName := ⟨RJ4, "length", "()I"⟩
def RJ1 : String := "java/lang/StringLatin1"
abbrev cJ1_charAt_3b067 : ByteArray := prog_32_method_2_code
def yJ1_charAt_3b067 : MethodName := ⟨RJ1, "charAt", "([BI)C"⟩
abbrev cJ1_canEncode_fc78d : ByteArray := prog_32_method_3_code
def yJ1_canEncode_fc78d : MethodName := ⟨RJ1, "canEncode", "(C)Z"⟩
abbrev cJ1_inflate_0e8fd : ByteArray := prog_32_method_50_code
def yJ1_inflate_0e8fd : MethodName := ⟨RJ1, "inflate", "([BI[BII)V"⟩
def RJ2 : String := "java/lang/StringUTF16"
abbrev cJ2_newBytesFor_77867 : ByteArray := prog_33_method_2_code
def yJ2_newBytesFor_77867 : MethodName := ⟨RJ2, "newBytesFor", "(I)[B"⟩
abbrev cJ2_newBytesLength_0f7a4 : ByteArray := prog_33_method_3_code
def yJ2_newBytesLength_0f7a4 : MethodName := ⟨RJ2, "newBytesLength", "(I)I"⟩
abbrev cJ2_putChar_b72d1 : ByteArray := prog_33_method_4_code
def yJ2_putChar_b72d1 : MethodName := ⟨RJ2, "putChar", "([BII)V"⟩
abbrev cJ2_getChar_3b067 : ByteArray := prog_33_method_5_code
def yJ2_getChar_3b067 : MethodName := ⟨RJ2, "getChar", "([BI)C"⟩
abbrev cJ2_length_9d52b : ByteArray := prog_33_method_6_code
def yJ2_length_9d52b : MethodName := ⟨RJ2, "length", "([B)I"⟩
abbrev cJ2_coderFromArrayLen_85cad : ByteArray := prog_33_method_15_code
def yJ2_coderFromArrayLen_85cad : MethodName := ⟨RJ2, "coderFromArrayLen", "([BI)B"⟩
abbrev cJ2_compress_39247 : ByteArray := prog_33_method_17_code
def yJ2_compress_39247 : MethodName := ⟨RJ2, "compress", "([BII)[B"⟩
abbrev cJ2_compress_5af95 : ByteArray := prog_33_method_22_code
def yJ2_compress_5af95 : MethodName := ⟨RJ2, "compress", "([BI[BII)I"⟩
abbrev cJ2_putCharSB_b72d1 : ByteArray := prog_33_method_71_code
def yJ2_putCharSB_b72d1 : MethodName := ⟨RJ2, "putCharSB", "([BII)V"⟩
abbrev cJ2_getChars_46870 : ByteArray := prog_33_method_77_code
def yJ2_getChars_46870 : MethodName := ⟨RJ2, "getChars", "(III[B)I"⟩
abbrev cJ2_putCharsAt_cd4e5 : ByteArray := prog_33_method_81_code
def yJ2_putCharsAt_cd4e5 : MethodName := ⟨RJ2, "putCharsAt", "([BICCCC)I"⟩
abbrev cJ2_charAt_3b067 : ByteArray := prog_33_method_83_code
def yJ2_charAt_3b067 : MethodName := ⟨RJ2, "charAt", "([BI)C"⟩
abbrev cJ2_inflate_0e8fd : ByteArray := prog_33_method_86_code
def yJ2_inflate_0e8fd : MethodName := ⟨RJ2, "inflate", "([BI[BII)V"⟩
abbrev cJ2_getChars_ba4f3 : ByteArray := prog_33_method_89_code
def yJ2_getChars_ba4f3 : MethodName := ⟨RJ2, "getChars", "(II[B)I"⟩
abbrev cJ2_checkIndex_2214a : ByteArray := prog_33_method_91_code
def yJ2_checkIndex_2214a : MethodName := ⟨RJ2, "checkIndex", "(I[B)V"⟩
abbrev cJ2_checkBoundsBeginEnd_d044e : ByteArray := prog_33_method_93_code
def yJ2_checkBoundsBeginEnd_d044e : MethodName := ⟨RJ2, "checkBoundsBeginEnd", "(II[B)V"⟩
abbrev cJ2_checkBoundsOffCount_d044e : ByteArray := prog_33_method_94_code
def yJ2_checkBoundsOffCount_d044e : MethodName := ⟨RJ2, "checkBoundsOffCount", "(II[B)V"⟩
def RJ10 : String := "java/lang/System"
def RJxfd54e : String := "java/lang/constant/Constable"
def RJx3cf43 : String := "java/lang/constant/ConstantDesc"
def RJ7 : String := "java/util/Arrays"
abbrev cJ7_copyOf_9075b : ByteArray := prog_38_method_121_code
def yJ7_copyOf_9075b : MethodName := ⟨RJ7, "copyOf", "([BI)[B"⟩
abbrev cJ7_checkLength_df160 : ByteArray := prog_38_method_131_code
def yJ7_checkLength_df160 : MethodName := ⟨RJ7, "checkLength", "(II)V"⟩
abbrev cJ7_copyOfRange_39247 : ByteArray := prog_38_method_132_code
def yJ7_copyOfRange_39247 : MethodName := ⟨RJ7, "copyOfRange", "([BII)[B"⟩
abbrev cJ7_copyOfRangeByte_39247 : ByteArray := prog_38_method_133_code
def yJ7_copyOfRangeByte_39247 : MethodName := ⟨RJ7, "copyOfRangeByte", "([BII)[B"⟩
def RJ8 : String := "jdk/internal/util/ArraysSupport"
abbrev cJ8_newLength_cabcc : ByteArray := prog_40_method_27_code
def yJ8_newLength_cabcc : MethodName := ⟨RJ8, "newLength", "(III)I"⟩
abbrev cJ8_hugeLength_7cf53 : ByteArray := prog_40_method_28_code
def yJ8_hugeLength_7cf53 : MethodName := ⟨RJ8, "hugeLength", "(II)I"⟩
def RJ3 : String := "jdk/internal/util/Preconditions"
abbrev cJ3_checkIndex_8e157 : ByteArray := prog_41_method_11_code
def yJ3_checkIndex_8e157 : MethodName := ⟨RJ3, "checkIndex", "(IILjava/util/function/BiFunction;)I"⟩
abbrev cJ3_checkFromToIndex_8c36e : ByteArray := prog_41_method_12_code
def yJ3_checkFromToIndex_8c36e : MethodName := ⟨RJ3, "checkFromToIndex", "(IIILjava/util/function/BiFunction;)I"⟩
abbrev cJ3_checkFromIndexSize_8c36e : ByteArray := prog_41_method_13_code
def yJ3_checkFromIndexSize_8c36e : MethodName := ⟨RJ3, "checkFromIndexSize", "(IIILjava/util/function/BiFunction;)I"⟩
def RL : String := "LampRelayLaw"
abbrev cL_put : ByteArray := method_2_code
def yL_put : MethodName := ⟨RL, "put", "(LLampRelay;[II)V"⟩
abbrev cL_flush : ByteArray := method_3_code
def yL_flush : MethodName := ⟨RL, "flush", "(LLampRelay;[I)V"⟩
abbrev cL_loadText : ByteArray := method_4_code
def yL_loadText : MethodName := ⟨RL, "loadText", "(LLampRelay;[I)I"⟩
abbrev cL_write : ByteArray := method_5_code
def yL_write : MethodName := ⟨RL, "write", "(LLampRelay;[ILjava/lang/String;)V"⟩
abbrev cL_writeNumber : ByteArray := method_6_code
def yL_writeNumber : MethodName := ⟨RL, "writeNumber", "(LLampRelay;[II)V"⟩
abbrev cL_load : ByteArray := method_7_code
def yL_load : MethodName := ⟨RL, "load", "(LLampRelay;I)I"⟩
abbrev cL_state : ByteArray := method_8_code
def yL_state : MethodName := ⟨RL, "state", "(LLampRelay;I)I"⟩
abbrev cL_channel : ByteArray := method_9_code
def yL_channel : MethodName := ⟨RL, "channel", "(LLampRelay;II)I"⟩
abbrev cL_message : ByteArray := method_10_code
def yL_message : MethodName := ⟨RL, "message", "(LLampRelay;II)I"⟩
abbrev cL_letter : ByteArray := method_11_code
def yL_letter : MethodName := ⟨RL, "letter", "(LLampRelay;IIZ)I"⟩
abbrev cL_why : ByteArray := method_12_code
def yL_why : MethodName := ⟨RL, "why", "(LLampRelay;II)I"⟩
abbrev cL_mist : ByteArray := method_13_code
def yL_mist : MethodName := ⟨RL, "mist", "(LLampRelay;I)I"⟩
abbrev cL_key : ByteArray := method_14_code
def yL_key : MethodName := ⟨RL, "key", "(LLampRelay;II)I"⟩
abbrev cL_next : ByteArray := method_15_code
def yL_next : MethodName := ⟨RL, "next", "(LLampRelay;I)I"⟩
abbrev cL_foretold : ByteArray := method_16_code
def yL_foretold : MethodName := ⟨RL, "foretold", "(LLampRelay;I)I"⟩
abbrev cL_leastPower : ByteArray := method_17_code
def yL_leastPower : MethodName := ⟨RL, "leastPower", "(LLampRelay;I)I"⟩
abbrev cL_pass : ByteArray := method_18_code
def yL_pass : MethodName := ⟨RL, "pass", "(LLampRelay;I)I"⟩
abbrev cL_send : ByteArray := method_19_code
def yL_send : MethodName := ⟨RL, "send", "(LLampRelay;III)I"⟩
abbrev cL_fog : ByteArray := method_20_code
def yL_fog : MethodName := ⟨RL, "fog", "(LLampRelay;III)I"⟩
abbrev cL_relieve : ByteArray := method_21_code
def yL_relieve : MethodName := ⟨RL, "relieve", "(LLampRelay;II)I"⟩
abbrev cL_power : ByteArray := method_22_code
def yL_power : MethodName := ⟨RL, "power", "(LLampRelay;II)I"⟩
abbrev cL_cancel : ByteArray := method_23_code
def yL_cancel : MethodName := ⟨RL, "cancel", "(LLampRelay;I)I"⟩
abbrev cL_sendText : ByteArray := method_24_code
def yL_sendText : MethodName := ⟨RL, "sendText", "(LLampRelay;[ILjava/lang/String;II)I"⟩
abbrev cL_with : ByteArray := method_25_code
def yL_with : MethodName := ⟨RL, "with", "([[I[I)[[I"⟩
abbrev cL_writeAll : ByteArray := method_26_code
def yL_writeAll : MethodName := ⟨RL, "writeAll", "(LLampRelay;[ILjava/lang/String;[I)V"⟩
abbrev cL_randomWord : ByteArray := method_27_code
def yL_randomWord : MethodName := ⟨RL, "randomWord", "(LLampRelayLaw$Random;)Ljava/lang/String;"⟩
abbrev cL_randomLine : ByteArray := method_28_code
def yL_randomLine : MethodName := ⟨RL, "randomLine", "(LLampRelay;[ILLampRelayLaw$Random;)LLampRelayLaw$Line;"⟩
abbrev cL_agrees : ByteArray := method_29_code
def yL_agrees : MethodName := ⟨RL, "agrees", "(LLampRelay;LLampRelayLaw$Line;)Z"⟩
abbrev cL_law : ByteArray := code
def yL_law : MethodName := ⟨RL, "law", "([I)Z"⟩
abbrev vwCl : List vw_C := [(RX0, TX0, 10), (RX1, TX1, 3), (RX2, TX2, 3), (RX3, TX3, 13), (RX4, TX4, 4), (RX5, TX5, 7), (RX6, TX6, 16), (RX7, TX7, 6), (RX8, TX8, 2), (RX9, TX9, 9), (RX10, TX10, 12), (RX11, TX11, 1), (RX12, TX12, 8), (RJ4, TJ4, 4), (RJ0, TJ0, 4)]
theorem inJ0 : ∀ w ∈ wsJ00, w ∈ lw_tbl := by decide +kernel
theorem inJ4 : ∀ w ∈ wsJ40, w ∈ lw_tbl := by decide +kernel
theorem inX0 : ∀ w ∈ wsX00, w ∈ lw_tbl := by decide +kernel
theorem inX1 : ∀ w ∈ wsX10, w ∈ lw_tbl := by decide +kernel
theorem inX2 : ∀ w ∈ wsX20, w ∈ lw_tbl := by decide +kernel
theorem inX3 : ∀ w ∈ wsX30, w ∈ lw_tbl := by decide +kernel
theorem inX4 : ∀ w ∈ wsX40, w ∈ lw_tbl := by decide +kernel
theorem inX5 : ∀ w ∈ wsX50, w ∈ lw_tbl := by decide +kernel
theorem inX6 : ∀ w ∈ wsX60, w ∈ lw_tbl := by decide +kernel
theorem inX7 : ∀ w ∈ wsX70, w ∈ lw_tbl := by decide +kernel
theorem inX8 : ∀ w ∈ wsX80, w ∈ lw_tbl := by decide +kernel
theorem inX9 : ∀ w ∈ wsX90, w ∈ lw_tbl := by decide +kernel
theorem inX10 : ∀ w ∈ wsX100, w ∈ lw_tbl := by decide +kernel
theorem inX11 : ∀ w ∈ wsX110, w ∈ lw_tbl := by decide +kernel
theorem inX12 : ∀ w ∈ wsX120, w ∈ lw_tbl := by decide +kernel
end
section
/-! THE OWN LAYER: an abstract heap (a function from addresses to cells), a method as a tuple, and a judgement GX: 'from this pc the machine comes to the end that F tells' -/
/-- a cell: an array (the number of its class, its contents) or an object (the number of its class, its fields) -/
abbrev gC : Type := (Nat × vp_A) ⊕ (Nat × List Value)
/-- an abstract heap: the number of cells, and what is known of them -/
abbrev gH : Type := Nat × (Nat → Option gC)
/-- what a run fixes: classes and slots, the array classes, the first address of the law's own cells, where the String constants and their bytes lie -/
abbrev gG : Type := va_G × (Nat → ClassId) × Nat × (Nat → Nat) × (Nat → Nat)
def g_D (G : gG) : va_G := G.1
def g_c (G : gG) : Nat → ClassId := G.2.1
def g_b (G : gG) : Nat := G.2.2.1
def g_aK (G : gG) : Nat → Nat := G.2.2.2.1
def g_aV (G : gG) : Nat → Nat := G.2.2.2.2
def g_tl (c : Nat → ClassId) : List (ClassId × FieldType) := [(c 0, .int), (c 1, .byte), (c 2, .long), (c 3, .array .int), (c 4, .object "LampRelay$Message"), (c 5, .object "LampRelay$World"), (c 6, .object "LampRelayLaw$Frame"), (c 7, .object "LampRelayLaw$Lamp"), (c 8, .object "LampRelayLaw$Talk"), (c 9, .object "LampRelayLaw$Line")]
def g_A (G : gG) : Nat → Prop := fun q => g_b G ≤ q
def g_at (G : gG) (q : Nat) (x : gC) (H : Heap) : Prop := match x with
  | .inl y => H[q]? = some (vp_cell (g_c G y.1) y.2)
  | .inr o => va_at (g_D G) vwCl (q, .inr o) H
/-- the heap H is as h says -/
def g_M (G : gG) (h : gH) (H : Heap) : Prop := H.size = h.1 ∧ g_b G ≤ h.1 ∧ ∀ (q : Nat) (x : gC), h.2 q = some x → g_b G ≤ q ∧ g_at G q x H
theorem g_at.kept {G : gG} {q : Nat} {x : gC} {H H1 : Heap} (h : g_at G q x H) (hq : H1[q]? = H[q]?) : g_at G q x H1 := by
  cases x with
  | inl y => exact hq.trans h
  | inr o => exact va_at.kept (q := (q, .inr o)) h hq
theorem g_at.lt {G : gG} {q : Nat} {x : gC} {H : Heap} (h : g_at G q x H) : q < H.size := by
  cases x with
  | inl y => exact (Array.getElem?_eq_some_iff.mp h).1
  | inr o => exact va_at.lt (q := (q, .inr o)) h
/-- one cell is written -/
def g_set (h : gH) (a : Nat) (x : gC) : gH := (h.1, fun q => if q = a then some x else h.2 q)
/-- a cell is made -/
def g_add (h : gH) (x : gC) : gH := (h.1 + 1, fun q => if q = h.1 then some x else h.2 q)
theorem g_M.set {G : gG} {h : gH} {a : Nat} {x0 x : gC} {H H1 : Heap} (hM : g_M G h H) (ha : h.2 a = some x0) (e : g_at G a x H1) (z : H1.size = H.size) (o : ∀ q : Nat, q ≠ a → H1[q]? = H[q]?) : g_M G (g_set h a x) H1 := by
  refine ⟨z.trans hM.1, hM.2.1, fun q y hq => ?_⟩
  by_cases hqa : q = a
  · subst hqa
    simp only [g_set, if_true] at hq
    cases hq
    exact ⟨(hM.2.2 q x0 ha).1, e⟩
  · simp only [g_set, if_neg hqa] at hq
    exact ⟨(hM.2.2 q y hq).1, (hM.2.2 q y hq).2.kept (o q hqa)⟩
theorem g_M.add {G : gG} {h : gH} {x : gC} {H H1 : Heap} (hM : g_M G h H) (e : g_at G h.1 x H1) (z : H1.size = h.1 + 1) (o : ∀ q : Nat, q < h.1 → H1[q]? = H[q]?) : g_M G (g_add h x) H1 := by
  refine ⟨z, Nat.le_succ_of_le hM.2.1, fun q y hq => ?_⟩
  by_cases hqa : q = h.1
  · subst hqa
    simp only [g_add, if_true] at hq
    cases hq
    exact ⟨hM.2.1, e⟩
  · simp only [g_add, if_neg hqa] at hq
    have h2 := hM.2.2 q y hq
    have hl := h2.2.lt
    rw [hM.1] at hl
    exact ⟨h2.1, h2.2.kept (o q hl)⟩
theorem g_S.put {G : gG} {H0 H H1 : Heap} {locs : List Loc} {a k : Nat} (h : va_S (g_A G) H0 H locs) (z : H1.size = H.size) (o : ∀ q : Nat, q ≠ a → H1[q]? = H[q]?) (ha : g_b G ≤ a) : va_S (g_A G) H0 H1 (locs ++ [⟨a, k⟩]) := va_S.put h z o ha
theorem g_S.add {G : gG} {H0 H H1 : Heap} {locs : List Loc} {n : Nat} (h : va_S (g_A G) H0 H locs) (hn : H.size = n) (z : H1.size = n + 1) (o : ∀ q : Nat, q < n → H1[q]? = H[q]?) : va_S (g_A G) H0 H1 locs :=
  ⟨Nat.le_trans h.1 (by omega), fun q h1 h2 => (o q (by have := h.1; omega)).trans (h.2.1 q h1 h2), h.2.2⟩
/-- a row of a method's code: pc, instruction, next pc, two numbers (a target; a class and a field) -/
abbrev gE : Type := Nat × Instr × Nat × Nat × Nat
/-- a method: name, bytes, locals, return type, room, rows, handlers -/
abbrev gMt : Type := MethodName × ByteArray × Nat × Option FieldType × Room × List gE × List (Nat × Nat × Nat × Nat)
def m_y (M : gMt) : MethodName := M.1
def m_cc (M : gMt) : ByteArray := M.2.1
def m_nL (M : gMt) : Nat := M.2.2.1
def m_ret (M : gMt) : Option FieldType := M.2.2.2.1
def m_R (M : gMt) : Room := M.2.2.2.2.1
def m_code (M : gMt) : List gE := M.2.2.2.2.2.1
def m_h (M : gMt) : List (Nat × Nat × Nat × Nat) := M.2.2.2.2.2.2
def g_lk : List gE → Nat → Option (Instr × Nat × Nat × Nat)
  | [], _ => none
  | e :: t, pc => bif Nat.beq e.1 pc then some e.2 else g_lk t pc
def g_fldOk (own : String) (idx ci j : Nat) : Bool := match vwCl[ci]? with
  | none => false
  | some (_, T, N) => decide (j < N) && decide (Cond.fieldLink own idx (T j).1 (T j).2.1 (T j).2.2.1 ∈ lw_tbl)
def g_newOk (own : String) (idx ci : Nat) : Bool := match vwCl[ci]? with
  | none => false
  | some (C, _, N) => decide (Cond.classLink own idx C ∈ lw_tbl) && decide (Cond.instantiable C N ∈ lw_tbl) && decide (Cond.initialized C ∈ lw_tbl)
def g_ent (M : gMt) (e : gE) : Bool := decide (decode (m_cc M) e.1 = .ok (e.2.1, e.2.2.1 - e.1)) && decide (e.1 < e.2.2.1) && (match e.2.1 with
  | .goto off => decide ((e.1 : Int) + off = (e.2.2.2.1 : Int))
  | .ifCond _ off => decide ((e.1 : Int) + off = (e.2.2.2.1 : Int))
  | .if_icmp _ off => decide ((e.1 : Int) + off = (e.2.2.2.1 : Int))
  | .ifnull off => decide ((e.1 : Int) + off = (e.2.2.2.1 : Int))
  | .ifnonnull off => decide ((e.1 : Int) + off = (e.2.2.2.1 : Int))
  | .getfield idx => g_fldOk (m_y M).cls idx e.2.2.2.1 e.2.2.2.2
  | .putfield idx => g_fldOk (m_y M).cls idx e.2.2.2.1 e.2.2.2.2
  | .new idx => g_newOk (m_y M).cls idx e.2.2.2.1
  | _ => true)
def g_ok (M : gMt) : Prop := (m_code M).all (g_ent M) = true
theorem g_lk_ent {M : gMt} : ∀ (t : List gE), t.all (g_ent M) = true → ∀ {pc : Nat} {x : Instr × Nat × Nat × Nat}, g_lk t pc = some x → g_ent M (pc, x) = true
  | [], _, _, _, h => by cases h
  | e :: t, ha, pc, x, h => by
    rw [List.all_cons, Bool.and_eq_true] at ha
    unfold g_lk at h
    cases hb : Nat.beq e.1 pc with
    | true =>
      rw [hb] at h
      simp only [cond_true] at h
      cases h
      have : e.1 = pc := Nat.eq_of_beq_eq_true hb
      subst this
      exact ha.1
    | false =>
      rw [hb] at h
      simp only [cond_false] at h
      exact g_lk_ent t ha.2 h
theorem g_dec {M : gMt} (hok : g_ok M) {pc nx x1 x2 : Nat} {I : Instr} (hd : g_lk (m_code M) pc = some (I, nx, x1, x2)) {d : Nat} (hn : nx = pc + d) : decode (m_cc M) pc = .ok (I, d) := by
  have h := g_lk_ent _ hok hd
  unfold g_ent at h
  simp only [Bool.and_eq_true, decide_eq_true_eq] at h
  have h1 := h.1.1
  rw [hn, show pc + d - pc = d by omega] at h1
  exact h1
/-- the words that aren't good ones but go with the machine all the same -/
def g_face (w : Cond) : Bool := w.faceAtom || (match w with | .methodLinkNest .. => true | .arrayOver (.object _) => true | .arrayOver (.array _) => true | _ => false)
def g_fw : List Cond := lw_tbl.filter g_face
/-- String constants: class, place, text, number of the text -/
def g_strs : List (String × Nat × String × Nat) := [("LampRelay", 43, "length", 5), ("LampRelay", 77, "what", 6), ("LampRelay", 85, "channel", 7), ("LampRelay", 104, "message", 8), ("LampRelay", 118, "k", 9), ("LampRelay", 130, "tick", 10), ("LampRelay", 141, "station", 11), ("LampRelay", 182, "ticks", 12), ("LampRelay", 190, "urgency, length or letters", 13), ("LampRelay", 194, "messages", 14), ("LampRelay", 201, "first, last or level", 15), ("LampRelay", 206, "mists", 16), ("LampRelay", 212, "key", 17), ("LampRelay", 218, "keepers or time", 18), ("LampRelay", 224, "power", 19), ("LampRelay", 228, "over or cancelled", 20), ("LampRelay$SetupReader", 48, "relay", 0), ("LampRelay$SetupReader", 71, "channel", 1), ("LampRelay$SetupReader", 76, "keeper", 2), ("LampRelay$SetupReader", 81, "mist", 3), ("LampRelay$SetupReader", 86, "message", 4), ("LampRelayLaw", 148, "relay", 0), ("LampRelayLaw", 170, "channel", 1), ("LampRelayLaw", 179, "keeper", 2), ("LampRelayLaw", 184, "mist", 3), ("LampRelayLaw", 193, "message", 4), ("LampRelayLaw", 113, " ", 21), ("LampRelayLaw", 154, ";", 22), ("LampRelayLaw", 121, "", 23), ("LampRelayLaw$Talk", 7, "", 23)]
def g_len : List Nat := [5, 7, 6, 4, 7, 6, 4, 7, 7, 1, 4, 7, 5, 26, 8, 20, 5, 3, 15, 5, 17, 1, 1, 0]
def g_byt : List (List Int32) := [[114, 101, 108, 97, 121], [99, 104, 97, 110, 110, 101, 108], [107, 101, 101, 112, 101, 114], [109, 105, 115, 116], [109, 101, 115, 115, 97, 103, 101], [108, 101, 110, 103, 116, 104], [119, 104, 97, 116], [99, 104, 97, 110, 110, 101, 108], [109, 101, 115, 115, 97, 103, 101], [107], [116, 105, 99, 107], [115, 116, 97, 116, 105, 111, 110], [116, 105, 99, 107, 115], [117, 114, 103, 101, 110, 99, 121, 44, 32, 108, 101, 110, 103, 116, 104, 32, 111, 114, 32, 108, 101, 116, 116, 101, 114, 115], [109, 101, 115, 115, 97, 103, 101, 115], [102, 105, 114, 115, 116, 44, 32, 108, 97, 115, 116, 32, 111, 114, 32, 108, 101, 118, 101, 108], [109, 105, 115, 116, 115], [107, 101, 121], [107, 101, 101, 112, 101, 114, 115, 32, 111, 114, 32, 116, 105, 109, 101], [112, 111, 119, 101, 114], [111, 118, 101, 114, 32, 111, 114, 32, 99, 97, 110, 99, 101, 108, 108, 101, 100], [32], [59], []]
/-- pairs of classes, the first no kind of the second -/
def g_nc : List (String × String) := [("java/lang/IllegalArgumentException", "java/lang/IndexOutOfBoundsException"), ("java/lang/IllegalStateException", "java/lang/IndexOutOfBoundsException"), ("java/lang/IllegalStateException", "java/lang/IllegalArgumentException"), ("java/util/NoSuchElementException", "java/lang/IndexOutOfBoundsException")]
/-- what a run fixes, at the state U with the heap H -/
def g_K (G : gG) (U : State) (H : Heap) : Prop := va_K (g_D G) vwCl (g_tl (g_c G)) U ∧ (∀ w ∈ g_fw, w.before #[] U = true) ∧ (∀ r ∈ g_strs, vk_R r.1 r.2.1 r.2.2.1 (g_aK G r.2.2.2) U) ∧ vk_S 24 g_len g_byt (g_aK G) (g_aV G) (g_A G) U H ∧ vx_Zq Bundle.tN "UNASSIGNED_STACK" Bundle.steD (g_A G) U H ∧ vx_Zq Bundle.tN "SUPPRESSED_SENTINEL" Bundle.listD (g_A G) U H ∧ va_Z "java/lang/String" "COMPACT_STRINGS" "Z" (.int 1) (g_A G) U H ∧ va_Zq "jdk/internal/util/Preconditions" "SIOOBE_FORMATTER" "Ljava/util/function/BiFunction;" (g_A G) U H ∧ ∀ q ∈ g_nc, va_Nc q.1 q.2 U
theorem g_AO_moved {t : FieldType} {u U : State} (hvm : u.vm.Alike U.vm) (h : (Cond.arrayOver (.array t)).before #[] u = true) : (Cond.arrayOver (.array t)).before #[] U = true := by
  have h0 : (Cond.arrayOver (.array t)).holds #[] u none u [] = true := h
  simp only [Cond.holds, Cond.value, beq_iff_eq] at h0
  cases hc : u.vm.findClass (FieldType.array t).toString with
  | none => rw [hc] at h0; simp at h0
  | some comp =>
    simp only [hc, Option.bind_some, Option.bind_eq_some_iff, Option.map_eq_some_iff] at h0
    obtain ⟨c, hi0, k, hk, hb⟩ := h0
    have hi1 : (u.vm.classes.findIdx? fun (x : Class) => match x.kind with | .array component _ => component == comp | _ => false) = some c := hi0
    obtain ⟨k', hk', he⟩ := hvm.2.2 _ _ hk
    have hi : (U.vm.classes.findIdx? fun (x : Class) => match x.kind with | .array component _ => component == comp | _ => false) = some c := by
      refine ((va_idx_bare U.vm comp).symm.trans ?_)
      refine Eq.trans ?_ ((va_idx_bare u.vm comp).trans hi1)
      first | rw [hvm.bare_eq] | rw [← hvm.bare_eq]
    have hkind : k'.kind = k.kind := by rw [he]
    have f1 : U.vm.findClass (FieldType.array t).toString = some comp := by rw [hvm.findClass]; exact hc
    show (Cond.arrayOver (.array t)).holds #[] U none U [] = true
    simp only [Cond.holds, Cond.value, beq_iff_eq, f1, Option.bind_some, Option.bind_eq_some_iff, Option.map_eq_some_iff]
    refine ⟨c, hi, k', hk', ?_⟩
    rw [hkind, hvm.findClass]
    exact hb
theorem g_face_warm {w : Cond} {s U : State} (hw : g_face w = true) (hW : s.WarmedH U.vm) (h : w.before #[] s = true) : w.before #[] U = true := by
  unfold g_face at hw
  cases hf : w.faceAtom with
  | true =>
    have h1 := Cond.faceAtom_setVm (args := #[]) hW.alike w hf h
    have ht : w.onTables = true := by cases w <;> first | rfl | (simp [Cond.faceAtom] at hf)
    exact va_tabs ht (rfl : (s.setVm U.vm).vm = U.vm) h1
  | false =>
    rw [hf, Bool.false_or] at hw
    cases w with
    | methodLinkNest a i x hh => exact va_Nw.warmM hW h
    | arrayOver t =>
      cases t with
      | object C => exact va_AO.moved hW.alike h
      | array t => exact g_AO_moved hW.alike h
      | _ => simp at hw
    | _ => simp at hw
theorem g_K.warm {G : gG} {s U : State} {H H1 : Heap} (hW : s.WarmedH U.vm) (hq : ∀ a : Nat, a < H.size → ¬ g_A G a → H1[a]? = H[a]?) (h : g_K G s H) : g_K G U H1 := by
  obtain ⟨h1, h2, h3, h4, h5, h6, h7, h8, h9⟩ := h
  have hA := hW.alike
  refine ⟨h1.moved hA, fun w hw => ?_, fun r hr => (h3 r hr).warm hW, (h4.moved hA).kept hq, (h5.moved hA).kept hq, (h6.moved hA).kept hq, (h7.moved hA).kept hq, (h8.moved hA).kept hq, fun q hq9 => (h9 q hq9).moved hA⟩
  exact g_face_warm (List.mem_filter.mp hw).2 hW (h2 w hw)
/-- the locals of a frame, by their places -/
def g_ls (A : Array Slot) (nL : Nat) (L : List (Option Value)) : Prop := A.size = nL ∧ lv_wf A ∧ L.length = nL ∧ ∀ (i : Nat) (v : Value), L[i]? = some (some v) → A[i]? = some (.val v)
def g_al : Nat → List (Option Value) → List (Nat × Value)
  | _, [] => []
  | i, none :: t => g_al (i + 1) t
  | i, some v :: t => (i, v) :: g_al (i + 1) t
theorem g_al_mem : ∀ (L : List (Option Value)) (i j : Nat) (v : Value), (j, v) ∈ g_al i L ↔ ∃ k, j = i + k ∧ L[k]? = some (some v)
  | [], i, j, v => by simp [g_al]
  | none :: t, i, j, v => by
    rw [g_al, g_al_mem t]
    constructor
    · rintro ⟨k, h1, h2⟩
      exact ⟨k + 1, by omega, by simpa using h2⟩
    · rintro ⟨k, h1, h2⟩
      cases k with
      | zero => simp at h2
      | succ k => exact ⟨k, by omega, by simpa using h2⟩
  | some w :: t, i, j, v => by
    rw [g_al, List.mem_cons, g_al_mem t]
    constructor
    · rintro (h | ⟨k, h1, h2⟩)
      · cases h
        exact ⟨0, by omega, by simp⟩
      · exact ⟨k + 1, by omega, by simpa using h2⟩
    · rintro ⟨k, h1, h2⟩
      cases k with
      | zero =>
        simp at h2
        subst h2
        exact Or.inl (by simp [h1])
      | succ k => exact Or.inr ⟨k, by omega, by simpa using h2⟩
theorem g_ls.has {A : Array Slot} {nL : Nat} {L : List (Option Value)} (h : g_ls A nL L) : lv_has A nL (g_al 0 L) := by
  refine ⟨h.1, h.2.1, fun q hq => ?_⟩
  obtain ⟨j, v⟩ := q
  obtain ⟨k, h1, h2⟩ := (g_al_mem L 0 j v).mp hq
  rw [Nat.zero_add] at h1
  subst h1
  exact h.2.2.2 _ _ h2
theorem g_ls.at {A : Array Slot} {nL : Nat} {L : List (Option Value)} (h : g_ls A nL L) {i : Nat} {v : Value} (hl : L[i]? = some (some v)) : A[i]? = some (.val v) := h.2.2.2 i v hl
/-- no value of two places stands just ahead of i -/
def g_pl (L : List (Option Value)) : Nat → Bool
  | 0 => true
  | i + 1 => match L[i]? with
    | some (some v) => Nat.beq v.category 1
    | _ => true
theorem g_ls.put1 {A A' : Array Slot} {nL i : Nat} {v : Value} {L : List (Option Value)} (h : g_ls A nL L) (hp : g_pl L i = true) (h' : lv_has A' nL ((i, v) :: (g_al 0 L).filter (fun q => !(q.1 == i) && !(q.1 + 1 == i && q.2.category == 2)))) : g_ls A' nL (L.set i (some v)) := by
  refine ⟨h'.1, h'.2.1, by simpa using h.2.2.1, fun j w hj => ?_⟩
  by_cases hji : j = i
  · subst hji
    rw [List.getElem?_set_self'] at hj
    cases hL : L[j]? with
    | none => rw [hL] at hj; simp at hj
    | some x =>
      rw [hL] at hj
      simp at hj
      subst hj
      exact h'.2.2 _ List.mem_cons_self
  · rw [List.getElem?_set_ne (Ne.symm hji)] at hj
    refine h'.2.2 (j, w) (List.mem_cons_of_mem _ (List.mem_filter.mpr ⟨(g_al_mem L 0 j w).mpr ⟨j, by omega, hj⟩, ?_⟩))
    simp only [Bool.and_eq_true, Bool.not_eq_true', beq_eq_false_iff_ne, ne_eq]
    refine ⟨hji, ?_⟩
    cases i with
    | zero => simp
    | succ i =>
      by_cases e : j = i
      · subst e
        simp only [g_pl, hj] at hp
        have := Nat.eq_of_beq_eq_true hp
        simp [this]
      · simp [e]
theorem g_ls.put2 {A A' : Array Slot} {nL i : Nat} {v : Value} {L : List (Option Value)} (h : g_ls A nL L) (hp : g_pl L i = true) (h' : lv_has A' nL ((i, v) :: (g_al 0 L).filter (fun q => !(q.1 == i) && (!(q.1 == i + 1) && !(q.1 + 1 == i && q.2.category == 2))))) : g_ls A' nL ((L.set i (some v)).set (i + 1) none) := by
  refine ⟨h'.1, h'.2.1, by simpa using h.2.2.1, fun j w hj => ?_⟩
  by_cases hj1 : j = i + 1
  · subst hj1
    rw [List.getElem?_set_self'] at hj
    cases hL : (L.set i (some v))[i + 1]? with
    | none => rw [hL] at hj; simp at hj
    | some x => rw [hL] at hj; simp at hj
  rw [List.getElem?_set_ne (Ne.symm hj1)] at hj
  by_cases hji : j = i
  · subst hji
    rw [List.getElem?_set_self'] at hj
    cases hL : L[j]? with
    | none => rw [hL] at hj; simp at hj
    | some x =>
      rw [hL] at hj
      simp at hj
      subst hj
      exact h'.2.2 _ List.mem_cons_self
  · rw [List.getElem?_set_ne (Ne.symm hji)] at hj
    refine h'.2.2 (j, w) (List.mem_cons_of_mem _ (List.mem_filter.mpr ⟨(g_al_mem L 0 j w).mpr ⟨j, by omega, hj⟩, ?_⟩))
    simp only [Bool.and_eq_true, Bool.not_eq_true', beq_eq_false_iff_ne, ne_eq]
    refine ⟨hji, hj1, ?_⟩
    cases i with
    | zero => simp
    | succ i =>
      by_cases e : j = i
      · subst e
        simp only [g_pl, hj] at hp
        have := Nat.eq_of_beq_eq_true hp
        simp [this]
      · simp [e]
/-- fewer locals are known -/
def g_sub : List (Option Value) → List (Option Value) → Prop
  | [], [] => True
  | _ :: t, none :: u => g_sub t u
  | x :: t, some v :: u => x = some v ∧ g_sub t u
  | _, _ => False
theorem g_sub_at : ∀ {L L' : List (Option Value)}, g_sub L L' → L.length = L'.length ∧ ∀ (i : Nat) (v : Value), L'[i]? = some (some v) → L[i]? = some (some v)
  | [], [], _ => ⟨rfl, fun i v h => h⟩
  | x :: t, none :: u, h => by
    obtain ⟨h1, h2⟩ := g_sub_at (L := t) (L' := u) h
    refine ⟨by simp [h1], fun i v hi => ?_⟩
    cases i with
    | zero => simp at hi
    | succ i => simpa using h2 i v (by simpa using hi)
  | x :: t, some w :: u, h => by
    obtain ⟨e, h⟩ := h
    obtain ⟨h1, h2⟩ := g_sub_at (L := t) (L' := u) h
    refine ⟨by simp [h1], fun i v hi => ?_⟩
    cases i with
    | zero => simp at hi; simp [e, hi]
    | succ i => simpa using h2 i v (by simpa using hi)
  | [], _ :: _, h => by simp [g_sub] at h
  | _ :: _, [], h => by simp [g_sub] at h
theorem g_ls.sub {A : Array Slot} {nL : Nat} {L L' : List (Option Value)} (h : g_ls A nL L) (hs : g_sub L L') : g_ls A nL L' := by
  obtain ⟨h1, h2⟩ := g_sub_at hs
  exact ⟨h.1, h.2.1, by rw [← h1]; exact h.2.2.1, fun i v hi => h.2.2.2 i v (h2 i v hi)⟩
/-- what stands still while a body runs -/
def g_bx (G : gG) (M : gMt) (p : Program) (s : State) (m : MethodId) (args : Array Value) (meth : Method) (c : Code) : Prop := p.tables.exec = Jvm.exec ∧ c.code = m_cc M ∧ c.maxLocals = m_nL M ∧ meth.sig.returnType = m_ret M ∧ meth.locks = false ∧ s.vm.findClass (m_y M).cls = some m.cls ∧ (∀ w ∈ lw_tbl, goodWord w = true → w.before args s = true) ∧ g_K G s s.heap ∧ (((m_y M).name = "<init>" → meth.name = "<init>") ∧ g_b G ≤ s.heap.size ∧ ((m_y M).name ≠ "law" → c.exceptionTable.toList = tableOf (m_h M))) ∧ g_ok M
/-- THE JUDGEMENT: whatever F answers, the machine, at pc with the locals L and the stack st over the heap h, comes to the end that Φ tells of it; k cells and n slots are new so far -/
def GX {α : Type} (l : Launch) (G : gG) (M : gMt) (Φ : α → Method → Code → State → Array Value → List Frame → State → Prop) (k n pc : Nat) (L : List (Option Value)) (st : List Value) (h : gH) (F : Option α) : Prop :=
  ∀ r, F = some r → ∀ (p : Program) (e : Env) (s : State) (m : MethodId) (args : Array Value) (below : List Frame) (meth : Method) (c : Code) (H : Heap) (locs : List Loc) (A : Array Slot), g_bx G M p s m args meth c → g_ls A (m_nL M) L → g_M G h H → va_S (g_A G) s.heap H locs → W p l e (m_R M) s m args below meth c H locs k n (Φ r meth c s args below) (F0 m pc A st)
section GXR
variable {α : Type} {l : Launch} {G : gG} {M : gMt} {Φ : α → Method → Code → State → Array Value → List Frame → State → Prop} {k n pc nx x1 x2 : Nat} {L : List (Option Value)} {st : List Value} {h : gH} {F : Option α}
theorem X_sub {L' : List (Option Value)} (hs : g_sub L L') (kk : GX l G M Φ k n pc L' st h F) : GX l G M Φ k n pc L st h F :=
  fun r hr p e s m args below meth c H locs A B hl hM hS => kk r hr p e s m args below meth c H locs A B (hl.sub hs) hM hS
theorem X_eqF {F' : Option α} (hF : F = F') (kk : GX l G M Φ k n pc L st h F') : GX l G M Φ k n pc L st h F := hF ▸ kk
theorem X_none : GX l G M Φ k n pc L st h none := fun r hr => by cases hr
theorem X_if {c : Prop} [Decidable c] {F1 F2 : Option α} (k1 : c → GX l G M Φ k n pc L st h F1) (k2 : ¬ c → GX l G M Φ k n pc L st h F2) : GX l G M Φ k n pc L st h (if c then F1 else F2) := by
  by_cases hc : c
  · rw [if_pos hc]; exact k1 hc
  · rw [if_neg hc]; exact k2 hc
theorem X_bind {β : Type} {o : Option β} {K : β → Option α} (kk : ∀ x, o = some x → GX l G M Φ k n pc L st h (K x)) : GX l G M Φ k n pc L st h (o.bind K) := by
  cases o with
  | none => exact X_none
  | some x => exact kk x rfl
theorem X_iconst {i : Int} {v : Int32} (hd : g_lk (m_code M) pc = some (.iconst i, nx, x1, x2)) (hn : nx = pc + 1) (hv : Int32.ofInt i = v) (kk : GX l G M Φ k n nx L (.int v :: st) h F) : GX l G M Φ k n pc L (st) h F := by
  intro r hr p e s m args below meth c H locs A B hl hM hS
  have hg := g_dec B.2.2.2.2.2.2.2.2.2 hd hn
  have q := kk r hr p e s m args below meth c H locs A B hl hM hS
  rw [hn] at q
  exact lv_iconst B.1 B.2.1 hg hv q
theorem X_bipush {i : Int} {v : Int32} (hd : g_lk (m_code M) pc = some (.bipush i, nx, x1, x2)) (hn : nx = pc + 2) (hv : (Int8.ofInt i).toInt32 = v) (kk : GX l G M Φ k n nx L (.int v :: st) h F) : GX l G M Φ k n pc L (st) h F := by
  intro r hr p e s m args below meth c H locs A B hl hM hS
  have hg := g_dec B.2.2.2.2.2.2.2.2.2 hd hn
  have q := kk r hr p e s m args below meth c H locs A B hl hM hS
  rw [hn] at q
  exact lv_bipush B.1 B.2.1 hg hv q
theorem X_sipush {i : Int} {v : Int32} (hd : g_lk (m_code M) pc = some (.sipush i, nx, x1, x2)) (hn : nx = pc + 3) (hv : (Int16.ofInt i).toInt32 = v) (kk : GX l G M Φ k n nx L (.int v :: st) h F) : GX l G M Φ k n pc L (st) h F := by
  intro r hr p e s m args below meth c H locs A B hl hM hS
  have hg := g_dec B.2.2.2.2.2.2.2.2.2 hd hn
  have q := kk r hr p e s m args below meth c H locs A B hl hM hS
  rw [hn] at q
  exact lv_sipush B.1 B.2.1 hg hv q
theorem X_lconst {i : Fin 2} {v : Int64} (hd : g_lk (m_code M) pc = some (.lconst i, nx, x1, x2)) (hn : nx = pc + 1) (hv : Int64.ofNat (i : Nat) = v) (kk : GX l G M Φ k n nx L (.long v :: st) h F) : GX l G M Φ k n pc L (st) h F := by
  intro r hr p e s m args below meth c H locs A B hl hM hS
  have hg := g_dec B.2.2.2.2.2.2.2.2.2 hd hn
  have q := kk r hr p e s m args below meth c H locs A B hl hM hS
  rw [hn] at q
  exact lv_lconst B.1 B.2.1 hg hv q
theorem X_dconst0  (hd : g_lk (m_code M) pc = some (.dconst 0, nx, x1, x2)) (hn : nx = pc + 1)  (kk : GX l G M Φ k n nx L (.double 0 :: st) h F) : GX l G M Φ k n pc L (st) h F := by
  intro r hr p e s m args below meth c H locs A B hl hM hS
  have hg := g_dec B.2.2.2.2.2.2.2.2.2 hd hn
  have q := kk r hr p e s m args below meth c H locs A B hl hM hS
  rw [hn] at q
  exact lv_dconst0 B.1 B.2.1 hg q
theorem X_null  (hd : g_lk (m_code M) pc = some (.aconst_null, nx, x1, x2)) (hn : nx = pc + 1)  (kk : GX l G M Φ k n nx L (.null :: st) h F) : GX l G M Φ k n pc L (st) h F := by
  intro r hr p e s m args below meth c H locs A B hl hM hS
  have hg := g_dec B.2.2.2.2.2.2.2.2.2 hd hn
  have q := kk r hr p e s m args below meth c H locs A B hl hM hS
  rw [hn] at q
  exact lv_null B.1 B.2.1 hg q
theorem X_iload_n {j : Fin 4} {x : Int32} (hd : g_lk (m_code M) pc = some (.iload_n j, nx, x1, x2)) (hn : nx = pc + 1) (hx : L[(j : Nat)]? = some (some (.int x))) (kk : GX l G M Φ k n nx L (.int x :: st) h F) : GX l G M Φ k n pc L (st) h F := by
  intro r hr p e s m args below meth c H locs A B hl hM hS
  have hg := g_dec B.2.2.2.2.2.2.2.2.2 hd hn
  have q := kk r hr p e s m args below meth c H locs A B hl hM hS
  rw [hn] at q
  exact lv_iload_n B.1 B.2.1 hg rfl (hl.at hx) q
theorem X_iload {j : Nat} {x : Int32} (hd : g_lk (m_code M) pc = some (.iload j, nx, x1, x2)) (hn : nx = pc + 2) (hx : L[j]? = some (some (.int x))) (kk : GX l G M Φ k n nx L (.int x :: st) h F) : GX l G M Φ k n pc L (st) h F := by
  intro r hr p e s m args below meth c H locs A B hl hM hS
  have hg := g_dec B.2.2.2.2.2.2.2.2.2 hd hn
  have q := kk r hr p e s m args below meth c H locs A B hl hM hS
  rw [hn] at q
  exact lv_iload B.1 B.2.1 hg (hl.at hx) q
theorem X_lload_n {j : Fin 4} {x : Int64} (hd : g_lk (m_code M) pc = some (.lload_n j, nx, x1, x2)) (hn : nx = pc + 1) (hx : L[(j : Nat)]? = some (some (.long x))) (kk : GX l G M Φ k n nx L (.long x :: st) h F) : GX l G M Φ k n pc L (st) h F := by
  intro r hr p e s m args below meth c H locs A B hl hM hS
  have hg := g_dec B.2.2.2.2.2.2.2.2.2 hd hn
  have q := kk r hr p e s m args below meth c H locs A B hl hM hS
  rw [hn] at q
  exact lv_lload_n B.1 B.2.1 hg rfl (hl.at hx) q
theorem X_lload {j : Nat} {x : Int64} (hd : g_lk (m_code M) pc = some (.lload j, nx, x1, x2)) (hn : nx = pc + 2) (hx : L[j]? = some (some (.long x))) (kk : GX l G M Φ k n nx L (.long x :: st) h F) : GX l G M Φ k n pc L (st) h F := by
  intro r hr p e s m args below meth c H locs A B hl hM hS
  have hg := g_dec B.2.2.2.2.2.2.2.2.2 hd hn
  have q := kk r hr p e s m args below meth c H locs A B hl hM hS
  rw [hn] at q
  exact lv_lload B.1 B.2.1 hg (hl.at hx) q
theorem X_aload_n {j : Fin 4} {x : Nat} (hd : g_lk (m_code M) pc = some (.aload_n j, nx, x1, x2)) (hn : nx = pc + 1) (hx : L[(j : Nat)]? = some (some (.ref x))) (kk : GX l G M Φ k n nx L (.ref x :: st) h F) : GX l G M Φ k n pc L (st) h F := by
  intro r hr p e s m args below meth c H locs A B hl hM hS
  have hg := g_dec B.2.2.2.2.2.2.2.2.2 hd hn
  have q := kk r hr p e s m args below meth c H locs A B hl hM hS
  rw [hn] at q
  exact lv_aload_n B.1 B.2.1 hg rfl (hl.at hx) q
theorem X_aload {j : Nat} {x : Nat} (hd : g_lk (m_code M) pc = some (.aload j, nx, x1, x2)) (hn : nx = pc + 2) (hx : L[j]? = some (some (.ref x))) (kk : GX l G M Φ k n nx L (.ref x :: st) h F) : GX l G M Φ k n pc L (st) h F := by
  intro r hr p e s m args below meth c H locs A B hl hM hS
  have hg := g_dec B.2.2.2.2.2.2.2.2.2 hd hn
  have q := kk r hr p e s m args below meth c H locs A B hl hM hS
  rw [hn] at q
  exact lv_aload B.1 B.2.1 hg (hl.at hx) q
theorem X_dload_n {j : Fin 4} {x : UInt64} (hd : g_lk (m_code M) pc = some (.dload_n j, nx, x1, x2)) (hn : nx = pc + 1) (hx : L[(j : Nat)]? = some (some (.double x))) (kk : GX l G M Φ k n nx L (.double x :: st) h F) : GX l G M Φ k n pc L (st) h F := by
  intro r hr p e s m args below meth c H locs A B hl hM hS
  have hg := g_dec B.2.2.2.2.2.2.2.2.2 hd hn
  have q := kk r hr p e s m args below meth c H locs A B hl hM hS
  rw [hn] at q
  exact lv_dload_n B.1 B.2.1 hg rfl (hl.at hx) q
theorem X_dload {j : Nat} {x : UInt64} (hd : g_lk (m_code M) pc = some (.dload j, nx, x1, x2)) (hn : nx = pc + 2) (hx : L[j]? = some (some (.double x))) (kk : GX l G M Φ k n nx L (.double x :: st) h F) : GX l G M Φ k n pc L (st) h F := by
  intro r hr p e s m args below meth c H locs A B hl hM hS
  have hg := g_dec B.2.2.2.2.2.2.2.2.2 hd hn
  have q := kk r hr p e s m args below meth c H locs A B hl hM hS
  rw [hn] at q
  exact lv_dload B.1 B.2.1 hg (hl.at hx) q
theorem X_iadd {x y : Int32} (hd : g_lk (m_code M) pc = some (.iadd, nx, x1, x2)) (hn : nx = pc + 1)  (kk : GX l G M Φ k n nx L (.int (x + y) :: st) h F) : GX l G M Φ k n pc L (.int y :: .int x :: st) h F := by
  intro r hr p e s m args below meth c H locs A B hl hM hS
  have hg := g_dec B.2.2.2.2.2.2.2.2.2 hd hn
  have q := kk r hr p e s m args below meth c H locs A B hl hM hS
  rw [hn] at q
  exact lv_iadd B.1 B.2.1 hg q
theorem X_isub {x y : Int32} (hd : g_lk (m_code M) pc = some (.isub, nx, x1, x2)) (hn : nx = pc + 1)  (kk : GX l G M Φ k n nx L (.int (x - y) :: st) h F) : GX l G M Φ k n pc L (.int y :: .int x :: st) h F := by
  intro r hr p e s m args below meth c H locs A B hl hM hS
  have hg := g_dec B.2.2.2.2.2.2.2.2.2 hd hn
  have q := kk r hr p e s m args below meth c H locs A B hl hM hS
  rw [hn] at q
  exact lv_isub B.1 B.2.1 hg q
theorem X_imul {x y : Int32} (hd : g_lk (m_code M) pc = some (.imul, nx, x1, x2)) (hn : nx = pc + 1)  (kk : GX l G M Φ k n nx L (.int (x * y) :: st) h F) : GX l G M Φ k n pc L (.int y :: .int x :: st) h F := by
  intro r hr p e s m args below meth c H locs A B hl hM hS
  have hg := g_dec B.2.2.2.2.2.2.2.2.2 hd hn
  have q := kk r hr p e s m args below meth c H locs A B hl hM hS
  rw [hn] at q
  exact lv_imul B.1 B.2.1 hg q
theorem X_iand {x y : Int32} (hd : g_lk (m_code M) pc = some (.iand, nx, x1, x2)) (hn : nx = pc + 1)  (kk : GX l G M Φ k n nx L (.int (x &&& y) :: st) h F) : GX l G M Φ k n pc L (.int y :: .int x :: st) h F := by
  intro r hr p e s m args below meth c H locs A B hl hM hS
  have hg := g_dec B.2.2.2.2.2.2.2.2.2 hd hn
  have q := kk r hr p e s m args below meth c H locs A B hl hM hS
  rw [hn] at q
  exact lv_iand B.1 B.2.1 hg q
theorem X_ior {x y : Int32} (hd : g_lk (m_code M) pc = some (.ior, nx, x1, x2)) (hn : nx = pc + 1)  (kk : GX l G M Φ k n nx L (.int (x ||| y) :: st) h F) : GX l G M Φ k n pc L (.int y :: .int x :: st) h F := by
  intro r hr p e s m args below meth c H locs A B hl hM hS
  have hg := g_dec B.2.2.2.2.2.2.2.2.2 hd hn
  have q := kk r hr p e s m args below meth c H locs A B hl hM hS
  rw [hn] at q
  exact lv_ior B.1 B.2.1 hg q
theorem X_ixor {x y : Int32} (hd : g_lk (m_code M) pc = some (.ixor, nx, x1, x2)) (hn : nx = pc + 1)  (kk : GX l G M Φ k n nx L (.int (x ^^^ y) :: st) h F) : GX l G M Φ k n pc L (.int y :: .int x :: st) h F := by
  intro r hr p e s m args below meth c H locs A B hl hM hS
  have hg := g_dec B.2.2.2.2.2.2.2.2.2 hd hn
  have q := kk r hr p e s m args below meth c H locs A B hl hM hS
  rw [hn] at q
  exact lv_ixor B.1 B.2.1 hg q
theorem X_ladd {x y : Int64} (hd : g_lk (m_code M) pc = some (.ladd, nx, x1, x2)) (hn : nx = pc + 1)  (kk : GX l G M Φ k n nx L (.long (x + y) :: st) h F) : GX l G M Φ k n pc L (.long y :: .long x :: st) h F := by
  intro r hr p e s m args below meth c H locs A B hl hM hS
  have hg := g_dec B.2.2.2.2.2.2.2.2.2 hd hn
  have q := kk r hr p e s m args below meth c H locs A B hl hM hS
  rw [hn] at q
  exact lv_ladd B.1 B.2.1 hg q
theorem X_lsub {x y : Int64} (hd : g_lk (m_code M) pc = some (.lsub, nx, x1, x2)) (hn : nx = pc + 1)  (kk : GX l G M Φ k n nx L (.long (x - y) :: st) h F) : GX l G M Φ k n pc L (.long y :: .long x :: st) h F := by
  intro r hr p e s m args below meth c H locs A B hl hM hS
  have hg := g_dec B.2.2.2.2.2.2.2.2.2 hd hn
  have q := kk r hr p e s m args below meth c H locs A B hl hM hS
  rw [hn] at q
  exact lv_lsub B.1 B.2.1 hg q
theorem X_lmul {x y : Int64} (hd : g_lk (m_code M) pc = some (.lmul, nx, x1, x2)) (hn : nx = pc + 1)  (kk : GX l G M Φ k n nx L (.long (x * y) :: st) h F) : GX l G M Φ k n pc L (.long y :: .long x :: st) h F := by
  intro r hr p e s m args below meth c H locs A B hl hM hS
  have hg := g_dec B.2.2.2.2.2.2.2.2.2 hd hn
  have q := kk r hr p e s m args below meth c H locs A B hl hM hS
  rw [hn] at q
  exact lv_lmul B.1 B.2.1 hg q
theorem X_ishl {x y v : Int32} (hd : g_lk (m_code M) pc = some (.ishl, nx, x1, x2)) (hn : nx = pc + 1) (hv : x <<< (y &&& 31) = v) (kk : GX l G M Φ k n nx L (.int v :: st) h F) : GX l G M Φ k n pc L (.int y :: .int x :: st) h F := by
  intro r hr p e s m args below meth c H locs A B hl hM hS
  have hg := g_dec B.2.2.2.2.2.2.2.2.2 hd hn
  have q := kk r hr p e s m args below meth c H locs A B hl hM hS
  rw [hn] at q
  rw [← hv] at q
  exact lv_ishl B.1 B.2.1 hg q
theorem X_ishr {x y v : Int32} (hd : g_lk (m_code M) pc = some (.ishr, nx, x1, x2)) (hn : nx = pc + 1) (hv : x >>> (y &&& 31) = v) (kk : GX l G M Φ k n nx L (.int v :: st) h F) : GX l G M Φ k n pc L (.int y :: .int x :: st) h F := by
  intro r hr p e s m args below meth c H locs A B hl hM hS
  have hg := g_dec B.2.2.2.2.2.2.2.2.2 hd hn
  have q := kk r hr p e s m args below meth c H locs A B hl hM hS
  rw [hn] at q
  rw [← hv] at q
  exact lv_ishr B.1 B.2.1 hg q
theorem X_iushr {x y : Int32} (hd : g_lk (m_code M) pc = some (.iushr, nx, x1, x2)) (hn : nx = pc + 1)  (kk : GX l G M Φ k n nx L (.int (x.toUInt32 >>> (y.toUInt32 &&& Int32.toUInt32 31)).toInt32 :: st) h F) : GX l G M Φ k n pc L (.int y :: .int x :: st) h F := by
  intro r hr p e s m args below meth c H locs A B hl hM hS
  have hg := g_dec B.2.2.2.2.2.2.2.2.2 hd hn
  have q := kk r hr p e s m args below meth c H locs A B hl hM hS
  rw [hn] at q
  exact lv_iushr B.1 B.2.1 hg rfl q
theorem X_i2l {x : Int32} (hd : g_lk (m_code M) pc = some (.i2l, nx, x1, x2)) (hn : nx = pc + 1)  (kk : GX l G M Φ k n nx L (.long x.toInt64 :: st) h F) : GX l G M Φ k n pc L (.int x :: st) h F := by
  intro r hr p e s m args below meth c H locs A B hl hM hS
  have hg := g_dec B.2.2.2.2.2.2.2.2.2 hd hn
  have q := kk r hr p e s m args below meth c H locs A B hl hM hS
  rw [hn] at q
  exact lv_i2l B.1 B.2.1 hg rfl q
theorem X_i2b {x : Int32} (hd : g_lk (m_code M) pc = some (.i2b, nx, x1, x2)) (hn : nx = pc + 1)  (kk : GX l G M Φ k n nx L (.int x.toInt8.toInt32 :: st) h F) : GX l G M Φ k n pc L (.int x :: st) h F := by
  intro r hr p e s m args below meth c H locs A B hl hM hS
  have hg := g_dec B.2.2.2.2.2.2.2.2.2 hd hn
  have q := kk r hr p e s m args below meth c H locs A B hl hM hS
  rw [hn] at q
  exact lv_i2b B.1 B.2.1 hg rfl q
theorem X_i2d {x : Int32} (hd : g_lk (m_code M) pc = some (.i2d, nx, x1, x2)) (hn : nx = pc + 1)  (kk : GX l G M Φ k n nx L (.double (FP.i2d x) :: st) h F) : GX l G M Φ k n pc L (.int x :: st) h F := by
  intro r hr p e s m args below meth c H locs A B hl hM hS
  have hg := g_dec B.2.2.2.2.2.2.2.2.2 hd hn
  have q := kk r hr p e s m args below meth c H locs A B hl hM hS
  rw [hn] at q
  exact lv_i2d B.1 B.2.1 hg q
theorem X_lcmp {x y : Int64} (hd : g_lk (m_code M) pc = some (.lcmp, nx, x1, x2)) (hn : nx = pc + 1)  (kk : GX l G M Φ k n nx L (.int (lg_cmp x y) :: st) h F) : GX l G M Φ k n pc L (.long y :: .long x :: st) h F := by
  intro r hr p e s m args below meth c H locs A B hl hM hS
  have hg := g_dec B.2.2.2.2.2.2.2.2.2 hd hn
  have q := kk r hr p e s m args below meth c H locs A B hl hM hS
  rw [hn] at q
  exact W.lcmp B.1 B.2.1 hg q
theorem X_dcmp {x y : UInt64} {op : CmpOp} (hd : g_lk (m_code M) pc = some (.dcmp op, nx, x1, x2)) (hn : nx = pc + 1)  (kk : GX l G M Φ k n nx L (.int (Op.cmpValue (FP.dcmp x y) op) :: st) h F) : GX l G M Φ k n pc L (.double y :: .double x :: st) h F := by
  intro r hr p e s m args below meth c H locs A B hl hM hS
  have hg := g_dec B.2.2.2.2.2.2.2.2.2 hd hn
  have q := kk r hr p e s m args below meth c H locs A B hl hM hS
  rw [hn] at q
  exact lv_dcmp B.1 B.2.1 hg q
theorem X_dup {v : Value} (hd : g_lk (m_code M) pc = some (.dup, nx, x1, x2)) (hn : nx = pc + 1) (hc : v.category = 1) (kk : GX l G M Φ k n nx L (v :: v :: st) h F) : GX l G M Φ k n pc L (v :: st) h F := by
  intro r hr p e s m args below meth c H locs A B hl hM hS
  have hg := g_dec B.2.2.2.2.2.2.2.2.2 hd hn
  have q := kk r hr p e s m args below meth c H locs A B hl hM hS
  rw [hn] at q
  exact lv_dup B.1 B.2.1 hg hc q
theorem X_pop {v : Value} (hd : g_lk (m_code M) pc = some (.pop, nx, x1, x2)) (hn : nx = pc + 1) (hc : v.category = 1) (kk : GX l G M Φ k n nx L (st) h F) : GX l G M Φ k n pc L (v :: st) h F := by
  intro r hr p e s m args below meth c H locs A B hl hM hS
  have hg := g_dec B.2.2.2.2.2.2.2.2.2 hd hn
  have q := kk r hr p e s m args below meth c H locs A B hl hM hS
  rw [hn] at q
  exact lv_pop B.1 B.2.1 hg hc q
theorem X_dup2 {v w : Value} (hd : g_lk (m_code M) pc = some (.dup2, nx, x1, x2)) (hn : nx = pc + 1) (hc : v.category = 1) (hc2 : w.category = 1) (kk : GX l G M Φ k n nx L (v :: w :: v :: w :: st) h F) : GX l G M Φ k n pc L (v :: w :: st) h F := by
  intro r hr p e s m args below meth c H locs A B hl hM hS
  have hg := g_dec B.2.2.2.2.2.2.2.2.2 hd hn
  have q := kk r hr p e s m args below meth c H locs A B hl hM hS
  rw [hn] at q
  exact lv_dup2_11 B.1 B.2.1 hg hc hc2 q
theorem X_idiv {x y v : Int32} {F : Option α} (hd : g_lk (m_code M) pc = some (.idiv, nx, x1, x2)) (hn : nx = pc + 1) (hv : x / y = v) (hne : ¬ y = 0) (kk : GX l G M Φ k n nx L (.int v :: st) h F) : GX l G M Φ k n pc L (.int y :: .int x :: st) h F := by
  intro r hr p e s m args below meth c H locs A B hl hM hS
  have hg := g_dec B.2.2.2.2.2.2.2.2.2 hd hn
  have q := kk r hr p e s m args below meth c H locs A B hl hM hS
  rw [hn, ← hv] at q
  exact lv_idiv B.1 B.2.1 hg hne q
theorem X_irem {x y v : Int32} {F : Option α} (hd : g_lk (m_code M) pc = some (.irem, nx, x1, x2)) (hn : nx = pc + 1) (hv : x - x / y * y = v) (hne : ¬ y = 0) (kk : GX l G M Φ k n nx L (.int v :: st) h F) : GX l G M Φ k n pc L (.int y :: .int x :: st) h F := by
  intro r hr p e s m args below meth c H locs A B hl hM hS
  have hg := g_dec B.2.2.2.2.2.2.2.2.2 hd hn
  have q := kk r hr p e s m args below meth c H locs A B hl hM hS
  rw [hn, ← hv] at q
  exact lv_irem B.1 B.2.1 hg hne q
theorem X_ddiv {x y : UInt64} (hd : g_lk (m_code M) pc = some (.ddiv, nx, x1, x2)) (hn : nx = pc + 1) (hne : vf_n64 (FP.ddiv x y)) (kk : GX l G M Φ k n nx L (.double (FP.ddiv x y) :: st) h F) : GX l G M Φ k n pc L (.double y :: .double x :: st) h F := by
  intro r hr p e s m args below meth c H locs A B hl hM hS
  have hg := g_dec B.2.2.2.2.2.2.2.2.2 hd hn
  have q := kk r hr p e s m args below meth c H locs A B hl hM hS
  rw [hn] at q
  exact lv_ddiv B.1 B.2.1 hg hne q
theorem X_istore_n {j : Fin 4} {x : Int32} (hd : g_lk (m_code M) pc = some (.istore_n j, nx, x1, x2)) (hn : nx = pc + 1) (hj : Nat.blt (j : Nat) L.length = true) (hp : g_pl L (j : Nat) = true) (kk : GX l G M Φ k n nx (L.set (j : Nat) (some (.int x))) st h F) : GX l G M Φ k n pc L (.int x :: st) h F := by
  intro r hr p e s m args below meth c H locs A B hl hM hS
  have hg := g_dec B.2.2.2.2.2.2.2.2.2 hd hn
  have hj1 : (j : Nat) < m_nL M := by rw [← hl.2.2.1]; exact Nat.blt_eq.mp hj
  refine lv_istore_n B.1 B.2.1 hg rfl hl.has hj1 rfl (fun A' h' => ?_)
  have q := kk r hr p e s m args below meth c H locs A' B (hl.put1 hp h') hM hS
  rw [hn] at q
  exact q
theorem X_istore {j : Nat} {x : Int32} (hd : g_lk (m_code M) pc = some (.istore j, nx, x1, x2)) (hn : nx = pc + 2) (hj : Nat.blt j L.length = true) (hp : g_pl L j = true) (kk : GX l G M Φ k n nx (L.set j (some (.int x))) st h F) : GX l G M Φ k n pc L (.int x :: st) h F := by
  intro r hr p e s m args below meth c H locs A B hl hM hS
  have hg := g_dec B.2.2.2.2.2.2.2.2.2 hd hn
  have hj1 : j < m_nL M := by rw [← hl.2.2.1]; exact Nat.blt_eq.mp hj
  refine lv_istore B.1 B.2.1 hg hl.has hj1 rfl (fun A' h' => ?_)
  have q := kk r hr p e s m args below meth c H locs A' B (hl.put1 hp h') hM hS
  rw [hn] at q
  exact q
theorem X_astore_n {j : Fin 4} {x : Nat} (hd : g_lk (m_code M) pc = some (.astore_n j, nx, x1, x2)) (hn : nx = pc + 1) (hj : Nat.blt (j : Nat) L.length = true) (hp : g_pl L (j : Nat) = true) (kk : GX l G M Φ k n nx (L.set (j : Nat) (some (.ref x))) st h F) : GX l G M Φ k n pc L (.ref x :: st) h F := by
  intro r hr p e s m args below meth c H locs A B hl hM hS
  have hg := g_dec B.2.2.2.2.2.2.2.2.2 hd hn
  have hj1 : (j : Nat) < m_nL M := by rw [← hl.2.2.1]; exact Nat.blt_eq.mp hj
  refine lv_astore_n B.1 B.2.1 hg rfl hl.has hj1 rfl (fun A' h' => ?_)
  have q := kk r hr p e s m args below meth c H locs A' B (hl.put1 hp h') hM hS
  rw [hn] at q
  exact q
theorem X_astore {j : Nat} {x : Nat} (hd : g_lk (m_code M) pc = some (.astore j, nx, x1, x2)) (hn : nx = pc + 2) (hj : Nat.blt j L.length = true) (hp : g_pl L j = true) (kk : GX l G M Φ k n nx (L.set j (some (.ref x))) st h F) : GX l G M Φ k n pc L (.ref x :: st) h F := by
  intro r hr p e s m args below meth c H locs A B hl hM hS
  have hg := g_dec B.2.2.2.2.2.2.2.2.2 hd hn
  have hj1 : j < m_nL M := by rw [← hl.2.2.1]; exact Nat.blt_eq.mp hj
  refine lv_astore B.1 B.2.1 hg hl.has hj1 rfl (fun A' h' => ?_)
  have q := kk r hr p e s m args below meth c H locs A' B (hl.put1 hp h') hM hS
  rw [hn] at q
  exact q
theorem X_lstore_n {j : Fin 4} {x : Int64} (hd : g_lk (m_code M) pc = some (.lstore_n j, nx, x1, x2)) (hn : nx = pc + 1) (hj : Nat.blt ((j : Nat) + 1) L.length = true) (hp : g_pl L (j : Nat) = true) (kk : GX l G M Φ k n nx ((L.set (j : Nat) (some (.long x))).set ((j : Nat) + 1) none) st h F) : GX l G M Φ k n pc L (.long x :: st) h F := by
  intro r hr p e s m args below meth c H locs A B hl hM hS
  have hg := g_dec B.2.2.2.2.2.2.2.2.2 hd hn
  have hj1 : (j : Nat) + 1 < m_nL M := by rw [← hl.2.2.1]; exact Nat.blt_eq.mp hj
  refine lv_lstore_n B.1 B.2.1 hg rfl hl.has hj1 rfl (fun A' h' => ?_)
  have q := kk r hr p e s m args below meth c H locs A' B (hl.put2 hp h') hM hS
  rw [hn] at q
  exact q
theorem X_lstore {j : Nat} {x : Int64} (hd : g_lk (m_code M) pc = some (.lstore j, nx, x1, x2)) (hn : nx = pc + 2) (hj : Nat.blt (j + 1) L.length = true) (hp : g_pl L j = true) (kk : GX l G M Φ k n nx ((L.set j (some (.long x))).set (j + 1) none) st h F) : GX l G M Φ k n pc L (.long x :: st) h F := by
  intro r hr p e s m args below meth c H locs A B hl hM hS
  have hg := g_dec B.2.2.2.2.2.2.2.2.2 hd hn
  have hj1 : j + 1 < m_nL M := by rw [← hl.2.2.1]; exact Nat.blt_eq.mp hj
  refine lv_lstore B.1 B.2.1 hg hl.has hj1 rfl (fun A' h' => ?_)
  have q := kk r hr p e s m args below meth c H locs A' B (hl.put2 hp h') hM hS
  rw [hn] at q
  exact q
theorem X_dstore_n {j : Fin 4} {x : UInt64} (hd : g_lk (m_code M) pc = some (.dstore_n j, nx, x1, x2)) (hn : nx = pc + 1) (hj : Nat.blt ((j : Nat) + 1) L.length = true) (hp : g_pl L (j : Nat) = true) (kk : GX l G M Φ k n nx ((L.set (j : Nat) (some (.double x))).set ((j : Nat) + 1) none) st h F) : GX l G M Φ k n pc L (.double x :: st) h F := by
  intro r hr p e s m args below meth c H locs A B hl hM hS
  have hg := g_dec B.2.2.2.2.2.2.2.2.2 hd hn
  have hj1 : (j : Nat) + 1 < m_nL M := by rw [← hl.2.2.1]; exact Nat.blt_eq.mp hj
  refine lv_dstore_n B.1 B.2.1 hg rfl hl.has hj1 rfl (fun A' h' => ?_)
  have q := kk r hr p e s m args below meth c H locs A' B (hl.put2 hp h') hM hS
  rw [hn] at q
  exact q
theorem X_dstore {j : Nat} {x : UInt64} (hd : g_lk (m_code M) pc = some (.dstore j, nx, x1, x2)) (hn : nx = pc + 2) (hj : Nat.blt (j + 1) L.length = true) (hp : g_pl L j = true) (kk : GX l G M Φ k n nx ((L.set j (some (.double x))).set (j + 1) none) st h F) : GX l G M Φ k n pc L (.double x :: st) h F := by
  intro r hr p e s m args below meth c H locs A B hl hM hS
  have hg := g_dec B.2.2.2.2.2.2.2.2.2 hd hn
  have hj1 : j + 1 < m_nL M := by rw [← hl.2.2.1]; exact Nat.blt_eq.mp hj
  refine lv_dstore B.1 B.2.1 hg hl.has hj1 rfl (fun A' h' => ?_)
  have q := kk r hr p e s m args below meth c H locs A' B (hl.put2 hp h') hM hS
  rw [hn] at q
  exact q
theorem X_iinc {j : Nat} {i : Int} {x v : Int32} (hd : g_lk (m_code M) pc = some (.iinc j i, nx, x1, x2)) (hn : nx = pc + 3) (hx : L[j]? = some (some (.int x))) (hv : x + Int32.ofInt i = v) (hp : g_pl L j = true) (kk : GX l G M Φ k n nx (L.set j (some (.int v))) st h F) : GX l G M Φ k n pc L st h F := by
  intro r hr p e s m args below meth c H locs A B hl hM hS
  have hg := g_dec B.2.2.2.2.2.2.2.2.2 hd hn
  have hj1 : j < m_nL M := by rw [← hl.2.2.1]; exact (List.getElem?_eq_some_iff.mp hx).1
  have hmem : (j, Value.int x) ∈ g_al 0 L := (g_al_mem L 0 j _).mpr ⟨j, by omega, hx⟩
  obtain ⟨kq, hkq⟩ := List.getElem?_of_mem hmem
  refine lv_iinc B.1 B.2.1 hg hl.has hkq hv hj1 rfl (fun A' h' => ?_)
  have q := kk r hr p e s m args below meth c H locs A' B (hl.put1 hp h') hM hS
  rw [hn] at q
  exact q
theorem X_if_eq {x : Int32} {off : Int} (hd : g_lk (m_code M) pc = some (.ifCond .eq off, nx, x1, x2)) (hn : nx = pc + 3) (kt : (x = 0) → GX l G M Φ k n x1 L st h F) (kf : ¬ (x = 0) → GX l G M Φ k n nx L st h F) : GX l G M Φ k n pc L (.int x :: st) h F := by
  intro r hr p e s m args below meth c H locs A B hl hM hS
  have hg := g_dec B.2.2.2.2.2.2.2.2.2 hd hn
  have ht := g_lk_ent _ B.2.2.2.2.2.2.2.2.2 hd
  unfold g_ent at ht
  simp only [Bool.and_eq_true, decide_eq_true_eq] at ht
  refine lv_if_eq B.1 B.2.1 hg ht.2 (fun hc => kt (by first | exact hc | exact Int32.not_lt.mp hc | exact Int32.not_le.mp hc | (simpa using hc)) r hr p e s m args below meth c H locs A B hl hM hS) (fun hc => ?_)
  have q := kf (by first | exact hc | exact Int32.not_lt.mp hc | exact Int32.not_le.mp hc | (simpa using hc)) r hr p e s m args below meth c H locs A B hl hM hS
  rw [hn] at q
  exact q
theorem X_icmp_eq {x y : Int32} {off : Int} (hd : g_lk (m_code M) pc = some (.if_icmp .eq off, nx, x1, x2)) (hn : nx = pc + 3) (kt : (x = y) → GX l G M Φ k n x1 L st h F) (kf : ¬ (x = y) → GX l G M Φ k n nx L st h F) : GX l G M Φ k n pc L (.int y :: .int x :: st) h F := by
  intro r hr p e s m args below meth c H locs A B hl hM hS
  have hg := g_dec B.2.2.2.2.2.2.2.2.2 hd hn
  have ht := g_lk_ent _ B.2.2.2.2.2.2.2.2.2 hd
  unfold g_ent at ht
  simp only [Bool.and_eq_true, decide_eq_true_eq] at ht
  refine lv_icmp_eq B.1 B.2.1 hg ht.2 (fun hc => kt (by first | exact hc | exact Int32.not_lt.mp hc | exact Int32.not_le.mp hc | (simpa using hc)) r hr p e s m args below meth c H locs A B hl hM hS) (fun hc => ?_)
  have q := kf (by first | exact hc | exact Int32.not_lt.mp hc | exact Int32.not_le.mp hc | (simpa using hc)) r hr p e s m args below meth c H locs A B hl hM hS
  rw [hn] at q
  exact q
theorem X_if_ne {x : Int32} {off : Int} (hd : g_lk (m_code M) pc = some (.ifCond .ne off, nx, x1, x2)) (hn : nx = pc + 3) (kt : (¬ x = 0) → GX l G M Φ k n x1 L st h F) (kf : ¬ (¬ x = 0) → GX l G M Φ k n nx L st h F) : GX l G M Φ k n pc L (.int x :: st) h F := by
  intro r hr p e s m args below meth c H locs A B hl hM hS
  have hg := g_dec B.2.2.2.2.2.2.2.2.2 hd hn
  have ht := g_lk_ent _ B.2.2.2.2.2.2.2.2.2 hd
  unfold g_ent at ht
  simp only [Bool.and_eq_true, decide_eq_true_eq] at ht
  refine lv_if_ne B.1 B.2.1 hg ht.2 (fun hc => kt (by first | exact hc | exact Int32.not_lt.mp hc | exact Int32.not_le.mp hc | (simpa using hc)) r hr p e s m args below meth c H locs A B hl hM hS) (fun hc => ?_)
  have q := kf (by first | exact hc | exact Int32.not_lt.mp hc | exact Int32.not_le.mp hc | (simpa using hc)) r hr p e s m args below meth c H locs A B hl hM hS
  rw [hn] at q
  exact q
theorem X_icmp_ne {x y : Int32} {off : Int} (hd : g_lk (m_code M) pc = some (.if_icmp .ne off, nx, x1, x2)) (hn : nx = pc + 3) (kt : (¬ x = y) → GX l G M Φ k n x1 L st h F) (kf : ¬ (¬ x = y) → GX l G M Φ k n nx L st h F) : GX l G M Φ k n pc L (.int y :: .int x :: st) h F := by
  intro r hr p e s m args below meth c H locs A B hl hM hS
  have hg := g_dec B.2.2.2.2.2.2.2.2.2 hd hn
  have ht := g_lk_ent _ B.2.2.2.2.2.2.2.2.2 hd
  unfold g_ent at ht
  simp only [Bool.and_eq_true, decide_eq_true_eq] at ht
  refine lv_icmp_ne B.1 B.2.1 hg ht.2 (fun hc => kt (by first | exact hc | exact Int32.not_lt.mp hc | exact Int32.not_le.mp hc | (simpa using hc)) r hr p e s m args below meth c H locs A B hl hM hS) (fun hc => ?_)
  have q := kf (by first | exact hc | exact Int32.not_lt.mp hc | exact Int32.not_le.mp hc | (simpa using hc)) r hr p e s m args below meth c H locs A B hl hM hS
  rw [hn] at q
  exact q
theorem X_if_lt {x : Int32} {off : Int} (hd : g_lk (m_code M) pc = some (.ifCond .lt off, nx, x1, x2)) (hn : nx = pc + 3) (kt : (x < 0) → GX l G M Φ k n x1 L st h F) (kf : ¬ (x < 0) → GX l G M Φ k n nx L st h F) : GX l G M Φ k n pc L (.int x :: st) h F := by
  intro r hr p e s m args below meth c H locs A B hl hM hS
  have hg := g_dec B.2.2.2.2.2.2.2.2.2 hd hn
  have ht := g_lk_ent _ B.2.2.2.2.2.2.2.2.2 hd
  unfold g_ent at ht
  simp only [Bool.and_eq_true, decide_eq_true_eq] at ht
  refine lv_if_lt B.1 B.2.1 hg ht.2 (fun hc => kt (by first | exact hc | exact Int32.not_lt.mp hc | exact Int32.not_le.mp hc | (simpa using hc)) r hr p e s m args below meth c H locs A B hl hM hS) (fun hc => ?_)
  have q := kf (by first | exact hc | exact Int32.not_lt.mp hc | exact Int32.not_le.mp hc | (simpa using hc)) r hr p e s m args below meth c H locs A B hl hM hS
  rw [hn] at q
  exact q
theorem X_icmp_lt {x y : Int32} {off : Int} (hd : g_lk (m_code M) pc = some (.if_icmp .lt off, nx, x1, x2)) (hn : nx = pc + 3) (kt : (x < y) → GX l G M Φ k n x1 L st h F) (kf : ¬ (x < y) → GX l G M Φ k n nx L st h F) : GX l G M Φ k n pc L (.int y :: .int x :: st) h F := by
  intro r hr p e s m args below meth c H locs A B hl hM hS
  have hg := g_dec B.2.2.2.2.2.2.2.2.2 hd hn
  have ht := g_lk_ent _ B.2.2.2.2.2.2.2.2.2 hd
  unfold g_ent at ht
  simp only [Bool.and_eq_true, decide_eq_true_eq] at ht
  refine lv_icmp_lt B.1 B.2.1 hg ht.2 (fun hc => kt (by first | exact hc | exact Int32.not_lt.mp hc | exact Int32.not_le.mp hc | (simpa using hc)) r hr p e s m args below meth c H locs A B hl hM hS) (fun hc => ?_)
  have q := kf (by first | exact hc | exact Int32.not_lt.mp hc | exact Int32.not_le.mp hc | (simpa using hc)) r hr p e s m args below meth c H locs A B hl hM hS
  rw [hn] at q
  exact q
theorem X_if_ge {x : Int32} {off : Int} (hd : g_lk (m_code M) pc = some (.ifCond .ge off, nx, x1, x2)) (hn : nx = pc + 3) (kt : (0 ≤ x) → GX l G M Φ k n x1 L st h F) (kf : ¬ (0 ≤ x) → GX l G M Φ k n nx L st h F) : GX l G M Φ k n pc L (.int x :: st) h F := by
  intro r hr p e s m args below meth c H locs A B hl hM hS
  have hg := g_dec B.2.2.2.2.2.2.2.2.2 hd hn
  have ht := g_lk_ent _ B.2.2.2.2.2.2.2.2.2 hd
  unfold g_ent at ht
  simp only [Bool.and_eq_true, decide_eq_true_eq] at ht
  refine lv_if_ge B.1 B.2.1 hg ht.2 (fun hc => kt (by first | exact hc | exact Int32.not_lt.mp hc | exact Int32.not_le.mp hc | (simpa using hc)) r hr p e s m args below meth c H locs A B hl hM hS) (fun hc => ?_)
  have q := kf (by first | exact hc | exact Int32.not_lt.mp hc | exact Int32.not_le.mp hc | (simpa using hc)) r hr p e s m args below meth c H locs A B hl hM hS
  rw [hn] at q
  exact q
theorem X_icmp_ge {x y : Int32} {off : Int} (hd : g_lk (m_code M) pc = some (.if_icmp .ge off, nx, x1, x2)) (hn : nx = pc + 3) (kt : (y ≤ x) → GX l G M Φ k n x1 L st h F) (kf : ¬ (y ≤ x) → GX l G M Φ k n nx L st h F) : GX l G M Φ k n pc L (.int y :: .int x :: st) h F := by
  intro r hr p e s m args below meth c H locs A B hl hM hS
  have hg := g_dec B.2.2.2.2.2.2.2.2.2 hd hn
  have ht := g_lk_ent _ B.2.2.2.2.2.2.2.2.2 hd
  unfold g_ent at ht
  simp only [Bool.and_eq_true, decide_eq_true_eq] at ht
  refine lv_icmp_ge B.1 B.2.1 hg ht.2 (fun hc => kt (by first | exact hc | exact Int32.not_lt.mp hc | exact Int32.not_le.mp hc | (simpa using hc)) r hr p e s m args below meth c H locs A B hl hM hS) (fun hc => ?_)
  have q := kf (by first | exact hc | exact Int32.not_lt.mp hc | exact Int32.not_le.mp hc | (simpa using hc)) r hr p e s m args below meth c H locs A B hl hM hS
  rw [hn] at q
  exact q
theorem X_if_gt {x : Int32} {off : Int} (hd : g_lk (m_code M) pc = some (.ifCond .gt off, nx, x1, x2)) (hn : nx = pc + 3) (kt : (0 < x) → GX l G M Φ k n x1 L st h F) (kf : ¬ (0 < x) → GX l G M Φ k n nx L st h F) : GX l G M Φ k n pc L (.int x :: st) h F := by
  intro r hr p e s m args below meth c H locs A B hl hM hS
  have hg := g_dec B.2.2.2.2.2.2.2.2.2 hd hn
  have ht := g_lk_ent _ B.2.2.2.2.2.2.2.2.2 hd
  unfold g_ent at ht
  simp only [Bool.and_eq_true, decide_eq_true_eq] at ht
  refine lv_if_gt B.1 B.2.1 hg ht.2 (fun hc => kt (by first | exact hc | exact Int32.not_lt.mp hc | exact Int32.not_le.mp hc | (simpa using hc)) r hr p e s m args below meth c H locs A B hl hM hS) (fun hc => ?_)
  have q := kf (by first | exact hc | exact Int32.not_lt.mp hc | exact Int32.not_le.mp hc | (simpa using hc)) r hr p e s m args below meth c H locs A B hl hM hS
  rw [hn] at q
  exact q
theorem X_icmp_gt {x y : Int32} {off : Int} (hd : g_lk (m_code M) pc = some (.if_icmp .gt off, nx, x1, x2)) (hn : nx = pc + 3) (kt : (y < x) → GX l G M Φ k n x1 L st h F) (kf : ¬ (y < x) → GX l G M Φ k n nx L st h F) : GX l G M Φ k n pc L (.int y :: .int x :: st) h F := by
  intro r hr p e s m args below meth c H locs A B hl hM hS
  have hg := g_dec B.2.2.2.2.2.2.2.2.2 hd hn
  have ht := g_lk_ent _ B.2.2.2.2.2.2.2.2.2 hd
  unfold g_ent at ht
  simp only [Bool.and_eq_true, decide_eq_true_eq] at ht
  refine lv_icmp_gt B.1 B.2.1 hg ht.2 (fun hc => kt (by first | exact hc | exact Int32.not_lt.mp hc | exact Int32.not_le.mp hc | (simpa using hc)) r hr p e s m args below meth c H locs A B hl hM hS) (fun hc => ?_)
  have q := kf (by first | exact hc | exact Int32.not_lt.mp hc | exact Int32.not_le.mp hc | (simpa using hc)) r hr p e s m args below meth c H locs A B hl hM hS
  rw [hn] at q
  exact q
theorem X_if_le {x : Int32} {off : Int} (hd : g_lk (m_code M) pc = some (.ifCond .le off, nx, x1, x2)) (hn : nx = pc + 3) (kt : (x ≤ 0) → GX l G M Φ k n x1 L st h F) (kf : ¬ (x ≤ 0) → GX l G M Φ k n nx L st h F) : GX l G M Φ k n pc L (.int x :: st) h F := by
  intro r hr p e s m args below meth c H locs A B hl hM hS
  have hg := g_dec B.2.2.2.2.2.2.2.2.2 hd hn
  have ht := g_lk_ent _ B.2.2.2.2.2.2.2.2.2 hd
  unfold g_ent at ht
  simp only [Bool.and_eq_true, decide_eq_true_eq] at ht
  refine lv_if_le B.1 B.2.1 hg ht.2 (fun hc => kt (by first | exact hc | exact Int32.not_lt.mp hc | exact Int32.not_le.mp hc | (simpa using hc)) r hr p e s m args below meth c H locs A B hl hM hS) (fun hc => ?_)
  have q := kf (by first | exact hc | exact Int32.not_lt.mp hc | exact Int32.not_le.mp hc | (simpa using hc)) r hr p e s m args below meth c H locs A B hl hM hS
  rw [hn] at q
  exact q
theorem X_icmp_le {x y : Int32} {off : Int} (hd : g_lk (m_code M) pc = some (.if_icmp .le off, nx, x1, x2)) (hn : nx = pc + 3) (kt : (x ≤ y) → GX l G M Φ k n x1 L st h F) (kf : ¬ (x ≤ y) → GX l G M Φ k n nx L st h F) : GX l G M Φ k n pc L (.int y :: .int x :: st) h F := by
  intro r hr p e s m args below meth c H locs A B hl hM hS
  have hg := g_dec B.2.2.2.2.2.2.2.2.2 hd hn
  have ht := g_lk_ent _ B.2.2.2.2.2.2.2.2.2 hd
  unfold g_ent at ht
  simp only [Bool.and_eq_true, decide_eq_true_eq] at ht
  refine lv_icmp_le B.1 B.2.1 hg ht.2 (fun hc => kt (by first | exact hc | exact Int32.not_lt.mp hc | exact Int32.not_le.mp hc | (simpa using hc)) r hr p e s m args below meth c H locs A B hl hM hS) (fun hc => ?_)
  have q := kf (by first | exact hc | exact Int32.not_lt.mp hc | exact Int32.not_le.mp hc | (simpa using hc)) r hr p e s m args below meth c H locs A B hl hM hS
  rw [hn] at q
  exact q
theorem X_goto {off : Int} (hd : g_lk (m_code M) pc = some (.goto off, nx, x1, x2)) (hn : nx = pc + 3) (kk : GX l G M Φ k n x1 L st h F) : GX l G M Φ k n pc L st h F := by
  intro r hr p e s m args below meth c H locs A B hl hM hS
  have hg := g_dec B.2.2.2.2.2.2.2.2.2 hd hn
  have ht := g_lk_ent _ B.2.2.2.2.2.2.2.2.2 hd
  unfold g_ent at ht
  simp only [Bool.and_eq_true, decide_eq_true_eq] at ht
  exact lv_goto B.1 B.2.1 hg ht.2 (kk r hr p e s m args below meth c H locs A B hl hM hS)
theorem X_ifnonnull {x : Option Nat} {off : Int} (hd : g_lk (m_code M) pc = some (.ifnonnull off, nx, x1, x2)) (hn : nx = pc + 3) (kt : ∀ a, x = some a → GX l G M Φ k n x1 L st h F) (kf : x = none → GX l G M Φ k n nx L st h F) : GX l G M Φ k n pc L (va_rf x :: st) h F := by
  intro r hr p e s m args below meth c H locs A B hl hM hS
  have hg := g_dec B.2.2.2.2.2.2.2.2.2 hd hn
  have ht := g_lk_ent _ B.2.2.2.2.2.2.2.2.2 hd
  unfold g_ent at ht
  simp only [Bool.and_eq_true, decide_eq_true_eq] at ht
  cases x with
  | none =>
    have q := kf rfl r hr p e s m args below meth c H locs A B hl hM hS
    rw [hn] at q
    exact lv_ifnonnullN B.1 B.2.1 hg q
  | some a => exact lv_ifnonnull B.1 B.2.1 hg ht.2 (kt a rfl r hr p e s m args below meth c H locs A B hl hM hS)
theorem X_ifnull {x : Option Nat} {off : Int} (hd : g_lk (m_code M) pc = some (.ifnull off, nx, x1, x2)) (hn : nx = pc + 3) (kt : x = none → GX l G M Φ k n x1 L st h F) (kf : ∀ a, x = some a → GX l G M Φ k n nx L st h F) : GX l G M Φ k n pc L (va_rf x :: st) h F := by
  intro r hr p e s m args below meth c H locs A B hl hM hS
  have hg := g_dec B.2.2.2.2.2.2.2.2.2 hd hn
  have ht := g_lk_ent _ B.2.2.2.2.2.2.2.2.2 hd
  unfold g_ent at ht
  simp only [Bool.and_eq_true, decide_eq_true_eq] at ht
  cases x with
  | none => exact lv_ifnullN B.1 B.2.1 hg ht.2 (kt rfl r hr p e s m args below meth c H locs A B hl hM hS)
  | some a =>
    have q := kf a rfl r hr p e s m args below meth c H locs A B hl hM hS
    rw [hn] at q
    exact lv_ifnull B.1 B.2.1 hg q
end GXR
end
section
/-! the heap's rows of GX -/
def g_ty (ci : Nat) : Nat → FieldType := match ci with
  | 0 => tyX0 | 1 => tyX1 | 2 => tyX2 | 3 => tyX3 | 4 => tyX4 | 5 => tyX5 | 6 => tyX6 | 7 => tyX7 | 8 => tyX8 | 9 => tyX9 | 10 => tyX10 | 11 => tyX11 | 12 => tyX12 | 13 => tyJ4 | _ => tyJ0
def g_cn (ci : Nat) : String := match vwCl[ci]? with
  | some q => q.1
  | none => ""
def g_dc (ci j : Nat) : Bool := match vwCl[ci]? with
  | some q => decide ((q.2.1 j).1 = q.1)
  | none => false
def g_fin (ci j : Nat) : Bool := match vwCl[ci]? with
  | some q => (q.2.1 j).2.2.2
  | none => true
theorem g_good0 : ∀ w ∈ wsX00, goodWord w = true := List.all_eq_true.mp (by decide +kernel)
theorem g_good1 : ∀ w ∈ wsX10, goodWord w = true := List.all_eq_true.mp (by decide +kernel)
theorem g_good2 : ∀ w ∈ wsX20, goodWord w = true := List.all_eq_true.mp (by decide +kernel)
theorem g_good3 : ∀ w ∈ wsX30, goodWord w = true := List.all_eq_true.mp (by decide +kernel)
theorem g_good4 : ∀ w ∈ wsX40, goodWord w = true := List.all_eq_true.mp (by decide +kernel)
theorem g_good5 : ∀ w ∈ wsX50, goodWord w = true := List.all_eq_true.mp (by decide +kernel)
theorem g_good6 : ∀ w ∈ wsX60, goodWord w = true := List.all_eq_true.mp (by decide +kernel)
theorem g_good7 : ∀ w ∈ wsX70, goodWord w = true := List.all_eq_true.mp (by decide +kernel)
theorem g_good8 : ∀ w ∈ wsX80, goodWord w = true := List.all_eq_true.mp (by decide +kernel)
theorem g_good9 : ∀ w ∈ wsX90, goodWord w = true := List.all_eq_true.mp (by decide +kernel)
theorem g_good10 : ∀ w ∈ wsX100, goodWord w = true := List.all_eq_true.mp (by decide +kernel)
theorem g_good11 : ∀ w ∈ wsX110, goodWord w = true := List.all_eq_true.mp (by decide +kernel)
theorem g_good12 : ∀ w ∈ wsX120, goodWord w = true := List.all_eq_true.mp (by decide +kernel)
theorem g_goodJ4 : ∀ w ∈ wsJ40, goodWord w = true := List.all_eq_true.mp (by decide +kernel)
theorem g_goodJ0 : ∀ w ∈ wsJ00, goodWord w = true := List.all_eq_true.mp (by decide +kernel)
theorem g_cls {ci : Nat} {C : String} {T : u_T} {N : Nat} (h : vwCl[ci]? = some (C, T, N)) : (∀ w ∈ u_ws C T N, w ∈ lw_tbl ∧ goodWord w = true) ∧ (∀ k, k < N → parseFieldDescriptor (T k).2.2.1 = some (g_ty ci k)) ∧ (∀ a, a < N → ∀ b, b < N → a ≠ b → (T a).2.1 ≠ (T b).2.1) := by
  match ci, h with
  | 0, h => cases h; exact ⟨fun w hw => ⟨inX0 w hw, g_good0 w hw⟩, tyX0_ok, nmX0⟩
  | 1, h => cases h; exact ⟨fun w hw => ⟨inX1 w hw, g_good1 w hw⟩, tyX1_ok, nmX1⟩
  | 2, h => cases h; exact ⟨fun w hw => ⟨inX2 w hw, g_good2 w hw⟩, tyX2_ok, nmX2⟩
  | 3, h => cases h; exact ⟨fun w hw => ⟨inX3 w hw, g_good3 w hw⟩, tyX3_ok, nmX3⟩
  | 4, h => cases h; exact ⟨fun w hw => ⟨inX4 w hw, g_good4 w hw⟩, tyX4_ok, nmX4⟩
  | 5, h => cases h; exact ⟨fun w hw => ⟨inX5 w hw, g_good5 w hw⟩, tyX5_ok, nmX5⟩
  | 6, h => cases h; exact ⟨fun w hw => ⟨inX6 w hw, g_good6 w hw⟩, tyX6_ok, nmX6⟩
  | 7, h => cases h; exact ⟨fun w hw => ⟨inX7 w hw, g_good7 w hw⟩, tyX7_ok, nmX7⟩
  | 8, h => cases h; exact ⟨fun w hw => ⟨inX8 w hw, g_good8 w hw⟩, tyX8_ok, nmX8⟩
  | 9, h => cases h; exact ⟨fun w hw => ⟨inX9 w hw, g_good9 w hw⟩, tyX9_ok, nmX9⟩
  | 10, h => cases h; exact ⟨fun w hw => ⟨inX10 w hw, g_good10 w hw⟩, tyX10_ok, nmX10⟩
  | 11, h => cases h; exact ⟨fun w hw => ⟨inX11 w hw, g_good11 w hw⟩, tyX11_ok, nmX11⟩
  | 12, h => cases h; exact ⟨fun w hw => ⟨inX12 w hw, g_good12 w hw⟩, tyX12_ok, nmX12⟩
  | 13, h => cases h; exact ⟨fun w hw => ⟨inJ4 w hw, g_goodJ4 w hw⟩, tyJ4_ok, nmJ4⟩
  | 14, h => cases h; exact ⟨fun w hw => ⟨inJ0 w hw, g_goodJ0 w hw⟩, tyJ0_ok, nmJ0⟩
  | k + 15, h => simp [vwCl] at h
theorem g_fld {own : String} {idx ci j : Nat} (h : g_fldOk own idx ci j = true) : ∃ (C : String) (T : u_T) (N : Nat), vwCl[ci]? = some (C, T, N) ∧ j < N ∧ Cond.fieldLink own idx (T j).1 (T j).2.1 (T j).2.2.1 ∈ lw_tbl := by
  unfold g_fldOk at h
  cases hc : vwCl[ci]? with
  | none => rw [hc] at h; cases h
  | some q =>
    obtain ⟨C, T, N⟩ := q
    rw [hc] at h
    simp only [Bool.and_eq_true, decide_eq_true_eq] at h
    exact ⟨C, T, N, rfl, h.1, h.2⟩
/-- the object at a, of the class ci: its field j -/
def g_fd (h : gH) (a ci j : Nat) : Option Value := match h.2 a with
  | some (.inr (c, fs)) => bif Nat.beq c ci then fs[j]? else none
  | _ => none
def g_gI (h : gH) (a ci j : Nat) : Option Int32 := match g_fd h a ci j with
  | some (.int v) => some v
  | _ => none
def g_gA (h : gH) (a ci j : Nat) : Option Nat := match g_fd h a ci j with
  | some (.ref v) => some v
  | _ => none
def g_is (h : gH) (a ci : Nat) : Bool := match h.2 a with
  | some (.inr (c, _)) => Nat.beq c ci
  | _ => false
def g_put (h : gH) (a ci j : Nat) (v : Value) : Option gH := match h.2 a with
  | some (.inr (c, fs)) => bif Nat.beq c ci && Nat.blt j fs.length then some (g_set h a (.inr (ci, fs.set j v))) else none
  | _ => none
/-- a boolean is 0 or 1 -/
def g_z (v : Int32) : Option Int32 := if v = 0 ∨ v = 1 then some v else none
def g_aI (h : gH) (a t : Nat) : Option (Nat × (Nat → Int32)) := match h.2 a with
  | some (.inl (t', n, .inl f)) => bif Nat.beq t' t then some (n, f) else none
  | _ => none
def g_aL (h : gH) (a : Nat) : Option (Nat × (Nat → Int64)) := match h.2 a with
  | some (.inl (t', n, .inr (.inl f))) => bif Nat.beq t' 2 then some (n, f) else none
  | _ => none
def g_aQ (h : gH) (a t : Nat) : Option (Nat × (Nat → Option Nat)) := match h.2 a with
  | some (.inl (t', n, .inr (.inr (.inr (.inr f))))) => bif Nat.beq t' t then some (n, f) else none
  | _ => none
def g_ix (i : Int32) (n : Nat) : Option Nat := if i < 0 ∨ n ≤ i.toNatClampNeg then none else some i.toNatClampNeg
def g_ald (h : gH) (a : Nat) (i : Int32) : Option Int32 := (g_aI h a 0).bind fun x => (g_ix i x.1).map x.2
def g_bld (h : gH) (a : Nat) (i : Int32) : Option Int32 := (g_aI h a 1).bind fun x => (g_ix i x.1).map x.2
def g_lld (h : gH) (a : Nat) (i : Int32) : Option Int64 := (g_aL h a).bind fun x => (g_ix i x.1).map x.2
def g_qld (h : gH) (a t : Nat) (i : Int32) : Option (Option Nat) := (g_aQ h a t).bind fun x => (g_ix i x.1).map x.2
def g_ast (h : gH) (a : Nat) (i x : Int32) : Option gH := (g_aI h a 0).bind fun y => (g_ix i y.1).map fun j => g_set h a (.inl (0, y.1, .inl (upd y.2 j x)))
def g_bst (h : gH) (a : Nat) (i x : Int32) : Option gH := (g_aI h a 1).bind fun y => (g_ix i y.1).map fun j => g_set h a (.inl (1, y.1, .inl (upd y.2 j x.toInt8.toInt32)))
def g_lst (h : gH) (a : Nat) (i : Int32) (x : Int64) : Option gH := (g_aL h a).bind fun y => (g_ix i y.1).map fun j => g_set h a (.inl (2, y.1, .inr (.inl (vp_updL y.2 j x))))
def g_qst (h : gH) (a t : Nat) (i : Int32) (v : Nat) : Option gH := (g_aQ h a t).bind fun y => (g_ix i y.1).map fun j => g_set h a (.inl (t, y.1, .inr (.inr (.inr (.inr (va_up y.2 j (some v)))))))
def g_aln (h : gH) (a : Nat) : Option Int32 := match h.2 a with
  | some (.inl (t, n, _)) => bif Nat.blt t 10 then some (Int32.ofNat n) else none
  | _ => none
theorem g_fd_some {h : gH} {a ci j : Nat} {v : Value} (e : g_fd h a ci j = some v) : ∃ fs, h.2 a = some (.inr (ci, fs)) ∧ fs[j]? = some v := by
  unfold g_fd at e
  split at e
  · next c fs hc =>
    cases hb : Nat.beq c ci with
    | false => rw [hb] at e; cases e
    | true =>
      rw [hb] at e
      cases Nat.eq_of_beq_eq_true hb
      exact ⟨fs, hc, e⟩
  · cases e
theorem g_gI_some {h : gH} {a ci j : Nat} {v : Int32} (e : g_gI h a ci j = some v) : ∃ fs, h.2 a = some (.inr (ci, fs)) ∧ fs[j]? = some (.int v) := by
  unfold g_gI at e
  split at e
  · next x hx => cases e; exact g_fd_some hx
  · cases e
theorem g_gA_some {h : gH} {a ci j v : Nat} (e : g_gA h a ci j = some v) : ∃ fs, h.2 a = some (.inr (ci, fs)) ∧ fs[j]? = some (.ref v) := by
  unfold g_gA at e
  split at e
  · next x hx => cases e; exact g_fd_some hx
  · cases e
theorem g_is_some {h : gH} {a ci : Nat} (e : g_is h a ci = true) : ∃ fs, h.2 a = some (.inr (ci, fs)) := by
  unfold g_is at e
  split at e
  · next c fs hc => cases Nat.eq_of_beq_eq_true e; exact ⟨fs, hc⟩
  · cases e
theorem g_put_some {h h' : gH} {a ci j : Nat} {v : Value} (e : g_put h a ci j v = some h') : ∃ fs, h.2 a = some (.inr (ci, fs)) ∧ j < fs.length ∧ h' = g_set h a (.inr (ci, fs.set j v)) := by
  unfold g_put at e
  split at e
  · next c fs hc =>
    cases hb : Nat.beq c ci && Nat.blt j fs.length with
    | false => rw [hb] at e; cases e
    | true =>
      rw [hb] at e
      rw [Bool.and_eq_true] at hb
      cases Nat.eq_of_beq_eq_true hb.1
      cases e
      exact ⟨fs, hc, Nat.blt_eq.mp hb.2, rfl⟩
  · cases e
theorem g_aI_some {h : gH} {a t n : Nat} {f : Nat → Int32} (e : g_aI h a t = some (n, f)) : h.2 a = some (.inl (t, n, .inl f)) := by
  unfold g_aI at e
  split at e
  · next t' n' f' hc =>
    cases hb : Nat.beq t' t with
    | false => rw [hb] at e; cases e
    | true => rw [hb] at e; cases Nat.eq_of_beq_eq_true hb; cases e; exact hc
  · cases e
theorem g_aL_some {h : gH} {a n : Nat} {f : Nat → Int64} (e : g_aL h a = some (n, f)) : h.2 a = some (.inl (2, n, .inr (.inl f))) := by
  unfold g_aL at e
  split at e
  · next t' n' f' hc =>
    cases hb : Nat.beq t' 2 with
    | false => rw [hb] at e; cases e
    | true => rw [hb] at e; cases Nat.eq_of_beq_eq_true hb; cases e; exact hc
  · cases e
theorem g_aQ_some {h : gH} {a t n : Nat} {f : Nat → Option Nat} (e : g_aQ h a t = some (n, f)) : h.2 a = some (.inl (t, n, .inr (.inr (.inr (.inr f))))) := by
  unfold g_aQ at e
  split at e
  · next t' n' f' hc =>
    cases hb : Nat.beq t' t with
    | false => rw [hb] at e; cases e
    | true => rw [hb] at e; cases Nat.eq_of_beq_eq_true hb; cases e; exact hc
  · cases e
theorem g_ix_some {i : Int32} {n j : Nat} (e : g_ix i n = some j) : vp_in i n ∧ j = i.toNatClampNeg := by
  unfold g_ix at e
  split at e
  · cases e
  · next hc => cases e; exact ⟨hc, rfl⟩
theorem g_P1 {G : gG} {h : gH} {H : Heap} {a : Nat} {o : Nat × List Value} (hM : g_M G h H) (ha : h.2 a = some (.inr o)) : va_P (g_D G) vwCl [(a, .inr o)] H := by
  intro k q hk
  cases k with
  | zero => cases hk; exact (hM.2.2 a _ ha).2
  | succ k => simp at hk
theorem g_PA {G : gG} {h : gH} {H : Heap} {a t : Nat} {x : vp_A} (hM : g_M G h H) (ha : h.2 a = some (.inl (t, x))) : va_P (g_D G) vwCl [(a, .inl (g_c G t, x))] H := by
  intro k q hk
  cases k with
  | zero => cases hk; exact (hM.2.2 a _ ha).2
  | succ k => simp at hk
section GXH
variable {α : Type} {l : Launch} {G : gG} {M : gMt} {Φ : α → Method → Code → State → Array Value → List Frame → State → Prop} {k n pc nx x1 x2 : Nat} {L : List (Option Value)} {st : List Value} {h : gH} {F : Option α}
theorem X_fd {a idx ci j : Nat} {v : Value} (hd : g_lk (m_code M) pc = some (.getfield idx, nx, ci, j)) (hn : nx = pc + 3) {fs : List Value} (ha : h.2 a = some (.inr (ci, fs))) (hv : fs[j]? = some v) (kk : GX l G M Φ k n nx L (v :: st) h F) : GX l G M Φ k n pc L (.ref a :: st) h F := by
  intro r hr p e s m args below meth c H locs A B hl hM hS
  have hg := g_dec B.2.2.2.2.2.2.2.2.2 hd hn
  have ht := g_lk_ent _ B.2.2.2.2.2.2.2.2.2 hd
  unfold g_ent at ht
  simp only [Bool.and_eq_true, decide_eq_true_eq] at ht
  obtain ⟨C, T, N, hc, hj, hlk⟩ := g_fld ht.2
  obtain ⟨hw, hty, hnm⟩ := g_cls hc
  have q := kk r hr p e s m args below meth c H locs A B hl hM hS
  rw [hn] at q
  exact va_get (D := g_D G) (cl := vwCl) (tys := g_tl (g_c G)) (ws := [(a, .inr (ci, fs))]) (C := C) (T := T) (N := N) (Ts := u_ws C T N) B.1 B.2.1 (fun w h => B.2.2.2.2.2.2.1 w (hw w h).1 (hw w h).2) (fun w h => h) B.2.2.2.2.2.1 B.2.2.2.2.2.2.2.1.1 (g_P1 hM ha) 0 rfl hc j hj (B.2.2.2.2.2.2.1 _ hlk rfl) (fun _ h9 => h9) hv hg q
theorem X_getI {a idx ci j : Nat} {K : Int32 → Option α} (hd : g_lk (m_code M) pc = some (.getfield idx, nx, ci, j)) (hn : nx = pc + 3) (kk : ∀ v, GX l G M Φ k n nx L (.int v :: st) h (K v)) : GX l G M Φ k n pc L (.ref a :: st) h ((g_gI h a ci j).bind K) := by
  refine X_bind fun v hv => ?_
  obtain ⟨fs, h1, h2⟩ := g_gI_some hv
  exact X_fd hd hn h1 h2 (kk v)
theorem X_getA {a idx ci j : Nat} {K : Nat → Option α} (hd : g_lk (m_code M) pc = some (.getfield idx, nx, ci, j)) (hn : nx = pc + 3) (kk : ∀ v, GX l G M Φ k n nx L (.ref v :: st) h (K v)) : GX l G M Φ k n pc L (.ref a :: st) h ((g_gA h a ci j).bind K) := by
  refine X_bind fun v hv => ?_
  obtain ⟨fs, h1, h2⟩ := g_gA_some hv
  exact X_fd hd hn h1 h2 (kk v)
theorem g_putH {fs : List Value} {a ci j : Nat} {v : Value} {H H1 : Heap} {C : String} {T : u_T} {N : Nat} {cell : Cell} {sl : Nat} (hM : g_M G h H) (ha : h.2 a = some (.inr (ci, fs))) (hj : j < fs.length) (hc : vwCl[ci]? = some (C, T, N)) (hap : ∀ x y, x < N → y < N → x ≠ y → (g_D G).2 ci x ≠ (g_D G).2 ci y) (hjN : j < N) (q2 : cell.cls = (g_D G).1 ci) (q3 : cell.vm = .none) (q4 : ∀ k, k < N → cell.slots[(g_D G).2 ci k]? = some (vp_V fs k)) (hsl : sl = (g_D G).2 ci j)
    (e1 : H1[a]? = some (cell.setSlot sl v)) (z : H1.size = H.size) (o : ∀ q, q ≠ a → H1[q]? = H[q]?) : g_M G (g_set h a (.inr (ci, fs.set j v))) H1 := by
  subst hsl
  refine hM.set ha ?_ z o
  exact ⟨_, hc, t_OB.to (V := updV (vp_V fs) j v) ⟨_, e1, q2, q3, t_set q4 hap hjN v⟩ (fun i _ => vp_updV_set hj v i)⟩
theorem X_put {a idx ci j : Nat} {v : Value} {K : gH → Option α} (hd : g_lk (m_code M) pc = some (.putfield idx, nx, ci, j)) (hn : nx = pc + 3) (hfin : g_fin ci j = false) (hnv : narrow (g_ty ci j) v = v) (hfit : fits (g_ty ci j) v = true) (kk : ∀ h', GX l G M Φ k n nx L st h' (K h')) : GX l G M Φ k n pc L (v :: .ref a :: st) h ((g_put h a ci j v).bind K) := by
  refine X_bind fun h' hv => ?_
  obtain ⟨fs, ha, hj, rfl⟩ := g_put_some hv
  intro r hr p e s m args below meth c H locs A B hl hM hS
  have hg := g_dec B.2.2.2.2.2.2.2.2.2 hd hn
  have ht := g_lk_ent _ B.2.2.2.2.2.2.2.2.2 hd
  unfold g_ent at ht
  simp only [Bool.and_eq_true, decide_eq_true_eq] at ht
  obtain ⟨C, T, N, hc, hjN, hlk⟩ := g_fld ht.2
  obtain ⟨hw, hty, hnm⟩ := g_cls hc
  have hts : ∀ w ∈ u_ws C T N, w.before args s = true := fun w h => B.2.2.2.2.2.2.1 w (hw w h).1 (hw w h).2
  have hK := B.2.2.2.2.2.2.2.1.1
  have hown := B.2.2.2.2.2.1
  have hap := va_apart (own := (m_y M).cls) hts (fun w h => h) (g_ty ci) hty hnm hK hc
  obtain ⟨r9, h1, cell, q1, q2, q3, q4⟩ := (hM.2.2 a _ ha).2
  have hr9 : r9 = (C, T, N) := Option.some.inj (h1.symm.trans hc)
  subst hr9
  obtain ⟨hSl, hfc, kC, hkC, hkind⟩ := hK.1 ci _ hc
  obtain ⟨cf, kf, fi, f, hi, hsl⟩ := hSl j hjN
  have hf0 : (T j).2.2.2 = false := by
    unfold g_fin at hfin
    rw [hc] at hfin
    exact hfin
  have hlay := hts _ (u_in_lay hjN)
  unfold u_lay at hlay
  rw [if_neg (by rw [hf0]; decide)] at hlay
  have hst := (u_facts hfc hkC (u_lays hts (fun w h => h) hjN) hi).1
  have h6 := u_store hfc hkC hkind hlay hi (hty j hjN) hnv hfit
  refine W.putK B.1 B.2.1 (f := f) ⟨hown, B.2.2.2.2.2.2.1 _ hlk rfl, ⟨_, _, _, hi⟩, hst⟩ (by rw [q2]; exact h6) q1 q3 (by rw [hsl]; exact k2_hasslot (q4 j hjN)) rfl rfl hg fun H' e1 e2 e3 => ?_
  have q := kk _ r hr p e s m args below meth c H' (locs ++ [⟨a, f.slot⟩]) A B hl (g_putH hM ha hj hc hap hjN q2 q3 q4 hsl e1 e2 e3) (g_S.put hS e2 e3 (hM.2.2 a _ ha).1)
  rw [hn] at q
  exact q
theorem X_putF {a idx ci j : Nat} {v : Value} {K : gH → Option α} (hd : g_lk (m_code M) pc = some (.putfield idx, nx, ci, j)) (hn : nx = pc + 3) (hfin : g_fin ci j = true) (hin : (m_y M).name = "<init>") (hcn : g_cn ci = (m_y M).cls) (hnv : narrow (g_ty ci j) v = v) (hfit : fits (g_ty ci j) v = true) (kk : ∀ h', GX l G M Φ k n nx L st h' (K h')) (hdc : g_dc ci j = true := by decide +kernel) : GX l G M Φ k n pc L (v :: .ref a :: st) h ((g_put h a ci j v).bind K) := by
  refine X_bind fun h' hv => ?_
  obtain ⟨fs, ha, hj, rfl⟩ := g_put_some hv
  intro r hr p e s m args below meth c H locs A B hl hM hS
  have hg := g_dec B.2.2.2.2.2.2.2.2.2 hd hn
  have ht := g_lk_ent _ B.2.2.2.2.2.2.2.2.2 hd
  unfold g_ent at ht
  simp only [Bool.and_eq_true, decide_eq_true_eq] at ht
  obtain ⟨C, T, N, hc, hjN, hlk⟩ := g_fld ht.2
  obtain ⟨hw, hty, hnm⟩ := g_cls hc
  have hts : ∀ w ∈ u_ws C T N, w.before args s = true := fun w h => B.2.2.2.2.2.2.1 w (hw w h).1 (hw w h).2
  have hK := B.2.2.2.2.2.2.2.1.1
  have hown := B.2.2.2.2.2.1
  have hap := va_apart (own := (m_y M).cls) hts (fun w h => h) (g_ty ci) hty hnm hK hc
  obtain ⟨r9, h1, cell, q1, q2, q3, q4⟩ := (hM.2.2 a _ ha).2
  have hr9 : r9 = (C, T, N) := Option.some.inj (h1.symm.trans hc)
  subst hr9
  obtain ⟨hSl, hfc, kC, hkC, hkind⟩ := hK.1 ci _ hc
  obtain ⟨cf, kf, fi, f, hi, hsl⟩ := hSl j hjN
  have hf0 : (T j).2.2.2 = true := by
    unfold g_fin at hfin
    rw [hc] at hfin
    exact hfin
  have hlay := hts _ (u_in_lay hjN)
  unfold u_lay at hlay
  rw [if_pos hf0] at hlay
  have hst := (u_facts hfc hkC (u_lays hts (fun w h => h) hjN) hi).1
  have hcf : m.cls = cf := by
    obtain ⟨_, _, c', _, _, _, -, -, hf', -, -, -, hown2, -⟩ := Cond.laysFinal_spec hlay
    have e1 : c' = cf := by have := hi.symm.trans hf'; simp at this; exact this.1.symm
    have hC : (T j).1 = C := by
      unfold g_dc at hdc
      rw [hc] at hdc
      exact of_decide_eq_true hdc
    have hdecl : (T j).1 = (m_y M).cls := by
      rw [hC, ← hcn]
      unfold g_cn
      rw [hc]
    rw [hdecl] at hown2
    rw [← e1]; exact Option.some.inj (hown.symm.trans hown2)
  have h6 := u_fits hfc hkC hkind (Or.inr hlay) hi (hty j hjN) hnv hfit
  refine W.putFinK B.1 B.2.1 hown (B.2.2.2.2.2.2.1 _ hlk rfl) hi hst hcf (B.2.2.2.2.2.2.2.2.1.1 hin) (by rw [q2]; exact h6) q1 q3 (by rw [hsl]; exact k2_hasslot (q4 j hjN)) rfl rfl hg fun H' e1 e2 e3 => ?_
  have q := kk _ r hr p e s m args below meth c H' (locs ++ [⟨a, f.slot⟩]) A B hl (g_putH hM ha hj hc hap hjN q2 q3 q4 hsl e1 e2 e3) (g_S.put hS e2 e3 (hM.2.2 a _ ha).1)
  rw [hn] at q
  exact q
end GXH
end
section
/-! arrays, new objects -/
section GXA
variable {α : Type} {l : Launch} {G : gG} {M : gMt} {Φ : α → Method → Code → State → Array Value → List Frame → State → Prop} {k n pc nx x1 x2 : Nat} {L : List (Option Value)} {st : List Value} {h : gH} {F : Option α}
theorem X_ald {a : Nat} {i : Int32} {K : Int32 → Option α} (hd : g_lk (m_code M) pc = some (.iaload, nx, x1, x2)) (hn : nx = pc + 1) (kk : ∀ v, GX l G M Φ k n nx L (.int v :: st) h (K v)) : GX l G M Φ k n pc L (.int i :: .ref a :: st) h ((g_ald h a i).bind K) := by
  refine X_bind fun v hv => ?_
  unfold g_ald at hv
  cases hx : g_aI h a 0 with
  | none => rw [hx] at hv; cases hv
  | some x =>
    obtain ⟨m0, f⟩ := x
    rw [hx] at hv
    simp only [Option.bind_some, Option.map_eq_some_iff] at hv
    obtain ⟨j, hj, rfl⟩ := hv
    obtain ⟨hin, rfl⟩ := g_ix_some hj
    intro r hr p e s m args below meth c H locs A B hl hM hS
    have hg := g_dec B.2.2.2.2.2.2.2.2.2 hd hn
    have q := kk _ r hr p e s m args below meth c H locs A B hl hM hS
    rw [hn] at q
    exact va_iald (D := g_D G) (cl := vwCl) (tys := g_tl (g_c G)) (ws := [(a, .inl (g_c G 0, m0, .inl f))]) B.1 B.2.1 B.2.2.2.2.2.2.2.1.1 (g_PA hM (g_aI_some hx)) 0 0 rfl rfl hin hg q
theorem X_bld {a : Nat} {i : Int32} {K : Int32 → Option α} (hd : g_lk (m_code M) pc = some (.baload, nx, x1, x2)) (hn : nx = pc + 1) (kk : ∀ v, GX l G M Φ k n nx L (.int v :: st) h (K v)) : GX l G M Φ k n pc L (.int i :: .ref a :: st) h ((g_bld h a i).bind K) := by
  refine X_bind fun v hv => ?_
  unfold g_bld at hv
  cases hx : g_aI h a 1 with
  | none => rw [hx] at hv; cases hv
  | some x =>
    obtain ⟨m0, f⟩ := x
    rw [hx] at hv
    simp only [Option.bind_some, Option.map_eq_some_iff] at hv
    obtain ⟨j, hj, rfl⟩ := hv
    obtain ⟨hin, rfl⟩ := g_ix_some hj
    intro r hr p e s m args below meth c H locs A B hl hM hS
    have hg := g_dec B.2.2.2.2.2.2.2.2.2 hd hn
    have q := kk _ r hr p e s m args below meth c H locs A B hl hM hS
    rw [hn] at q
    exact va_bald (D := g_D G) (cl := vwCl) (tys := g_tl (g_c G)) (ws := [(a, .inl (g_c G 1, m0, .inl f))]) B.1 B.2.1 B.2.2.2.2.2.2.2.1.1 (g_PA hM (g_aI_some hx)) 0 1 rfl rfl hin hg q
theorem X_lld {a : Nat} {i : Int32} {K : Int64 → Option α} (hd : g_lk (m_code M) pc = some (.laload, nx, x1, x2)) (hn : nx = pc + 1) (kk : ∀ v, GX l G M Φ k n nx L (.long v :: st) h (K v)) : GX l G M Φ k n pc L (.int i :: .ref a :: st) h ((g_lld h a i).bind K) := by
  refine X_bind fun v hv => ?_
  unfold g_lld at hv
  cases hx : g_aL h a with
  | none => rw [hx] at hv; cases hv
  | some x =>
    obtain ⟨m0, f⟩ := x
    rw [hx] at hv
    simp only [Option.bind_some, Option.map_eq_some_iff] at hv
    obtain ⟨j, hj, rfl⟩ := hv
    obtain ⟨hin, rfl⟩ := g_ix_some hj
    intro r hr p e s m args below meth c H locs A B hl hM hS
    have hg := g_dec B.2.2.2.2.2.2.2.2.2 hd hn
    have q := kk _ r hr p e s m args below meth c H locs A B hl hM hS
    rw [hn] at q
    exact va_lald (D := g_D G) (cl := vwCl) (tys := g_tl (g_c G)) (ws := [(a, .inl (g_c G 2, m0, .inr (.inl f)))]) B.1 B.2.1 B.2.2.2.2.2.2.2.1.1 (g_PA hM (g_aL_some hx)) 0 2 rfl rfl hin hg q
theorem g_qldW {a m0 t : Nat} {i : Int32} {f : Nat → Option Nat} {p : Program} {e : Env} {s : State} {m : MethodId} {args : Array Value} {below : List Frame} {meth : Method} {c : Code} {H : Heap} {locs : List Loc} {A : Array Slot} {Q : State → Prop} {ty : FieldType} (B : g_bx G M p s m args meth c) (hM : g_M G h H) (ha : h.2 a = some (.inl (t, m0, .inr (.inr (.inr (.inr f)))))) (ht : (g_tl (g_c G))[t]? = some (g_c G t, ty)) (hty : refKind ty = true) (hin : vp_in i m0) (hg : decode (m_cc M) pc = .ok (.aaload, 1)) (q : W p l e (m_R M) s m args below meth c H locs k n Q (F0 m (pc + 1) A (va_rf (f i.toNatClampNeg) :: st))) : W p l e (m_R M) s m args below meth c H locs k n Q (F0 m pc A (.int i :: .ref a :: st)) := by
  have hlt : i.toNatClampNeg < m0 := Nat.not_le.mp fun q => hin (Or.inr q)
  have hP := g_PA hM ha
  exact W.aald (v := va_rf (f i.toNatClampNeg)) (ty := ty) B.1 B.2.1 (hP 0 _ rfl) ((B.2.2.2.2.2.2.2.1.1.2 t _ ht).1 m0 (fun j => va_rf (f j))) hty (fun q => by cases q) (by show ¬ (i < 0 ∨ (arrV _ _ _).slots.size ≤ _); rw [arrV_size]; exact hin) (by show (arrV _ _ _).slots[_]? = _; rw [arrV_read _ _ hlt]) rfl rfl hg q
theorem X_qld {a t : Nat} {i : Int32} {K : Option Nat → Option α} (hd : g_lk (m_code M) pc = some (.aaload, nx, x1, x2)) (hn : nx = pc + 1) (ht : t = 3 ∨ t = 4 ∨ t = 5) (kk : ∀ v, GX l G M Φ k n nx L (va_rf v :: st) h (K v)) : GX l G M Φ k n pc L (.int i :: .ref a :: st) h ((g_qld h a t i).bind K) := by
  refine X_bind fun v hv => ?_
  unfold g_qld at hv
  cases hx : g_aQ h a t with
  | none => rw [hx] at hv; cases hv
  | some x =>
    obtain ⟨m0, f⟩ := x
    rw [hx] at hv
    simp only [Option.bind_some, Option.map_eq_some_iff] at hv
    obtain ⟨j, hj, rfl⟩ := hv
    obtain ⟨hin, rfl⟩ := g_ix_some hj
    intro r hr p e s m args below meth c H locs A B hl hM hS
    have hg := g_dec B.2.2.2.2.2.2.2.2.2 hd hn
    have q := kk _ r hr p e s m args below meth c H locs A B hl hM hS
    rw [hn] at q
    rcases ht with rfl | rfl | rfl
    · exact g_qldW B hM (g_aQ_some hx) rfl rfl hin hg q
    · exact g_qldW B hM (g_aQ_some hx) rfl rfl hin hg q
    · exact g_qldW B hM (g_aQ_some hx) rfl rfl hin hg q
theorem X_ast {a : Nat} {i x : Int32} {K : gH → Option α} (hd : g_lk (m_code M) pc = some (.iastore, nx, x1, x2)) (hn : nx = pc + 1) (kk : ∀ h', GX l G M Φ k n nx L st h' (K h')) : GX l G M Φ k n pc L (.int x :: .int i :: .ref a :: st) h ((g_ast h a i x).bind K) := by
  refine X_bind fun v hv => ?_
  unfold g_ast at hv
  cases hx : g_aI h a 0 with
  | none => rw [hx] at hv; cases hv
  | some y =>
    obtain ⟨m0, f⟩ := y
    rw [hx] at hv
    simp only [Option.bind_some, Option.map_eq_some_iff] at hv
    obtain ⟨j, hj, rfl⟩ := hv
    obtain ⟨hin, rfl⟩ := g_ix_some hj
    have ha := g_aI_some hx
    intro r hr p e0 s m args below meth c H locs A B hl hM hS
    have hg := g_dec B.2.2.2.2.2.2.2.2.2 hd hn
    have hP := g_PA hM ha
    refine W.iast B.1 B.2.1 (hP 0 _ rfl) ((B.2.2.2.2.2.2.2.1.1.2 0 _ rfl).1 m0 (fun j => .int (f j))) (fun q => by cases q) (by show ¬ (i < 0 ∨ (arrV _ _ _).slots.size ≤ _); rw [arrV_size]; exact hin) rfl rfl hg fun H1 e z oq => ?_
    have q := kk _ r hr p e0 s m args below meth c H1 (locs ++ [⟨a, i.toNatClampNeg⟩]) A B hl (hM.set ha ?_ z oq) (g_S.put hS z oq (hM.2.2 a _ ha).1)
    · rw [hn] at q
      exact q
    · show H1[a]? = some (vp_cell _ _)
      rw [e]
      rw [vp_cell_i, vp_cell_i, arrV_store]
      congr 2
      funext q
      by_cases hq : q = i.toNatClampNeg
      · subst hq
        simp [updV, upd]
      · simp [updV, upd, hq]
theorem X_bst {a : Nat} {i x : Int32} {K : gH → Option α} (hd : g_lk (m_code M) pc = some (.bastore, nx, x1, x2)) (hn : nx = pc + 1) (kk : ∀ h', GX l G M Φ k n nx L st h' (K h')) : GX l G M Φ k n pc L (.int x :: .int i :: .ref a :: st) h ((g_bst h a i x).bind K) := by
  refine X_bind fun v hv => ?_
  unfold g_bst at hv
  cases hx : g_aI h a 1 with
  | none => rw [hx] at hv; cases hv
  | some y =>
    obtain ⟨m0, f⟩ := y
    rw [hx] at hv
    simp only [Option.bind_some, Option.map_eq_some_iff] at hv
    obtain ⟨j, hj, rfl⟩ := hv
    obtain ⟨hin, rfl⟩ := g_ix_some hj
    have ha := g_aI_some hx
    intro r hr p e0 s m args below meth c H locs A B hl hM hS
    have hg := g_dec B.2.2.2.2.2.2.2.2.2 hd hn
    have hP := g_PA hM ha
    refine W.bast B.1 B.2.1 (hP 0 _ rfl) ((B.2.2.2.2.2.2.2.1.1.2 1 _ rfl).1 m0 (fun j => .int (f j))) (fun q => by cases q) (by show ¬ (i < 0 ∨ (arrV _ _ _).slots.size ≤ _); rw [arrV_size]; exact hin) rfl rfl hg fun H1 e z oq => ?_
    have q := kk _ r hr p e0 s m args below meth c H1 (locs ++ [⟨a, i.toNatClampNeg⟩]) A B hl (hM.set ha ?_ z oq) (g_S.put hS z oq (hM.2.2 a _ ha).1)
    · rw [hn] at q
      exact q
    · show H1[a]? = some (vp_cell _ _)
      rw [e]
      rw [vp_cell_i, vp_cell_i, arrV_store]
      congr 2
      funext q
      by_cases hq : q = i.toNatClampNeg
      · subst hq
        simp [updV, upd, narrow]
      · simp [updV, upd, hq]
theorem X_lst {a : Nat} {i : Int32} {x : Int64} {K : gH → Option α} (hd : g_lk (m_code M) pc = some (.lastore, nx, x1, x2)) (hn : nx = pc + 1) (kk : ∀ h', GX l G M Φ k n nx L st h' (K h')) : GX l G M Φ k n pc L (.long x :: .int i :: .ref a :: st) h ((g_lst h a i x).bind K) := by
  refine X_bind fun v hv => ?_
  unfold g_lst at hv
  cases hx : g_aL h a with
  | none => rw [hx] at hv; cases hv
  | some y =>
    obtain ⟨m0, f⟩ := y
    rw [hx] at hv
    simp only [Option.bind_some, Option.map_eq_some_iff] at hv
    obtain ⟨j, hj, rfl⟩ := hv
    obtain ⟨hin, rfl⟩ := g_ix_some hj
    have ha := g_aL_some hx
    intro r hr p e0 s m args below meth c H locs A B hl hM hS
    have hg := g_dec B.2.2.2.2.2.2.2.2.2 hd hn
    have hP := g_PA hM ha
    refine W.last B.1 B.2.1 (hP 0 _ rfl) ((B.2.2.2.2.2.2.2.1.1.2 2 _ rfl).1 m0 (fun j => .long (f j))) (fun q => by cases q) (by show ¬ (i < 0 ∨ (arrV _ _ _).slots.size ≤ _); rw [arrV_size]; exact hin) rfl rfl hg fun H1 e z oq => ?_
    have q := kk _ r hr p e0 s m args below meth c H1 (locs ++ [⟨a, i.toNatClampNeg⟩]) A B hl (hM.set ha ?_ z oq) (g_S.put hS z oq (hM.2.2 a _ ha).1)
    · rw [hn] at q
      exact q
    · show H1[a]? = some (vp_cell _ _)
      rw [e]
      rw [vp_cell_l, vp_cell_l, arrV_store]
      congr 2
      funext q
      by_cases hq : q = i.toNatClampNeg
      · subst hq
        simp [updV, vp_updL]
      · simp [updV, vp_updL, hq]
theorem X_aln {a : Nat} {K : Int32 → Option α} (hd : g_lk (m_code M) pc = some (.arraylength, nx, x1, x2)) (hn : nx = pc + 1) (kk : ∀ v, GX l G M Φ k n nx L (.int v :: st) h (K v)) : GX l G M Φ k n pc L (.ref a :: st) h ((g_aln h a).bind K) := by
  refine X_bind fun v hv => ?_
  unfold g_aln at hv
  split at hv
  · next t m0 f ha =>
    cases hb8 : Nat.blt t 10 with
    | false => rw [hb8] at hv; cases hv
    | true =>
    have hb9 := Nat.blt_eq.mp hb8
    rw [hb8] at hv
    cases hv
    intro r hr p e s m args below meth c H locs A B hl hM hS
    have hg := g_dec B.2.2.2.2.2.2.2.2.2 hd hn
    have q := kk _ r hr p e s m args below meth c H locs A B hl hM hS
    rw [hn] at q
    by_cases ht : t < 10
    · obtain ⟨ty, hty⟩ : ∃ ty, (g_tl (g_c G))[t]? = some (g_c G t, ty) := by
        match t, ht with
        | 0, _ => exact ⟨_, rfl⟩
        | 1, _ => exact ⟨_, rfl⟩
        | 2, _ => exact ⟨_, rfl⟩
        | 3, _ => exact ⟨_, rfl⟩
        | 4, _ => exact ⟨_, rfl⟩
        | 5, _ => exact ⟨_, rfl⟩
        | 6, _ => exact ⟨_, rfl⟩
        | 7, _ => exact ⟨_, rfl⟩
        | 8, _ => exact ⟨_, rfl⟩
        | 9, _ => exact ⟨_, rfl⟩
      exact va_alen (D := g_D G) (cl := vwCl) (tys := g_tl (g_c G)) (ws := [(a, .inl (g_c G t, m0, f))]) B.1 B.2.1 B.2.2.2.2.2.2.2.1.1 (g_PA hM ha) 0 t rfl hty rfl hg q
    · exact absurd hb9 ht
  · cases hv
/-- a new object's fields -/
def g_dfl (ci : Nat) : List Value := match vwCl[ci]? with
  | some q => (List.range q.2.2).map fun j => defaultValue (g_ty ci j)
  | none => []
def g_nf (ci : Nat) : Nat := match vwCl[ci]? with
  | some q => q.2.2
  | none => 0
theorem X_new {idx ci : Nat} (hd : g_lk (m_code M) pc = some (.new idx, nx, ci, x2)) (hn : nx = pc + 3) (hk : Nat.ble (k + 1) (m_R M).cells = true) (hs : Nat.ble (n + g_nf ci) (m_R M).slots = true) (kk : GX l G M Φ (k + 1) (n + g_nf ci) nx L (.ref h.1 :: st) (g_add h (.inr (ci, g_dfl ci))) F) : GX l G M Φ k n pc L st h F := by
  intro r hr p e s m args below meth c H locs A B hl hM hS
  have hg := g_dec B.2.2.2.2.2.2.2.2.2 hd hn
  have ht := g_lk_ent _ B.2.2.2.2.2.2.2.2.2 hd
  unfold g_ent at ht
  simp only [Bool.and_eq_true, decide_eq_true_eq] at ht
  have ht2 := ht.2
  unfold g_newOk at ht2
  cases hc : vwCl[ci]? with
  | none => rw [hc] at ht2; cases ht2
  | some q =>
    obtain ⟨C, T, N⟩ := q
    rw [hc] at ht2
    simp only [Bool.and_eq_true, decide_eq_true_eq] at ht2
    obtain ⟨hw, hty, hnm⟩ := g_cls hc
    have hts : ∀ w ∈ u_ws C T N, w.before args s = true := fun w h => B.2.2.2.2.2.2.1 w (hw w h).1 (hw w h).2
    have hKn := B.2.2.2.2.2.2.2.1.1.1 ci _ hc
    have hnf : g_nf ci = N := by unfold g_nf; rw [hc]
    rw [hnf] at hs kk
    refine W.newcK B.1 B.2.1 B.2.2.2.2.2.1 (B.2.2.2.2.2.2.1 _ ht2.1.1 rfl) (B.2.2.2.2.2.2.1 _ ht2.1.2 rfl) (B.2.2.2.2.2.2.1 _ ht2.2 rfl) rfl hg (Nat.le_of_ble_eq_true hk) (Nat.le_of_ble_eq_true hs) hKn.2.1 hM.1 fun H1 kC hkC e1 z1 o1 => ?_
    have q := kk r hr p e s m args below meth c H1 locs A B hl (hM.add (x := .inr (ci, g_dfl ci)) ?_ z1 o1) (g_S.add hS hM.1 z1 o1)
    · rw [hn] at q
      exact q
    · refine ⟨_, hc, (u_born (g_ty ci) hts (fun w h => h) hKn hkC e1 hty).to (fun j hj => ?_)⟩
      unfold g_dfl vp_V
      rw [hc]
      simp [hj]
theorem X_newarr {at0 : ArrayType} {t N : Nat} {i : Int32} {y : vp_A} (hd : g_lk (m_code M) pc = some (.newarray at0, nx, x1, x2)) (hn : nx = pc + 2) (harr : Cond.arrayClass (newarray.typeOf at0) ∈ lw_tbl) (ht : (g_tl (g_c G))[t]? = some (g_c G t, newarray.typeOf at0)) (hi : ¬ i < 0) (hN : i.toNatClampNeg = N) (hbytes : Nat.ble (N * componentBytes (newarray.typeOf at0)) 536870912 = true) (hk : Nat.ble (k + 1) (m_R M).cells = true) (hs : Nat.ble (n + N) (m_R M).slots = true) (hy : ∀ cA : ClassId, vp_cell cA y = arrV cA N (fun _ => defaultValue (newarray.typeOf at0)))
    (kk : GX l G M Φ (k + 1) (n + N) nx L (.ref h.1 :: st) (g_add h (.inl (t, y))) F) : GX l G M Φ k n pc L (.int i :: st) h F := by
  intro r hr p e s m args below meth c H locs A B hl hM hS
  have hg := g_dec B.2.2.2.2.2.2.2.2.2 hd hn
  refine va_newaK B.1 B.2.1 (B.2.2.2.2.2.2.1 _ harr rfl) rfl hg rfl hi hN (Nat.le_of_ble_eq_true hbytes) (Nat.le_of_ble_eq_true hk) (Nat.le_of_ble_eq_true hs) hM.1 fun H1 cA e1 z1 o1 hAr hNm => ?_
  have hcA : cA = g_c G t := by
    have h1 := (B.2.2.2.2.2.2.2.1.1.2 t _ ht).2
    unfold va_RA at h1
    have h2 : s.vm.findClass ("[" ++ (newarray.typeOf at0).toString) = some (g_c G t) := by
      cases at0 <;> exact h1
    exact Option.some.inj (hNm.symm.trans h2)
  subst hcA
  have q := kk r hr p e s m args below meth c H1 locs A B hl (hM.add (x := .inl (t, y)) ?_ z1 o1) (g_S.add hS hM.1 z1 o1)
  · rw [hn] at q
    exact q
  · show H1[h.1]? = some (vp_cell _ _)
    rw [hy]
    exact e1
end GXA
end
section
/-! calls and returns -/
def g_good : List Cond := lw_tbl.filter goodWord
def g_ws (M : gMt) : List Cond := Cond.code (m_y M) (m_cc M) (m_nL M) (m_ret M) :: g_good
def g_Qc (G : gG) (o : Option Value) (h' : gH) : Array Value → State → Outcome → State → Prop := fun _ st oc t => oc = .returned o ∧ g_M G h' t.heap ∧ st.heap.size ≤ t.heap.size ∧ ∀ q : Nat, q < g_b G → t.heap[q]? = st.heap[q]?
/-- A CONTRACT: the method M, called with As over the heap h, answers o and leaves the heap h' -/
def Ct (l : Launch) (G : gG) (M : gMt) (As : List Value) (h : gH) (o : Option Value) (h' : gH) : Prop :=
  Met l (m_y M) (g_ws M) (m_R M) (va_Pc As (fun U => g_K G U U.heap ∧ g_M G h U.heap)) (g_Qc G o h') (m_R M).cells (m_R M).slots (g_A G)
/-- what the tables say of a site that calls M' from M, with nA arguments -/
def g_site (M M' : gMt) (I : Instr) (nA : Nat) : Bool := decide (Cond.code (m_y M') (m_cc M') (m_nL M') (m_ret M') ∈ lw_tbl) && decide (Cond.initialized (m_y M').cls ∈ lw_tbl) && decide ((m_y M').cls ≠ "java/lang/invoke/MethodHandle") && decide ((m_y M').cls ≠ "java/lang/invoke/VarHandle") && decide ((parseMethodDescriptor (m_y M').desc).map (fun d => d.parameters.length) = some nA) && Nat.ble ((m_R M').frames + 1) (m_R M).frames && Nat.ble (8 + (m_nL M' + 11) + (m_R M').locals) (m_R M).locals && (match I with
  | .invokestatic idx => decide (Cond.static (m_y M') ∈ lw_tbl) && decide (Cond.methodLink (m_y M).cls idx (m_y M') ∈ lw_tbl)
  | .invokevirtual idx => decide (Cond.instanceMethod (m_y M') ∈ lw_tbl) && decide (Cond.selects (m_y M').cls (m_y M') (m_y M') ∈ lw_tbl) && decide (Cond.methodLink (m_y M).cls idx (m_y M') ∈ lw_tbl)
  | .invokespecial idx => decide (Cond.instanceMethod (m_y M') ∈ lw_tbl) && decide ((m_y M').name = "<init>") && decide (m_ret M' = none) && decide (Cond.methodLink (m_y M).cls idx (m_y M') ∈ lw_tbl)
  | _ => false)
/-- .. of a private member of a nest mate -/
def g_siteN (M M' : gMt) (I : Instr) (nA : Nat) : Bool := decide (Cond.code (m_y M') (m_cc M') (m_nL M') (m_ret M') ∈ lw_tbl) && decide (Cond.initialized (m_y M').cls ∈ lw_tbl) && decide ((m_y M').cls ≠ "java/lang/invoke/MethodHandle") && decide ((m_y M').cls ≠ "java/lang/invoke/VarHandle") && decide ((parseMethodDescriptor (m_y M').desc).map (fun d => d.parameters.length) = some nA) && Nat.ble ((m_R M').frames + 1) (m_R M).frames && Nat.ble (8 + (m_nL M' + 11) + (m_R M').locals) (m_R M).locals && (match I with
  | .invokestatic idx => decide (Cond.static (m_y M') ∈ lw_tbl) && decide (Cond.methodLinkNest (m_y M).cls idx (m_y M') "LampRelay" ∈ lw_tbl)
  | .invokespecial idx => decide (Cond.instanceMethod (m_y M') ∈ lw_tbl) && decide ((m_y M').name = "<init>") && decide (m_ret M' = none) && decide (Cond.methodLinkNest (m_y M).cls idx (m_y M') "LampRelay" ∈ lw_tbl)
  | _ => false)
theorem g_goodIn {M' : gMt} (h : Cond.code (m_y M') (m_cc M') (m_nL M') (m_ret M') ∈ lw_tbl) : GoodIn g_good (g_ws M') := by
  intro w hw
  rcases List.mem_cons.mp hw with rfl | hw
  · exact ⟨List.mem_filter.mpr ⟨h, rfl⟩, good_of_word rfl⟩
  · exact ⟨hw, good_of_word (List.mem_filter.mp hw).2⟩
theorem g_blind {G : gG} {As : List Value} {h : gH} : FrameBlind (va_Pc As (fun U => g_K G U U.heap ∧ g_M G h U.heap)) := by
  rintro a U g mk ⟨e, hK, hM⟩
  exact ⟨e, hK.warm (State.WarmedH.refl U) (fun _ _ _ => rfl), hM⟩
section GXC
variable {α : Type} {l : Launch} {G : gG} {M : gMt} {Φ : α → Method → Code → State → Array Value → List Frame → State → Prop} {k n pc nx x1 x2 : Nat} {L : List (Option Value)} {st stk : List Value} {h : gH} {F : Option α}
theorem g_after {p : Program} {e : Env} {s : State} {m : MethodId} {args : Array Value} {below : List Frame} {meth : Method} {c : Code} {H : Heap} {locs : List Loc} {A : Array Slot} {Q : State → Prop} {mc ms : Nat} {a : Array Value} {o : Option Value} {h1 : gH} (hr : va_Run p l e (m_R M) s m args below meth c H locs k n mc ms (F0 m pc A stk) st (g_Qc G o h1 a) (g_A G)) (hM : g_M G h H) (hB : g_b G ≤ s.heap.size) (hS : va_S (g_A G) s.heap H locs)
    (kk : ∀ (H1 : Heap) (locs1 : List Loc), g_M G h1 H1 → va_S (g_A G) s.heap H1 locs1 → W p l e (m_R M) s m args below meth c H1 locs1 (k + mc) (n + ms) Q (F0 m (pc + 3) A (o.toList ++ st))) : W p l e (m_R M) s m args below meth c H locs k n Q (F0 m pc A stk) := by
  intro T hT X
  obtain ⟨v, st₀, t, T', L1, h0, X', hL, e1, e2, ⟨hv, hM', hz, hq⟩, stp⟩ := hr T hT X
  cases hv
  rw [h0] at hz hq
  obtain ⟨t2, a1, b1⟩ := kk T'.heap (locs ++ L1) (by rw [e1]; exact hM') ⟨Nat.le_trans hS.1 (by rw [e1]; exact hz), fun q h1 h2 => by
      have hqb : q < g_b G := Nat.not_le.mp h2
      rw [e1, hq q hqb]; exact hS.2.1 q h1 h2, fun q hq => by
      rcases List.mem_append.mp hq with h | h
      · exact hS.2.2 q h
      · exact hL q h⟩ T' rfl X'
  exact ⟨t2, stp t2 a1, b1⟩
theorem X_callS {M' : gMt} {idx nA : Nat} {As : List Value} {o : Option Value} {h1 : gH} (hd : g_lk (m_code M) pc = some (.invokestatic idx, nx, x1, x2)) (hn : nx = pc + 3) (hs : g_site M M' (.invokestatic idx) nA = true) (hlen : As.length = nA) (hstk : stk = As.reverse ++ st) (hst : Nat.ble ((st.map fun v => v.category).sum) 8 = true) (hC : Ct l G M' As h o h1) (hk : Nat.ble (k + (m_R M').cells) (m_R M).cells = true) (hsl : Nat.ble (n + (m_R M').slots) (m_R M).slots = true)
    (kk : GX l G M Φ (k + (m_R M').cells) (n + (m_R M').slots) nx L (o.toList ++ st) h1 F) : GX l G M Φ k n pc L stk h F := by
  intro r hr p e s m args below meth c H locs A B hl hM hS
  have hg := g_dec B.2.2.2.2.2.2.2.2.2 hd hn
  unfold g_site at hs
  simp only [Bool.and_eq_true, decide_eq_true_eq] at hs
  obtain ⟨⟨⟨⟨⟨⟨⟨s1, s2⟩, s3⟩, s4⟩, s5⟩, s6⟩, s7⟩, s8, s9⟩ := hs
  have hts : ∀ w ∈ g_good, w.before args s = true := fun w hw => B.2.2.2.2.2.2.1 w (List.mem_filter.mp hw).1 (List.mem_filter.mp hw).2
  have ok : ∀ w ∈ lw_tbl, goodWord w = true → w.before args s = true := B.2.2.2.2.2.2.1
  have hB : g_b G ≤ s.heap.size ∨ True := Or.inr trivial
  have cb := callB_of (R := m_R M) (mc := (m_R M').cells) (ms := (m_R M').slots) (rm := m_R M') nA hts (g_goodIn s1) (ws' := g_good) rfl rfl rfl (ok _ s2 rfl) (ok _ s9 rfl) ⟨s3, s4, s5⟩ ⟨Nat.le_of_ble_eq_true s6, Nat.le_of_ble_eq_true s7⟩
  have hrun := va_runS (As := As) (rest := st) (H := H) (locs := locs) (cells := k) (slots := n) (below := below) (meth := meth) (e := e) (g := F0 m pc A stk) (cc := m_cc M) (nL := m_nL M) (index := idx) (Ts := g_good) (own := (m_y M).cls) ⟨B.1, B.2.1, B.2.2.1, B.2.2.2.2.2.1, hts⟩ hC ⟨cb, ok _ s8 rfl⟩ ⟨g_blind, fun U hU hW => ⟨rfl, by rw [hU]; exact (B.2.2.2.2.2.2.2.1.warm hW (fun a ha hna => hS.2.1 a ha hna)), by rw [hU]; exact hM⟩⟩ rfl hlen hl.1 hstk (lv_room (Nat.le_of_ble_eq_true hst)) hg ⟨Nat.le_of_ble_eq_true hk, Nat.le_of_ble_eq_true hsl⟩
  intro T hT X
  obtain ⟨v, st₀, t, T', L1, h0, X', hL, e1, e2, ⟨hv, hM', hz, hq⟩, stp⟩ := hrun T hT X
  cases hv
  rw [h0] at hz hq
  have q := kk r hr p e s m args below meth c T'.heap (locs ++ L1) A B hl (by rw [e1]; exact hM') ⟨Nat.le_trans hS.1 (by rw [e1]; exact hz), fun q h1 h2 => by
      have hqb : q < g_b G := Nat.not_le.mp h2
      rw [e1, hq q hqb]; exact hS.2.1 q h1 h2, fun q hq => by
      rcases List.mem_append.mp hq with h | h
      · exact hS.2.2 q h
      · exact hL q h⟩
  rw [hn] at q
  obtain ⟨t2, a1, b1⟩ := q T' rfl X'
  exact ⟨t2, stp t2 a1, b1⟩
theorem X_callSN {M' : gMt} {idx nA : Nat} {As : List Value} {o : Option Value} {h1 : gH} (hd : g_lk (m_code M) pc = some (.invokestatic idx, nx, x1, x2)) (hn : nx = pc + 3) (hs : g_siteN M M' (.invokestatic idx) nA = true) (hlen : As.length = nA) (hstk : stk = As.reverse ++ st) (hst : Nat.ble ((st.map fun v => v.category).sum) 8 = true) (hC : Ct l G M' As h o h1) (hk : Nat.ble (k + (m_R M').cells) (m_R M).cells = true) (hsl : Nat.ble (n + (m_R M').slots) (m_R M).slots = true)
    (kk : GX l G M Φ (k + (m_R M').cells) (n + (m_R M').slots) nx L (o.toList ++ st) h1 F) : GX l G M Φ k n pc L stk h F := by
  intro r hr p e s m args below meth c H locs A B hl hM hS
  have hg := g_dec B.2.2.2.2.2.2.2.2.2 hd hn
  unfold g_siteN at hs
  simp only [Bool.and_eq_true, decide_eq_true_eq] at hs
  obtain ⟨⟨⟨⟨⟨⟨⟨s1, s2⟩, s3⟩, s4⟩, s5⟩, s6⟩, s7⟩, s8, s9⟩ := hs
  have hts : ∀ w ∈ g_good, w.before args s = true := fun w hw => B.2.2.2.2.2.2.1 w (List.mem_filter.mp hw).1 (List.mem_filter.mp hw).2
  have ok : ∀ w ∈ lw_tbl, goodWord w = true → w.before args s = true := B.2.2.2.2.2.2.1
  have hNw : va_Nw (.methodLinkNest (m_y M).cls idx (m_y M') "LampRelay") s := B.2.2.2.2.2.2.2.1.2.1 _ (List.mem_filter.mpr ⟨s9, rfl⟩)
  have cb := va_cnB (R := m_R M) (mc := (m_R M').cells) (ms := (m_R M').slots) (rm := m_R M') nA hts (g_goodIn s1) (ws' := g_good) rfl rfl rfl hNw (ok _ s2 rfl) ⟨s3, s4, s5⟩ ⟨Nat.le_of_ble_eq_true s6, Nat.le_of_ble_eq_true s7⟩
  have hrun := va_runSN (As := As) (rest := st) (H := H) (locs := locs) (cells := k) (slots := n) (below := below) (meth := meth) (e := e) (g := F0 m pc A stk) (cc := m_cc M) (nL := m_nL M) (index := idx) (Ts := g_good) (own := (m_y M).cls) ⟨B.1, B.2.1, B.2.2.1, B.2.2.2.2.2.1, hts⟩ hC ⟨cb, ok _ s8 rfl, trivial⟩ ⟨g_blind, fun U hU hW => ⟨rfl, by rw [hU]; exact (B.2.2.2.2.2.2.2.1.warm hW (fun a ha hna => hS.2.1 a ha hna)), by rw [hU]; exact hM⟩⟩ rfl hlen hl.1 hstk (lv_room (Nat.le_of_ble_eq_true hst)) hg ⟨Nat.le_of_ble_eq_true hk, Nat.le_of_ble_eq_true hsl⟩
  intro T hT X
  obtain ⟨v, st₀, t, T', L1, h0, X', hL, e1, e2, ⟨hv, hM', hz, hq⟩, stp⟩ := hrun T hT X
  cases hv
  rw [h0] at hz hq
  have q := kk r hr p e s m args below meth c T'.heap (locs ++ L1) A B hl (by rw [e1]; exact hM') ⟨Nat.le_trans hS.1 (by rw [e1]; exact hz), fun q h1 h2 => by
      have hqb : q < g_b G := Nat.not_le.mp h2
      rw [e1, hq q hqb]; exact hS.2.1 q h1 h2, fun q hq => by
      rcases List.mem_append.mp hq with h | h
      · exact hS.2.2 q h
      · exact hL q h⟩
  rw [hn] at q
  obtain ⟨t2, a1, b1⟩ := q T' rfl X'
  exact ⟨t2, stp t2 a1, b1⟩
theorem g_recv {p : Program} {s : State} {m : MethodId} {args : Array Value} {meth : Method} {c : Code} {H : Heap} {b ci : Nat} {C : String} (B : g_bx G M p s m args meth c) (hM : g_M G h H) (hrc : g_is h b ci = true ∧ g_cn ci = C) : ∃ cellB : Cell, H[b]? = some cellB ∧ cellB.vm.isStatics = false ∧ s.vm.findClass C = some cellB.cls := by
  obtain ⟨hi, hcn⟩ := hrc
  obtain ⟨fs, hb⟩ := g_is_some hi
  obtain ⟨r9, h1, cell, g1, g2, g3, -⟩ := (hM.2.2 b _ hb).2
  refine ⟨cell, g1, by rw [g3]; rfl, ?_⟩
  have hcn' : C = r9.1 := by
    rw [← hcn]
    unfold g_cn
    rw [h1]
  rw [hcn', g2]
  exact (B.2.2.2.2.2.2.2.1.1.1 ci r9 h1).2.1
theorem X_callV {M' : gMt} {idx nA b ci : Nat} {As : List Value} {o : Option Value} {h1 : gH} (hd : g_lk (m_code M) pc = some (.invokevirtual idx, nx, x1, x2)) (hn : nx = pc + 3) (hs : g_site M M' (.invokevirtual idx) nA = true) (hlen : As.length = nA) (hstk : stk = As.reverse ++ .ref b :: st) (hst : Nat.ble ((st.map fun v => v.category).sum) 8 = true) (hrc : g_is h b ci = true ∧ g_cn ci = (m_y M').cls) (hC : Ct l G M' (.ref b :: As) h o h1) (hk : Nat.ble (k + (m_R M').cells) (m_R M).cells = true) (hsl : Nat.ble (n + (m_R M').slots) (m_R M).slots = true)
    (kk : GX l G M Φ (k + (m_R M').cells) (n + (m_R M').slots) nx L (o.toList ++ st) h1 F) : GX l G M Φ k n pc L stk h F := by
  intro r hr p e s m args below meth c H locs A B hl hM hS
  have hg := g_dec B.2.2.2.2.2.2.2.2.2 hd hn
  unfold g_site at hs
  simp only [Bool.and_eq_true, decide_eq_true_eq] at hs
  obtain ⟨⟨⟨⟨⟨⟨⟨s1, s2⟩, s3⟩, s4⟩, s5⟩, s6⟩, s7⟩, ⟨s8, s10⟩, s9⟩ := hs
  have hts : ∀ w ∈ g_good, w.before args s = true := fun w hw => B.2.2.2.2.2.2.1 w (List.mem_filter.mp hw).1 (List.mem_filter.mp hw).2
  have ok : ∀ w ∈ lw_tbl, goodWord w = true → w.before args s = true := B.2.2.2.2.2.2.1
  have cb := callB_of (R := m_R M) (mc := (m_R M').cells) (ms := (m_R M').slots) (rm := m_R M') nA hts (g_goodIn s1) (ws' := g_good) rfl rfl rfl (ok _ s2 rfl) (ok _ s9 rfl) ⟨s3, s4, s5⟩ ⟨Nat.le_of_ble_eq_true s6, Nat.le_of_ble_eq_true s7⟩
  have hrun := va_runV (As := As) (rest := st) (C := (m_y M').cls) (b := b) (H := H) (locs := locs) (cells := k) (slots := n) (below := below) (meth := meth) (e := e) (g := F0 m pc A stk) (cc := m_cc M) (nL := m_nL M) (index := idx) (Ts := g_good) (own := (m_y M).cls) ⟨B.1, B.2.1, B.2.2.1, B.2.2.2.2.2.1, hts⟩ hC ⟨cb, ok _ s8 rfl, ok _ s10 rfl⟩ ⟨g_blind, g_recv B hM hrc, fun U hU hW => ⟨rfl, by rw [hU]; exact (B.2.2.2.2.2.2.2.1.warm hW (fun a ha hna => hS.2.1 a ha hna)), by rw [hU]; exact hM⟩⟩ rfl hlen hl.1 hstk (lv_room (Nat.le_of_ble_eq_true hst)) hg ⟨Nat.le_of_ble_eq_true hk, Nat.le_of_ble_eq_true hsl⟩
  intro T hT X
  obtain ⟨v, st₀, t, T', L1, h0, X', hL, e1, e2, ⟨hv, hM', hz, hq⟩, stp⟩ := hrun T hT X
  cases hv
  rw [h0] at hz hq
  have q := kk r hr p e s m args below meth c T'.heap (locs ++ L1) A B hl (by rw [e1]; exact hM') ⟨Nat.le_trans hS.1 (by rw [e1]; exact hz), fun q h1 h2 => by
      have hqb : q < g_b G := Nat.not_le.mp h2
      rw [e1, hq q hqb]; exact hS.2.1 q h1 h2, fun q hq => by
      rcases List.mem_append.mp hq with h | h
      · exact hS.2.2 q h
      · exact hL q h⟩
  rw [hn] at q
  obtain ⟨t2, a1, b1⟩ := q T' rfl X'
  exact ⟨t2, stp t2 a1, b1⟩
theorem X_callI {M' : gMt} {idx nA b : Nat} {As : List Value} {o : Option Value} {h1 : gH} (hd : g_lk (m_code M) pc = some (.invokespecial idx, nx, x1, x2)) (hn : nx = pc + 3) (hs : g_site M M' (.invokespecial idx) nA = true) (hlen : As.length = nA) (hstk : stk = As.reverse ++ .ref b :: st) (hst : Nat.ble ((st.map fun v => v.category).sum) 8 = true) (hC : Ct l G M' (.ref b :: As) h o h1) (hk : Nat.ble (k + (m_R M').cells) (m_R M).cells = true) (hsl : Nat.ble (n + (m_R M').slots) (m_R M).slots = true)
    (kk : GX l G M Φ (k + (m_R M').cells) (n + (m_R M').slots) nx L (o.toList ++ st) h1 F) : GX l G M Φ k n pc L stk h F := by
  intro r hr p e s m args below meth c H locs A B hl hM hS
  have hg := g_dec B.2.2.2.2.2.2.2.2.2 hd hn
  unfold g_site at hs
  simp only [Bool.and_eq_true, decide_eq_true_eq] at hs
  obtain ⟨⟨⟨⟨⟨⟨⟨s1, s2⟩, s3⟩, s4⟩, s5⟩, s6⟩, s7⟩, ⟨⟨s8, s10⟩, s11⟩, s9⟩ := hs
  rw [s11] at s1
  have hts : ∀ w ∈ g_good, w.before args s = true := fun w hw => B.2.2.2.2.2.2.1 w (List.mem_filter.mp hw).1 (List.mem_filter.mp hw).2
  have ok : ∀ w ∈ lw_tbl, goodWord w = true → w.before args s = true := B.2.2.2.2.2.2.1
  have hws : g_ws M' = Cond.code (m_y M') (m_cc M') (m_nL M') none :: g_good := by unfold g_ws; rw [s11]
  have cb := callB_of (R := m_R M) (mc := (m_R M').cells) (ms := (m_R M').slots) (rm := m_R M') (ws := g_ws M') nA hts (g_goodIn (by rw [s11]; exact s1)) (ws' := g_good) hws rfl rfl (ok _ s2 rfl) (ok _ s9 rfl) ⟨s3, s4, s5⟩ ⟨Nat.le_of_ble_eq_true s6, Nat.le_of_ble_eq_true s7⟩
  have hrun := va_runI (As := As) (rest := st) (b := b) (H := H) (locs := locs) (cells := k) (slots := n) (below := below) (meth := meth) (e := e) (g := F0 m pc A stk) (cc := m_cc M) (nL := m_nL M) (index := idx) (Ts := g_good) (own := (m_y M).cls) ⟨B.1, B.2.1, B.2.2.1, B.2.2.2.2.2.1, hts⟩ hC ⟨cb, s10, ok _ s8 rfl⟩ ⟨g_blind, fun U hU hW => ⟨rfl, by rw [hU]; exact (B.2.2.2.2.2.2.2.1.warm hW (fun a ha hna => hS.2.1 a ha hna)), by rw [hU]; exact hM⟩⟩ rfl hlen hl.1 hstk (lv_room (Nat.le_of_ble_eq_true hst)) hg ⟨Nat.le_of_ble_eq_true hk, Nat.le_of_ble_eq_true hsl⟩
  intro T hT X
  obtain ⟨v, st₀, t, T', L1, h0, X', hL, e1, e2, ⟨hv, hM', hz, hq⟩, stp⟩ := hrun T hT X
  cases hv
  rw [h0] at hz hq
  have q := kk r hr p e s m args below meth c T'.heap (locs ++ L1) A B hl (by rw [e1]; exact hM') ⟨Nat.le_trans hS.1 (by rw [e1]; exact hz), fun q h1 h2 => by
      have hqb : q < g_b G := Nat.not_le.mp h2
      rw [e1, hq q hqb]; exact hS.2.1 q h1 h2, fun q hq => by
      rcases List.mem_append.mp hq with h | h
      · exact hS.2.2 q h
      · exact hL q h⟩
  rw [hn] at q
  obtain ⟨t2, a1, b1⟩ := q T' rfl X'
  exact ⟨t2, stp t2 a1, b1⟩
theorem X_callIN {M' : gMt} {idx nA b : Nat} {As : List Value} {o : Option Value} {h1 : gH} (hd : g_lk (m_code M) pc = some (.invokespecial idx, nx, x1, x2)) (hn : nx = pc + 3) (hs : g_siteN M M' (.invokespecial idx) nA = true) (hlen : As.length = nA) (hstk : stk = As.reverse ++ .ref b :: st) (hst : Nat.ble ((st.map fun v => v.category).sum) 8 = true) (hC : Ct l G M' (.ref b :: As) h o h1) (hk : Nat.ble (k + (m_R M').cells) (m_R M).cells = true) (hsl : Nat.ble (n + (m_R M').slots) (m_R M).slots = true)
    (kk : GX l G M Φ (k + (m_R M').cells) (n + (m_R M').slots) nx L (o.toList ++ st) h1 F) : GX l G M Φ k n pc L stk h F := by
  intro r hr p e s m args below meth c H locs A B hl hM hS
  have hg := g_dec B.2.2.2.2.2.2.2.2.2 hd hn
  unfold g_siteN at hs
  simp only [Bool.and_eq_true, decide_eq_true_eq] at hs
  obtain ⟨⟨⟨⟨⟨⟨⟨s1, s2⟩, s3⟩, s4⟩, s5⟩, s6⟩, s7⟩, ⟨⟨s8, s10⟩, s11⟩, s9⟩ := hs
  rw [s11] at s1
  have hts : ∀ w ∈ g_good, w.before args s = true := fun w hw => B.2.2.2.2.2.2.1 w (List.mem_filter.mp hw).1 (List.mem_filter.mp hw).2
  have ok : ∀ w ∈ lw_tbl, goodWord w = true → w.before args s = true := B.2.2.2.2.2.2.1
  have hws : g_ws M' = Cond.code (m_y M') (m_cc M') (m_nL M') none :: g_good := by unfold g_ws; rw [s11]
  have hNw : va_Nw (.methodLinkNest (m_y M).cls idx (m_y M') "LampRelay") s := B.2.2.2.2.2.2.2.1.2.1 _ (List.mem_filter.mpr ⟨s9, rfl⟩)
  have cb := va_cnB (R := m_R M) (mc := (m_R M').cells) (ms := (m_R M').slots) (rm := m_R M') (ws := g_ws M') nA hts (g_goodIn (by rw [s11]; exact s1)) (ws' := g_good) hws rfl rfl hNw (ok _ s2 rfl) ⟨s3, s4, s5⟩ ⟨Nat.le_of_ble_eq_true s6, Nat.le_of_ble_eq_true s7⟩
  have hrun := va_runIN (As := As) (rest := st) (b := b) (H := H) (locs := locs) (cells := k) (slots := n) (below := below) (meth := meth) (e := e) (g := F0 m pc A stk) (cc := m_cc M) (nL := m_nL M) (index := idx) (Ts := g_good) (own := (m_y M).cls) ⟨B.1, B.2.1, B.2.2.1, B.2.2.2.2.2.1, hts⟩ hC ⟨cb, s10, ok _ s8 rfl⟩ ⟨g_blind, fun U hU hW => ⟨rfl, by rw [hU]; exact (B.2.2.2.2.2.2.2.1.warm hW (fun a ha hna => hS.2.1 a ha hna)), by rw [hU]; exact hM⟩⟩ rfl hlen hl.1 hstk (lv_room (Nat.le_of_ble_eq_true hst)) hg ⟨Nat.le_of_ble_eq_true hk, Nat.le_of_ble_eq_true hsl⟩
  intro T hT X
  obtain ⟨v, st₀, t, T', L1, h0, X', hL, e1, e2, ⟨hv, hM', hz, hq⟩, stp⟩ := hrun T hT X
  cases hv
  rw [h0] at hz hq
  have q := kk r hr p e s m args below meth c T'.heap (locs ++ L1) A B hl (by rw [e1]; exact hM') ⟨Nat.le_trans hS.1 (by rw [e1]; exact hz), fun q h1 h2 => by
      have hqb : q < g_b G := Nat.not_le.mp h2
      rw [e1, hq q hqb]; exact hS.2.1 q h1 h2, fun q hq => by
      rcases List.mem_append.mp hq with h | h
      · exact hS.2.2 q h
      · exact hL q h⟩
  rw [hn] at q
  obtain ⟨t2, a1, b1⟩ := q T' rfl X'
  exact ⟨t2, stp t2 a1, b1⟩
theorem X_callS_IR {M' : gMt} {idx nA : Nat} {As : List Value} (hd : g_lk (m_code M) pc = some (.invokestatic idx, nx, x1, x2)) (hn : nx = pc + 3) (hs : g_site M M' (.invokestatic idx) nA = true) (hlen : As.length = nA) (hstk : stk = As.reverse ++ st) (hst : Nat.ble ((st.map fun v => v.category).sum) 8 = true) (hz1 : (m_R M').cells = 0) (hz2 : (m_R M').slots = 0) (hk : Nat.ble k (m_R M).cells = true) (hsl : Nat.ble n (m_R M).slots = true) {f : Option (Int32)} {K : Int32 → Option α} (hC : ∀ x, f = some x → Ct l G M' As h (some (.int x)) h) (kk : ∀ x, GX l G M Φ k n nx L (.int x :: st) h (K x)) : GX l G M Φ k n pc L stk h (f.bind K) := by
  exact X_bind fun x hx => X_callS hd hn hs hlen hstk hst (hC x hx) (by rw [hz1]; exact hk) (by rw [hz2]; exact hsl) (by rw [hz1, hz2]; exact kk x)
theorem X_callS_IW {M' : gMt} {idx nA : Nat} {As : List Value} (hd : g_lk (m_code M) pc = some (.invokestatic idx, nx, x1, x2)) (hn : nx = pc + 3) (hs : g_site M M' (.invokestatic idx) nA = true) (hlen : As.length = nA) (hstk : stk = As.reverse ++ st) (hst : Nat.ble ((st.map fun v => v.category).sum) 8 = true) (hz1 : (m_R M').cells = 0) (hz2 : (m_R M').slots = 0) (hk : Nat.ble k (m_R M).cells = true) (hsl : Nat.ble n (m_R M).slots = true) {f : Option (Int32 × gH)} {K : Int32 × gH → Option α} (hC : ∀ x h1, f = some (x, h1) → Ct l G M' As h (some (.int x)) h1) (kk : ∀ y, GX l G M Φ k n nx L (.int y.1 :: st) y.2 (K y)) : GX l G M Φ k n pc L stk h (f.bind K) := by
  exact X_bind fun x hx => X_callS hd hn hs hlen hstk hst (hC x.1 x.2 hx) (by rw [hz1]; exact hk) (by rw [hz2]; exact hsl) (by rw [hz1, hz2]; exact kk x)
theorem X_callS_LR {M' : gMt} {idx nA : Nat} {As : List Value} (hd : g_lk (m_code M) pc = some (.invokestatic idx, nx, x1, x2)) (hn : nx = pc + 3) (hs : g_site M M' (.invokestatic idx) nA = true) (hlen : As.length = nA) (hstk : stk = As.reverse ++ st) (hst : Nat.ble ((st.map fun v => v.category).sum) 8 = true) (hz1 : (m_R M').cells = 0) (hz2 : (m_R M').slots = 0) (hk : Nat.ble k (m_R M).cells = true) (hsl : Nat.ble n (m_R M).slots = true) {f : Option (Int64)} {K : Int64 → Option α} (hC : ∀ x, f = some x → Ct l G M' As h (some (.long x)) h) (kk : ∀ x, GX l G M Φ k n nx L (.long x :: st) h (K x)) : GX l G M Φ k n pc L stk h (f.bind K) := by
  exact X_bind fun x hx => X_callS hd hn hs hlen hstk hst (hC x hx) (by rw [hz1]; exact hk) (by rw [hz2]; exact hsl) (by rw [hz1, hz2]; exact kk x)
theorem X_callS_LW {M' : gMt} {idx nA : Nat} {As : List Value} (hd : g_lk (m_code M) pc = some (.invokestatic idx, nx, x1, x2)) (hn : nx = pc + 3) (hs : g_site M M' (.invokestatic idx) nA = true) (hlen : As.length = nA) (hstk : stk = As.reverse ++ st) (hst : Nat.ble ((st.map fun v => v.category).sum) 8 = true) (hz1 : (m_R M').cells = 0) (hz2 : (m_R M').slots = 0) (hk : Nat.ble k (m_R M).cells = true) (hsl : Nat.ble n (m_R M).slots = true) {f : Option (Int64 × gH)} {K : Int64 × gH → Option α} (hC : ∀ x h1, f = some (x, h1) → Ct l G M' As h (some (.long x)) h1) (kk : ∀ y, GX l G M Φ k n nx L (.long y.1 :: st) y.2 (K y)) : GX l G M Φ k n pc L stk h (f.bind K) := by
  exact X_bind fun x hx => X_callS hd hn hs hlen hstk hst (hC x.1 x.2 hx) (by rw [hz1]; exact hk) (by rw [hz2]; exact hsl) (by rw [hz1, hz2]; exact kk x)
theorem X_callS_AR {M' : gMt} {idx nA : Nat} {As : List Value} (hd : g_lk (m_code M) pc = some (.invokestatic idx, nx, x1, x2)) (hn : nx = pc + 3) (hs : g_site M M' (.invokestatic idx) nA = true) (hlen : As.length = nA) (hstk : stk = As.reverse ++ st) (hst : Nat.ble ((st.map fun v => v.category).sum) 8 = true) (hz1 : (m_R M').cells = 0) (hz2 : (m_R M').slots = 0) (hk : Nat.ble k (m_R M).cells = true) (hsl : Nat.ble n (m_R M).slots = true) {f : Option (Nat)} {K : Nat → Option α} (hC : ∀ x, f = some x → Ct l G M' As h (some (.ref x)) h) (kk : ∀ x, GX l G M Φ k n nx L (.ref x :: st) h (K x)) : GX l G M Φ k n pc L stk h (f.bind K) := by
  exact X_bind fun x hx => X_callS hd hn hs hlen hstk hst (hC x hx) (by rw [hz1]; exact hk) (by rw [hz2]; exact hsl) (by rw [hz1, hz2]; exact kk x)
theorem X_callS_AW {M' : gMt} {idx nA : Nat} {As : List Value} (hd : g_lk (m_code M) pc = some (.invokestatic idx, nx, x1, x2)) (hn : nx = pc + 3) (hs : g_site M M' (.invokestatic idx) nA = true) (hlen : As.length = nA) (hstk : stk = As.reverse ++ st) (hst : Nat.ble ((st.map fun v => v.category).sum) 8 = true) (hz1 : (m_R M').cells = 0) (hz2 : (m_R M').slots = 0) (hk : Nat.ble k (m_R M).cells = true) (hsl : Nat.ble n (m_R M).slots = true) {f : Option (Nat × gH)} {K : Nat × gH → Option α} (hC : ∀ x h1, f = some (x, h1) → Ct l G M' As h (some (.ref x)) h1) (kk : ∀ y, GX l G M Φ k n nx L (.ref y.1 :: st) y.2 (K y)) : GX l G M Φ k n pc L stk h (f.bind K) := by
  exact X_bind fun x hx => X_callS hd hn hs hlen hstk hst (hC x.1 x.2 hx) (by rw [hz1]; exact hk) (by rw [hz2]; exact hsl) (by rw [hz1, hz2]; exact kk x)
theorem X_callS_QR {M' : gMt} {idx nA : Nat} {As : List Value} (hd : g_lk (m_code M) pc = some (.invokestatic idx, nx, x1, x2)) (hn : nx = pc + 3) (hs : g_site M M' (.invokestatic idx) nA = true) (hlen : As.length = nA) (hstk : stk = As.reverse ++ st) (hst : Nat.ble ((st.map fun v => v.category).sum) 8 = true) (hz1 : (m_R M').cells = 0) (hz2 : (m_R M').slots = 0) (hk : Nat.ble k (m_R M).cells = true) (hsl : Nat.ble n (m_R M).slots = true) {f : Option (Option Nat)} {K : Option Nat → Option α} (hC : ∀ x, f = some x → Ct l G M' As h (some (va_rf x)) h) (kk : ∀ x, GX l G M Φ k n nx L (va_rf x :: st) h (K x)) : GX l G M Φ k n pc L stk h (f.bind K) := by
  exact X_bind fun x hx => X_callS hd hn hs hlen hstk hst (hC x hx) (by rw [hz1]; exact hk) (by rw [hz2]; exact hsl) (by rw [hz1, hz2]; exact kk x)
theorem X_callS_QW {M' : gMt} {idx nA : Nat} {As : List Value} (hd : g_lk (m_code M) pc = some (.invokestatic idx, nx, x1, x2)) (hn : nx = pc + 3) (hs : g_site M M' (.invokestatic idx) nA = true) (hlen : As.length = nA) (hstk : stk = As.reverse ++ st) (hst : Nat.ble ((st.map fun v => v.category).sum) 8 = true) (hz1 : (m_R M').cells = 0) (hz2 : (m_R M').slots = 0) (hk : Nat.ble k (m_R M).cells = true) (hsl : Nat.ble n (m_R M).slots = true) {f : Option (Option Nat × gH)} {K : Option Nat × gH → Option α} (hC : ∀ x h1, f = some (x, h1) → Ct l G M' As h (some (va_rf x)) h1) (kk : ∀ y, GX l G M Φ k n nx L (va_rf y.1 :: st) y.2 (K y)) : GX l G M Φ k n pc L stk h (f.bind K) := by
  exact X_bind fun x hx => X_callS hd hn hs hlen hstk hst (hC x.1 x.2 hx) (by rw [hz1]; exact hk) (by rw [hz2]; exact hsl) (by rw [hz1, hz2]; exact kk x)
theorem X_callS_DR {M' : gMt} {idx nA : Nat} {As : List Value} (hd : g_lk (m_code M) pc = some (.invokestatic idx, nx, x1, x2)) (hn : nx = pc + 3) (hs : g_site M M' (.invokestatic idx) nA = true) (hlen : As.length = nA) (hstk : stk = As.reverse ++ st) (hst : Nat.ble ((st.map fun v => v.category).sum) 8 = true) (hz1 : (m_R M').cells = 0) (hz2 : (m_R M').slots = 0) (hk : Nat.ble k (m_R M).cells = true) (hsl : Nat.ble n (m_R M).slots = true) {f : Option (UInt64)} {K : UInt64 → Option α} (hC : ∀ x, f = some x → Ct l G M' As h (some (.double x)) h) (kk : ∀ x, GX l G M Φ k n nx L (.double x :: st) h (K x)) : GX l G M Φ k n pc L stk h (f.bind K) := by
  exact X_bind fun x hx => X_callS hd hn hs hlen hstk hst (hC x hx) (by rw [hz1]; exact hk) (by rw [hz2]; exact hsl) (by rw [hz1, hz2]; exact kk x)
theorem X_callS_DW {M' : gMt} {idx nA : Nat} {As : List Value} (hd : g_lk (m_code M) pc = some (.invokestatic idx, nx, x1, x2)) (hn : nx = pc + 3) (hs : g_site M M' (.invokestatic idx) nA = true) (hlen : As.length = nA) (hstk : stk = As.reverse ++ st) (hst : Nat.ble ((st.map fun v => v.category).sum) 8 = true) (hz1 : (m_R M').cells = 0) (hz2 : (m_R M').slots = 0) (hk : Nat.ble k (m_R M).cells = true) (hsl : Nat.ble n (m_R M).slots = true) {f : Option (UInt64 × gH)} {K : UInt64 × gH → Option α} (hC : ∀ x h1, f = some (x, h1) → Ct l G M' As h (some (.double x)) h1) (kk : ∀ y, GX l G M Φ k n nx L (.double y.1 :: st) y.2 (K y)) : GX l G M Φ k n pc L stk h (f.bind K) := by
  exact X_bind fun x hx => X_callS hd hn hs hlen hstk hst (hC x.1 x.2 hx) (by rw [hz1]; exact hk) (by rw [hz2]; exact hsl) (by rw [hz1, hz2]; exact kk x)
theorem X_callS_UW {M' : gMt} {idx nA : Nat} {As : List Value} (hd : g_lk (m_code M) pc = some (.invokestatic idx, nx, x1, x2)) (hn : nx = pc + 3) (hs : g_site M M' (.invokestatic idx) nA = true) (hlen : As.length = nA) (hstk : stk = As.reverse ++ st) (hst : Nat.ble ((st.map fun v => v.category).sum) 8 = true) (hz1 : (m_R M').cells = 0) (hz2 : (m_R M').slots = 0) (hk : Nat.ble k (m_R M).cells = true) (hsl : Nat.ble n (m_R M).slots = true) {f : Option gH} {K : gH → Option α} (hC : ∀ h1, f = some h1 → Ct l G M' As h none h1) (kk : ∀ h1, GX l G M Φ k n nx L st h1 (K h1)) : GX l G M Φ k n pc L stk h (f.bind K) := by
  exact X_bind fun x hx => X_callS hd hn hs hlen hstk hst (hC x hx) (by rw [hz1]; exact hk) (by rw [hz2]; exact hsl) (by rw [hz1, hz2]; exact kk x)
theorem X_callS_IP {M' : gMt} {idx nA : Nat} {As : List Value} (hd : g_lk (m_code M) pc = some (.invokestatic idx, nx, x1, x2)) (hn : nx = pc + 3) (hs : g_site M M' (.invokestatic idx) nA = true) (hlen : As.length = nA) (hstk : stk = As.reverse ++ st) (hst : Nat.ble ((st.map fun v => v.category).sum) 8 = true) (hz1 : (m_R M').cells = 0) (hz2 : (m_R M').slots = 0) (hk : Nat.ble k (m_R M).cells = true) (hsl : Nat.ble n (m_R M).slots = true) {v : Int32} (hC : Ct l G M' As h (some (.int v)) h) (kk : GX l G M Φ k n nx L (.int v :: st) h F) : GX l G M Φ k n pc L stk h F :=
  X_callS hd hn hs hlen hstk hst hC (by rw [hz1]; exact hk) (by rw [hz2]; exact hsl) (by rw [hz1, hz2]; exact kk)
theorem X_callSN_IR {M' : gMt} {idx nA : Nat} {As : List Value} (hd : g_lk (m_code M) pc = some (.invokestatic idx, nx, x1, x2)) (hn : nx = pc + 3) (hs : g_siteN M M' (.invokestatic idx) nA = true) (hlen : As.length = nA) (hstk : stk = As.reverse ++ st) (hst : Nat.ble ((st.map fun v => v.category).sum) 8 = true) (hz1 : (m_R M').cells = 0) (hz2 : (m_R M').slots = 0) (hk : Nat.ble k (m_R M).cells = true) (hsl : Nat.ble n (m_R M).slots = true) {f : Option (Int32)} {K : Int32 → Option α} (hC : ∀ x, f = some x → Ct l G M' As h (some (.int x)) h) (kk : ∀ x, GX l G M Φ k n nx L (.int x :: st) h (K x)) : GX l G M Φ k n pc L stk h (f.bind K) := by
  exact X_bind fun x hx => X_callSN hd hn hs hlen hstk hst (hC x hx) (by rw [hz1]; exact hk) (by rw [hz2]; exact hsl) (by rw [hz1, hz2]; exact kk x)
theorem X_callSN_IW {M' : gMt} {idx nA : Nat} {As : List Value} (hd : g_lk (m_code M) pc = some (.invokestatic idx, nx, x1, x2)) (hn : nx = pc + 3) (hs : g_siteN M M' (.invokestatic idx) nA = true) (hlen : As.length = nA) (hstk : stk = As.reverse ++ st) (hst : Nat.ble ((st.map fun v => v.category).sum) 8 = true) (hz1 : (m_R M').cells = 0) (hz2 : (m_R M').slots = 0) (hk : Nat.ble k (m_R M).cells = true) (hsl : Nat.ble n (m_R M).slots = true) {f : Option (Int32 × gH)} {K : Int32 × gH → Option α} (hC : ∀ x h1, f = some (x, h1) → Ct l G M' As h (some (.int x)) h1) (kk : ∀ y, GX l G M Φ k n nx L (.int y.1 :: st) y.2 (K y)) : GX l G M Φ k n pc L stk h (f.bind K) := by
  exact X_bind fun x hx => X_callSN hd hn hs hlen hstk hst (hC x.1 x.2 hx) (by rw [hz1]; exact hk) (by rw [hz2]; exact hsl) (by rw [hz1, hz2]; exact kk x)
theorem X_callSN_LR {M' : gMt} {idx nA : Nat} {As : List Value} (hd : g_lk (m_code M) pc = some (.invokestatic idx, nx, x1, x2)) (hn : nx = pc + 3) (hs : g_siteN M M' (.invokestatic idx) nA = true) (hlen : As.length = nA) (hstk : stk = As.reverse ++ st) (hst : Nat.ble ((st.map fun v => v.category).sum) 8 = true) (hz1 : (m_R M').cells = 0) (hz2 : (m_R M').slots = 0) (hk : Nat.ble k (m_R M).cells = true) (hsl : Nat.ble n (m_R M).slots = true) {f : Option (Int64)} {K : Int64 → Option α} (hC : ∀ x, f = some x → Ct l G M' As h (some (.long x)) h) (kk : ∀ x, GX l G M Φ k n nx L (.long x :: st) h (K x)) : GX l G M Φ k n pc L stk h (f.bind K) := by
  exact X_bind fun x hx => X_callSN hd hn hs hlen hstk hst (hC x hx) (by rw [hz1]; exact hk) (by rw [hz2]; exact hsl) (by rw [hz1, hz2]; exact kk x)
theorem X_callSN_LW {M' : gMt} {idx nA : Nat} {As : List Value} (hd : g_lk (m_code M) pc = some (.invokestatic idx, nx, x1, x2)) (hn : nx = pc + 3) (hs : g_siteN M M' (.invokestatic idx) nA = true) (hlen : As.length = nA) (hstk : stk = As.reverse ++ st) (hst : Nat.ble ((st.map fun v => v.category).sum) 8 = true) (hz1 : (m_R M').cells = 0) (hz2 : (m_R M').slots = 0) (hk : Nat.ble k (m_R M).cells = true) (hsl : Nat.ble n (m_R M).slots = true) {f : Option (Int64 × gH)} {K : Int64 × gH → Option α} (hC : ∀ x h1, f = some (x, h1) → Ct l G M' As h (some (.long x)) h1) (kk : ∀ y, GX l G M Φ k n nx L (.long y.1 :: st) y.2 (K y)) : GX l G M Φ k n pc L stk h (f.bind K) := by
  exact X_bind fun x hx => X_callSN hd hn hs hlen hstk hst (hC x.1 x.2 hx) (by rw [hz1]; exact hk) (by rw [hz2]; exact hsl) (by rw [hz1, hz2]; exact kk x)
theorem X_callSN_AR {M' : gMt} {idx nA : Nat} {As : List Value} (hd : g_lk (m_code M) pc = some (.invokestatic idx, nx, x1, x2)) (hn : nx = pc + 3) (hs : g_siteN M M' (.invokestatic idx) nA = true) (hlen : As.length = nA) (hstk : stk = As.reverse ++ st) (hst : Nat.ble ((st.map fun v => v.category).sum) 8 = true) (hz1 : (m_R M').cells = 0) (hz2 : (m_R M').slots = 0) (hk : Nat.ble k (m_R M).cells = true) (hsl : Nat.ble n (m_R M).slots = true) {f : Option (Nat)} {K : Nat → Option α} (hC : ∀ x, f = some x → Ct l G M' As h (some (.ref x)) h) (kk : ∀ x, GX l G M Φ k n nx L (.ref x :: st) h (K x)) : GX l G M Φ k n pc L stk h (f.bind K) := by
  exact X_bind fun x hx => X_callSN hd hn hs hlen hstk hst (hC x hx) (by rw [hz1]; exact hk) (by rw [hz2]; exact hsl) (by rw [hz1, hz2]; exact kk x)
theorem X_callSN_AW {M' : gMt} {idx nA : Nat} {As : List Value} (hd : g_lk (m_code M) pc = some (.invokestatic idx, nx, x1, x2)) (hn : nx = pc + 3) (hs : g_siteN M M' (.invokestatic idx) nA = true) (hlen : As.length = nA) (hstk : stk = As.reverse ++ st) (hst : Nat.ble ((st.map fun v => v.category).sum) 8 = true) (hz1 : (m_R M').cells = 0) (hz2 : (m_R M').slots = 0) (hk : Nat.ble k (m_R M).cells = true) (hsl : Nat.ble n (m_R M).slots = true) {f : Option (Nat × gH)} {K : Nat × gH → Option α} (hC : ∀ x h1, f = some (x, h1) → Ct l G M' As h (some (.ref x)) h1) (kk : ∀ y, GX l G M Φ k n nx L (.ref y.1 :: st) y.2 (K y)) : GX l G M Φ k n pc L stk h (f.bind K) := by
  exact X_bind fun x hx => X_callSN hd hn hs hlen hstk hst (hC x.1 x.2 hx) (by rw [hz1]; exact hk) (by rw [hz2]; exact hsl) (by rw [hz1, hz2]; exact kk x)
theorem X_callSN_QR {M' : gMt} {idx nA : Nat} {As : List Value} (hd : g_lk (m_code M) pc = some (.invokestatic idx, nx, x1, x2)) (hn : nx = pc + 3) (hs : g_siteN M M' (.invokestatic idx) nA = true) (hlen : As.length = nA) (hstk : stk = As.reverse ++ st) (hst : Nat.ble ((st.map fun v => v.category).sum) 8 = true) (hz1 : (m_R M').cells = 0) (hz2 : (m_R M').slots = 0) (hk : Nat.ble k (m_R M).cells = true) (hsl : Nat.ble n (m_R M).slots = true) {f : Option (Option Nat)} {K : Option Nat → Option α} (hC : ∀ x, f = some x → Ct l G M' As h (some (va_rf x)) h) (kk : ∀ x, GX l G M Φ k n nx L (va_rf x :: st) h (K x)) : GX l G M Φ k n pc L stk h (f.bind K) := by
  exact X_bind fun x hx => X_callSN hd hn hs hlen hstk hst (hC x hx) (by rw [hz1]; exact hk) (by rw [hz2]; exact hsl) (by rw [hz1, hz2]; exact kk x)
theorem X_callSN_QW {M' : gMt} {idx nA : Nat} {As : List Value} (hd : g_lk (m_code M) pc = some (.invokestatic idx, nx, x1, x2)) (hn : nx = pc + 3) (hs : g_siteN M M' (.invokestatic idx) nA = true) (hlen : As.length = nA) (hstk : stk = As.reverse ++ st) (hst : Nat.ble ((st.map fun v => v.category).sum) 8 = true) (hz1 : (m_R M').cells = 0) (hz2 : (m_R M').slots = 0) (hk : Nat.ble k (m_R M).cells = true) (hsl : Nat.ble n (m_R M).slots = true) {f : Option (Option Nat × gH)} {K : Option Nat × gH → Option α} (hC : ∀ x h1, f = some (x, h1) → Ct l G M' As h (some (va_rf x)) h1) (kk : ∀ y, GX l G M Φ k n nx L (va_rf y.1 :: st) y.2 (K y)) : GX l G M Φ k n pc L stk h (f.bind K) := by
  exact X_bind fun x hx => X_callSN hd hn hs hlen hstk hst (hC x.1 x.2 hx) (by rw [hz1]; exact hk) (by rw [hz2]; exact hsl) (by rw [hz1, hz2]; exact kk x)
theorem X_callSN_DR {M' : gMt} {idx nA : Nat} {As : List Value} (hd : g_lk (m_code M) pc = some (.invokestatic idx, nx, x1, x2)) (hn : nx = pc + 3) (hs : g_siteN M M' (.invokestatic idx) nA = true) (hlen : As.length = nA) (hstk : stk = As.reverse ++ st) (hst : Nat.ble ((st.map fun v => v.category).sum) 8 = true) (hz1 : (m_R M').cells = 0) (hz2 : (m_R M').slots = 0) (hk : Nat.ble k (m_R M).cells = true) (hsl : Nat.ble n (m_R M).slots = true) {f : Option (UInt64)} {K : UInt64 → Option α} (hC : ∀ x, f = some x → Ct l G M' As h (some (.double x)) h) (kk : ∀ x, GX l G M Φ k n nx L (.double x :: st) h (K x)) : GX l G M Φ k n pc L stk h (f.bind K) := by
  exact X_bind fun x hx => X_callSN hd hn hs hlen hstk hst (hC x hx) (by rw [hz1]; exact hk) (by rw [hz2]; exact hsl) (by rw [hz1, hz2]; exact kk x)
theorem X_callSN_DW {M' : gMt} {idx nA : Nat} {As : List Value} (hd : g_lk (m_code M) pc = some (.invokestatic idx, nx, x1, x2)) (hn : nx = pc + 3) (hs : g_siteN M M' (.invokestatic idx) nA = true) (hlen : As.length = nA) (hstk : stk = As.reverse ++ st) (hst : Nat.ble ((st.map fun v => v.category).sum) 8 = true) (hz1 : (m_R M').cells = 0) (hz2 : (m_R M').slots = 0) (hk : Nat.ble k (m_R M).cells = true) (hsl : Nat.ble n (m_R M).slots = true) {f : Option (UInt64 × gH)} {K : UInt64 × gH → Option α} (hC : ∀ x h1, f = some (x, h1) → Ct l G M' As h (some (.double x)) h1) (kk : ∀ y, GX l G M Φ k n nx L (.double y.1 :: st) y.2 (K y)) : GX l G M Φ k n pc L stk h (f.bind K) := by
  exact X_bind fun x hx => X_callSN hd hn hs hlen hstk hst (hC x.1 x.2 hx) (by rw [hz1]; exact hk) (by rw [hz2]; exact hsl) (by rw [hz1, hz2]; exact kk x)
theorem X_callSN_UW {M' : gMt} {idx nA : Nat} {As : List Value} (hd : g_lk (m_code M) pc = some (.invokestatic idx, nx, x1, x2)) (hn : nx = pc + 3) (hs : g_siteN M M' (.invokestatic idx) nA = true) (hlen : As.length = nA) (hstk : stk = As.reverse ++ st) (hst : Nat.ble ((st.map fun v => v.category).sum) 8 = true) (hz1 : (m_R M').cells = 0) (hz2 : (m_R M').slots = 0) (hk : Nat.ble k (m_R M).cells = true) (hsl : Nat.ble n (m_R M).slots = true) {f : Option gH} {K : gH → Option α} (hC : ∀ h1, f = some h1 → Ct l G M' As h none h1) (kk : ∀ h1, GX l G M Φ k n nx L st h1 (K h1)) : GX l G M Φ k n pc L stk h (f.bind K) := by
  exact X_bind fun x hx => X_callSN hd hn hs hlen hstk hst (hC x hx) (by rw [hz1]; exact hk) (by rw [hz2]; exact hsl) (by rw [hz1, hz2]; exact kk x)
theorem X_callSN_IP {M' : gMt} {idx nA : Nat} {As : List Value} (hd : g_lk (m_code M) pc = some (.invokestatic idx, nx, x1, x2)) (hn : nx = pc + 3) (hs : g_siteN M M' (.invokestatic idx) nA = true) (hlen : As.length = nA) (hstk : stk = As.reverse ++ st) (hst : Nat.ble ((st.map fun v => v.category).sum) 8 = true) (hz1 : (m_R M').cells = 0) (hz2 : (m_R M').slots = 0) (hk : Nat.ble k (m_R M).cells = true) (hsl : Nat.ble n (m_R M).slots = true) {v : Int32} (hC : Ct l G M' As h (some (.int v)) h) (kk : GX l G M Φ k n nx L (.int v :: st) h F) : GX l G M Φ k n pc L stk h F :=
  X_callSN hd hn hs hlen hstk hst hC (by rw [hz1]; exact hk) (by rw [hz2]; exact hsl) (by rw [hz1, hz2]; exact kk)
theorem X_callV_IR {M' : gMt} {idx nA b ci : Nat} {As : List Value} (hd : g_lk (m_code M) pc = some (.invokevirtual idx, nx, x1, x2)) (hn : nx = pc + 3) (hs : g_site M M' (.invokevirtual idx) nA = true) (hlen : As.length = nA) (hstk : stk = As.reverse ++ .ref b :: st) (hst : Nat.ble ((st.map fun v => v.category).sum) 8 = true) (hrc : g_cn ci = (m_y M').cls) (hz1 : (m_R M').cells = 0) (hz2 : (m_R M').slots = 0) (hk : Nat.ble k (m_R M).cells = true) (hsl : Nat.ble n (m_R M).slots = true) {f : Option (Int32)} {K : Int32 → Option α} (hC : ∀ x, f = some x → Ct l G M' (.ref b :: As) h (some (.int x)) h) (kk : ∀ x, GX l G M Φ k n nx L (.int x :: st) h (K x)) : GX l G M Φ k n pc L stk h (bif g_is h b ci then f.bind K else none) := by
  cases hb : g_is h b ci with
  | false => exact X_none
  | true =>
  exact X_bind fun x hx => X_callV hd hn hs hlen hstk hst ⟨hb, hrc⟩ (hC x hx) (by rw [hz1]; exact hk) (by rw [hz2]; exact hsl) (by rw [hz1, hz2]; exact kk x)
theorem X_callV_IW {M' : gMt} {idx nA b ci : Nat} {As : List Value} (hd : g_lk (m_code M) pc = some (.invokevirtual idx, nx, x1, x2)) (hn : nx = pc + 3) (hs : g_site M M' (.invokevirtual idx) nA = true) (hlen : As.length = nA) (hstk : stk = As.reverse ++ .ref b :: st) (hst : Nat.ble ((st.map fun v => v.category).sum) 8 = true) (hrc : g_cn ci = (m_y M').cls) (hz1 : (m_R M').cells = 0) (hz2 : (m_R M').slots = 0) (hk : Nat.ble k (m_R M).cells = true) (hsl : Nat.ble n (m_R M).slots = true) {f : Option (Int32 × gH)} {K : Int32 × gH → Option α} (hC : ∀ x h1, f = some (x, h1) → Ct l G M' (.ref b :: As) h (some (.int x)) h1) (kk : ∀ y, GX l G M Φ k n nx L (.int y.1 :: st) y.2 (K y)) : GX l G M Φ k n pc L stk h (bif g_is h b ci then f.bind K else none) := by
  cases hb : g_is h b ci with
  | false => exact X_none
  | true =>
  exact X_bind fun x hx => X_callV hd hn hs hlen hstk hst ⟨hb, hrc⟩ (hC x.1 x.2 hx) (by rw [hz1]; exact hk) (by rw [hz2]; exact hsl) (by rw [hz1, hz2]; exact kk x)
theorem X_callV_LR {M' : gMt} {idx nA b ci : Nat} {As : List Value} (hd : g_lk (m_code M) pc = some (.invokevirtual idx, nx, x1, x2)) (hn : nx = pc + 3) (hs : g_site M M' (.invokevirtual idx) nA = true) (hlen : As.length = nA) (hstk : stk = As.reverse ++ .ref b :: st) (hst : Nat.ble ((st.map fun v => v.category).sum) 8 = true) (hrc : g_cn ci = (m_y M').cls) (hz1 : (m_R M').cells = 0) (hz2 : (m_R M').slots = 0) (hk : Nat.ble k (m_R M).cells = true) (hsl : Nat.ble n (m_R M).slots = true) {f : Option (Int64)} {K : Int64 → Option α} (hC : ∀ x, f = some x → Ct l G M' (.ref b :: As) h (some (.long x)) h) (kk : ∀ x, GX l G M Φ k n nx L (.long x :: st) h (K x)) : GX l G M Φ k n pc L stk h (bif g_is h b ci then f.bind K else none) := by
  cases hb : g_is h b ci with
  | false => exact X_none
  | true =>
  exact X_bind fun x hx => X_callV hd hn hs hlen hstk hst ⟨hb, hrc⟩ (hC x hx) (by rw [hz1]; exact hk) (by rw [hz2]; exact hsl) (by rw [hz1, hz2]; exact kk x)
theorem X_callV_LW {M' : gMt} {idx nA b ci : Nat} {As : List Value} (hd : g_lk (m_code M) pc = some (.invokevirtual idx, nx, x1, x2)) (hn : nx = pc + 3) (hs : g_site M M' (.invokevirtual idx) nA = true) (hlen : As.length = nA) (hstk : stk = As.reverse ++ .ref b :: st) (hst : Nat.ble ((st.map fun v => v.category).sum) 8 = true) (hrc : g_cn ci = (m_y M').cls) (hz1 : (m_R M').cells = 0) (hz2 : (m_R M').slots = 0) (hk : Nat.ble k (m_R M).cells = true) (hsl : Nat.ble n (m_R M).slots = true) {f : Option (Int64 × gH)} {K : Int64 × gH → Option α} (hC : ∀ x h1, f = some (x, h1) → Ct l G M' (.ref b :: As) h (some (.long x)) h1) (kk : ∀ y, GX l G M Φ k n nx L (.long y.1 :: st) y.2 (K y)) : GX l G M Φ k n pc L stk h (bif g_is h b ci then f.bind K else none) := by
  cases hb : g_is h b ci with
  | false => exact X_none
  | true =>
  exact X_bind fun x hx => X_callV hd hn hs hlen hstk hst ⟨hb, hrc⟩ (hC x.1 x.2 hx) (by rw [hz1]; exact hk) (by rw [hz2]; exact hsl) (by rw [hz1, hz2]; exact kk x)
theorem X_callV_AR {M' : gMt} {idx nA b ci : Nat} {As : List Value} (hd : g_lk (m_code M) pc = some (.invokevirtual idx, nx, x1, x2)) (hn : nx = pc + 3) (hs : g_site M M' (.invokevirtual idx) nA = true) (hlen : As.length = nA) (hstk : stk = As.reverse ++ .ref b :: st) (hst : Nat.ble ((st.map fun v => v.category).sum) 8 = true) (hrc : g_cn ci = (m_y M').cls) (hz1 : (m_R M').cells = 0) (hz2 : (m_R M').slots = 0) (hk : Nat.ble k (m_R M).cells = true) (hsl : Nat.ble n (m_R M).slots = true) {f : Option (Nat)} {K : Nat → Option α} (hC : ∀ x, f = some x → Ct l G M' (.ref b :: As) h (some (.ref x)) h) (kk : ∀ x, GX l G M Φ k n nx L (.ref x :: st) h (K x)) : GX l G M Φ k n pc L stk h (bif g_is h b ci then f.bind K else none) := by
  cases hb : g_is h b ci with
  | false => exact X_none
  | true =>
  exact X_bind fun x hx => X_callV hd hn hs hlen hstk hst ⟨hb, hrc⟩ (hC x hx) (by rw [hz1]; exact hk) (by rw [hz2]; exact hsl) (by rw [hz1, hz2]; exact kk x)
theorem X_callV_AW {M' : gMt} {idx nA b ci : Nat} {As : List Value} (hd : g_lk (m_code M) pc = some (.invokevirtual idx, nx, x1, x2)) (hn : nx = pc + 3) (hs : g_site M M' (.invokevirtual idx) nA = true) (hlen : As.length = nA) (hstk : stk = As.reverse ++ .ref b :: st) (hst : Nat.ble ((st.map fun v => v.category).sum) 8 = true) (hrc : g_cn ci = (m_y M').cls) (hz1 : (m_R M').cells = 0) (hz2 : (m_R M').slots = 0) (hk : Nat.ble k (m_R M).cells = true) (hsl : Nat.ble n (m_R M).slots = true) {f : Option (Nat × gH)} {K : Nat × gH → Option α} (hC : ∀ x h1, f = some (x, h1) → Ct l G M' (.ref b :: As) h (some (.ref x)) h1) (kk : ∀ y, GX l G M Φ k n nx L (.ref y.1 :: st) y.2 (K y)) : GX l G M Φ k n pc L stk h (bif g_is h b ci then f.bind K else none) := by
  cases hb : g_is h b ci with
  | false => exact X_none
  | true =>
  exact X_bind fun x hx => X_callV hd hn hs hlen hstk hst ⟨hb, hrc⟩ (hC x.1 x.2 hx) (by rw [hz1]; exact hk) (by rw [hz2]; exact hsl) (by rw [hz1, hz2]; exact kk x)
theorem X_callV_QR {M' : gMt} {idx nA b ci : Nat} {As : List Value} (hd : g_lk (m_code M) pc = some (.invokevirtual idx, nx, x1, x2)) (hn : nx = pc + 3) (hs : g_site M M' (.invokevirtual idx) nA = true) (hlen : As.length = nA) (hstk : stk = As.reverse ++ .ref b :: st) (hst : Nat.ble ((st.map fun v => v.category).sum) 8 = true) (hrc : g_cn ci = (m_y M').cls) (hz1 : (m_R M').cells = 0) (hz2 : (m_R M').slots = 0) (hk : Nat.ble k (m_R M).cells = true) (hsl : Nat.ble n (m_R M).slots = true) {f : Option (Option Nat)} {K : Option Nat → Option α} (hC : ∀ x, f = some x → Ct l G M' (.ref b :: As) h (some (va_rf x)) h) (kk : ∀ x, GX l G M Φ k n nx L (va_rf x :: st) h (K x)) : GX l G M Φ k n pc L stk h (bif g_is h b ci then f.bind K else none) := by
  cases hb : g_is h b ci with
  | false => exact X_none
  | true =>
  exact X_bind fun x hx => X_callV hd hn hs hlen hstk hst ⟨hb, hrc⟩ (hC x hx) (by rw [hz1]; exact hk) (by rw [hz2]; exact hsl) (by rw [hz1, hz2]; exact kk x)
theorem X_callV_QW {M' : gMt} {idx nA b ci : Nat} {As : List Value} (hd : g_lk (m_code M) pc = some (.invokevirtual idx, nx, x1, x2)) (hn : nx = pc + 3) (hs : g_site M M' (.invokevirtual idx) nA = true) (hlen : As.length = nA) (hstk : stk = As.reverse ++ .ref b :: st) (hst : Nat.ble ((st.map fun v => v.category).sum) 8 = true) (hrc : g_cn ci = (m_y M').cls) (hz1 : (m_R M').cells = 0) (hz2 : (m_R M').slots = 0) (hk : Nat.ble k (m_R M).cells = true) (hsl : Nat.ble n (m_R M).slots = true) {f : Option (Option Nat × gH)} {K : Option Nat × gH → Option α} (hC : ∀ x h1, f = some (x, h1) → Ct l G M' (.ref b :: As) h (some (va_rf x)) h1) (kk : ∀ y, GX l G M Φ k n nx L (va_rf y.1 :: st) y.2 (K y)) : GX l G M Φ k n pc L stk h (bif g_is h b ci then f.bind K else none) := by
  cases hb : g_is h b ci with
  | false => exact X_none
  | true =>
  exact X_bind fun x hx => X_callV hd hn hs hlen hstk hst ⟨hb, hrc⟩ (hC x.1 x.2 hx) (by rw [hz1]; exact hk) (by rw [hz2]; exact hsl) (by rw [hz1, hz2]; exact kk x)
theorem X_callV_DR {M' : gMt} {idx nA b ci : Nat} {As : List Value} (hd : g_lk (m_code M) pc = some (.invokevirtual idx, nx, x1, x2)) (hn : nx = pc + 3) (hs : g_site M M' (.invokevirtual idx) nA = true) (hlen : As.length = nA) (hstk : stk = As.reverse ++ .ref b :: st) (hst : Nat.ble ((st.map fun v => v.category).sum) 8 = true) (hrc : g_cn ci = (m_y M').cls) (hz1 : (m_R M').cells = 0) (hz2 : (m_R M').slots = 0) (hk : Nat.ble k (m_R M).cells = true) (hsl : Nat.ble n (m_R M).slots = true) {f : Option (UInt64)} {K : UInt64 → Option α} (hC : ∀ x, f = some x → Ct l G M' (.ref b :: As) h (some (.double x)) h) (kk : ∀ x, GX l G M Φ k n nx L (.double x :: st) h (K x)) : GX l G M Φ k n pc L stk h (bif g_is h b ci then f.bind K else none) := by
  cases hb : g_is h b ci with
  | false => exact X_none
  | true =>
  exact X_bind fun x hx => X_callV hd hn hs hlen hstk hst ⟨hb, hrc⟩ (hC x hx) (by rw [hz1]; exact hk) (by rw [hz2]; exact hsl) (by rw [hz1, hz2]; exact kk x)
theorem X_callV_DW {M' : gMt} {idx nA b ci : Nat} {As : List Value} (hd : g_lk (m_code M) pc = some (.invokevirtual idx, nx, x1, x2)) (hn : nx = pc + 3) (hs : g_site M M' (.invokevirtual idx) nA = true) (hlen : As.length = nA) (hstk : stk = As.reverse ++ .ref b :: st) (hst : Nat.ble ((st.map fun v => v.category).sum) 8 = true) (hrc : g_cn ci = (m_y M').cls) (hz1 : (m_R M').cells = 0) (hz2 : (m_R M').slots = 0) (hk : Nat.ble k (m_R M).cells = true) (hsl : Nat.ble n (m_R M).slots = true) {f : Option (UInt64 × gH)} {K : UInt64 × gH → Option α} (hC : ∀ x h1, f = some (x, h1) → Ct l G M' (.ref b :: As) h (some (.double x)) h1) (kk : ∀ y, GX l G M Φ k n nx L (.double y.1 :: st) y.2 (K y)) : GX l G M Φ k n pc L stk h (bif g_is h b ci then f.bind K else none) := by
  cases hb : g_is h b ci with
  | false => exact X_none
  | true =>
  exact X_bind fun x hx => X_callV hd hn hs hlen hstk hst ⟨hb, hrc⟩ (hC x.1 x.2 hx) (by rw [hz1]; exact hk) (by rw [hz2]; exact hsl) (by rw [hz1, hz2]; exact kk x)
theorem X_callV_UW {M' : gMt} {idx nA b ci : Nat} {As : List Value} (hd : g_lk (m_code M) pc = some (.invokevirtual idx, nx, x1, x2)) (hn : nx = pc + 3) (hs : g_site M M' (.invokevirtual idx) nA = true) (hlen : As.length = nA) (hstk : stk = As.reverse ++ .ref b :: st) (hst : Nat.ble ((st.map fun v => v.category).sum) 8 = true) (hrc : g_cn ci = (m_y M').cls) (hz1 : (m_R M').cells = 0) (hz2 : (m_R M').slots = 0) (hk : Nat.ble k (m_R M).cells = true) (hsl : Nat.ble n (m_R M).slots = true) {f : Option gH} {K : gH → Option α} (hC : ∀ h1, f = some h1 → Ct l G M' (.ref b :: As) h none h1) (kk : ∀ h1, GX l G M Φ k n nx L st h1 (K h1)) : GX l G M Φ k n pc L stk h (bif g_is h b ci then f.bind K else none) := by
  cases hb : g_is h b ci with
  | false => exact X_none
  | true =>
  exact X_bind fun x hx => X_callV hd hn hs hlen hstk hst ⟨hb, hrc⟩ (hC x hx) (by rw [hz1]; exact hk) (by rw [hz2]; exact hsl) (by rw [hz1, hz2]; exact kk x)
/-- the end of a body that only returns -/
def g_phi (G : gG) (ρ : α → Option Value × gH) (mc ms : Nat) : α → Method → Code → State → Array Value → List Frame → State → Prop := fun r _ _ s args below => MQ below (g_Qc G (ρ r).1 (ρ r).2) args s mc ms (g_A G)
theorem X_iret {ρ : α → Option Value × gH} {mc ms : Nat} {r0 : α} {v : Int32} (hd : g_lk (m_code M) pc = some (.ireturn, nx, x1, x2)) (hn : nx = pc + 1) {ty : FieldType} (hty : m_ret M = some ty) (hnr : narrow ty (.int v) = .int v) (hρ : ρ r0 = (some (.int v), h)) (hk : Nat.ble k mc = true) (hs : Nat.ble n ms = true) : GX l G M (g_phi G ρ mc ms) k n pc L [.int v] h (some r0) := by
  intro r hr p e s m args below meth c H locs A B hl hM hS
  cases hr
  have hg := g_dec B.2.2.2.2.2.2.2.2.2 hd hn
  refine W.widen (Nat.le_of_ble_eq_true hk) (Nat.le_of_ble_eq_true hs) ?_
  unfold g_phi
  rw [hρ]
  exact W.zret B.1 B.2.1 (by rw [B.2.2.2.1]; exact hty) hnr (fun t ht hW => ⟨rfl, by rw [ht]; exact hM, by rw [ht]; exact hS.1, fun q hq => by
    rw [ht]
    exact hS.2.1 q (Nat.lt_of_lt_of_le hq B.2.2.2.2.2.2.2.2.1.2.1) (Nat.not_le.mpr hq)⟩) hS.2.2 hg B.2.2.2.2.1
theorem X_lret {ρ : α → Option Value × gH} {mc ms : Nat} {r0 : α} {v : Int64} (hd : g_lk (m_code M) pc = some (.lreturn, nx, x1, x2)) (hn : nx = pc + 1) (hty : m_ret M = some .long) (hρ : ρ r0 = (some (.long v), h)) (hk : Nat.ble k mc = true) (hs : Nat.ble n ms = true) : GX l G M (g_phi G ρ mc ms) k n pc L [.long v] h (some r0) := by
  intro r hr p e s m args below meth c H locs A B hl hM hS
  cases hr
  have hg := g_dec B.2.2.2.2.2.2.2.2.2 hd hn
  refine W.widen (Nat.le_of_ble_eq_true hk) (Nat.le_of_ble_eq_true hs) ?_
  unfold g_phi
  rw [hρ]
  exact W.lret B.1 B.2.1 (by rw [B.2.2.2.1]; exact hty) (fun t ht hW => ⟨rfl, by rw [ht]; exact hM, by rw [ht]; exact hS.1, fun q hq => by
    rw [ht]
    exact hS.2.1 q (Nat.lt_of_lt_of_le hq B.2.2.2.2.2.2.2.2.1.2.1) (Nat.not_le.mpr hq)⟩) hS.2.2 hg B.2.2.2.2.1
theorem X_dret {ρ : α → Option Value × gH} {mc ms : Nat} {r0 : α} {v : UInt64} (hd : g_lk (m_code M) pc = some (.dreturn, nx, x1, x2)) (hn : nx = pc + 1) (hty : m_ret M = some .double) (hρ : ρ r0 = (some (.double v), h)) (hk : Nat.ble k mc = true) (hs : Nat.ble n ms = true) : GX l G M (g_phi G ρ mc ms) k n pc L [.double v] h (some r0) := by
  intro r hr p e s m args below meth c H locs A B hl hM hS
  cases hr
  have hg := g_dec B.2.2.2.2.2.2.2.2.2 hd hn
  refine W.widen (Nat.le_of_ble_eq_true hk) (Nat.le_of_ble_eq_true hs) ?_
  unfold g_phi
  rw [hρ]
  exact W.dret B.1 B.2.1 (by rw [B.2.2.2.1]; exact hty) (fun t ht hW => ⟨rfl, by rw [ht]; exact hM, by rw [ht]; exact hS.1, fun q hq => by
    rw [ht]
    exact hS.2.1 q (Nat.lt_of_lt_of_le hq B.2.2.2.2.2.2.2.2.1.2.1) (Nat.not_le.mpr hq)⟩) hS.2.2 hg B.2.2.2.2.1
theorem X_vret {ρ : α → Option Value × gH} {mc ms : Nat} {r0 : α} (hd : g_lk (m_code M) pc = some (.return_, nx, x1, x2)) (hn : nx = pc + 1) (hty : m_ret M = none) (hρ : ρ r0 = (none, h)) (hk : Nat.ble k mc = true) (hs : Nat.ble n ms = true) : GX l G M (g_phi G ρ mc ms) k n pc L [] h (some r0) := by
  intro r hr p e s m args below meth c H locs A B hl hM hS
  cases hr
  have hg := g_dec B.2.2.2.2.2.2.2.2.2 hd hn
  refine W.widen (Nat.le_of_ble_eq_true hk) (Nat.le_of_ble_eq_true hs) ?_
  unfold g_phi
  rw [hρ]
  exact W.vret B.1 B.2.1 (by rw [B.2.2.2.1]; exact hty) (fun t ht hW => ⟨rfl, by rw [ht]; exact hM, by rw [ht]; exact hS.1, fun q hq => by
    rw [ht]
    exact hS.2.1 q (Nat.lt_of_lt_of_le hq B.2.2.2.2.2.2.2.2.1.2.1) (Nat.not_le.mpr hq)⟩) hS.2.2 hg B.2.2.2.2.1
theorem X_aret {ρ : α → Option Value × gH} {mc ms : Nat} {r0 : α} {v : Option Nat} {nm : String} (hd : g_lk (m_code M) pc = some (.areturn, nx, x1, x2)) (hn : nx = pc + 1) (hty : m_ret M = some (.object nm)) (hρ : ρ r0 = (some (va_rf v), h)) (hk : Nat.ble k mc = true) (hs : Nat.ble n ms = true) : GX l G M (g_phi G ρ mc ms) k n pc L [va_rf v] h (some r0) := by
  intro r hr p e s m args below meth c H locs A B hl hM hS
  cases hr
  have hg := g_dec B.2.2.2.2.2.2.2.2.2 hd hn
  refine W.widen (Nat.le_of_ble_eq_true hk) (Nat.le_of_ble_eq_true hs) ?_
  unfold g_phi
  rw [hρ]
  refine W.aret B.1 B.2.1 (by rw [B.2.2.2.1]; exact hty) (Or.inl ⟨_, rfl⟩) (by cases v with | none => exact Or.inl rfl | some a => exact Or.inr ⟨a, rfl⟩) (fun t ht hW => ⟨rfl, by rw [ht]; exact hM, by rw [ht]; exact hS.1, fun q hq => by
    rw [ht]
    exact hS.2.1 q (Nat.lt_of_lt_of_le hq B.2.2.2.2.2.2.2.2.1.2.1) (Nat.not_le.mpr hq)⟩) hS.2.2 hg B.2.2.2.2.1
theorem X_zret {ρ : α → Option Value × gH} {mc ms : Nat} {v : Int32} {K : Int32 → Option α} (hd : g_lk (m_code M) pc = some (.ireturn, nx, x1, x2)) (hn : nx = pc + 1) (hty : m_ret M = some .boolean) (hK : ∃ r0, K v = some r0 ∧ ρ r0 = (some (.int v), h)) (hk : Nat.ble k mc = true) (hs : Nat.ble n ms = true) : GX l G M (g_phi G ρ mc ms) k n pc L [.int v] h ((g_z v).bind K) := by
  unfold g_z
  obtain ⟨r0, h1, h2⟩ := hK
  by_cases hv : v = 0 ∨ v = 1
  · rw [if_pos hv]
    show GX l G M _ k n pc L _ h (K v)
    rw [h1]
    refine X_iret hd hn hty ?_ h2 hk hs
    rcases hv with rfl | rfl <;> rfl
  · rw [if_neg hv]
    exact X_none
end GXC
/-- the locals with which a body begins -/
def g_en : List Value → Nat → List (Option Value)
  | [], n => List.replicate n none
  | v :: vs, n => bif Nat.beq v.category 2 then some v :: none :: g_en vs (n - 2) else some v :: g_en vs (n - 1)
theorem g_en_at : ∀ (vs : List Value) (n i j : Nat) (v : Value), (g_en vs n)[j]? = some (some v) → (i + j, v) ∈ lv_args i vs
  | [], n, i, j, v, h => by
    rw [g_en, List.getElem?_replicate] at h
    split at h <;> cases h
  | w :: vs, n, i, j, v, h => by
    rw [g_en] at h
    rw [lv_args]
    rcases lv_cat w with hc | hc
    · have hb : Nat.beq w.category 2 = false := by rw [hc]; rfl
      rw [hb, cond_false] at h
      rw [if_neg (by omega)]
      cases j with
      | zero => simp at h; simp [h]
      | succ j =>
        have := g_en_at vs (n - 1) (i + 1) j v (by simpa using h)
        rw [show i + 1 + j = i + (j + 1) by omega] at this
        exact List.mem_cons_of_mem _ this
    · have hb : Nat.beq w.category 2 = true := by rw [hc]; rfl
      rw [hb, cond_true] at h
      rw [if_pos hc]
      match j, h with
      | 0, h => simp at h; simp [h]
      | 1, h => simp at h
      | j + 2, h =>
        have := g_en_at vs (n - 2) (i + 2) j v (by simpa using h)
        rw [show i + 2 + j = i + (j + 2) by omega] at this
        exact List.mem_cons_of_mem _ this
theorem g_ofW {l : Launch} {y : MethodName} {ws ws' : List Cond} {rm : Room} {Pc : Array Value → State → Prop} {Qc : Array Value → State → Outcome → State → Prop} {mc ms : Nat} {free : Addr → Prop} {cc : ByteArray} {maxL : Nat} {ret : Option FieldType}
    (hy : plainFor y = true) (hw : ws = Cond.code y cc maxL ret :: ws')
    (body : ∀ p e s m args below meth c s₁, BodyLoose p l y (headSpec ws rm) cc maxL ret e s m args below meth c s₁ → c.maxLocals = maxL → Pc args s →
      W p l e (headSpec ws rm).room s m args below meth c s.heap [] 0 0 (MQ below Qc args s mc ms free) (entryFrame m args maxL)) : Met l y ws rm Pc Qc mc ms free := by
  refine MetFree.of_bodySF (code := cc) (maxLocals := maxL) (ret := ret) hy ?_ ?_
  · intro args s m h hn
    obtain ⟨meth, c, h1, h2, h3, h4, h5, h6, -, -⟩ := Cond.code_spec hn (atoms_spec (ws := ws) h _ (by rw [hw]; exact List.mem_cons_self))
    exact ⟨meth, c, h1, h2, h3, h4, h5, h6⟩
  · intro p e s m args below meth c s₁ B hml hP _
    have hh0 : s₁.heap = s.heap := by rw [B.state]; rfl
    obtain ⟨t, a1, o, b1, b2, b3⟩ := body p e s m args below meth c s₁ B hml hP s₁ hh0 (Stand.of_body B)
    exact ⟨t, o, a1, b1, b2, ⟨b3.1, b3.2⟩⟩
theorem Ct_of {α : Type} {l : Launch} {G : gG} {M : gMt} {ρ : α → Option Value × gH} {As : List Value} {L : List (Option Value)} {h h1 : gH} {o : Option Value} {F : Option α} {r : α} (hok : g_ok M) (hpl : plainFor (m_y M) = true) (hL : g_en As (m_nL M) = L) (hlen : L.length = m_nL M) (hn : Nat.ble (lg_sl As).length (m_nL M) = true) (body : GX l G M (g_phi G ρ (m_R M).cells (m_R M).slots) 0 0 0 L [] h F) (hF : F = some r) (hρ : ρ r = (o, h1)) (hmh : m_h M = [] := by rfl) : Ct l G M As h o h1 := by
  refine g_ofW (cc := m_cc M) (maxL := m_nL M) (ret := m_ret M) hpl rfl ?_
  intro p e s m args below meth c s₁ B hml hv
  obtain ⟨rfl, hK, hM⟩ := hv
  have hts := atoms_spec (ws := g_ws M) B.pre
  rw [lg_entry_eq]
  have hl0 := lv_entry As (n := m_nL M) (Nat.le_of_ble_eq_true hn)
  generalize (lg_sl As ++ List.replicate (m_nL M - (lg_sl As).length) Slot.unset).toArray = ls at hl0 ⊢
  have hl : g_ls ls (m_nL M) L := by
    refine ⟨hl0.1, hl0.2.1, hlen, fun i v hi => ?_⟩
    rw [← hL] at hi
    have := g_en_at As (m_nL M) 0 i v hi
    rw [Nat.zero_add] at this
    exact hl0.2.2 _ this
  have ht : c.exceptionTable.toList = tableOf (m_h M) := by
    rw [hmh]
    obtain ⟨meth9, c9, h1, h2, -, -, -, -, h7, -⟩ := Cond.code_spec B.named (atoms_spec (ws := g_ws M) B.pre _ List.mem_cons_self)
    cases Option.some.inj (h1.symm.trans B.method)
    cases Option.some.inj (h2.symm.trans (Stand.of_body B).code)
    rw [Array.isEmpty_iff.mp h7]
    rfl
  have q := body r hF p e s m As.toArray below meth c s.heap [] ls ⟨B.exec, B.bytes, hml, B.returns, B.notSynchronized, findClass_of_methodNamed B.named, fun w hw hg => hts w (List.mem_cons_of_mem _ (List.mem_filter.mpr ⟨hw, hg⟩)), hK, ⟨fun h => by rw [(name_of_methodNamed B.named B.method).1]; exact h, by rw [hM.1]; exact hM.2.1, fun _ => ht⟩, hok⟩ hl hM va_S.rf
  unfold g_phi at q
  rw [hρ] at q
  exact q
end
section
/-! more rows: copies, constructors, branches whose F is an if, switches -/
section GXD
variable {α : Type} {l : Launch} {G : gG} {M : gMt} {Φ : α → Method → Code → State → Array Value → List Frame → State → Prop} {k n pc nx x1 x2 : Nat} {L : List (Option Value)} {st stk : List Value} {h : gH} {F : Option α}
/-- System.arraycopy of ints -/
def g_cpy (h : gH) (a0 : Nat) (sp : Int32) (a : Nat) (dp n : Int32) : Option gH := (g_aI h a0 0).bind fun x => (g_aI h a 0).bind fun y => if sp < 0 ∨ dp < 0 ∨ n < 0 ∨ x.1 < sp.toNatClampNeg + n.toNatClampNeg ∨ y.1 < dp.toNatClampNeg + n.toNatClampNeg then none else some (g_set h a (.inl (0, y.1, .inl (va_cpy x.2 y.2 sp.toNatClampNeg dp.toNatClampNeg n.toNatClampNeg))))
theorem X_copy {a a0 idx : Nat} {sp dp m0 : Int32} {K : gH → Option α} (hd : g_lk (m_code M) pc = some (.invokestatic idx, nx, x1, x2)) (hn : nx = pc + 3) (hlk : Cond.methodLink (m_y M).cls idx arraycopyName ∈ lw_tbl) (hnat : Cond.native arraycopyName ∈ lw_tbl) (hstat : Cond.static arraycopyName ∈ lw_tbl) (hini : Cond.initialized "java/lang/System" ∈ lw_tbl) (hframes : Nat.ble 1 (m_R M).frames = true) (hlocals : Nat.ble ((st.map fun v => v.category).sum + (nativeFrameWords "java/lang/System" "arraycopy" 5 + 11)) (m_R M).locals = true) (kk : ∀ h', GX l G M Φ k n nx L st h' (K h')) : GX l G M Φ k n pc L (.int m0 :: .int dp :: .ref a :: .int sp :: .ref a0 :: st) h ((g_cpy h a0 sp a dp m0).bind K) := by
  refine X_bind fun h' hv => ?_
  unfold g_cpy at hv
  cases hx : g_aI h a0 0 with
  | none => rw [hx] at hv; cases hv
  | some x =>
    obtain ⟨n0, f⟩ := x
    rw [hx] at hv
    simp only [Option.bind_some] at hv
    cases hy : g_aI h a 0 with
    | none => rw [hy] at hv; cases hv
    | some y =>
      obtain ⟨n1, g⟩ := y
      rw [hy] at hv
      simp only [Option.bind_some] at hv
      split at hv
      · cases hv
      · next hc =>
        cases hv
        have h1 : ¬ sp < 0 := fun q => hc (Or.inl q)
        have h2 : ¬ dp < 0 := fun q => hc (Or.inr (Or.inl q))
        have h3 : ¬ m0 < 0 := fun q => hc (Or.inr (Or.inr (Or.inl q)))
        have h4 : sp.toNatClampNeg + m0.toNatClampNeg ≤ n0 := Nat.not_lt.mp fun q => hc (Or.inr (Or.inr (Or.inr (Or.inl q))))
        have h5 : dp.toNatClampNeg + m0.toNatClampNeg ≤ n1 := Nat.not_lt.mp fun q => hc (Or.inr (Or.inr (Or.inr (Or.inr q))))
        have ha0 := g_aI_some hx
        have ha := g_aI_some hy
        intro r hr p e s m args below meth c H locs A B hl hM hS
        have hg := g_dec B.2.2.2.2.2.2.2.2.2 hd hn
        have nn : ∀ z : Int32, ¬ z < 0 → z.toInt = (z.toNatClampNeg : Int) := by
          intro z hz
          have hz0 : (0 : Int) ≤ z.toInt := by
            have := Int32.not_lt.mp hz
            simpa using Int32.le_iff_toInt_le.mp this
          show z.toInt = ((z.toInt.toNat : Nat) : Int)
          omega
        have ok : ∀ w ∈ lw_tbl, goodWord w = true → w.before args s = true := B.2.2.2.2.2.2.1
        intro T hT X
        have hc0 : H[a0]? = some (vp_cell (g_c G 0) (n0, .inl f)) := (hM.2.2 a0 _ ha0).2
        have hc1 : H[a]? = some (vp_cell (g_c G 0) (n1, .inl g)) := (hM.2.2 a _ ha).2
        have hK := B.2.2.2.2.2.2.2.1.1
        obtain ⟨-, k0, hk0, cm0, hkk0⟩ := (hK.2 0 _ rfl).1 n0 (fun j => .int (f j))
        obtain ⟨-, k1, hk1, cm1, hkk1⟩ := (hK.2 0 _ rfl).1 n1 (fun j => .int (g j))
        obtain ⟨vm', X', step⟩ := X.arraycopy B.1 B.2.2.2.2.2.1 (ok _ hlk rfl) (ok _ hnat rfl) (ok _ hstat rfl) (ok _ hini rfl) (src := a0) (dst := a) (cs := vp_cell (g_c G 0) (n0, .inl f)) (cd := vp_cell (g_c G 0) (n1, .inl g)) (srcPos := sp) (destPos := dp) (n := m0) (by rw [hT]; exact hc0) (by rw [hT]; exact hc1)
          (fun _ h => by cases h) (fun _ h => by cases h) (fun h => by cases h) (fun h => by cases h) hk0 hk1 hkk0 hkk1 (by simp [refKind]) h1 h2 h3
          (by rw [nn sp h1, nn m0 h3]; show ¬ _ > ((arrV (g_c G 0) n0 (fun j => .int (f j))).slots.size : Int); rw [arrV_size]; omega)
          (by rw [nn dp h2, nn m0 h3]; show ¬ _ > ((arrV (g_c G 0) n1 (fun j => .int (g j))).slots.size : Int); rw [arrV_size]; omega)
          (fun vm₁ _ i hi => by
            have e : (vp_cell (g_c G 0) (n0, .inl f)).slots.getD (sp.toNatClampNeg + i) .null = .int (f (sp.toNatClampNeg + i)) := by
              show (arrV (g_c G 0) n0 (fun j => .int (f j))).slots.getD _ _ = _
              rw [Array.getD_eq_getD_getElem?, arrV_read _ _ (by omega)]
              rfl
            refine ⟨?_, ?_⟩
            · rw [e]; rfl
            · rw [e]
              exact trivial)
          (g := F0 m pc A (.int m0 :: .int dp :: .ref a :: .int sp :: .ref a0 :: st)) rfl (by rw [B.2.2.1]; exact hl.1) (rest := st) rfl (by rw [B.2.1]; exact hg) (Nat.le_of_ble_eq_true hframes) (by have := Nat.le_of_ble_eq_true hlocals; show 2 * 0 + _ + _ ≤ _; omega)
        have e1 : copied (vp_cell (g_c G 0) (n0, .inl f)) (vp_cell (g_c G 0) (n1, .inl g)) sp dp m0 = vp_cell (g_c G 0) (n1, .inl (va_cpy f g sp.toNatClampNeg dp.toNatClampNeg m0.toNatClampNeg)) := va_copied (fun z => .int z) (g_c G 0) (g_c G 0) f g h4
        rw [e1] at X' step
        have hla : a < H.size := (Array.getElem?_eq_some_iff.mp hc1).1
        have hheap : ((T.setVm vm').setCell a (vp_cell (g_c G 0) (n1, .inl (va_cpy f g sp.toNatClampNeg dp.toNatClampNeg m0.toNatClampNeg)))).heap = H.setIfInBounds a (vp_cell (g_c G 0) (n1, .inl (va_cpy f g sp.toNatClampNeg dp.toNatClampNeg m0.toNatClampNeg))) := by rw [← hT]; rfl
        have oq : ∀ q : Nat, q ≠ a → (H.setIfInBounds a (vp_cell (g_c G 0) (n1, .inl (va_cpy f g sp.toNatClampNeg dp.toNatClampNeg m0.toNatClampNeg))))[q]? = H[q]? := fun q hq => by simp [Array.getElem?_setIfInBounds, Ne.symm hq]
        have hab : g_b G ≤ a := (hM.2.2 a _ ha).1
        subst hn
        obtain ⟨t, a1, b1⟩ := kk _ r hr p e s m args below meth c (H.setIfInBounds a (vp_cell (g_c G 0) (n1, .inl (va_cpy f g sp.toNatClampNeg dp.toNatClampNeg m0.toNatClampNeg)))) _ A B hl (hM.set ha (x := .inl (0, n1, .inl (va_cpy f g sp.toNatClampNeg dp.toNatClampNeg m0.toNatClampNeg))) (show (H.setIfInBounds a _)[a]? = some _ by simp [Array.getElem?_setIfInBounds, hla]) (by simp) oq) ⟨by simp; exact hS.1, fun q g1 g2 => by
            rw [oq q (fun e => g2 (by rw [e]; exact hab))]
            exact hS.2.1 q g1 g2, fun q hq => by
            rcases List.mem_append.mp hq with h | h
            · exact hS.2.2 q h
            · obtain ⟨z, -, hz⟩ := List.mem_map.mp h
              rw [← hz]
              exact hab⟩ _ hheap X'
        exact ⟨t, step t a1, b1⟩
/-- super() of a class right under Object -/
theorem X_objInit {a idx : Nat} (hd : g_lk (m_code M) pc = some (.invokespecial idx, nx, x1, x2)) (hn : nx = pc + 3) (hlk : Cond.methodLink (m_y M).cls idx Lib.objectInit ∈ lw_tbl) (hin : Cond.instanceMethod Lib.objectInit ∈ lw_tbl) (hco : Cond.code Lib.objectInit ⟨#[0xb1]⟩ 1 none ∈ lw_tbl) (hframes : Nat.ble 1 (m_R M).frames = true) (hlocals : Nat.ble ((st.map fun v => v.category).sum + 12) (m_R M).locals = true) (kk : GX l G M Φ k n nx L st h F) : GX l G M Φ k n pc L (.ref a :: st) h F := by
  intro r hr p e s m args below meth c H locs A B hl hM hS
  have hg := g_dec B.2.2.2.2.2.2.2.2.2 hd hn
  have ok : ∀ w ∈ lw_tbl, goodWord w = true → w.before args s = true := B.2.2.2.2.2.2.1
  refine W.objInit B.1 B.2.1 B.2.2.2.2.2.1 (ok _ hlk rfl) (ok _ hin rfl) (ok _ hco rfl) rfl (by rw [B.2.2.1]; exact hl.1) rfl hg (Nat.le_of_ble_eq_true hframes) (by have := Nat.le_of_ble_eq_true hlocals; show 2 * 0 + _ + _ ≤ _; omega) ?_
  have q := kk r hr p e s m args below meth c H locs A B hl hM hS
  rw [hn] at q
  exact q
theorem X_anew {idx t N : Nat} {i : Int32} {C : String} (hd : g_lk (m_code M) pc = some (.anewarray idx, nx, x1, x2)) (hn : nx = pc + 3) (hlk : Cond.classLink (m_y M).cls idx C ∈ lw_tbl) (hov : Cond.arrayOver (.object C) ∈ lw_tbl) (ht : (g_tl (g_c G))[t]? = some (g_c G t, .object C)) (hi : ¬ i < 0) (hN : i.toNatClampNeg = N) (hb : Nat.ble (N * 4) 536870912 = true) (hk : Nat.ble (k + 1) (m_R M).cells = true) (hs : Nat.ble (n + N) (m_R M).slots = true) (kk : GX l G M Φ (k + 1) (n + N) nx L (.ref h.1 :: st) (g_add h (.inl (t, N, .inr (.inr (.inr (.inr (fun _ => none))))))) F) : GX l G M Φ k n pc L (.int i :: st) h F := by
  intro r hr p e s m args below meth c H locs A B hl hM hS
  have hg := g_dec B.2.2.2.2.2.2.2.2.2 hd hn
  have ok : ∀ w ∈ lw_tbl, goodWord w = true → w.before args s = true := B.2.2.2.2.2.2.1
  subst hN
  refine W.anew B.1 B.2.1 B.2.2.2.2.2.1 (ok _ hlk rfl) (va_AO.use (B.2.2.2.2.2.2.2.1.2.1 _ (List.mem_filter.mpr ⟨hov, rfl⟩))) rfl hg rfl hi (Nat.le_of_ble_eq_true hb) (Nat.le_of_ble_eq_true hk) (Nat.le_of_ble_eq_true hs) fun cA kA comp f1 f2 f3 f4 => ?_
  have hcA : cA = g_c G t := by
    obtain ⟨_, _, _, _, _, h4⟩ := (B.2.2.2.2.2.2.2.1.1.2 t _ ht).2
    exact Option.some.inj (f1.symm.trans h4)
  subst hcA
  generalize hH1 : H.push ({ cls := g_c G t, slots := Array.replicate i.toNatClampNeg .null, vm := .none } : Cell) = H1
  have z1 : H1.size = h.1 + 1 := by rw [← hH1, Array.size_push, hM.1]
  have e1 : H1[h.1]? = some (arrV (g_c G t) i.toNatClampNeg (fun _ => .null)) := by rw [← hH1, ← hM.1, Array.getElem?_push_size, ← arrV_new]
  have o1 : ∀ q : Nat, q < h.1 → H1[q]? = H[q]? := fun q hq => by rw [← hH1, Array.getElem?_push, if_neg (Nat.ne_of_lt (by rw [hM.1]; exact hq))]
  have q := kk r hr p e s m args below meth c H1 locs A B hl (hM.add (x := .inl (t, i.toNatClampNeg, .inr (.inr (.inr (.inr (fun _ => none)))))) (by show H1[h.1]? = some (vp_cell _ _); rw [vp_cell_q]; exact e1) z1 o1) (g_S.add hS hM.1 z1 o1)
  rw [hn] at q
  rw [hM.1]
  exact q
theorem X_qst {a t v ci : Nat} {i : Int32} {C : String} {K : gH → Option α} (hd : g_lk (m_code M) pc = some (.aastore, nx, x1, x2)) (hn : nx = pc + 1) (ht : (g_tl (g_c G))[t]? = some (g_c G t, .object C)) (hcn : g_cn ci = C) (kk : ∀ h', GX l G M Φ k n nx L st h' (K h')) : GX l G M Φ k n pc L (.ref v :: .int i :: .ref a :: st) h (bif g_is h v ci then (g_qst h a t i v).bind K else none) := by
  cases hb : g_is h v ci with
  | false => exact X_none
  | true =>
  refine X_bind fun h' hv => ?_
  unfold g_qst at hv
  cases hx : g_aQ h a t with
  | none => rw [hx] at hv; cases hv
  | some y =>
    obtain ⟨m0, f⟩ := y
    rw [hx] at hv
    simp only [Option.bind_some, Option.map_eq_some_iff] at hv
    obtain ⟨j, hj, rfl⟩ := hv
    obtain ⟨hin, rfl⟩ := g_ix_some hj
    have ha := g_aQ_some hx
    obtain ⟨fs, hvv⟩ := g_is_some hb
    intro r hr p e0 s m args below meth c H locs A B hl hM hS
    have hg := g_dec B.2.2.2.2.2.2.2.2.2 hd hn
    have hlt : i.toNatClampNeg < m0 := Nat.not_le.mp fun q => hin (Or.inr q)
    have h0 : ¬ i < 0 := fun q => hin (Or.inl q)
    obtain ⟨r', hr', cellV, g1, g2, g3, -⟩ := (hM.2.2 v _ hvv).2
    have hcls := (B.2.2.2.2.2.2.2.1.1.1 ci r' hr').2
    have hC : r'.1 = C := by
      rw [← hcn]
      unfold g_cn
      rw [hr']
    obtain ⟨kA, comp, k1, k2, k3, -⟩ := (B.2.2.2.2.2.2.2.1.1.2 t _ ht).2
    rw [← hC] at k3
    have hcomp : comp = (g_D G).1 ci := Option.some.inj (k3.symm.trans hcls.1)
    subst hcomp
    obtain ⟨kC, hkC, -⟩ := hcls.2
    have hP := g_PA hM ha
    refine W.aast B.1 B.2.1 (hP 0 _ rfl) (fun q h => by cases h) (fun h => by cases h) k1 k2 rfl hkC ⟨h0, by show _ < (arrV _ _ _).slots.size; rw [arrV_size]; exact hlt⟩ g1 (fun q h => by rw [g3] at h; cases h) (by rw [g2]; exact hkC) (by rw [g2]; exact va_assign hcls) rfl rfl hg fun H1 e z oq => ?_
    have q := kk _ r hr p e0 s m args below meth c H1 (locs ++ [⟨a, i.toNatClampNeg⟩]) A B hl (hM.set ha ?_ z oq) (g_S.put hS z oq (hM.2.2 a _ ha).1)
    · rw [hn] at q
      exact q
    · show H1[a]? = some (vp_cell _ _)
      rw [e]
      rw [vp_cell_q, vp_cell_q, arrV_store]
      congr 2
      funext q
      by_cases hq : q = i.toNatClampNeg
      · subst hq
        simp [updV, va_up, va_rf]
      · simp [updV, va_up, hq]
/-- new int[N][K] -/
def g_addM (h : gH) (N K : Nat) : gH := (h.1 + 1 + N, fun q => if q = h.1 then some (.inl (3, N, .inr (.inr (.inr (.inr (fun i => if i < N then some (h.1 + 1 + i) else none)))))) else if h.1 < q ∧ q < h.1 + 1 + N then some (.inl (0, K, .inl fun _ => 0)) else h.2 q)
theorem X_mna {idx N K : Nat} {i j : Int32} (hd : g_lk (m_code M) pc = some (.multianewarray idx 2, nx, x1, x2)) (hn : nx = pc + 4) (hlk : Cond.classLink (m_y M).cls idx ("[" ++ (FieldType.array .int).toString) ∈ lw_tbl) (hov : Cond.arrayOver (.array .int) ∈ lw_tbl) (har : Cond.arrayClass .int ∈ lw_tbl) (hi : ¬ i < 0) (hj : ¬ j < 0) (hN : i.toNatClampNeg = N) (hK0 : j.toNatClampNeg = K) (hb1 : Nat.ble (N * 4) 536870912 = true) (hb2 : Nat.ble (K * componentBytes .int) 536870912 = true) (hb3 : Nat.ble K 536870912 = true) (hk : Nat.ble (k + (1 + N)) (m_R M).cells = true) (hs : Nat.ble (n + (N + N * K)) (m_R M).slots = true) (kk : GX l G M Φ (k + 1 + N) (n + N + N * K) nx L (.ref h.1 :: st) (g_addM h N K) F) : GX l G M Φ k n pc L (.int j :: .int i :: st) h F := by
  intro r hr p e s m args below meth c H locs A B hl hM hS
  have hg := g_dec B.2.2.2.2.2.2.2.2.2 hd hn
  have ok : ∀ w ∈ lw_tbl, goodWord w = true → w.before args s = true := B.2.2.2.2.2.2.1
  subst hN
  subst hK0
  intro T hT Xs
  obtain ⟨vm₁, cA, comp, -, fA, fC, hO, -, X', step⟩ := Xs.multianewarray2F B.1 B.2.2.2.2.2.1 (ok _ hlk rfl) (va_AOA.use (ty := .int) (A := args) (B.2.2.2.2.2.2.2.1.2.1 _ (List.mem_filter.mpr ⟨hov, rfl⟩))) (ok _ har rfl) (g := F0 m pc A (.int j :: .int i :: st)) rfl (by rw [B.2.1]; exact hg) rfl hi hj (Nat.le_of_ble_eq_true hb1) (Nat.le_of_ble_eq_true hb2) (Nat.le_of_ble_eq_true hb3) rfl rfl (Nat.le_of_ble_eq_true hk) (Nat.le_of_ble_eq_true hs)
  have hcA : cA = g_c G 3 := by
    have h1 := (B.2.2.2.2.2.2.2.1.1.2 3 _ rfl).2
    exact Option.some.inj (fA.symm.trans h1)
  have hco : comp = g_c G 0 := by
    have h1 := (B.2.2.2.2.2.2.2.1.1.2 0 _ rfl).2
    exact Option.some.inj (fC.symm.trans h1)
  subst hcA
  subst hco
  generalize hF : Jvm.Free.Multi.fill (T.setVm vm₁) (g_c G 3) (g_c G 0) i.toNatClampNeg j.toNatClampNeg (defaultValue .int) i.toNatClampNeg = F1 at X' step
  have hTh : (T.setVm vm₁).heap = H := hT
  obtain ⟨f1, f2, -, -⟩ := Jvm.Free.Multi.fill_facts (T.setVm vm₁) (g_c G 3) (g_c G 0) i.toNatClampNeg j.toNatClampNeg (defaultValue .int) i.toNatClampNeg
  rw [hF, hTh] at f1 f2
  have hold : ∀ x : Nat, x < H.size → F1.heap[x]? = H[x]? := fun x hx => by
    have := Jvm.Free.Multi.fill_old (T.setVm vm₁) (g_c G 3) (g_c G 0) i.toNatClampNeg j.toNatClampNeg (defaultValue .int) (a := x) (by rw [hTh]; exact hx) i.toNatClampNeg
    rw [hF, hTh] at this
    exact this
  have hz : Jvm.Free.Multi.innerC (g_c G 0) j.toNatClampNeg (defaultValue .int) = vp_cell (g_c G 0) (j.toNatClampNeg, .inl fun _ => 0) := by
    rw [vp_cell_i]
    exact arrV_new _ _ _
  have hrow : ∀ z : Nat, z < i.toNatClampNeg → F1.heap[H.size + 1 + z]? = some (vp_cell (g_c G 0) (j.toNatClampNeg, .inl fun _ => 0)) := fun z hz9 => by
    have := Jvm.Free.Multi.fill_inner (T.setVm vm₁) (g_c G 3) (g_c G 0) i.toNatClampNeg j.toNatClampNeg (defaultValue .int) i.toNatClampNeg z hz9
    rw [hF, hTh, hz] at this
    exact this
  have hout : Jvm.Free.Multi.outerC (g_c G 3) i.toNatClampNeg H.size i.toNatClampNeg = vp_cell (g_c G 3) (i.toNatClampNeg, .inr (.inr (.inr (.inr (fun z => if z < i.toNatClampNeg then some (H.size + 1 + z) else none))))) := by
    rw [vp_cell_q]
    exact vr_outer (g_c G 3) i.toNatClampNeg H.size i.toNatClampNeg
  rw [hout] at f2
  rw [hM.1] at f1 f2 hrow hold
  have q := kk r hr p e s m args below meth c F1.heap locs A B hl ⟨f1, Nat.le_trans hM.2.1 (by show _ ≤ h.1 + 1 + _; omega), fun q x hq => by
    simp only [g_addM] at hq
    by_cases e1 : q = h.1
    · subst e1
      rw [if_pos rfl] at hq
      cases hq
      exact ⟨hM.2.1, f2⟩
    · rw [if_neg e1] at hq
      by_cases e2 : h.1 < q ∧ q < h.1 + 1 + i.toNatClampNeg
      · rw [if_pos e2] at hq
        cases hq
        refine ⟨Nat.le_trans hM.2.1 (Nat.le_of_lt e2.1), ?_⟩
        have := hrow (q - (h.1 + 1)) (by omega)
        rw [show h.1 + 1 + (q - (h.1 + 1)) = q by omega] at this
        exact this
      · rw [if_neg e2] at hq
        have h2 := hM.2.2 q x hq
        have h3 := h2.2.lt
        rw [hM.1] at h3
        exact ⟨h2.1, h2.2.kept (hold q h3)⟩⟩ ⟨by rw [f1]; have := hS.1; rw [hM.1] at this; omega, fun x h1 h2 => (hold x (by have := hS.1; rw [hM.1] at this; omega)).trans (hS.2.1 x h1 h2), hS.2.2⟩
  rw [hn] at q
  obtain ⟨t, a1, b1⟩ := q F1 rfl X'
  refine ⟨t, step t ?_, b1⟩
  have e : T.heap.size = h.1 := by rw [hT]; exact hM.1
  rw [e]
  exact a1
theorem X_bif_eq {x : Int32} {off : Int} {F1 F2 : Option α} (hd : g_lk (m_code M) pc = some (.ifCond .eq off, nx, x1, x2)) (hn : nx = pc + 3) (kt : (x = 0) → GX l G M Φ k n x1 L st h F1) (kf : ¬ (x = 0) → GX l G M Φ k n nx L st h F2) : GX l G M Φ k n pc L (.int x :: st) h (if x = 0 then F1 else F2) := by
  by_cases hc : x = 0
  · rw [if_pos hc]
    exact X_if_eq hd hn (fun q => kt hc) (fun q => absurd hc q)
  · rw [if_neg hc]
    exact X_if_eq hd hn (fun q => absurd q hc) (fun q => kf hc)
theorem X_bPif_eq {x : Int32} {off : Int} {a1 a2 : α} (hd : g_lk (m_code M) pc = some (.ifCond .eq off, nx, x1, x2)) (hn : nx = pc + 3) (kt : (x = 0) → GX l G M Φ k n x1 L st h (some a1)) (kf : ¬ (x = 0) → GX l G M Φ k n nx L st h (some a2)) : GX l G M Φ k n pc L (.int x :: st) h (some (if x = 0 then a1 else a2)) := by
  by_cases hc : x = 0
  · rw [if_pos hc]
    exact X_if_eq hd hn (fun q => kt hc) (fun q => absurd hc q)
  · rw [if_neg hc]
    exact X_if_eq hd hn (fun q => absurd q hc) (fun q => kf hc)
theorem X_bif_ne {x : Int32} {off : Int} {F1 F2 : Option α} (hd : g_lk (m_code M) pc = some (.ifCond .ne off, nx, x1, x2)) (hn : nx = pc + 3) (kt : (x = 0) → GX l G M Φ k n nx L st h F1) (kf : ¬ (x = 0) → GX l G M Φ k n x1 L st h F2) : GX l G M Φ k n pc L (.int x :: st) h (if x = 0 then F1 else F2) := by
  by_cases hc : x = 0
  · rw [if_pos hc]
    exact X_if_ne hd hn (fun q => absurd hc q) (fun q => kt hc)
  · rw [if_neg hc]
    exact X_if_ne hd hn (fun q => kf hc) (fun q => absurd hc q)
theorem X_bPif_ne {x : Int32} {off : Int} {a1 a2 : α} (hd : g_lk (m_code M) pc = some (.ifCond .ne off, nx, x1, x2)) (hn : nx = pc + 3) (kt : (x = 0) → GX l G M Φ k n nx L st h (some a1)) (kf : ¬ (x = 0) → GX l G M Φ k n x1 L st h (some a2)) : GX l G M Φ k n pc L (.int x :: st) h (some (if x = 0 then a1 else a2)) := by
  by_cases hc : x = 0
  · rw [if_pos hc]
    exact X_if_ne hd hn (fun q => absurd hc q) (fun q => kt hc)
  · rw [if_neg hc]
    exact X_if_ne hd hn (fun q => kf hc) (fun q => absurd hc q)
theorem X_bif_lt {x : Int32} {off : Int} {F1 F2 : Option α} (hd : g_lk (m_code M) pc = some (.ifCond .lt off, nx, x1, x2)) (hn : nx = pc + 3) (kt : (0 ≤ x) → GX l G M Φ k n nx L st h F1) (kf : ¬ (0 ≤ x) → GX l G M Φ k n x1 L st h F2) : GX l G M Φ k n pc L (.int x :: st) h (if 0 ≤ x then F1 else F2) := by
  by_cases hc : 0 ≤ x
  · rw [if_pos hc]
    exact X_if_lt hd hn (fun q => absurd (Int32.not_lt.mpr hc) (fun z => z q)) (fun q => kt hc)
  · rw [if_neg hc]
    exact X_if_lt hd hn (fun q => kf hc) (fun q => absurd (Int32.not_lt.mp q) hc)
theorem X_bPif_lt {x : Int32} {off : Int} {a1 a2 : α} (hd : g_lk (m_code M) pc = some (.ifCond .lt off, nx, x1, x2)) (hn : nx = pc + 3) (kt : (0 ≤ x) → GX l G M Φ k n nx L st h (some a1)) (kf : ¬ (0 ≤ x) → GX l G M Φ k n x1 L st h (some a2)) : GX l G M Φ k n pc L (.int x :: st) h (some (if 0 ≤ x then a1 else a2)) := by
  by_cases hc : 0 ≤ x
  · rw [if_pos hc]
    exact X_if_lt hd hn (fun q => absurd (Int32.not_lt.mpr hc) (fun z => z q)) (fun q => kt hc)
  · rw [if_neg hc]
    exact X_if_lt hd hn (fun q => kf hc) (fun q => absurd (Int32.not_lt.mp q) hc)
theorem X_bif_ge {x : Int32} {off : Int} {F1 F2 : Option α} (hd : g_lk (m_code M) pc = some (.ifCond .ge off, nx, x1, x2)) (hn : nx = pc + 3) (kt : (x < 0) → GX l G M Φ k n nx L st h F1) (kf : ¬ (x < 0) → GX l G M Φ k n x1 L st h F2) : GX l G M Φ k n pc L (.int x :: st) h (if x < 0 then F1 else F2) := by
  by_cases hc : x < 0
  · rw [if_pos hc]
    exact X_if_ge hd hn (fun q => absurd hc (Int32.not_lt.mpr q)) (fun q => kt hc)
  · rw [if_neg hc]
    exact X_if_ge hd hn (fun q => kf hc) (fun q => absurd (Int32.not_le.mp q) hc)
theorem X_bPif_ge {x : Int32} {off : Int} {a1 a2 : α} (hd : g_lk (m_code M) pc = some (.ifCond .ge off, nx, x1, x2)) (hn : nx = pc + 3) (kt : (x < 0) → GX l G M Φ k n nx L st h (some a1)) (kf : ¬ (x < 0) → GX l G M Φ k n x1 L st h (some a2)) : GX l G M Φ k n pc L (.int x :: st) h (some (if x < 0 then a1 else a2)) := by
  by_cases hc : x < 0
  · rw [if_pos hc]
    exact X_if_ge hd hn (fun q => absurd hc (Int32.not_lt.mpr q)) (fun q => kt hc)
  · rw [if_neg hc]
    exact X_if_ge hd hn (fun q => kf hc) (fun q => absurd (Int32.not_le.mp q) hc)
theorem X_bif_gt {x : Int32} {off : Int} {F1 F2 : Option α} (hd : g_lk (m_code M) pc = some (.ifCond .gt off, nx, x1, x2)) (hn : nx = pc + 3) (kt : (x ≤ 0) → GX l G M Φ k n nx L st h F1) (kf : ¬ (x ≤ 0) → GX l G M Φ k n x1 L st h F2) : GX l G M Φ k n pc L (.int x :: st) h (if x ≤ 0 then F1 else F2) := by
  by_cases hc : x ≤ 0
  · rw [if_pos hc]
    exact X_if_gt hd hn (fun q => absurd (Int32.not_lt.mpr hc) (fun z => z q)) (fun q => kt hc)
  · rw [if_neg hc]
    exact X_if_gt hd hn (fun q => kf hc) (fun q => absurd (Int32.not_lt.mp q) hc)
theorem X_bPif_gt {x : Int32} {off : Int} {a1 a2 : α} (hd : g_lk (m_code M) pc = some (.ifCond .gt off, nx, x1, x2)) (hn : nx = pc + 3) (kt : (x ≤ 0) → GX l G M Φ k n nx L st h (some a1)) (kf : ¬ (x ≤ 0) → GX l G M Φ k n x1 L st h (some a2)) : GX l G M Φ k n pc L (.int x :: st) h (some (if x ≤ 0 then a1 else a2)) := by
  by_cases hc : x ≤ 0
  · rw [if_pos hc]
    exact X_if_gt hd hn (fun q => absurd (Int32.not_lt.mpr hc) (fun z => z q)) (fun q => kt hc)
  · rw [if_neg hc]
    exact X_if_gt hd hn (fun q => kf hc) (fun q => absurd (Int32.not_lt.mp q) hc)
theorem X_bif_le {x : Int32} {off : Int} {F1 F2 : Option α} (hd : g_lk (m_code M) pc = some (.ifCond .le off, nx, x1, x2)) (hn : nx = pc + 3) (kt : (0 < x) → GX l G M Φ k n nx L st h F1) (kf : ¬ (0 < x) → GX l G M Φ k n x1 L st h F2) : GX l G M Φ k n pc L (.int x :: st) h (if 0 < x then F1 else F2) := by
  by_cases hc : 0 < x
  · rw [if_pos hc]
    exact X_if_le hd hn (fun q => absurd hc (Int32.not_lt.mpr q)) (fun q => kt hc)
  · rw [if_neg hc]
    exact X_if_le hd hn (fun q => kf hc) (fun q => absurd (Int32.not_le.mp q) hc)
theorem X_bPif_le {x : Int32} {off : Int} {a1 a2 : α} (hd : g_lk (m_code M) pc = some (.ifCond .le off, nx, x1, x2)) (hn : nx = pc + 3) (kt : (0 < x) → GX l G M Φ k n nx L st h (some a1)) (kf : ¬ (0 < x) → GX l G M Φ k n x1 L st h (some a2)) : GX l G M Φ k n pc L (.int x :: st) h (some (if 0 < x then a1 else a2)) := by
  by_cases hc : 0 < x
  · rw [if_pos hc]
    exact X_if_le hd hn (fun q => absurd hc (Int32.not_lt.mpr q)) (fun q => kt hc)
  · rw [if_neg hc]
    exact X_if_le hd hn (fun q => kf hc) (fun q => absurd (Int32.not_le.mp q) hc)
theorem X_bicmp_eq {x y : Int32} {off : Int} {F1 F2 : Option α} (hd : g_lk (m_code M) pc = some (.if_icmp .eq off, nx, x1, x2)) (hn : nx = pc + 3) (kt : (x = y) → GX l G M Φ k n x1 L st h F1) (kf : ¬ (x = y) → GX l G M Φ k n nx L st h F2) : GX l G M Φ k n pc L (.int y :: .int x :: st) h (if x = y then F1 else F2) := by
  by_cases hc : x = y
  · rw [if_pos hc]
    exact X_icmp_eq hd hn (fun q => kt hc) (fun q => absurd hc q)
  · rw [if_neg hc]
    exact X_icmp_eq hd hn (fun q => absurd q hc) (fun q => kf hc)
theorem X_bPicmp_eq {x y : Int32} {off : Int} {a1 a2 : α} (hd : g_lk (m_code M) pc = some (.if_icmp .eq off, nx, x1, x2)) (hn : nx = pc + 3) (kt : (x = y) → GX l G M Φ k n x1 L st h (some a1)) (kf : ¬ (x = y) → GX l G M Φ k n nx L st h (some a2)) : GX l G M Φ k n pc L (.int y :: .int x :: st) h (some (if x = y then a1 else a2)) := by
  by_cases hc : x = y
  · rw [if_pos hc]
    exact X_icmp_eq hd hn (fun q => kt hc) (fun q => absurd hc q)
  · rw [if_neg hc]
    exact X_icmp_eq hd hn (fun q => absurd q hc) (fun q => kf hc)
theorem X_bicmp_ne {x y : Int32} {off : Int} {F1 F2 : Option α} (hd : g_lk (m_code M) pc = some (.if_icmp .ne off, nx, x1, x2)) (hn : nx = pc + 3) (kt : (x = y) → GX l G M Φ k n nx L st h F1) (kf : ¬ (x = y) → GX l G M Φ k n x1 L st h F2) : GX l G M Φ k n pc L (.int y :: .int x :: st) h (if x = y then F1 else F2) := by
  by_cases hc : x = y
  · rw [if_pos hc]
    exact X_icmp_ne hd hn (fun q => absurd hc q) (fun q => kt hc)
  · rw [if_neg hc]
    exact X_icmp_ne hd hn (fun q => kf hc) (fun q => absurd hc q)
theorem X_bPicmp_ne {x y : Int32} {off : Int} {a1 a2 : α} (hd : g_lk (m_code M) pc = some (.if_icmp .ne off, nx, x1, x2)) (hn : nx = pc + 3) (kt : (x = y) → GX l G M Φ k n nx L st h (some a1)) (kf : ¬ (x = y) → GX l G M Φ k n x1 L st h (some a2)) : GX l G M Φ k n pc L (.int y :: .int x :: st) h (some (if x = y then a1 else a2)) := by
  by_cases hc : x = y
  · rw [if_pos hc]
    exact X_icmp_ne hd hn (fun q => absurd hc q) (fun q => kt hc)
  · rw [if_neg hc]
    exact X_icmp_ne hd hn (fun q => kf hc) (fun q => absurd hc q)
theorem X_bicmp_lt {x y : Int32} {off : Int} {F1 F2 : Option α} (hd : g_lk (m_code M) pc = some (.if_icmp .lt off, nx, x1, x2)) (hn : nx = pc + 3) (kt : (y ≤ x) → GX l G M Φ k n nx L st h F1) (kf : ¬ (y ≤ x) → GX l G M Φ k n x1 L st h F2) : GX l G M Φ k n pc L (.int y :: .int x :: st) h (if y ≤ x then F1 else F2) := by
  by_cases hc : y ≤ x
  · rw [if_pos hc]
    exact X_icmp_lt hd hn (fun q => absurd (Int32.not_lt.mpr hc) (fun z => z q)) (fun q => kt hc)
  · rw [if_neg hc]
    exact X_icmp_lt hd hn (fun q => kf hc) (fun q => absurd (Int32.not_lt.mp q) hc)
theorem X_bPicmp_lt {x y : Int32} {off : Int} {a1 a2 : α} (hd : g_lk (m_code M) pc = some (.if_icmp .lt off, nx, x1, x2)) (hn : nx = pc + 3) (kt : (y ≤ x) → GX l G M Φ k n nx L st h (some a1)) (kf : ¬ (y ≤ x) → GX l G M Φ k n x1 L st h (some a2)) : GX l G M Φ k n pc L (.int y :: .int x :: st) h (some (if y ≤ x then a1 else a2)) := by
  by_cases hc : y ≤ x
  · rw [if_pos hc]
    exact X_icmp_lt hd hn (fun q => absurd (Int32.not_lt.mpr hc) (fun z => z q)) (fun q => kt hc)
  · rw [if_neg hc]
    exact X_icmp_lt hd hn (fun q => kf hc) (fun q => absurd (Int32.not_lt.mp q) hc)
theorem X_bicmp_ge {x y : Int32} {off : Int} {F1 F2 : Option α} (hd : g_lk (m_code M) pc = some (.if_icmp .ge off, nx, x1, x2)) (hn : nx = pc + 3) (kt : (x < y) → GX l G M Φ k n nx L st h F1) (kf : ¬ (x < y) → GX l G M Φ k n x1 L st h F2) : GX l G M Φ k n pc L (.int y :: .int x :: st) h (if x < y then F1 else F2) := by
  by_cases hc : x < y
  · rw [if_pos hc]
    exact X_icmp_ge hd hn (fun q => absurd hc (Int32.not_lt.mpr q)) (fun q => kt hc)
  · rw [if_neg hc]
    exact X_icmp_ge hd hn (fun q => kf hc) (fun q => absurd (Int32.not_le.mp q) hc)
theorem X_bPicmp_ge {x y : Int32} {off : Int} {a1 a2 : α} (hd : g_lk (m_code M) pc = some (.if_icmp .ge off, nx, x1, x2)) (hn : nx = pc + 3) (kt : (x < y) → GX l G M Φ k n nx L st h (some a1)) (kf : ¬ (x < y) → GX l G M Φ k n x1 L st h (some a2)) : GX l G M Φ k n pc L (.int y :: .int x :: st) h (some (if x < y then a1 else a2)) := by
  by_cases hc : x < y
  · rw [if_pos hc]
    exact X_icmp_ge hd hn (fun q => absurd hc (Int32.not_lt.mpr q)) (fun q => kt hc)
  · rw [if_neg hc]
    exact X_icmp_ge hd hn (fun q => kf hc) (fun q => absurd (Int32.not_le.mp q) hc)
theorem X_bicmp_gt {x y : Int32} {off : Int} {F1 F2 : Option α} (hd : g_lk (m_code M) pc = some (.if_icmp .gt off, nx, x1, x2)) (hn : nx = pc + 3) (kt : (x ≤ y) → GX l G M Φ k n nx L st h F1) (kf : ¬ (x ≤ y) → GX l G M Φ k n x1 L st h F2) : GX l G M Φ k n pc L (.int y :: .int x :: st) h (if x ≤ y then F1 else F2) := by
  by_cases hc : x ≤ y
  · rw [if_pos hc]
    exact X_icmp_gt hd hn (fun q => absurd (Int32.not_lt.mpr hc) (fun z => z q)) (fun q => kt hc)
  · rw [if_neg hc]
    exact X_icmp_gt hd hn (fun q => kf hc) (fun q => absurd (Int32.not_lt.mp q) hc)
theorem X_bPicmp_gt {x y : Int32} {off : Int} {a1 a2 : α} (hd : g_lk (m_code M) pc = some (.if_icmp .gt off, nx, x1, x2)) (hn : nx = pc + 3) (kt : (x ≤ y) → GX l G M Φ k n nx L st h (some a1)) (kf : ¬ (x ≤ y) → GX l G M Φ k n x1 L st h (some a2)) : GX l G M Φ k n pc L (.int y :: .int x :: st) h (some (if x ≤ y then a1 else a2)) := by
  by_cases hc : x ≤ y
  · rw [if_pos hc]
    exact X_icmp_gt hd hn (fun q => absurd (Int32.not_lt.mpr hc) (fun z => z q)) (fun q => kt hc)
  · rw [if_neg hc]
    exact X_icmp_gt hd hn (fun q => kf hc) (fun q => absurd (Int32.not_lt.mp q) hc)
theorem X_bicmp_le {x y : Int32} {off : Int} {F1 F2 : Option α} (hd : g_lk (m_code M) pc = some (.if_icmp .le off, nx, x1, x2)) (hn : nx = pc + 3) (kt : (y < x) → GX l G M Φ k n nx L st h F1) (kf : ¬ (y < x) → GX l G M Φ k n x1 L st h F2) : GX l G M Φ k n pc L (.int y :: .int x :: st) h (if y < x then F1 else F2) := by
  by_cases hc : y < x
  · rw [if_pos hc]
    exact X_icmp_le hd hn (fun q => absurd hc (Int32.not_lt.mpr q)) (fun q => kt hc)
  · rw [if_neg hc]
    exact X_icmp_le hd hn (fun q => kf hc) (fun q => absurd (Int32.not_le.mp q) hc)
theorem X_bPicmp_le {x y : Int32} {off : Int} {a1 a2 : α} (hd : g_lk (m_code M) pc = some (.if_icmp .le off, nx, x1, x2)) (hn : nx = pc + 3) (kt : (y < x) → GX l G M Φ k n nx L st h (some a1)) (kf : ¬ (y < x) → GX l G M Φ k n x1 L st h (some a2)) : GX l G M Φ k n pc L (.int y :: .int x :: st) h (some (if y < x then a1 else a2)) := by
  by_cases hc : y < x
  · rw [if_pos hc]
    exact X_icmp_le hd hn (fun q => absurd hc (Int32.not_lt.mpr q)) (fun q => kt hc)
  · rw [if_neg hc]
    exact X_icmp_le hd hn (fun q => kf hc) (fun q => absurd (Int32.not_le.mp q) hc)
theorem X_bnonnull {x : Option Nat} {off : Int} {F1 : Option α} {K : Nat → Option α} (hd : g_lk (m_code M) pc = some (.ifnonnull off, nx, x1, x2)) (hn : nx = pc + 3) (kf : x = none → GX l G M Φ k n nx L st h F1) (kt : ∀ a, x = some a → GX l G M Φ k n x1 L st h (K a)) : GX l G M Φ k n pc L (va_rf x :: st) h (x.elim F1 K) := by
  cases x with
  | none => exact X_ifnonnull hd hn (fun a e => by cases e) (fun _ => kf rfl)
  | some a => exact X_ifnonnull hd hn (fun a' e => by cases e; exact kt a rfl) (fun e => by cases e)
theorem X_bnull {x : Option Nat} {off : Int} {F1 : Option α} {K : Nat → Option α} (hd : g_lk (m_code M) pc = some (.ifnull off, nx, x1, x2)) (hn : nx = pc + 3) (kt : x = none → GX l G M Φ k n x1 L st h F1) (kf : ∀ a, x = some a → GX l G M Φ k n nx L st h (K a)) : GX l G M Φ k n pc L (va_rf x :: st) h (x.elim F1 K) := by
  cases x with
  | none => exact X_ifnull hd hn (fun _ => kt rfl) (fun a e => by cases e)
  | some a => exact X_ifnull hd hn (fun e => by cases e) (fun a' e => by cases e; exact kf a rfl)
/-- a value that isn't null -/
theorem X_nn {x : Option Nat} {K : Nat → Option α} (kk : ∀ a, x = some a → GX l G M Φ k n pc L st h (K a)) : GX l G M Φ k n pc L st h (x.bind K) := X_bind kk
theorem X_rfl {st' : List Value} (e : st = st') (kk : GX l G M Φ k n pc L st' h F) : GX l G M Φ k n pc L st h F := e ▸ kk
theorem X_astoreQ {j : Nat} {x : Option Nat} (hd : g_lk (m_code M) pc = some (.astore j, nx, x1, x2)) (hn : nx = pc + 2) (hj : Nat.blt j L.length = true) (hp : g_pl L j = true) (kk : GX l G M Φ k n nx (L.set j (some (va_rf x))) st h F) : GX l G M Φ k n pc L (va_rf x :: st) h F := by
  cases x with
  | some a => exact X_astore hd hn hj hp kk
  | none =>
    intro r hr p e s m args below meth c H locs A B hl hM hS
    have hg := g_dec B.2.2.2.2.2.2.2.2.2 hd hn
    have hj1 : j < m_nL M := by rw [← hl.2.2.1]; exact Nat.blt_eq.mp hj
    refine lv_astoreN B.1 B.2.1 hg hl.has hj1 rfl (fun A' h' => ?_)
    have q := kk r hr p e s m args below meth c H locs A' B (hl.put1 hp h') hM hS
    rw [hn] at q
    exact q
theorem X_astoreQ_n {j : Fin 4} {x : Option Nat} (hd : g_lk (m_code M) pc = some (.astore_n j, nx, x1, x2)) (hn : nx = pc + 1) (hj : Nat.blt (j : Nat) L.length = true) (hp : g_pl L (j : Nat) = true) (kk : GX l G M Φ k n nx (L.set (j : Nat) (some (va_rf x))) st h F) : GX l G M Φ k n pc L (va_rf x :: st) h F := by
  cases x with
  | some a => exact X_astore_n hd hn hj hp kk
  | none =>
    intro r hr p e s m args below meth c H locs A B hl hM hS
    have hg := g_dec B.2.2.2.2.2.2.2.2.2 hd hn
    have hj1 : (j : Nat) < m_nL M := by rw [← hl.2.2.1]; exact Nat.blt_eq.mp hj
    refine lv_astore_nN B.1 B.2.1 hg rfl hl.has hj1 rfl (fun A' h' => ?_)
    have q := kk r hr p e s m args below meth c H locs A' B (hl.put1 hp h') hM hS
    rw [hn] at q
    exact q
theorem X_aloadQ {j : Nat} {x : Option Nat} (hd : g_lk (m_code M) pc = some (.aload j, nx, x1, x2)) (hn : nx = pc + 2) (hx : L[j]? = some (some (va_rf x))) (kk : GX l G M Φ k n nx L (va_rf x :: st) h F) : GX l G M Φ k n pc L st h F := by
  cases x with
  | some a => exact X_aload hd hn hx kk
  | none =>
    intro r hr p e s m args below meth c H locs A B hl hM hS
    have hg := g_dec B.2.2.2.2.2.2.2.2.2 hd hn
    have q := kk r hr p e s m args below meth c H locs A B hl hM hS
    rw [hn] at q
    exact lv_aloadN B.1 B.2.1 hg (hl.at hx) q
theorem X_aloadQ_n {j : Fin 4} {x : Option Nat} (hd : g_lk (m_code M) pc = some (.aload_n j, nx, x1, x2)) (hn : nx = pc + 1) (hx : L[(j : Nat)]? = some (some (va_rf x))) (kk : GX l G M Φ k n nx L (va_rf x :: st) h F) : GX l G M Φ k n pc L st h F := by
  cases x with
  | some a => exact X_aload_n hd hn hx kk
  | none =>
    intro r hr p e s m args below meth c H locs A B hl hM hS
    have hg := g_dec B.2.2.2.2.2.2.2.2.2 hd hn
    have q := kk r hr p e s m args below meth c H locs A B hl hM hS
    rw [hn] at q
    exact lv_aload_nN B.1 B.2.1 hg rfl (hl.at hx) q
theorem X_tswIn {x v : Int32} {dflt lo hi off : Int} {offs : Array Int} {tgt len : Nat} (hd : g_lk (m_code M) pc = some (.tableswitch dflt lo hi offs, nx, x1, x2)) (hn : nx = pc + len) (e0 : x = v) (h1 : ¬ v.toInt < lo) (h2 : ¬ hi < v.toInt) (ho : offs[(v.toInt - lo).toNat]? = some off) (ht : (pc : Int) + off = (tgt : Int)) (kk : GX l G M Φ k n tgt L st h F) : GX l G M Φ k n pc L (.int x :: st) h F := by
  subst e0
  intro r hr p e s m args below meth c H locs A B hl hM hS
  have hg := g_dec B.2.2.2.2.2.2.2.2.2 hd hn
  exact lv_tableIn B.1 B.2.1 hg h1 h2 ho ht (kk r hr p e s m args below meth c H locs A B hl hM hS)
theorem X_tswOut {x : Int32} {dflt lo hi : Int} {offs : Array Int} {tgt len : Nat} (hd : g_lk (m_code M) pc = some (.tableswitch dflt lo hi offs, nx, x1, x2)) (hn : nx = pc + len) (h1 : x.toInt < lo ∨ hi < x.toInt) (ht : (pc : Int) + dflt = (tgt : Int)) (kk : GX l G M Φ k n tgt L st h F) : GX l G M Φ k n pc L (.int x :: st) h F := by
  intro r hr p e s m args below meth c H locs A B hl hM hS
  have hg := g_dec B.2.2.2.2.2.2.2.2.2 hd hn
  exact lv_tableOut B.1 B.2.1 hg h1 ht (kk r hr p e s m args below meth c H locs A B hl hM hS)
theorem X_lsw {x : Int32} {dflt off : Int} {ps : Array (Int × Int)} {tgt len : Nat} (hd : g_lk (m_code M) pc = some (.lookupswitch dflt ps, nx, x1, x2)) (hn : nx = pc + len) (hp : (ps.toList.zip (ps.toList.drop 1)).all (fun (a, next) => a.1 < next.1) = true) (ho : Op.lookupswitch.offset ps.toList dflt x.toInt = off) (ht : (pc : Int) + off = (tgt : Int)) (kk : GX l G M Φ k n tgt L st h F) : GX l G M Φ k n pc L (.int x :: st) h F := by
  intro r hr p e s m args below meth c H locs A B hl hM hS
  have hg := g_dec B.2.2.2.2.2.2.2.2.2 hd hn
  exact lv_lookup B.1 B.2.1 hg hp ho ht (kk r hr p e s m args below meth c H locs A B hl hM hS)
theorem X_ldc {idx : Nat} {v : Int32} (hd : g_lk (m_code M) pc = some (.ldc idx, nx, x1, x2)) (hn : nx = pc + 2) (hw : Cond.constant (m_y M).cls idx v ∈ lw_tbl) (kk : GX l G M Φ k n nx L (.int v :: st) h F) : GX l G M Φ k n pc L st h F := by
  intro r hr p e s m args below meth c H locs A B hl hM hS
  have hg := g_dec B.2.2.2.2.2.2.2.2.2 hd hn
  have q := kk r hr p e s m args below meth c H locs A B hl hM hS
  rw [hn] at q
  exact lv_ldc B.1 B.2.1 B.2.2.2.2.2.1 (B.2.2.2.2.2.2.1 _ hw rfl) hg q
theorem X_ldc2 {idx : Nat} {v : Int64} (hd : g_lk (m_code M) pc = some (.ldc2_w idx, nx, x1, x2)) (hn : nx = pc + 3) (hw : Cond.constantLong (m_y M).cls idx v ∈ lw_tbl) (kk : GX l G M Φ k n nx L (.long v :: st) h F) : GX l G M Φ k n pc L st h F := by
  intro r hr p e s m args below meth c H locs A B hl hM hS
  have hg := g_dec B.2.2.2.2.2.2.2.2.2 hd hn
  have q := kk r hr p e s m args below meth c H locs A B hl hM hS
  rw [hn] at q
  exact lv_ldc2 B.1 B.2.1 B.2.2.2.2.2.1 (B.2.2.2.2.2.2.1 _ hw rfl) hg q
theorem X_ldcS {idx i : Nat} {tx : String} (hd : g_lk (m_code M) pc = some (.ldc idx, nx, x1, x2)) (hn : nx = pc + 2) (hw : ((m_y M).cls, idx, tx, i) ∈ g_strs) (kk : GX l G M Φ k n nx L (.ref (g_aK G i) :: st) h F) : GX l G M Φ k n pc L st h F := by
  intro r hr p e s m args below meth c H locs A B hl hM hS
  have hg := g_dec B.2.2.2.2.2.2.2.2.2 hd hn
  have q := kk r hr p e s m args below meth c H locs A B hl hM hS
  rw [hn] at q
  exact va_ldcS B.1 B.2.1 B.2.2.2.2.2.1 (B.2.2.2.2.2.2.2.1.2.2.1 _ hw) hg q
theorem g_sub_0 : g_sub [] [] := trivial
theorem g_sub_n {x : Option Value} {t u : List (Option Value)} (h : g_sub t u) : g_sub (x :: t) (none :: u) := by
  cases x <;> exact h
theorem g_sub_s {v : Value} {t u : List (Option Value)} (h : g_sub t u) : g_sub (some v :: t) (some v :: u) := ⟨rfl, h⟩
theorem g_neI {x k : Int32} {a : Int} (h : ¬ x = k) (hk : k.toInt = a) : ¬ x.toInt = a := fun q => h (Int32.toInt_inj.mp (by rw [hk]; exact q))
/-- more turns of a loop than any run makes -/
def g_N : Nat := 8192
def g_rem (x y : Int32) : Int32 := x - x / y * y
end GXD
end
section
/-! what the generated functions answer, and a few rows more -/
def g_rI (h : gH) : Int32 → Option Value × gH := fun x => (some (.int x), h)
def g_rL (h : gH) : Int64 → Option Value × gH := fun x => (some (.long x), h)
def g_rD (h : gH) : UInt64 → Option Value × gH := fun x => (some (.double x), h)
def g_rA (h : gH) : Nat → Option Value × gH := fun x => (some (.ref x), h)
def g_rQ (h : gH) : Option Nat → Option Value × gH := fun x => (some (va_rf x), h)
def g_wI : Int32 × gH → Option Value × gH := fun x => (some (.int x.1), x.2)
def g_wL : Int64 × gH → Option Value × gH := fun x => (some (.long x.1), x.2)
def g_wA : Nat × gH → Option Value × gH := fun x => (some (.ref x.1), x.2)
def g_wU : gH → Option Value × gH := fun x => (none, x)
section GXE
variable {α : Type} {l : Launch} {G : gG} {M : gMt} {Φ : α → Method → Code → State → Array Value → List Frame → State → Prop} {k n pc nx x1 x2 : Nat} {L : List (Option Value)} {st stk : List Value} {h : gH} {F : Option α}
theorem X_dif {c : Prop} [Decidable c] {F1 : c → Option α} {F2 : Option α} (k1 : ∀ hc : c, GX l G M Φ k n pc L st h (F1 hc)) (k2 : ¬ c → GX l G M Φ k n pc L st h F2) : GX l G M Φ k n pc L st h (if hc : c then F1 hc else F2) := by
  by_cases hc : c
  · rw [dif_pos hc]; exact k1 hc
  · rw [dif_neg hc]; exact k2 hc
theorem X_ifP {c : Prop} [Decidable c] {a1 a2 : α} (k1 : c → GX l G M Φ k n pc L st h (some a1)) (k2 : ¬ c → GX l G M Φ k n pc L st h (some a2)) : GX l G M Φ k n pc L st h (some (if c then a1 else a2)) := by
  by_cases hc : c
  · rw [if_pos hc]; exact k1 hc
  · rw [if_neg hc]; exact k2 hc
theorem X_zb {v : Int32} {K : Int32 → Option α} (kk : ∀ z, v = 0 ∨ v = 1 → GX l G M Φ k n pc L st h (K z)) : GX l G M Φ k n pc L st h ((g_z v).bind K) := by
  unfold g_z
  by_cases hc : v = 0 ∨ v = 1
  · rw [if_pos hc]; exact kk v hc
  · rw [if_neg hc]; exact X_none
theorem g_znar {v : Int32} (h : v = 0 ∨ v = 1) : narrow .boolean (.int v) = .int v := by rcases h with rfl | rfl <;> rfl
theorem g_zfit {v : Int32} (h : v = 0 ∨ v = 1) : fits .boolean (.int v) = true := by rcases h with rfl | rfl <;> rfl
def g_min (x y : Int32) : Int32 := if y < x then y else x
theorem X_mmin {x y : Int32} {idx : Nat} (hd : g_lk (m_code M) pc = some (.invokestatic idx, nx, x1, x2)) (hn : nx = pc + 3) (hlk : Cond.methodLink (m_y M).cls idx Lib.Math.min.name ∈ lw_tbl) (hst : Cond.static Lib.Math.min.name ∈ lw_tbl) (hini : Cond.initialized "java/lang/Math" ∈ lw_tbl) (hco : Cond.code Lib.Math.min.name Lib.Math.min.code 2 (some .int) ∈ lw_tbl) (hf : Nat.ble 1 (m_R M).frames = true) (hlo : Nat.ble ((st.map fun v => v.category).sum + 13) (m_R M).locals = true) (hk : Nat.ble k (m_R M).cells = true) (hs : Nat.ble n (m_R M).slots = true) (kk : GX l G M Φ k n nx L (.int (g_min x y) :: st) h F) : GX l G M Φ k n pc L (.int y :: .int x :: st) h F := by
  intro r hr p e s m args below meth c H locs A B hl hM hS
  have hg := g_dec B.2.2.2.2.2.2.2.2.2 hd hn
  have ok : ∀ w ∈ lw_tbl, goodWord w = true → w.before args s = true := B.2.2.2.2.2.2.1
  have q := kk r hr p e s m args below meth c H locs A B hl hM hS
  rw [hn] at q
  exact va_mmin B.1 B.2.1 (by rw [B.2.2.1]; exact hl.1.symm) B.2.2.2.2.2.1 (ok _ hlk rfl) (ok _ hst rfl) (ok _ hini rfl) (ok _ hco rfl) (Nat.le_of_ble_eq_true hf) (Nat.le_of_ble_eq_true hlo) (Nat.le_of_ble_eq_true hk) (Nat.le_of_ble_eq_true hs) hg q
def g_max (x y : Int32) : Int32 := if x < y then y else x
theorem X_mmax {x y : Int32} {idx : Nat} (hd : g_lk (m_code M) pc = some (.invokestatic idx, nx, x1, x2)) (hn : nx = pc + 3) (hlk : Cond.methodLink (m_y M).cls idx Lib.Math.max.name ∈ lw_tbl) (hst : Cond.static Lib.Math.max.name ∈ lw_tbl) (hini : Cond.initialized "java/lang/Math" ∈ lw_tbl) (hco : Cond.code Lib.Math.max.name Lib.Math.max.code 2 (some .int) ∈ lw_tbl) (hf : Nat.ble 1 (m_R M).frames = true) (hlo : Nat.ble ((st.map fun v => v.category).sum + 13) (m_R M).locals = true) (hk : Nat.ble k (m_R M).cells = true) (hs : Nat.ble n (m_R M).slots = true) (kk : GX l G M Φ k n nx L (.int (g_max x y) :: st) h F) : GX l G M Φ k n pc L (.int y :: .int x :: st) h F := by
  intro r hr p e s m args below meth c H locs A B hl hM hS
  have hg := g_dec B.2.2.2.2.2.2.2.2.2 hd hn
  have ok : ∀ w ∈ lw_tbl, goodWord w = true → w.before args s = true := B.2.2.2.2.2.2.1
  have q := kk r hr p e s m args below meth c H locs A B hl hM hS
  rw [hn] at q
  exact va_mmax B.1 B.2.1 (by rw [B.2.2.1]; exact hl.1.symm) B.2.2.2.2.2.1 (ok _ hlk rfl) (ok _ hst rfl) (ok _ hini rfl) (ok _ hco rfl) (Nat.le_of_ble_eq_true hf) (Nat.le_of_ble_eq_true hlo) (Nat.le_of_ble_eq_true hk) (Nat.le_of_ble_eq_true hs) hg q
theorem X_aretA {ρ : α → Option Value × gH} {mc ms : Nat} {r0 : α} {v : Nat} {nm : String} (hd : g_lk (m_code M) pc = some (.areturn, nx, x1, x2)) (hn : nx = pc + 1) (hty : m_ret M = some (.object nm)) (hρ : ρ r0 = (some (.ref v), h)) (hk : Nat.ble k mc = true) (hs : Nat.ble n ms = true) : GX l G M (g_phi G ρ mc ms) k n pc L [.ref v] h (some r0) :=
  X_aret (v := some v) hd hn hty hρ hk hs
end GXE
end
section
/-! making cells, throwing, catching -/
section GXT
variable {α : Type} {l : Launch} {G : gG} {M : gMt} {Φ : α → Method → Code → State → Array Value → List Frame → State → Prop} {k n k1 n1 pc nx x1 x2 : Nat} {L : List (Option Value)} {st stk : List Value} {h : gH} {F : Option α}
/-- a cell is made: always well -/
def g_mk (h : gH) (x : gC) : Option gH := some (g_add h x)
def g_mkM (h : gH) (N K : Nat) : Option gH := some (g_addM h N K)
theorem X_newO {idx ci : Nat} {K : gH → Option α} (hd : g_lk (m_code M) pc = some (.new idx, nx, ci, x2)) (hn : nx = pc + 3) (hk1 : k + 1 = k1) (hn1 : n + g_nf ci = n1) (hk : Nat.ble k1 (m_R M).cells = true) (hs : Nat.ble n1 (m_R M).slots = true) (kk : ∀ h', GX l G M Φ k1 n1 nx L (.ref h.1 :: st) h' (K h')) : GX l G M Φ k n pc L st h ((g_mk h (.inr (ci, g_dfl ci))).bind K) := by
  subst hk1; subst hn1
  exact X_new hd hn hk hs (kk _)
theorem X_newarrO {at0 : ArrayType} {t N : Nat} {i : Int32} {y : vp_A} {K : gH → Option α} (hd : g_lk (m_code M) pc = some (.newarray at0, nx, x1, x2)) (hn : nx = pc + 2) (hk1 : k + 1 = k1) (hn1 : n + N = n1) (harr : Cond.arrayClass (newarray.typeOf at0) ∈ lw_tbl) (ht : (g_tl (g_c G))[t]? = some (g_c G t, newarray.typeOf at0)) (hi : ¬ i < 0) (hN : i.toNatClampNeg = N) (hbytes : Nat.ble (N * componentBytes (newarray.typeOf at0)) 536870912 = true) (hk : Nat.ble k1 (m_R M).cells = true) (hs : Nat.ble n1 (m_R M).slots = true) (hy : ∀ cA : ClassId, vp_cell cA y = arrV cA N (fun _ => defaultValue (newarray.typeOf at0)))
    (kk : ∀ h', GX l G M Φ k1 n1 nx L (.ref h.1 :: st) h' (K h')) : GX l G M Φ k n pc L (.int i :: st) h ((g_mk h (.inl (t, y))).bind K) := by
  subst hk1; subst hn1
  exact X_newarr hd hn harr ht hi hN hbytes hk hs hy (kk _)
theorem X_anewO {idx t N : Nat} {i : Int32} {C : String} {K : gH → Option α} (hd : g_lk (m_code M) pc = some (.anewarray idx, nx, x1, x2)) (hn : nx = pc + 3) (hk1 : k + 1 = k1) (hn1 : n + N = n1) (hlk : Cond.classLink (m_y M).cls idx C ∈ lw_tbl) (hov : Cond.arrayOver (.object C) ∈ lw_tbl) (ht : (g_tl (g_c G))[t]? = some (g_c G t, .object C)) (hi : ¬ i < 0) (hN : i.toNatClampNeg = N) (hb : Nat.ble (N * 4) 536870912 = true) (hk : Nat.ble k1 (m_R M).cells = true) (hs : Nat.ble n1 (m_R M).slots = true) (kk : ∀ h', GX l G M Φ k1 n1 nx L (.ref h.1 :: st) h' (K h')) : GX l G M Φ k n pc L (.int i :: st) h ((g_mk h (.inl (t, N, .inr (.inr (.inr (.inr (fun _ => none))))))).bind K) := by
  subst hk1; subst hn1
  exact X_anew hd hn hlk hov ht hi hN hb hk hs (kk _)
theorem X_mnaO {idx N K0 : Nat} {i j : Int32} {K : gH → Option α} (hd : g_lk (m_code M) pc = some (.multianewarray idx 2, nx, x1, x2)) (hn : nx = pc + 4) (hk1 : k + 1 + N = k1) (hn1 : n + N + N * K0 = n1) (hlk : Cond.classLink (m_y M).cls idx ("[" ++ (FieldType.array .int).toString) ∈ lw_tbl) (hov : Cond.arrayOver (.array .int) ∈ lw_tbl) (har : Cond.arrayClass .int ∈ lw_tbl) (hi : ¬ i < 0) (hj : ¬ j < 0) (hN : i.toNatClampNeg = N) (hK0 : j.toNatClampNeg = K0) (hb1 : Nat.ble (N * 4) 536870912 = true) (hb2 : Nat.ble (K0 * componentBytes .int) 536870912 = true) (hb3 : Nat.ble K0 536870912 = true) (hk : Nat.ble (k + (1 + N)) (m_R M).cells = true) (hs : Nat.ble (n + (N + N * K0)) (m_R M).slots = true) (kk : ∀ h', GX l G M Φ k1 n1 nx L (.ref h.1 :: st) h' (K h')) : GX l G M Φ k n pc L (.int j :: .int i :: st) h ((g_mkM h N K0).bind K) := by
  subst hk1; subst hn1
  exact X_mna hd hn hlk hov har hi hj hN hK0 hb1 hb2 hb3 hk hs (kk _)
theorem X_callI_U {M' : gMt} {idx nA b : Nat} {As : List Value} {f : Option gH} {K : gH → Option α} (hd : g_lk (m_code M) pc = some (.invokespecial idx, nx, x1, x2)) (hn : nx = pc + 3) (hs : g_site M M' (.invokespecial idx) nA = true) (hlen : As.length = nA) (hstk : stk = As.reverse ++ .ref b :: st) (hst : Nat.ble ((st.map fun v => v.category).sum) 8 = true) (hk1 : k + (m_R M').cells = k1) (hn1 : n + (m_R M').slots = n1) (hk : Nat.ble k1 (m_R M).cells = true) (hsl : Nat.ble n1 (m_R M).slots = true) (hC : ∀ h1, f = some h1 → Ct l G M' (.ref b :: As) h none h1) (kk : ∀ h1, GX l G M Φ k1 n1 nx L st h1 (K h1)) : GX l G M Φ k n pc L stk h (f.bind K) := by
  subst hk1; subst hn1
  exact X_bind fun x hx => X_callI hd hn hs hlen hstk hst (hC x hx) hk hsl (kk x)
theorem X_callIN_U {M' : gMt} {idx nA b : Nat} {As : List Value} {f : Option gH} {K : gH → Option α} (hd : g_lk (m_code M) pc = some (.invokespecial idx, nx, x1, x2)) (hn : nx = pc + 3) (hs : g_siteN M M' (.invokespecial idx) nA = true) (hlen : As.length = nA) (hstk : stk = As.reverse ++ .ref b :: st) (hst : Nat.ble ((st.map fun v => v.category).sum) 8 = true) (hk1 : k + (m_R M').cells = k1) (hn1 : n + (m_R M').slots = n1) (hk : Nat.ble k1 (m_R M).cells = true) (hsl : Nat.ble n1 (m_R M).slots = true) (hC : ∀ h1, f = some h1 → Ct l G M' (.ref b :: As) h none h1) (kk : ∀ h1, GX l G M Φ k1 n1 nx L st h1 (K h1)) : GX l G M Φ k n pc L stk h (f.bind K) := by
  subst hk1; subst hn1
  exact X_bind fun x hx => X_callIN hd hn hs hlen hstk hst (hC x hx) hk hsl (kk x)
end GXT
/-- the exceptions of the face -/
def g_exn : Nat → String
  | 1 => "java/lang/IllegalArgumentException"
  | 2 => "java/lang/IndexOutOfBoundsException"
  | 3 => "java/util/NoSuchElementException"
  | _ => "java/lang/IllegalStateException"
/-- the end: v is returned, the cells are those of f -/
def g_QcE (G : gG) (o : Option Value) (f : Nat → Option gC) : Array Value → State → Outcome → State → Prop := fun _ st oc t => oc = .returned o ∧ (∃ n', g_M G (n', f) t.heap) ∧ st.heap.size ≤ t.heap.size ∧ ∀ q : Nat, q < g_b G → t.heap[q]? = st.heap[q]?
/-- the end: the exception c is thrown, the cells are those of f -/
def g_XC (G : gG) (c : Nat) (f : Nat → Option gC) : String → State → State → Prop := fun E st t => E = g_exn c ∧ (∃ n', g_M G (n', f) t.heap) ∧ st.heap.size ≤ t.heap.size ∧ ∀ q : Nat, q < g_b G → t.heap[q]? = st.heap[q]?
def g_QcX (G : gG) (o : Nat ⊕ Option Value) (h' : gH) : Array Value → State → Outcome → State → Prop := match o with
  | .inr v => g_Qc G v h'
  | .inl _ => fun _ _ _ _ => False
def g_XCX (G : gG) (o : Nat ⊕ Option Value) (h' : gH) : String → State → State → Prop := match o with
  | .inl c => g_XC G c h'.2
  | .inr _ => fun _ _ _ => False
/-- THE CONTRACT of a method that returns or throws -/
def Cx (l : Launch) (G : gG) (M : gMt) (As : List Value) (h : gH) (o : Nat ⊕ Option Value) (h' : gH) : Prop :=
  vx_Met l (m_y M) (g_ws M) (m_R M) (va_Pc As (fun U => g_K G U U.heap ∧ g_M G h U.heap)) (g_QcX G o h') (g_XCX G o h') (m_R M).cells (m_R M).slots (g_A G)
def g_phx {α : Type} (G : gG) (ρ : α → (Nat ⊕ Option Value) × gH) (mc ms : Nat) : α → Method → Code → State → Array Value → List Frame → State → Prop := fun r _ _ s args below => vx_MQ below (g_QcX G (ρ r).1 (ρ r).2) (g_XCX G (ρ r).1 (ρ r).2) args s mc ms (g_A G)
def g_xI : (Nat ⊕ Int32) × gH → (Nat ⊕ Option Value) × gH := fun y => (match y.1 with | .inl c => .inl c | .inr x => .inr (some (.int x)), y.2)
def g_names : List String := ["java/lang/RuntimeException", "java/lang/Exception"]
def g_thrOk (own : String) (ic c : Nat) : Bool := (vx_atS own ic (g_exn c) g_names).all fun w => decide (w ∈ lw_tbl) && ((goodWord w || (w.faceAtom && w.onTables)) && vx_ot w)
section GXV
variable {α : Type} {l : Launch} {G : gG} {M : gMt} {Φ : α → Method → Code → State → Array Value → List Frame → State → Prop} {k n pc nx x1 x2 : Nat} {L : List (Option Value)} {st stk : List Value} {h : gH} {F : Option α}
theorem X_vx {ρ : α → (Nat ⊕ Option Value) × gH} {mc ms : Nat} {r0 : α} {v : Option Value} {h' : gH} (hρ : ρ r0 = (.inr v, h')) (kk : GX l G M (g_phi G (fun _ : α => (v, h')) mc ms) k n pc L st h (some r0)) : GX l G M (g_phx G ρ mc ms) k n pc L st h (some r0) := by
  intro r hr p e s m args below meth c H locs A B hl hM hS
  cases hr
  have q := kk r0 rfl p e s m args below meth c H locs A B hl hM hS
  unfold g_phx
  rw [hρ]
  exact vx_ret q
theorem X_throw {cx ik is ic i : Nat} {tx : String} {ρ : α → (Nat ⊕ Option Value) × gH} {r0 : α} {mc ms : Nat} {h' : gH} (hl : l.stackTraces = false) (d0 : decode (m_cc M) pc = .ok (.new ik, 3)) (d3 : decode (m_cc M) (pc + 3) = .ok (.dup, 1)) (d4 : decode (m_cc M) (pc + 4) = .ok (.ldc is, 2)) (d6 : decode (m_cc M) (pc + 6) = .ok (.invokespecial ic, 3)) (d9 : decode (m_cc M) (pc + 9) = .ok (.athrow, 1))
    (hcx : Bundle.fit (g_exn cx) = true) (hlk : Cond.classLink (m_y M).cls ik (g_exn cx) ∈ lw_tbl) (hini : Cond.initialized (g_exn cx) ∈ lw_tbl) (hstr : ((m_y M).cls, is, tx, i) ∈ g_strs) (hat : g_thrOk (m_y M).cls ic cx = true) (hmh : m_h M = []) (hnl : (m_y M).name ≠ "law") (hf : Nat.ble 6 (m_R M).frames = true) (hlo : Nat.ble ((st.map fun v => v.category).sum + 82) (m_R M).locals = true) (hk : Nat.ble (k + 1) mc = true) (hs : Nat.ble (n + 6) ms = true) (hR1 : Nat.ble mc (m_R M).cells = true) (hR2 : Nat.ble ms (m_R M).slots = true) (hρ : ρ r0 = (.inl cx, h')) (hh : h'.2 = h.2) : GX l G M (g_phx G ρ mc ms) k n pc L st h (some r0) := by
  intro r hr p e s m args below meth c H locs A B hl9 hM hS
  cases hr
  have hts := B.2.2.2.2.2.2.1
  have hK := B.2.2.2.2.2.2.2.1
  have hk2 := Nat.le_of_ble_eq_true hk
  have hs2 := Nat.le_of_ble_eq_true hs
  have hR12 := Nat.le_of_ble_eq_true hR1
  have hR22 := Nat.le_of_ble_eq_true hR2
  have hall := List.all_eq_true.mp hat
  unfold g_phx
  rw [hρ]
  refine vx_throwS (names := g_names) (A := g_A G) (own := (m_y M).cls) (cls := g_exn cx) (text := tx) (sa := g_aK G i) B.1 B.2.1 hl B.2.2.2.2.2.1 hcx (by decide +kernel) (hts _ hlk rfl) (hts _ hini rfl) (hK.2.2.1 _ hstr) (fun w hw => ?_) (fun w hw => ?_) hK.2.2.2.2.1 hK.2.2.2.2.2.1 hS (by rw [B.2.2.1]; exact hl9.1) d0 d3 d4 d6 d9 (fun x hx => ?_) (by have := Nat.le_of_ble_eq_true hf; show 2 + 3 < _; omega) (by have := Nat.le_of_ble_eq_true hlo; show _ + (13 * (2 + 1) + 43) ≤ _; omega) (by omega) (by omega) B.2.2.2.2.1 (fun t hvm hz hq => ?_) hS.2.2 hk2 hs2
  · have h1 := hall w hw
    simp only [Bool.and_eq_true, Bool.or_eq_true, decide_eq_true_eq] at h1
    rcases h1.2.1 with h2 | h2
    · exact hts w h1.1 h2
    · exact va_tabs h2.2 rfl (hK.2.1 w (List.mem_filter.mpr ⟨h1.1, by unfold g_face; rw [h2.1]; rfl⟩))
  · rcases List.mem_cons.mp hw with rfl | hw
    · rfl
    · rcases List.mem_cons.mp hw with rfl | hw
      · rfl
      · have h1 := hall w hw
        simp only [Bool.and_eq_true] at h1
        exact h1.2.2
  · rw [B.2.2.2.2.2.2.2.2.1.2.2 hnl, hmh] at hx
    cases hx
  · refine ⟨rfl, ⟨t.heap.size, rfl, Nat.le_trans hM.2.1 (by rw [← hM.1]; exact hz), fun q x hx => ?_⟩, Nat.le_trans hS.1 hz, fun q hqb => ?_⟩
    · rw [hh] at hx
      have h2 := hM.2.2 q x hx
      exact ⟨h2.1, h2.2.kept (hq q h2.2.lt)⟩
    · have hqs : q < s.heap.size := Nat.lt_of_lt_of_le hqb B.2.2.2.2.2.2.2.2.1.2.1
      rw [hq q (Nat.lt_of_lt_of_le hqs hS.1)]
      exact hS.2.1 q hqs (Nat.not_le.mpr hqb)
theorem Cx_of {ρ : α → (Nat ⊕ Option Value) × gH} {As : List Value} {h1 : gH} {o : Nat ⊕ Option Value} {r : α} (hok : g_ok M) (hpl : plainName (m_y M).cls = true) (hmh : m_h M = []) (hL : g_en As (m_nL M) = L) (hlen : L.length = m_nL M) (hn : Nat.ble (lg_sl As).length (m_nL M) = true) (body : GX l G M (g_phx G ρ (m_R M).cells (m_R M).slots) 0 0 0 L [] h F) (hF : F = some r) (hρ : ρ r = (o, h1)) : Cx l G M As h o h1 := by
  refine vx_ofW (cc := m_cc M) (maxL := m_nL M) (ret := m_ret M) hpl rfl ?_
  intro p e s m args below meth c s₁ B hml ht hv
  obtain ⟨rfl, hK, hM⟩ := hv
  have hts := atoms_spec (ws := g_ws M) B.pre
  rw [lg_entry_eq]
  have hl0 := lv_entry As (n := m_nL M) (Nat.le_of_ble_eq_true hn)
  generalize (lg_sl As ++ List.replicate (m_nL M - (lg_sl As).length) Slot.unset).toArray = ls at hl0 ⊢
  have hl : g_ls ls (m_nL M) L := by
    refine ⟨hl0.1, hl0.2.1, hlen, fun i v hi => ?_⟩
    rw [← hL] at hi
    have := g_en_at As (m_nL M) 0 i v hi
    rw [Nat.zero_add] at this
    exact hl0.2.2 _ this
  have htt : c.exceptionTable.toList = tableOf (m_h M) := by
    rw [hmh]
    cases hx : c.exceptionTable.toList with
    | nil => rfl
    | cons x y => exact (ht x (by rw [hx]; exact List.mem_cons_self)).elim
  have q := body r hF p e s m As.toArray below meth c s.heap [] ls ⟨B.exec, B.bytes, hml, B.returns, B.notSynchronized, findClass_of_methodNamed B.named, fun w hw hg => hts w (List.mem_cons_of_mem _ (List.mem_filter.mpr ⟨hw, hg⟩)), hK, ⟨fun h => by rw [(name_of_methodNamed B.named B.method).1]; exact h, by rw [hM.1]; exact hM.2.1, fun _ => htt⟩, hok⟩ hl hM va_S.rf
  unfold g_phx at q
  rw [hρ] at q
  exact q
/-- a call of a method that returns or throws, inside a try whose row x takes the exception -/
theorem X_callX {M' : gMt} {idx nA b ci : Nat} {As : List Value} {o : Nat ⊕ Option Value} {h1 : gH} (hd : g_lk (m_code M) pc = some (.invokevirtual idx, nx, x1, x2)) (hn : nx = pc + 3) (hs : g_site M M' (.invokevirtual idx) nA = true) (hlen : As.length = nA) (hstk : stk = As.reverse ++ .ref b :: st) (hst : Nat.ble ((st.map fun v => v.category).sum) 8 = true) (hrc : g_is h b ci = true ∧ g_cn ci = (m_y M').cls) (hC : Cx l G M' (.ref b :: As) h o h1) (hk : Nat.ble (k + (m_R M').cells) (m_R M).cells = true) (hsl : Nat.ble (n + (m_R M').slots) (m_R M).slots = true)
    (kv : ∀ v, o = .inr v → GX l G M Φ (k + (m_R M').cells) (n + (m_R M').slots) nx L (v.toList ++ st) h1 F)
    (kx : ∀ cx, o = .inl cx → ∃ (ps : List (ExceptionTableEntry × String)) (x : ExceptionTableEntry) (suf : List ExceptionTableEntry), tableOf (m_h M) = ps.map (fun z => z.1) ++ x :: suf ∧ (ps.all fun z => !(Nat.beq z.1.catchType 0) && decide (Cond.classLink (m_y M).cls z.1.catchType z.2 ∈ lw_tbl) && decide ((g_exn cx, z.2) ∈ g_nc)) = true ∧ covers x pc = true ∧ x.catchType ≠ 0 ∧ Cond.classLink (m_y M).cls x.catchType (g_exn cx) ∈ lw_tbl ∧ Cond.castable (g_exn cx) (g_exn cx) ∈ lw_tbl ∧ (m_y M).name ≠ "law" ∧ ∀ n' q, GX l G M Φ (k + (m_R M').cells) (n + (m_R M').slots) x.handlerPc L [.ref q] (n', h1.2) F) : GX l G M Φ k n pc L stk h F := by
  intro r hr p e s m args below meth c H locs A B hl hM hS
  have hg := g_dec B.2.2.2.2.2.2.2.2.2 hd hn
  unfold g_site at hs
  simp only [Bool.and_eq_true, decide_eq_true_eq] at hs
  obtain ⟨⟨⟨⟨⟨⟨⟨s1, s2⟩, s3⟩, s4⟩, s5⟩, s6⟩, s7⟩, ⟨s8, s10⟩, s9⟩ := hs
  have hts : ∀ w ∈ g_good, w.before args s = true := fun w hw => B.2.2.2.2.2.2.1 w (List.mem_filter.mp hw).1 (List.mem_filter.mp hw).2
  have ok : ∀ w ∈ lw_tbl, goodWord w = true → w.before args s = true := B.2.2.2.2.2.2.1
  have cb := callB_of (R := m_R M) (mc := (m_R M').cells) (ms := (m_R M').slots) (rm := m_R M') nA hts (g_goodIn s1) (ws' := g_good) rfl rfl rfl (ok _ s2 rfl) (ok _ s9 rfl) ⟨s3, s4, s5⟩ ⟨Nat.le_of_ble_eq_true s6, Nat.le_of_ble_eq_true s7⟩
  have hrun := vx_runV (As := As) (rest := st) (C := (m_y M').cls) (b := b) (H := H) (locs := locs) (cells := k) (slots := n) (below := below) (meth := meth) (e := e) (g := F0 m pc A stk) (cc := m_cc M) (nL := m_nL M) (index := idx) (Ts := g_good) (own := (m_y M).cls) ⟨B.1, B.2.1, B.2.2.1, B.2.2.2.2.2.1, hts⟩ hC ⟨cb, ok _ s8 rfl, ok _ s10 rfl⟩ ⟨g_blind, g_recv B hM hrc, fun U hU hW => ⟨rfl, by rw [hU]; exact (B.2.2.2.2.2.2.2.1.warm hW (fun a ha hna => hS.2.1 a ha hna)), by rw [hU]; exact hM⟩⟩ rfl hlen hl.1 hstk (lv_room (Nat.le_of_ble_eq_true hst)) hg ⟨Nat.le_of_ble_eq_true hk, Nat.le_of_ble_eq_true hsl⟩
  have hS1 : ∀ {t T' : State} {L1 : List Loc}, T'.heap = t.heap → H.size ≤ t.heap.size → (∀ q : Nat, q < g_b G → t.heap[q]? = H[q]?) → (∀ q ∈ L1, g_A G q.base) → va_S (g_A G) s.heap T'.heap (locs ++ L1) := by
    intro t T' L1 e1 hz hq hL
    exact ⟨Nat.le_trans hS.1 (by rw [e1]; exact hz), fun q h1 h2 => by
      have hqb : q < g_b G := Nat.not_le.mp h2
      rw [e1, hq q hqb]; exact hS.2.1 q h1 h2, fun q hq => by
      rcases List.mem_append.mp hq with h | h
      · exact hS.2.2 q h
      · exact hL q h⟩
  intro T hT X
  rcases hrun T hT X with ⟨v, st₀, t, T', L1, h0, X', hL, e1, e2, hQ, stp⟩ | ⟨q9, st₀, t, T', L1, E, ce, h0, X', hL, e1, e2, hQ, hce, hcv, hcl, stp⟩
  · cases o with
    | inl cx => exact hQ.elim
    | inr v0 =>
      obtain ⟨hv, hM', hz, hq⟩ := hQ
      cases hv
      rw [h0] at hz hq
      have q := kv v rfl r hr p e s m args below meth c T'.heap (locs ++ L1) A B hl (by rw [e1]; exact hM') (hS1 e1 hz hq hL)
      rw [hn] at q
      obtain ⟨t2, a1, b1⟩ := q T' rfl X'
      exact ⟨t2, stp t2 a1, b1⟩
  · cases o with
    | inr v0 => exact hQ.elim
    | inl cx =>
      obtain ⟨rfl, ⟨n', hM'⟩, hz, hq⟩ := hQ
      rw [h0] at hz hq
      obtain ⟨ps, x, suf, htab, hps, hcov, hct, hlk, hcast, hnl, kk⟩ := kx cx rfl
      have q := kk n' q9 r hr p e s m args below meth c T'.heap (locs ++ L1) A B hl (by rw [e1]; exact hM') (hS1 e1 hz hq hL)
      have hcw : (Cond.castable (g_exn cx) (g_exn cx)).before args s = true := va_tabs rfl rfl (B.2.2.2.2.2.2.2.1.2.1 _ (List.mem_filter.mpr ⟨hcast, rfl⟩))
      have w := vx_catch (rest := st) (pc := pc) (H := T'.heap) (own := (m_y M).cls) (name := g_exn cx) (E := g_exn cx) (ce := ce) (q := q9) B.2.2.2.2.2.1 (ps.map (fun z => z.1)) x suf (by rw [B.2.2.2.2.2.2.2.2.1.2.2 hnl]; exact htab) (fun z hz9 => by
        obtain ⟨y, hy, rfl⟩ := List.mem_map.mp hz9
        have h9 := List.all_eq_true.mp hps y hy
        simp only [Bool.and_eq_true, decide_eq_true_eq, Bool.not_eq_true'] at h9
        refine Or.inr ⟨fun e0 => absurd h9.1.1 (by rw [e0]; decide), y.2, ok _ h9.1.2 rfl, B.2.2.2.2.2.2.2.1.2.2.2.2.2.2.2.2 _ h9.2⟩) hcov hct (ok _ hlk rfl) hcw (by rw [e1]; exact hce) hcv hcl q
      obtain ⟨t2, a1, b1⟩ := w T' rfl X'
      exact ⟨t2, stp.trans a1, b1⟩
end GXV
/-- the words of a method with handlers -/
def g_wsH (M : gMt) : List Cond := Cond.codeWith (m_y M) (m_cc M) (m_nL M) (m_ret M) (m_h M) :: g_good
/-- THE CONTRACT of a method with handlers, that returns; how many cells there are then is left open -/
def CtH (l : Launch) (G : gG) (M : gMt) (As : List Value) (h : gH) (o : Option Value) (f : Nat → Option gC) : Prop :=
  Met l (m_y M) (g_wsH M) (m_R M) (va_Pc As (fun U => g_K G U U.heap ∧ g_M G h U.heap)) (g_QcE G o f) (m_R M).cells (m_R M).slots (g_A G)
def g_phE (G : gG) (o : Option Value) (f : Nat → Option gC) (mc ms : Nat) : Unit → Method → Code → State → Array Value → List Frame → State → Prop := fun _ _ _ s args below => MQ below (g_QcE G o f) args s mc ms (g_A G)
theorem X_iretE {l : Launch} {G : gG} {M : gMt} {k n pc nx x1 x2 mc ms n0 : Nat} {L : List (Option Value)} {f : Nat → Option gC} {v : Int32} {ty : FieldType} {F : Option Unit} (hd : g_lk (m_code M) pc = some (.ireturn, nx, x1, x2)) (hn : nx = pc + 1) (hty : m_ret M = some ty) (hnr : narrow ty (.int v) = .int v) (hk : Nat.ble k mc = true) (hs : Nat.ble n ms = true) : GX l G M (g_phE G (some (.int v)) f mc ms) k n pc L [.int v] (n0, f) F := by
  intro r hr p e s m args below meth c H locs A B hl hM hS
  have hg := g_dec B.2.2.2.2.2.2.2.2.2 hd hn
  refine W.widen (Nat.le_of_ble_eq_true hk) (Nat.le_of_ble_eq_true hs) ?_
  exact W.zret B.1 B.2.1 (by rw [B.2.2.2.1]; exact hty) hnr (fun t ht hW => ⟨rfl, ⟨n0, by rw [ht]; exact hM⟩, by rw [ht]; exact hS.1, fun q hq => by
    rw [ht]
    exact hS.2.1 q (Nat.lt_of_lt_of_le hq B.2.2.2.2.2.2.2.2.1.2.1) (Nat.not_le.mpr hq)⟩) hS.2.2 hg B.2.2.2.2.1
theorem CtH_of {l : Launch} {G : gG} {M : gMt} {As : List Value} {L : List (Option Value)} {h : gH} {o : Option Value} {f : Nat → Option gC} (hok : g_ok M) (hpl : plainName (m_y M).cls = true) (hL : g_en As (m_nL M) = L) (hlen : L.length = m_nL M) (hn : Nat.ble (lg_sl As).length (m_nL M) = true) (body : GX l G M (g_phE G o f (m_R M).cells (m_R M).slots) 0 0 0 L [] h (some ())) : CtH l G M As h o f := by
  unfold CtH Met
  refine MetFree.of_bodyS (code := m_cc M) (maxLocals := m_nL M) (ret := m_ret M) hpl ?_ ?_
  · intro args s m h hn
    obtain ⟨m9, meth, c, hn9, h1, h2, h3, h4, -, h5, h6, -⟩ := Cond.codeWith_spec (atoms_spec (ws := g_wsH M) h _ List.mem_cons_self)
    cases hn.symm.trans hn9
    exact ⟨meth, c, h1, h2, h3, h4, h5, h6⟩
  · intro p e s m args below meth c s₁ B hml hv _
    obtain ⟨rfl, hK, hM⟩ := hv
    have hh0 : s₁.heap = s.heap := by rw [B.state]; rfl
    have hts := atoms_spec (ws := g_wsH M) B.pre
    have htt : c.exceptionTable.toList = tableOf (m_h M) := vx_table (x := m_y M) B (hts _ List.mem_cons_self)
    have hl0 := lv_entry As (n := m_nL M) (Nat.le_of_ble_eq_true hn)
    rw [lg_entry_eq]
    generalize (lg_sl As ++ List.replicate (m_nL M - (lg_sl As).length) Slot.unset).toArray = ls at hl0 ⊢
    have hl : g_ls ls (m_nL M) L := by
      refine ⟨hl0.1, hl0.2.1, hlen, fun i v hi => ?_⟩
      rw [← hL] at hi
      have := g_en_at As (m_nL M) 0 i v hi
      rw [Nat.zero_add] at this
      exact hl0.2.2 _ this
    have q := body () rfl p e s m As.toArray below meth c s.heap [] ls ⟨B.exec, B.bytes, hml, B.returns, B.notSynchronized, findClass_of_methodNamed B.named, fun w hw hg => hts w (List.mem_cons_of_mem _ (List.mem_filter.mpr ⟨hw, hg⟩)), hK, ⟨fun h => by rw [(name_of_methodNamed B.named B.method).1]; exact h, by rw [hM.1]; exact hM.2.1, fun _ => htt⟩, hok⟩ hl hM va_S.rf
    obtain ⟨t, a1, o9, b1, b2, b3⟩ := q s₁ hh0 (Stand.of_body B)
    exact ⟨t, o9, a1, b1, b2, ⟨b3.1, b3.2⟩⟩
/-- what the tables say of a site that calls a static method with handlers -/
def g_siteH (M M' : gMt) (idx nA : Nat) : Bool := decide (Cond.codeWith (m_y M') (m_cc M') (m_nL M') (m_ret M') (m_h M') ∈ lw_tbl) && decide (Cond.initialized (m_y M').cls ∈ lw_tbl) && decide ((m_y M').cls ≠ "java/lang/invoke/MethodHandle") && decide ((m_y M').cls ≠ "java/lang/invoke/VarHandle") && decide ((parseMethodDescriptor (m_y M').desc).map (fun d => d.parameters.length) = some nA) && Nat.ble ((m_R M').frames + 1) (m_R M).frames && Nat.ble (8 + (m_nL M' + 11) + (m_R M').locals) (m_R M).locals && decide (Cond.static (m_y M') ∈ lw_tbl) && decide (Cond.methodLink (m_y M).cls idx (m_y M') ∈ lw_tbl)
section GXW
variable {α : Type} {l : Launch} {G : gG} {M : gMt} {Φ : α → Method → Code → State → Array Value → List Frame → State → Prop} {k n pc nx x1 x2 : Nat} {L : List (Option Value)} {st stk : List Value} {h : gH} {F : Option α}
theorem X_callH {M' : gMt} {idx nA : Nat} {As : List Value} {o : Option Value} {f : Nat → Option gC} (hd : g_lk (m_code M) pc = some (.invokestatic idx, nx, x1, x2)) (hn : nx = pc + 3) (hs : g_siteH M M' idx nA = true) (hlen : As.length = nA) (hstk : stk = As.reverse ++ st) (hst : Nat.ble ((st.map fun v => v.category).sum) 8 = true) (hC : CtH l G M' As h o f) (hk : k + (m_R M').cells ≤ (m_R M).cells) (hsl : n + (m_R M').slots ≤ (m_R M).slots)
    (kk : ∀ n', GX l G M Φ (k + (m_R M').cells) (n + (m_R M').slots) nx L (o.toList ++ st) (n', f) F) : GX l G M Φ k n pc L stk h F := by
  intro r hr p e s m args below meth c H locs A B hl hM hS
  have hg := g_dec B.2.2.2.2.2.2.2.2.2 hd hn
  unfold g_siteH at hs
  simp only [Bool.and_eq_true, decide_eq_true_eq] at hs
  obtain ⟨⟨⟨⟨⟨⟨⟨⟨s1, s2⟩, s3⟩, s4⟩, s5⟩, s6⟩, s7⟩, s8⟩, s9⟩ := hs
  have hts : ∀ w ∈ g_good, w.before args s = true := fun w hw => B.2.2.2.2.2.2.1 w (List.mem_filter.mp hw).1 (List.mem_filter.mp hw).2
  have ok : ∀ w ∈ lw_tbl, goodWord w = true → w.before args s = true := B.2.2.2.2.2.2.1
  have hG : GoodIn g_good (g_wsH M') := by
    intro w hw
    rcases List.mem_cons.mp hw with rfl | hw
    · exact ⟨List.mem_filter.mpr ⟨s1, rfl⟩, good_of_word rfl⟩
    · exact ⟨hw, good_of_word (List.mem_filter.mp hw).2⟩
  have hc : Cond.codeWith (m_y M') (m_cc M') (m_nL M') (m_ret M') (m_h M') ∈ g_wsH M' := List.mem_cons_self
  have cw : vx_CSW (m_R M) s args (m_y M).cls idx (m_y M') (m_cc M') (m_nL M') (m_ret M') (m_h M') (g_wsH M') (m_R M') (m_R M').cells (m_R M').slots nA := by
    refine ⟨⟨rfl, rfl, Nat.le_of_ble_eq_true s6, Nat.le_of_ble_eq_true s7, pay_in hts hG, hc⟩, ok _ s1 rfl, ok _ s2 rfl, ⟨s3, s4⟩, fun sig h => ?_, ok _ s9 rfl, ok _ s8 rfl⟩
    rw [h] at s5
    exact (Option.some.inj s5).symm
  have hrun := vx_runSW (As := As) (rest := st) (H := H) (locs := locs) (cells := k) (slots := n) (below := below) (meth := meth) (e := e) (g := F0 m pc A stk) (cc := m_cc M) (nL := m_nL M) (index := idx) (Ts := g_good) (own := (m_y M).cls) ⟨B.1, B.2.1, B.2.2.1, B.2.2.2.2.2.1, hts⟩ hC cw ⟨g_blind, fun U hU hW => ⟨rfl, by rw [hU]; exact (B.2.2.2.2.2.2.2.1.warm hW (fun a ha hna => hS.2.1 a ha hna)), by rw [hU]; exact hM⟩⟩ rfl hlen hl.1 hstk (lv_room (Nat.le_of_ble_eq_true hst)) hg ⟨hk, hsl⟩
  intro T hT X
  obtain ⟨v, st₀, t, T', L1, h0, X', hL, e1, e2, ⟨hv, ⟨n', hM'⟩, hz, hq⟩, stp⟩ := hrun T hT X
  cases hv
  rw [h0] at hz hq
  have q := kk n' r hr p e s m args below meth c T'.heap (locs ++ L1) A B hl (by rw [e1]; exact hM') ⟨Nat.le_trans hS.1 (by rw [e1]; exact hz), fun q h1 h2 => by
      have hqb : q < g_b G := Nat.not_le.mp h2
      rw [e1, hq q hqb]; exact hS.2.1 q h1 h2, fun q hq => by
      rcases List.mem_append.mp hq with h | h
      · exact hS.2.2 q h
      · exact hL q h⟩
  rw [hn] at q
  obtain ⟨t2, a1, b1⟩ := q T' rfl X'
  exact ⟨t2, stp t2 a1, b1⟩
end GXW
end
section
/-! String constants: the members of String that the claim calls, over the five words of the grammar -/
def M_J3_checkIndex_8e157 : gMt := (yJ3_checkIndex_8e157, cJ3_checkIndex_8e157, 3, (some .int), { frames := 0, cells := 0, slots := 0, locals := 0 }, [(0, .iload_n 0, 1, 0, 0), (1, .ifCond .lt 8, 4, 9, 0), (4, .iload_n 0, 5, 0, 0), (5, .iload_n 1, 6, 0, 0), (6, .if_icmp .lt 10, 9, 16, 0), (9, .aload_n 2, 10, 0, 0), (10, .iload_n 0, 11, 0, 0), (11, .iload_n 1, 12, 0, 0), (12, .invokestatic 95, 15, 0, 0), (15, .athrow, 16, 0, 0), (16, .iload_n 0, 17, 0, 0), (17, .ireturn, 18, 0, 0)], [])
theorem ok_J3_checkIndex_8e157 : g_ok M_J3_checkIndex_8e157 := by
  show (m_code M_J3_checkIndex_8e157).all (g_ent M_J3_checkIndex_8e157) = true
  decide +kernel
def M_J0_checkIndex_df160 : gMt := (yJ0_checkIndex_df160, cJ0_checkIndex_df160, 2, none, { frames := 1, cells := 0, slots := 0, locals := 22 }, [(0, .iload_n 0, 1, 0, 0), (1, .iload_n 1, 2, 0, 0), (2, .getstatic 1053, 5, 0, 0), (5, .invokestatic 1059, 8, 0, 0), (8, .pop, 9, 0, 0), (9, .return_, 10, 0, 0)], [])
theorem ok_J0_checkIndex_df160 : g_ok M_J0_checkIndex_df160 := by
  show (m_code M_J0_checkIndex_df160).all (g_ent M_J0_checkIndex_df160) = true
  decide +kernel
def M_J1_charAt_3b067 : gMt := (yJ1_charAt_3b067, cJ1_charAt_3b067, 2, (some .char), { frames := 2, cells := 0, slots := 0, locals := 43 }, [(0, .iload_n 1, 1, 0, 0), (1, .aload_n 0, 2, 0, 0), (2, .arraylength, 3, 0, 0), (3, .invokestatic 9, 6, 0, 0), (6, .aload_n 0, 7, 0, 0), (7, .iload_n 1, 8, 0, 0), (8, .baload, 9, 0, 0), (9, .sipush 255, 12, 0, 0), (12, .iand, 13, 0, 0), (13, .i2c, 14, 0, 0), (14, .ireturn, 15, 0, 0)], [])
theorem ok_J1_charAt_3b067 : g_ok M_J1_charAt_3b067 := by
  show (m_code M_J1_charAt_3b067).all (g_ent M_J1_charAt_3b067) = true
  decide +kernel
def M_J0_isLatin1_aae02 : gMt := (yJ0_isLatin1_aae02, cJ0_isLatin1_aae02, 1, (some .boolean), { frames := 0, cells := 0, slots := 0, locals := 0 }, [(0, .getstatic 38, 3, 0, 0), (3, .ifCond .eq 14, 6, 17, 0), (6, .aload_n 0, 7, 0, 0), (10, .ifCond .ne 7, 13, 17, 0), (13, .iconst 1, 14, 0, 0), (14, .goto 4, 17, 18, 0), (17, .iconst 0, 18, 0, 0), (18, .ireturn, 19, 0, 0)], [])
theorem ok_J0_isLatin1_aae02 : g_ok M_J0_isLatin1_aae02 := by
  show (m_code M_J0_isLatin1_aae02).all (g_ent M_J0_isLatin1_aae02) = true
  decide +kernel
def M_J0_coder_7d493 : gMt := (yJ0_coder_7d493, cJ0_coder_7d493, 1, (some .byte), { frames := 0, cells := 0, slots := 0, locals := 0 }, [(0, .getstatic 38, 3, 0, 0), (3, .ifCond .eq 10, 6, 13, 0), (6, .aload_n 0, 7, 0, 0), (10, .goto 4, 13, 14, 0), (13, .iconst 1, 14, 0, 0), (14, .ireturn, 15, 0, 0)], [])
theorem ok_J0_coder_7d493 : g_ok M_J0_coder_7d493 := by
  show (m_code M_J0_coder_7d493).all (g_ent M_J0_coder_7d493) = true
  decide +kernel
def M_J0_length_8abf5 : gMt := (yJ0_length_8abf5, cJ0_length_8abf5, 1, (some .int), { frames := 1, cells := 0, slots := 0, locals := 20 }, [(0, .aload_n 0, 1, 0, 0), (4, .arraylength, 5, 0, 0), (5, .aload_n 0, 6, 0, 0), (6, .invokevirtual 335, 9, 0, 0), (9, .ishr, 10, 0, 0), (10, .ireturn, 11, 0, 0)], [])
theorem ok_J0_length_8abf5 : g_ok M_J0_length_8abf5 := by
  show (m_code M_J0_length_8abf5).all (g_ent M_J0_length_8abf5) = true
  decide +kernel
def M_J0_charAt_5068e : gMt := (yJ0_charAt_5068e, cJ0_charAt_5068e, 2, (some .char), { frames := 3, cells := 0, slots := 0, locals := 64 }, [(0, .aload_n 0, 1, 0, 0), (1, .invokevirtual 492, 4, 0, 0), (4, .ifCond .eq 12, 7, 16, 0), (7, .aload_n 0, 8, 0, 0), (11, .iload_n 1, 12, 0, 0), (12, .invokestatic 495, 15, 0, 0), (15, .ireturn, 16, 0, 0), (16, .aload_n 0, 17, 0, 0), (20, .iload_n 1, 21, 0, 0), (21, .invokestatic 498, 24, 0, 0), (24, .ireturn, 25, 0, 0)], [])
theorem ok_J0_charAt_5068e : g_ok M_J0_charAt_5068e := by
  show (m_code M_J0_charAt_5068e).all (g_ent M_J0_charAt_5068e) = true
  decide +kernel
section GXK
variable {α : Type} {l : Launch} {G : gG} {M : gMt} {Φ : α → Method → Code → State → Array Value → List Frame → State → Prop} {k n pc nx x1 x2 : Nat} {L : List (Option Value)} {st stk : List Value} {h : gH} {F : Option α}
theorem X_gstat {idx : Nat} {C nm ds : String} {v : Value} (hd : g_lk (m_code M) pc = some (.getstatic idx, nx, x1, x2)) (hn : nx = pc + 3) (hw : Cond.fieldLink (m_y M).cls idx C nm ds ∈ lw_tbl) (hZ : ∀ s : State, g_K G s s.heap → va_Z C nm ds v (g_A G) s s.heap) (kk : GX l G M Φ k n nx L (v :: st) h F) : GX l G M Φ k n pc L st h F := by
  intro r hr p e s m args below meth c H locs A B hl hM hS
  have hg := g_dec B.2.2.2.2.2.2.2.2.2 hd hn
  have q := kk r hr p e s m args below meth c H locs A B hl hM hS
  rw [hn] at q
  exact va_gets B.1 B.2.1 (hZ s B.2.2.2.2.2.2.2.1) hS B.2.2.2.2.2.1 (B.2.2.2.2.2.2.1 _ hw rfl) (fun _ h => h) hg q
theorem X_gstatQ {idx : Nat} {C nm ds : String} (hd : g_lk (m_code M) pc = some (.getstatic idx, nx, x1, x2)) (hn : nx = pc + 3) (hw : Cond.fieldLink (m_y M).cls idx C nm ds ∈ lw_tbl) (hZ : ∀ s : State, g_K G s s.heap → va_Zq C nm ds (g_A G) s s.heap) (kk : ∀ x, GX l G M Φ k n nx L (va_rf x :: st) h F) : GX l G M Φ k n pc L st h F := by
  intro r hr p e s m args below meth c H locs A B hl hM hS
  have hg := g_dec B.2.2.2.2.2.2.2.2.2 hd hn
  rcases hZ s B.2.2.2.2.2.2.2.1 with hz | ⟨t, hz⟩
  · have q := kk none r hr p e s m args below meth c H locs A B hl hM hS
    rw [hn] at q
    exact va_gets B.1 B.2.1 hz hS B.2.2.2.2.2.1 (B.2.2.2.2.2.2.1 _ hw rfl) (fun _ h => h) hg q
  · have q := kk (some t) r hr p e s m args below meth c H locs A B hl hM hS
    rw [hn] at q
    exact va_gets B.1 B.2.1 hz hS B.2.2.2.2.2.1 (B.2.2.2.2.2.2.1 _ hw rfl) (fun _ h => h) hg q
theorem X_sval {idx i : Nat} (hg : decode (m_cc M) pc = .ok (.getfield idx, 3)) (hi : i < 24) (hw : Cond.fieldLink (m_y M).cls idx "java/lang/String" "value" "[B" ∈ lw_tbl) (kk : GX l G M Φ k n (pc + 3) L (.ref (g_aV G i) :: st) h F) : GX l G M Φ k n pc L (.ref (g_aK G i) :: st) h F := by
  intro r hr p e s m args below meth c H locs A B hl hM hS
  have q := kk r hr p e s m args below meth c H locs A B hl hM hS
  exact vk_getf B.1 B.2.1 (B.2.2.2.2.2.2.2.1.2.2.2.1.1 i hi).2.2.1 hS B.2.2.2.2.2.1 (B.2.2.2.2.2.2.1 _ hw rfl) (fun _ h => h) hg q
theorem X_scod {idx i : Nat} (hg : decode (m_cc M) pc = .ok (.getfield idx, 3)) (hi : i < 24) (hw : Cond.fieldLink (m_y M).cls idx "java/lang/String" "coder" "B" ∈ lw_tbl) (kk : GX l G M Φ k n (pc + 3) L (.int 0 :: st) h F) : GX l G M Φ k n pc L (.ref (g_aK G i) :: st) h F := by
  intro r hr p e s m args below meth c H locs A B hl hM hS
  have q := kk r hr p e s m args below meth c H locs A B hl hM hS
  exact vk_getf B.1 B.2.1 (B.2.2.2.2.2.2.2.1.2.2.2.1.1 i hi).2.1 hS B.2.2.2.2.2.1 (B.2.2.2.2.2.2.1 _ hw rfl) (fun _ h => h) hg q
theorem X_slna {i : Nat} (hd : g_lk (m_code M) pc = some (.arraylength, nx, x1, x2)) (hn : nx = pc + 1) (hi : i < 24) (kk : GX l G M Φ k n nx L (.int (Int32.ofNat (g_len.getD i 0)) :: st) h F) : GX l G M Φ k n pc L (.ref (g_aV G i) :: st) h F := by
  intro r hr p e s m args below meth c H locs A B hl hM hS
  have hg := g_dec B.2.2.2.2.2.2.2.2.2 hd hn
  have q := kk r hr p e s m args below meth c H locs A B hl hM hS
  rw [hn] at q
  exact va_tlen B.1 B.2.1 (B.2.2.2.2.2.2.2.1.2.2.2.1.1 i hi).2.2.2 hS rfl hg q
theorem X_sbld {i : Nat} {j : Int32} (hd : g_lk (m_code M) pc = some (.baload, nx, x1, x2)) (hn : nx = pc + 1) (hi : i < 24) (hin : vp_in j (g_len.getD i 0)) (kk : GX l G M Φ k n nx L (.int ((g_byt.getD i []).getD j.toNatClampNeg 0) :: st) h F) : GX l G M Φ k n pc L (.int j :: .ref (g_aV G i) :: st) h F := by
  intro r hr p e s m args below meth c H locs A B hl hM hS
  have hg := g_dec B.2.2.2.2.2.2.2.2.2 hd hn
  have q := kk r hr p e s m args below meth c H locs A B hl hM hS
  rw [hn] at q
  exact va_tb B.1 B.2.1 (B.2.2.2.2.2.2.2.1.2.2.2.1.1 i hi).2.2.2 hS hin rfl hg q
theorem X_i2c {x v : Int32} (hd : g_lk (m_code M) pc = some (.i2c, nx, x1, x2)) (hn : nx = pc + 1) (hv : (x.toUInt32 % 65536).toInt32 = v) (kk : GX l G M Φ k n nx L (.int v :: st) h F) : GX l G M Φ k n pc L (.int x :: st) h F := by
  intro r hr p e s m args below meth c H locs A B hl hM hS
  have hg := g_dec B.2.2.2.2.2.2.2.2.2 hd hn
  have q := kk r hr p e s m args below meth c H locs A B hl hM hS
  rw [hn] at q
  exact lv_i2c B.1 B.2.1 hg hv q
/-- a call of a member of String on one of the five words -/
theorem X_callK {M' : gMt} {idx nA i : Nat} {As : List Value} {o : Option Value} {h1 : gH} (hd : g_lk (m_code M) pc = some (.invokevirtual idx, nx, x1, x2)) (hn : nx = pc + 3) (hs : g_site M M' (.invokevirtual idx) nA = true) (hlen : As.length = nA) (hstk : stk = As.reverse ++ .ref (g_aK G i) :: st) (hst : Nat.ble ((st.map fun v => v.category).sum) 8 = true) (hi : i < 24) (hcn : (m_y M').cls = "java/lang/String") (hC : Ct l G M' (.ref (g_aK G i) :: As) h o h1) (hk : Nat.ble (k + (m_R M').cells) (m_R M).cells = true) (hsl : Nat.ble (n + (m_R M').slots) (m_R M).slots = true)
    (kk : GX l G M Φ (k + (m_R M').cells) (n + (m_R M').slots) nx L (o.toList ++ st) h1 F) : GX l G M Φ k n pc L stk h F := by
  intro r hr p e s m args below meth c H locs A B hl hM hS
  have hg := g_dec B.2.2.2.2.2.2.2.2.2 hd hn
  unfold g_site at hs
  simp only [Bool.and_eq_true, decide_eq_true_eq] at hs
  obtain ⟨⟨⟨⟨⟨⟨⟨s1, s2⟩, s3⟩, s4⟩, s5⟩, s6⟩, s7⟩, ⟨s8, s10⟩, s9⟩ := hs
  have hts : ∀ w ∈ g_good, w.before args s = true := fun w hw => B.2.2.2.2.2.2.1 w (List.mem_filter.mp hw).1 (List.mem_filter.mp hw).2
  have ok : ∀ w ∈ lw_tbl, goodWord w = true → w.before args s = true := B.2.2.2.2.2.2.1
  have cb := callB_of (R := m_R M) (mc := (m_R M').cells) (ms := (m_R M').slots) (rm := m_R M') nA hts (g_goodIn s1) (ws' := g_good) rfl rfl rfl (ok _ s2 rfl) (ok _ s9 rfl) ⟨s3, s4, s5⟩ ⟨Nat.le_of_ble_eq_true s6, Nat.le_of_ble_eq_true s7⟩
  have hrv := vk_recv (B.2.2.2.2.2.2.2.1.2.2.2.1) hi hS
  rw [← hcn] at hrv
  have hrun := va_runV (As := As) (rest := st) (C := (m_y M').cls) (b := g_aK G i) (H := H) (locs := locs) (cells := k) (slots := n) (below := below) (meth := meth) (e := e) (g := F0 m pc A stk) (cc := m_cc M) (nL := m_nL M) (index := idx) (Ts := g_good) (own := (m_y M).cls) ⟨B.1, B.2.1, B.2.2.1, B.2.2.2.2.2.1, hts⟩ hC ⟨cb, ok _ s8 rfl, ok _ s10 rfl⟩ ⟨g_blind, hrv, fun U hU hW => ⟨rfl, by rw [hU]; exact (B.2.2.2.2.2.2.2.1.warm hW (fun a ha hna => hS.2.1 a ha hna)), by rw [hU]; exact hM⟩⟩ rfl hlen hl.1 hstk (lv_room (Nat.le_of_ble_eq_true hst)) hg ⟨Nat.le_of_ble_eq_true hk, Nat.le_of_ble_eq_true hsl⟩
  intro T hT X
  obtain ⟨v, st₀, t, T', L1, h0, X', hL, e1, e2, ⟨hv, hM', hz, hq⟩, stp⟩ := hrun T hT X
  cases hv
  rw [h0] at hz hq
  have q := kk r hr p e s m args below meth c T'.heap (locs ++ L1) A B hl (by rw [e1]; exact hM') ⟨Nat.le_trans hS.1 (by rw [e1]; exact hz), fun q h1 h2 => by
      have hqb : q < g_b G := Nat.not_le.mp h2
      rw [e1, hq q hqb]; exact hS.2.1 q h1 h2, fun q hq => by
      rcases List.mem_append.mp hq with h | h
      · exact hS.2.2 q h
      · exact hL q h⟩
  rw [hn] at q
  obtain ⟨t2, a1, b1⟩ := q T' rfl X'
  exact ⟨t2, stp t2 a1, b1⟩
end GXK
theorem g_zCS {G : gG} (s : State) (h : g_K G s s.heap) : va_Z "java/lang/String" "COMPACT_STRINGS" "Z" (.int 1) (g_A G) s s.heap := h.2.2.2.2.2.2.1
theorem g_zSF {G : gG} (s : State) (h : g_K G s s.heap) : va_Zq "jdk/internal/util/Preconditions" "SIOOBE_FORMATTER" "Ljava/util/function/BiFunction;" (g_A G) s s.heap := h.2.2.2.2.2.2.2.1
theorem ct_J3_checkIndex_8e157 {l : Launch} {G : gG} {h : gH} {a b : Int32} {x : Option Nat} (h1 : ¬ a < 0) (h2 : a < b) : Ct l G M_J3_checkIndex_8e157 [.int a, .int b, va_rf x] h (some (.int a)) h := by
  refine Ct_of (L := [some (.int a), some (.int b), some (va_rf x)]) ok_J3_checkIndex_8e157 (by decide +kernel) (by cases x <;> rfl) rfl (by cases x <;> rfl) (ρ := g_rI h) (F := some a) ?_ rfl rfl
  refine X_iload_n rfl rfl rfl ?_
  refine X_if_lt rfl rfl (fun c => absurd c h1) (fun _ => ?_)
  refine X_iload_n rfl rfl rfl ?_
  refine X_iload_n rfl rfl rfl ?_
  refine X_icmp_lt rfl rfl (fun _ => ?_) (fun c => absurd h2 c)
  refine X_iload_n rfl rfl rfl ?_
  exact X_iret rfl rfl rfl rfl rfl rfl rfl
theorem ct_J0_checkIndex_df160 {l : Launch} {G : gG} {h : gH} {a b : Int32} (h1 : ¬ a < 0) (h2 : a < b) : Ct l G M_J0_checkIndex_df160 [.int a, .int b] h none h := by
  refine Ct_of (L := [some (.int a), some (.int b)]) ok_J0_checkIndex_df160 (by decide +kernel) rfl rfl rfl (ρ := g_wU) (F := some h) ?_ rfl rfl
  refine X_iload_n rfl rfl rfl ?_
  refine X_iload_n rfl rfl rfl ?_
  refine X_gstatQ (C := "jdk/internal/util/Preconditions") (nm := "SIOOBE_FORMATTER") (ds := "Ljava/util/function/BiFunction;") rfl rfl (by decide +kernel) g_zSF (fun x => ?_)
  refine X_callS (M' := M_J3_checkIndex_8e157) (nA := 3) (As := [.int a, .int b, va_rf x]) (st := []) rfl rfl (by decide +kernel) rfl rfl rfl (ct_J3_checkIndex_8e157 h1 h2) rfl rfl ?_
  refine X_pop rfl rfl rfl ?_
  exact X_vret rfl rfl rfl rfl rfl rfl
theorem g_byt255 : ∀ i, i < 24 → ∀ j, j < g_len.getD i 0 → ((((g_byt.getD i []).getD j 0) &&& 255).toUInt32 % 65536).toInt32 = (g_byt.getD i []).getD j 0 ∧ narrow .char (.int ((g_byt.getD i []).getD j 0)) = .int ((g_byt.getD i []).getD j 0) := by decide +kernel
theorem g_lenS : ∀ i, i < 24 → g_len.getD i 0 < 2 ^ 31 := by decide +kernel
theorem ct_J1_charAt_3b067 {l : Launch} {G : gG} {h : gH} {i : Nat} {j : Int32} (hi : i < 24) (hin : vp_in j (g_len.getD i 0)) : Ct l G M_J1_charAt_3b067 [.ref (g_aV G i), .int j] h (some (.int ((g_byt.getD i []).getD j.toNatClampNeg 0))) h := by
  obtain ⟨j0, hj0, rfl⟩ := vp_in_of hin (g_lenS i hi)
  have hl := g_lenS i hi
  have hcl : (nI j0).toNatClampNeg = j0 := nI_clamp (by omega)
  obtain ⟨e1, e2⟩ := g_byt255 i hi j0 hj0
  refine Ct_of (L := [some (.ref (g_aV G i)), some (.int (nI j0))]) ok_J1_charAt_3b067 (by decide +kernel) rfl rfl rfl (ρ := g_rI h) (F := some ((g_byt.getD i []).getD (nI j0).toNatClampNeg 0)) ?_ rfl rfl
  refine X_iload_n rfl rfl rfl ?_
  refine X_aload_n rfl rfl rfl ?_
  refine X_slna rfl rfl hi ?_
  refine X_callS (M' := M_J0_checkIndex_df160) (nA := 2) (As := [.int (nI j0), .int (Int32.ofNat (g_len.getD i 0))]) (st := []) rfl rfl (by decide +kernel) rfl rfl rfl (ct_J0_checkIndex_df160 (nI_pos (by omega)) (nI_lt hj0 hl)) rfl rfl ?_
  refine X_aload_n rfl rfl rfl ?_
  refine X_iload_n rfl rfl rfl ?_
  refine X_sbld rfl rfl hi hin ?_
  refine X_sipush (v := 255) rfl rfl (by decide) ?_
  refine X_iand rfl rfl ?_
  refine X_i2c (v := (g_byt.getD i []).getD (nI j0).toNatClampNeg 0) rfl rfl (by rw [hcl]; exact e1) ?_
  exact X_iret rfl rfl rfl (by rw [hcl]; exact e2) rfl rfl rfl
theorem ct_J0_isLatin1_aae02 {l : Launch} {G : gG} {h : gH} {i : Nat} (hi : i < 24) : Ct l G M_J0_isLatin1_aae02 [.ref (g_aK G i)] h (some (.int 1)) h := by
  refine Ct_of (L := [some (.ref (g_aK G i))]) ok_J0_isLatin1_aae02 (by decide +kernel) rfl rfl rfl (ρ := g_rI h) (F := some 1) ?_ rfl rfl
  refine X_gstat (C := "java/lang/String") (nm := "COMPACT_STRINGS") (ds := "Z") (v := .int 1) rfl rfl (by decide +kernel) g_zCS ?_
  refine X_if_eq rfl rfl (fun c => absurd c (by decide)) (fun _ => ?_)
  refine X_aload_n rfl rfl rfl ?_
  refine X_scod (idx := 15) (by decide +kernel) hi (by decide +kernel) ?_
  refine X_if_ne rfl rfl (fun c => absurd rfl c) (fun _ => ?_)
  refine X_iconst (v := 1) rfl rfl (by decide) ?_
  refine X_goto rfl rfl ?_
  exact X_iret rfl rfl rfl rfl rfl rfl rfl
theorem ct_J0_coder_7d493 {l : Launch} {G : gG} {h : gH} {i : Nat} (hi : i < 24) : Ct l G M_J0_coder_7d493 [.ref (g_aK G i)] h (some (.int 0)) h := by
  refine Ct_of (L := [some (.ref (g_aK G i))]) ok_J0_coder_7d493 (by decide +kernel) rfl rfl rfl (ρ := g_rI h) (F := some 0) ?_ rfl rfl
  refine X_gstat (C := "java/lang/String") (nm := "COMPACT_STRINGS") (ds := "Z") (v := .int 1) rfl rfl (by decide +kernel) g_zCS ?_
  refine X_if_eq rfl rfl (fun c => absurd c (by decide)) (fun _ => ?_)
  refine X_aload_n rfl rfl rfl ?_
  refine X_scod (idx := 15) (by decide +kernel) hi (by decide +kernel) ?_
  refine X_goto rfl rfl ?_
  exact X_iret rfl rfl rfl rfl rfl rfl rfl
theorem ct_J0_length_8abf5 {l : Launch} {G : gG} {h : gH} {i : Nat} (hi : i < 24) : Ct l G M_J0_length_8abf5 [.ref (g_aK G i)] h (some (.int (Int32.ofNat (g_len.getD i 0)))) h := by
  refine Ct_of (L := [some (.ref (g_aK G i))]) ok_J0_length_8abf5 (by decide +kernel) rfl rfl rfl (ρ := g_rI h) (F := some (Int32.ofNat (g_len.getD i 0))) ?_ rfl rfl
  refine X_aload_n rfl rfl rfl ?_
  refine X_sval (idx := 9) (by decide +kernel) hi (by decide +kernel) ?_
  refine X_slna rfl rfl hi ?_
  refine X_aload_n rfl rfl rfl ?_
  refine X_callK (M' := M_J0_coder_7d493) (nA := 0) (i := i) (As := []) (st := [.int (Int32.ofNat (g_len.getD i 0))]) rfl rfl (by decide +kernel) rfl rfl rfl hi rfl (ct_J0_coder_7d493 hi) rfl rfl ?_
  refine X_ishr (v := Int32.ofNat (g_len.getD i 0)) rfl rfl (sc_shr0 (g_lenS i hi)) ?_
  exact X_iret rfl rfl rfl rfl rfl rfl rfl
theorem ct_J0_charAt_5068e {l : Launch} {G : gG} {h : gH} {i : Nat} {j : Int32} (hi : i < 24) (hin : vp_in j (g_len.getD i 0)) : Ct l G M_J0_charAt_5068e [.ref (g_aK G i), .int j] h (some (.int ((g_byt.getD i []).getD j.toNatClampNeg 0))) h := by
  have hnar : narrow .char (.int ((g_byt.getD i []).getD j.toNatClampNeg 0)) = .int ((g_byt.getD i []).getD j.toNatClampNeg 0) := by
    obtain ⟨j0, hj0, rfl⟩ := vp_in_of hin (g_lenS i hi)
    have hl := g_lenS i hi
    rw [nI_clamp (by omega)]
    exact (g_byt255 i hi j0 hj0).2
  refine Ct_of (L := [some (.ref (g_aK G i)), some (.int j)]) ok_J0_charAt_5068e (by decide +kernel) rfl rfl rfl (ρ := g_rI h) (F := some ((g_byt.getD i []).getD j.toNatClampNeg 0)) ?_ rfl rfl
  refine X_aload_n rfl rfl rfl ?_
  refine X_callK (M' := M_J0_isLatin1_aae02) (nA := 0) (i := i) (As := []) (st := []) rfl rfl (by decide +kernel) rfl rfl rfl hi rfl (ct_J0_isLatin1_aae02 hi) rfl rfl ?_
  refine X_if_eq rfl rfl (fun c => absurd c (by decide)) (fun _ => ?_)
  refine X_aload_n rfl rfl rfl ?_
  refine X_sval (idx := 9) (by decide +kernel) hi (by decide +kernel) ?_
  refine X_iload_n rfl rfl rfl ?_
  refine X_callS (M' := M_J1_charAt_3b067) (nA := 2) (As := [.ref (g_aV G i), .int j]) (st := []) rfl rfl (by decide +kernel) rfl rfl rfl (ct_J1_charAt_3b067 hi hin) rfl rfl ?_
  exact X_iret rfl rfl rfl hnar rfl rfl rfl
/-- the length of a word of the grammar, a sign of it -/
def g_slen (i : Nat) : Option Int32 := if i < 24 then some (Int32.ofNat (g_len.getD i 0)) else none
def g_sch (i : Nat) (j : Int32) : Option Int32 := if i < 24 then (if j < 0 ∨ g_len.getD i 0 ≤ j.toNatClampNeg then none else some ((g_byt.getD i []).getD j.toNatClampNeg 0)) else none
section GXK2
variable {α : Type} {l : Launch} {G : gG} {M : gMt} {Φ : α → Method → Code → State → Array Value → List Frame → State → Prop} {k n pc nx x1 x2 : Nat} {L : List (Option Value)} {st stk : List Value} {h : gH} {F : Option α}
theorem X_slen {idx i : Nat} {K : Int32 → Option α} (hd : g_lk (m_code M) pc = some (.invokevirtual idx, nx, x1, x2)) (hn : nx = pc + 3) (hs : g_site M M_J0_length_8abf5 (.invokevirtual idx) 0 = true) (hst : Nat.ble ((st.map fun v => v.category).sum) 8 = true) (hk : Nat.ble k (m_R M).cells = true) (hsl : Nat.ble n (m_R M).slots = true) (kk : ∀ v, GX l G M Φ k n nx L (.int v :: st) h (K v)) : GX l G M Φ k n pc L (.ref (g_aK G i) :: st) h ((g_slen i).bind K) := by
  unfold g_slen
  by_cases hi : i < 24
  · rw [if_pos hi]
    exact X_callK (As := []) hd hn hs rfl rfl hst hi rfl (ct_J0_length_8abf5 hi) hk hsl (kk _)
  · rw [if_neg hi]; exact X_none
theorem X_sch {idx i : Nat} {j : Int32} {K : Int32 → Option α} (hd : g_lk (m_code M) pc = some (.invokevirtual idx, nx, x1, x2)) (hn : nx = pc + 3) (hs : g_site M M_J0_charAt_5068e (.invokevirtual idx) 1 = true) (hst : Nat.ble ((st.map fun v => v.category).sum) 8 = true) (hk : Nat.ble k (m_R M).cells = true) (hsl : Nat.ble n (m_R M).slots = true) (kk : ∀ v, GX l G M Φ k n nx L (.int v :: st) h (K v)) : GX l G M Φ k n pc L (.int j :: .ref (g_aK G i) :: st) h ((g_sch i j).bind K) := by
  unfold g_sch
  by_cases hi : i < 24
  · rw [if_pos hi]
    by_cases hj : j < 0 ∨ g_len.getD i 0 ≤ j.toNatClampNeg
    · rw [if_pos hj]; exact X_none
    · rw [if_neg hj]
      exact X_callK (As := [.int j]) hd hn hs rfl rfl hst hi rfl (ct_J0_charAt_5068e hi hj) hk hsl (kk _)
  · rw [if_neg hi]; exact X_none
end GXK2
end
