/-! the World -/
def RW : Type := Nat × Nat × Option Nat × Nat × Int32 × Int32 × Int32 × Int32 × Int32 × RMs × RCh × RCh × RKp × RKp × RMi × (Nat → RMs)
def RW.mk (time : Nat) (told : Nat) (way : Option Nat) (fsize : Nat) (limit : Int32) (sent : Int32) (lost : Int32) (garbled : Int32) (given : Int32) (no : RMs) (c0 : RCh) (c1 : RCh) (k0 : RKp) (k1 : RKp) (mi : RMi) (ms : Nat → RMs) : RW := (time, told, way, fsize, limit, sent, lost, garbled, given, no, c0, c1, k0, k1, mi, ms)
def RW.time (R : RW) : Nat := R.1
def RW.told (R : RW) : Nat := R.2.1
def RW.way (R : RW) : Option Nat := R.2.2.1
def RW.fsize (R : RW) : Nat := R.2.2.2.1
def RW.limit (R : RW) : Int32 := R.2.2.2.2.1
def RW.sent (R : RW) : Int32 := R.2.2.2.2.2.1
def RW.lost (R : RW) : Int32 := R.2.2.2.2.2.2.1
def RW.garbled (R : RW) : Int32 := R.2.2.2.2.2.2.2.1
def RW.given (R : RW) : Int32 := R.2.2.2.2.2.2.2.2.1
def RW.no (R : RW) : RMs := R.2.2.2.2.2.2.2.2.2.1
def RW.c0 (R : RW) : RCh := R.2.2.2.2.2.2.2.2.2.2.1
def RW.c1 (R : RW) : RCh := R.2.2.2.2.2.2.2.2.2.2.2.1
def RW.k0 (R : RW) : RKp := R.2.2.2.2.2.2.2.2.2.2.2.2.1
def RW.k1 (R : RW) : RKp := R.2.2.2.2.2.2.2.2.2.2.2.2.2.1
def RW.mi (R : RW) : RMi := R.2.2.2.2.2.2.2.2.2.2.2.2.2.2.1
def RW.ms (R : RW) : Nat → RMs := R.2.2.2.2.2.2.2.2.2.2.2.2.2.2.2
def RW.s_time (R : RW) (v : Nat) : RW := RW.mk v R.told R.way R.fsize R.limit R.sent R.lost R.garbled R.given R.no R.c0 R.c1 R.k0 R.k1 R.mi R.ms
theorem RW_u_time (R : RW) (v : Nat) : R.s_time v = RW.mk v R.told R.way R.fsize R.limit R.sent R.lost R.garbled R.given R.no R.c0 R.c1 R.k0 R.k1 R.mi R.ms := rfl
def RW.s_told (R : RW) (v : Nat) : RW := RW.mk R.time v R.way R.fsize R.limit R.sent R.lost R.garbled R.given R.no R.c0 R.c1 R.k0 R.k1 R.mi R.ms
theorem RW_u_told (R : RW) (v : Nat) : R.s_told v = RW.mk R.time v R.way R.fsize R.limit R.sent R.lost R.garbled R.given R.no R.c0 R.c1 R.k0 R.k1 R.mi R.ms := rfl
def RW.s_way (R : RW) (v : Option Nat) : RW := RW.mk R.time R.told v R.fsize R.limit R.sent R.lost R.garbled R.given R.no R.c0 R.c1 R.k0 R.k1 R.mi R.ms
theorem RW_u_way (R : RW) (v : Option Nat) : R.s_way v = RW.mk R.time R.told v R.fsize R.limit R.sent R.lost R.garbled R.given R.no R.c0 R.c1 R.k0 R.k1 R.mi R.ms := rfl
def RW.s_fsize (R : RW) (v : Nat) : RW := RW.mk R.time R.told R.way v R.limit R.sent R.lost R.garbled R.given R.no R.c0 R.c1 R.k0 R.k1 R.mi R.ms
theorem RW_u_fsize (R : RW) (v : Nat) : R.s_fsize v = RW.mk R.time R.told R.way v R.limit R.sent R.lost R.garbled R.given R.no R.c0 R.c1 R.k0 R.k1 R.mi R.ms := rfl
def RW.s_limit (R : RW) (v : Int32) : RW := RW.mk R.time R.told R.way R.fsize v R.sent R.lost R.garbled R.given R.no R.c0 R.c1 R.k0 R.k1 R.mi R.ms
theorem RW_u_limit (R : RW) (v : Int32) : R.s_limit v = RW.mk R.time R.told R.way R.fsize v R.sent R.lost R.garbled R.given R.no R.c0 R.c1 R.k0 R.k1 R.mi R.ms := rfl
def RW.s_sent (R : RW) (v : Int32) : RW := RW.mk R.time R.told R.way R.fsize R.limit v R.lost R.garbled R.given R.no R.c0 R.c1 R.k0 R.k1 R.mi R.ms
theorem RW_u_sent (R : RW) (v : Int32) : R.s_sent v = RW.mk R.time R.told R.way R.fsize R.limit v R.lost R.garbled R.given R.no R.c0 R.c1 R.k0 R.k1 R.mi R.ms := rfl
def RW.s_lost (R : RW) (v : Int32) : RW := RW.mk R.time R.told R.way R.fsize R.limit R.sent v R.garbled R.given R.no R.c0 R.c1 R.k0 R.k1 R.mi R.ms
theorem RW_u_lost (R : RW) (v : Int32) : R.s_lost v = RW.mk R.time R.told R.way R.fsize R.limit R.sent v R.garbled R.given R.no R.c0 R.c1 R.k0 R.k1 R.mi R.ms := rfl
def RW.s_garbled (R : RW) (v : Int32) : RW := RW.mk R.time R.told R.way R.fsize R.limit R.sent R.lost v R.given R.no R.c0 R.c1 R.k0 R.k1 R.mi R.ms
theorem RW_u_garbled (R : RW) (v : Int32) : R.s_garbled v = RW.mk R.time R.told R.way R.fsize R.limit R.sent R.lost v R.given R.no R.c0 R.c1 R.k0 R.k1 R.mi R.ms := rfl
def RW.s_given (R : RW) (v : Int32) : RW := RW.mk R.time R.told R.way R.fsize R.limit R.sent R.lost R.garbled v R.no R.c0 R.c1 R.k0 R.k1 R.mi R.ms
theorem RW_u_given (R : RW) (v : Int32) : R.s_given v = RW.mk R.time R.told R.way R.fsize R.limit R.sent R.lost R.garbled v R.no R.c0 R.c1 R.k0 R.k1 R.mi R.ms := rfl
def RW.s_no (R : RW) (v : RMs) : RW := RW.mk R.time R.told R.way R.fsize R.limit R.sent R.lost R.garbled R.given v R.c0 R.c1 R.k0 R.k1 R.mi R.ms
theorem RW_u_no (R : RW) (v : RMs) : R.s_no v = RW.mk R.time R.told R.way R.fsize R.limit R.sent R.lost R.garbled R.given v R.c0 R.c1 R.k0 R.k1 R.mi R.ms := rfl
def RW.s_c0 (R : RW) (v : RCh) : RW := RW.mk R.time R.told R.way R.fsize R.limit R.sent R.lost R.garbled R.given R.no v R.c1 R.k0 R.k1 R.mi R.ms
theorem RW_u_c0 (R : RW) (v : RCh) : R.s_c0 v = RW.mk R.time R.told R.way R.fsize R.limit R.sent R.lost R.garbled R.given R.no v R.c1 R.k0 R.k1 R.mi R.ms := rfl
def RW.s_c1 (R : RW) (v : RCh) : RW := RW.mk R.time R.told R.way R.fsize R.limit R.sent R.lost R.garbled R.given R.no R.c0 v R.k0 R.k1 R.mi R.ms
theorem RW_u_c1 (R : RW) (v : RCh) : R.s_c1 v = RW.mk R.time R.told R.way R.fsize R.limit R.sent R.lost R.garbled R.given R.no R.c0 v R.k0 R.k1 R.mi R.ms := rfl
def RW.s_k0 (R : RW) (v : RKp) : RW := RW.mk R.time R.told R.way R.fsize R.limit R.sent R.lost R.garbled R.given R.no R.c0 R.c1 v R.k1 R.mi R.ms
theorem RW_u_k0 (R : RW) (v : RKp) : R.s_k0 v = RW.mk R.time R.told R.way R.fsize R.limit R.sent R.lost R.garbled R.given R.no R.c0 R.c1 v R.k1 R.mi R.ms := rfl
def RW.s_k1 (R : RW) (v : RKp) : RW := RW.mk R.time R.told R.way R.fsize R.limit R.sent R.lost R.garbled R.given R.no R.c0 R.c1 R.k0 v R.mi R.ms
theorem RW_u_k1 (R : RW) (v : RKp) : R.s_k1 v = RW.mk R.time R.told R.way R.fsize R.limit R.sent R.lost R.garbled R.given R.no R.c0 R.c1 R.k0 v R.mi R.ms := rfl
def RW.s_mi (R : RW) (v : RMi) : RW := RW.mk R.time R.told R.way R.fsize R.limit R.sent R.lost R.garbled R.given R.no R.c0 R.c1 R.k0 R.k1 v R.ms
theorem RW_u_mi (R : RW) (v : RMi) : R.s_mi v = RW.mk R.time R.told R.way R.fsize R.limit R.sent R.lost R.garbled R.given R.no R.c0 R.c1 R.k0 R.k1 v R.ms := rfl
def RW.s_ms (R : RW) (v : Nat → RMs) : RW := RW.mk R.time R.told R.way R.fsize R.limit R.sent R.lost R.garbled R.given R.no R.c0 R.c1 R.k0 R.k1 R.mi v
theorem RW_u_ms (R : RW) (v : Nat → RMs) : R.s_ms v = RW.mk R.time R.told R.way R.fsize R.limit R.sent R.lost R.garbled R.given R.no R.c0 R.c1 R.k0 R.k1 R.mi v := rfl
theorem RW_time (time : Nat) (told : Nat) (way : Option Nat) (fsize : Nat) (limit : Int32) (sent : Int32) (lost : Int32) (garbled : Int32) (given : Int32) (no : RMs) (c0 : RCh) (c1 : RCh) (k0 : RKp) (k1 : RKp) (mi : RMi) (ms : Nat → RMs) : (RW.mk time told way fsize limit sent lost garbled given no c0 c1 k0 k1 mi ms).time = time := rfl
theorem RW_told (time : Nat) (told : Nat) (way : Option Nat) (fsize : Nat) (limit : Int32) (sent : Int32) (lost : Int32) (garbled : Int32) (given : Int32) (no : RMs) (c0 : RCh) (c1 : RCh) (k0 : RKp) (k1 : RKp) (mi : RMi) (ms : Nat → RMs) : (RW.mk time told way fsize limit sent lost garbled given no c0 c1 k0 k1 mi ms).told = told := rfl
theorem RW_way (time : Nat) (told : Nat) (way : Option Nat) (fsize : Nat) (limit : Int32) (sent : Int32) (lost : Int32) (garbled : Int32) (given : Int32) (no : RMs) (c0 : RCh) (c1 : RCh) (k0 : RKp) (k1 : RKp) (mi : RMi) (ms : Nat → RMs) : (RW.mk time told way fsize limit sent lost garbled given no c0 c1 k0 k1 mi ms).way = way := rfl
theorem RW_fsize (time : Nat) (told : Nat) (way : Option Nat) (fsize : Nat) (limit : Int32) (sent : Int32) (lost : Int32) (garbled : Int32) (given : Int32) (no : RMs) (c0 : RCh) (c1 : RCh) (k0 : RKp) (k1 : RKp) (mi : RMi) (ms : Nat → RMs) : (RW.mk time told way fsize limit sent lost garbled given no c0 c1 k0 k1 mi ms).fsize = fsize := rfl
theorem RW_limit (time : Nat) (told : Nat) (way : Option Nat) (fsize : Nat) (limit : Int32) (sent : Int32) (lost : Int32) (garbled : Int32) (given : Int32) (no : RMs) (c0 : RCh) (c1 : RCh) (k0 : RKp) (k1 : RKp) (mi : RMi) (ms : Nat → RMs) : (RW.mk time told way fsize limit sent lost garbled given no c0 c1 k0 k1 mi ms).limit = limit := rfl
theorem RW_sent (time : Nat) (told : Nat) (way : Option Nat) (fsize : Nat) (limit : Int32) (sent : Int32) (lost : Int32) (garbled : Int32) (given : Int32) (no : RMs) (c0 : RCh) (c1 : RCh) (k0 : RKp) (k1 : RKp) (mi : RMi) (ms : Nat → RMs) : (RW.mk time told way fsize limit sent lost garbled given no c0 c1 k0 k1 mi ms).sent = sent := rfl
theorem RW_lost (time : Nat) (told : Nat) (way : Option Nat) (fsize : Nat) (limit : Int32) (sent : Int32) (lost : Int32) (garbled : Int32) (given : Int32) (no : RMs) (c0 : RCh) (c1 : RCh) (k0 : RKp) (k1 : RKp) (mi : RMi) (ms : Nat → RMs) : (RW.mk time told way fsize limit sent lost garbled given no c0 c1 k0 k1 mi ms).lost = lost := rfl
theorem RW_garbled (time : Nat) (told : Nat) (way : Option Nat) (fsize : Nat) (limit : Int32) (sent : Int32) (lost : Int32) (garbled : Int32) (given : Int32) (no : RMs) (c0 : RCh) (c1 : RCh) (k0 : RKp) (k1 : RKp) (mi : RMi) (ms : Nat → RMs) : (RW.mk time told way fsize limit sent lost garbled given no c0 c1 k0 k1 mi ms).garbled = garbled := rfl
theorem RW_given (time : Nat) (told : Nat) (way : Option Nat) (fsize : Nat) (limit : Int32) (sent : Int32) (lost : Int32) (garbled : Int32) (given : Int32) (no : RMs) (c0 : RCh) (c1 : RCh) (k0 : RKp) (k1 : RKp) (mi : RMi) (ms : Nat → RMs) : (RW.mk time told way fsize limit sent lost garbled given no c0 c1 k0 k1 mi ms).given = given := rfl
theorem RW_no (time : Nat) (told : Nat) (way : Option Nat) (fsize : Nat) (limit : Int32) (sent : Int32) (lost : Int32) (garbled : Int32) (given : Int32) (no : RMs) (c0 : RCh) (c1 : RCh) (k0 : RKp) (k1 : RKp) (mi : RMi) (ms : Nat → RMs) : (RW.mk time told way fsize limit sent lost garbled given no c0 c1 k0 k1 mi ms).no = no := rfl
theorem RW_c0 (time : Nat) (told : Nat) (way : Option Nat) (fsize : Nat) (limit : Int32) (sent : Int32) (lost : Int32) (garbled : Int32) (given : Int32) (no : RMs) (c0 : RCh) (c1 : RCh) (k0 : RKp) (k1 : RKp) (mi : RMi) (ms : Nat → RMs) : (RW.mk time told way fsize limit sent lost garbled given no c0 c1 k0 k1 mi ms).c0 = c0 := rfl
theorem RW_c1 (time : Nat) (told : Nat) (way : Option Nat) (fsize : Nat) (limit : Int32) (sent : Int32) (lost : Int32) (garbled : Int32) (given : Int32) (no : RMs) (c0 : RCh) (c1 : RCh) (k0 : RKp) (k1 : RKp) (mi : RMi) (ms : Nat → RMs) : (RW.mk time told way fsize limit sent lost garbled given no c0 c1 k0 k1 mi ms).c1 = c1 := rfl
theorem RW_k0 (time : Nat) (told : Nat) (way : Option Nat) (fsize : Nat) (limit : Int32) (sent : Int32) (lost : Int32) (garbled : Int32) (given : Int32) (no : RMs) (c0 : RCh) (c1 : RCh) (k0 : RKp) (k1 : RKp) (mi : RMi) (ms : Nat → RMs) : (RW.mk time told way fsize limit sent lost garbled given no c0 c1 k0 k1 mi ms).k0 = k0 := rfl
theorem RW_k1 (time : Nat) (told : Nat) (way : Option Nat) (fsize : Nat) (limit : Int32) (sent : Int32) (lost : Int32) (garbled : Int32) (given : Int32) (no : RMs) (c0 : RCh) (c1 : RCh) (k0 : RKp) (k1 : RKp) (mi : RMi) (ms : Nat → RMs) : (RW.mk time told way fsize limit sent lost garbled given no c0 c1 k0 k1 mi ms).k1 = k1 := rfl
theorem RW_mi (time : Nat) (told : Nat) (way : Option Nat) (fsize : Nat) (limit : Int32) (sent : Int32) (lost : Int32) (garbled : Int32) (given : Int32) (no : RMs) (c0 : RCh) (c1 : RCh) (k0 : RKp) (k1 : RKp) (mi : RMi) (ms : Nat → RMs) : (RW.mk time told way fsize limit sent lost garbled given no c0 c1 k0 k1 mi ms).mi = mi := rfl
theorem RW_ms (time : Nat) (told : Nat) (way : Option Nat) (fsize : Nat) (limit : Int32) (sent : Int32) (lost : Int32) (garbled : Int32) (given : Int32) (no : RMs) (c0 : RCh) (c1 : RCh) (k0 : RKp) (k1 : RKp) (mi : RMi) (ms : Nat → RMs) : (RW.mk time told way fsize limit sent lost garbled given no c0 c1 k0 k1 mi ms).ms = ms := rfl
theorem RW_eta (R : RW) : RW.mk R.time R.told R.way R.fsize R.limit R.sent R.lost R.garbled R.given R.no R.c0 R.c1 R.k0 R.k1 R.mi R.ms = R := rfl
theorem RW_s : (∀ (time : Nat) (told : Nat) (way : Option Nat) (fsize : Nat) (limit : Int32) (sent : Int32) (lost : Int32) (garbled : Int32) (given : Int32) (no : RMs) (c0 : RCh) (c1 : RCh) (k0 : RKp) (k1 : RKp) (mi : RMi) (ms : Nat → RMs), (RW.mk time told way fsize limit sent lost garbled given no c0 c1 k0 k1 mi ms).time = time) ∧ (∀ (time : Nat) (told : Nat) (way : Option Nat) (fsize : Nat) (limit : Int32) (sent : Int32) (lost : Int32) (garbled : Int32) (given : Int32) (no : RMs) (c0 : RCh) (c1 : RCh) (k0 : RKp) (k1 : RKp) (mi : RMi) (ms : Nat → RMs), (RW.mk time told way fsize limit sent lost garbled given no c0 c1 k0 k1 mi ms).told = told) ∧ (∀ (time : Nat) (told : Nat) (way : Option Nat) (fsize : Nat) (limit : Int32) (sent : Int32) (lost : Int32) (garbled : Int32) (given : Int32) (no : RMs) (c0 : RCh) (c1 : RCh) (k0 : RKp) (k1 : RKp) (mi : RMi) (ms : Nat → RMs), (RW.mk time told way fsize limit sent lost garbled given no c0 c1 k0 k1 mi ms).way = way) ∧ (∀ (time : Nat) (told : Nat) (way : Option Nat) (fsize : Nat) (limit : Int32) (sent : Int32) (lost : Int32) (garbled : Int32) (given : Int32) (no : RMs) (c0 : RCh) (c1 : RCh) (k0 : RKp) (k1 : RKp) (mi : RMi) (ms : Nat → RMs), (RW.mk time told way fsize limit sent lost garbled given no c0 c1 k0 k1 mi ms).fsize = fsize) ∧ (∀ (time : Nat) (told : Nat) (way : Option Nat) (fsize : Nat) (limit : Int32) (sent : Int32) (lost : Int32) (garbled : Int32) (given : Int32) (no : RMs) (c0 : RCh) (c1 : RCh) (k0 : RKp) (k1 : RKp) (mi : RMi) (ms : Nat → RMs), (RW.mk time told way fsize limit sent lost garbled given no c0 c1 k0 k1 mi ms).limit = limit) ∧ (∀ (time : Nat) (told : Nat) (way : Option Nat) (fsize : Nat) (limit : Int32) (sent : Int32) (lost : Int32) (garbled : Int32) (given : Int32) (no : RMs) (c0 : RCh) (c1 : RCh) (k0 : RKp) (k1 : RKp) (mi : RMi) (ms : Nat → RMs), (RW.mk time told way fsize limit sent lost garbled given no c0 c1 k0 k1 mi ms).sent = sent) ∧ (∀ (time : Nat) (told : Nat) (way : Option Nat) (fsize : Nat) (limit : Int32) (sent : Int32) (lost : Int32) (garbled : Int32) (given : Int32) (no : RMs) (c0 : RCh) (c1 : RCh) (k0 : RKp) (k1 : RKp) (mi : RMi) (ms : Nat → RMs), (RW.mk time told way fsize limit sent lost garbled given no c0 c1 k0 k1 mi ms).lost = lost) ∧ (∀ (time : Nat) (told : Nat) (way : Option Nat) (fsize : Nat) (limit : Int32) (sent : Int32) (lost : Int32) (garbled : Int32) (given : Int32) (no : RMs) (c0 : RCh) (c1 : RCh) (k0 : RKp) (k1 : RKp) (mi : RMi) (ms : Nat → RMs), (RW.mk time told way fsize limit sent lost garbled given no c0 c1 k0 k1 mi ms).garbled = garbled) ∧ (∀ (time : Nat) (told : Nat) (way : Option Nat) (fsize : Nat) (limit : Int32) (sent : Int32) (lost : Int32) (garbled : Int32) (given : Int32) (no : RMs) (c0 : RCh) (c1 : RCh) (k0 : RKp) (k1 : RKp) (mi : RMi) (ms : Nat → RMs), (RW.mk time told way fsize limit sent lost garbled given no c0 c1 k0 k1 mi ms).given = given) ∧ (∀ (time : Nat) (told : Nat) (way : Option Nat) (fsize : Nat) (limit : Int32) (sent : Int32) (lost : Int32) (garbled : Int32) (given : Int32) (no : RMs) (c0 : RCh) (c1 : RCh) (k0 : RKp) (k1 : RKp) (mi : RMi) (ms : Nat → RMs), (RW.mk time told way fsize limit sent lost garbled given no c0 c1 k0 k1 mi ms).no = no) ∧ (∀ (time : Nat) (told : Nat) (way : Option Nat) (fsize : Nat) (limit : Int32) (sent : Int32) (lost : Int32) (garbled : Int32) (given : Int32) (no : RMs) (c0 : RCh) (c1 : RCh) (k0 : RKp) (k1 : RKp) (mi : RMi) (ms : Nat → RMs), (RW.mk time told way fsize limit sent lost garbled given no c0 c1 k0 k1 mi ms).c0 = c0) ∧ (∀ (time : Nat) (told : Nat) (way : Option Nat) (fsize : Nat) (limit : Int32) (sent : Int32) (lost : Int32) (garbled : Int32) (given : Int32) (no : RMs) (c0 : RCh) (c1 : RCh) (k0 : RKp) (k1 : RKp) (mi : RMi) (ms : Nat → RMs), (RW.mk time told way fsize limit sent lost garbled given no c0 c1 k0 k1 mi ms).c1 = c1) ∧ (∀ (time : Nat) (told : Nat) (way : Option Nat) (fsize : Nat) (limit : Int32) (sent : Int32) (lost : Int32) (garbled : Int32) (given : Int32) (no : RMs) (c0 : RCh) (c1 : RCh) (k0 : RKp) (k1 : RKp) (mi : RMi) (ms : Nat → RMs), (RW.mk time told way fsize limit sent lost garbled given no c0 c1 k0 k1 mi ms).k0 = k0) ∧ (∀ (time : Nat) (told : Nat) (way : Option Nat) (fsize : Nat) (limit : Int32) (sent : Int32) (lost : Int32) (garbled : Int32) (given : Int32) (no : RMs) (c0 : RCh) (c1 : RCh) (k0 : RKp) (k1 : RKp) (mi : RMi) (ms : Nat → RMs), (RW.mk time told way fsize limit sent lost garbled given no c0 c1 k0 k1 mi ms).k1 = k1) ∧ (∀ (time : Nat) (told : Nat) (way : Option Nat) (fsize : Nat) (limit : Int32) (sent : Int32) (lost : Int32) (garbled : Int32) (given : Int32) (no : RMs) (c0 : RCh) (c1 : RCh) (k0 : RKp) (k1 : RKp) (mi : RMi) (ms : Nat → RMs), (RW.mk time told way fsize limit sent lost garbled given no c0 c1 k0 k1 mi ms).mi = mi) ∧ (∀ (time : Nat) (told : Nat) (way : Option Nat) (fsize : Nat) (limit : Int32) (sent : Int32) (lost : Int32) (garbled : Int32) (given : Int32) (no : RMs) (c0 : RCh) (c1 : RCh) (k0 : RKp) (k1 : RKp) (mi : RMi) (ms : Nat → RMs), (RW.mk time told way fsize limit sent lost garbled given no c0 c1 k0 k1 mi ms).ms = ms) ∧ (∀ (R : RW) (v : Nat), R.s_time v = RW.mk v R.told R.way R.fsize R.limit R.sent R.lost R.garbled R.given R.no R.c0 R.c1 R.k0 R.k1 R.mi R.ms) ∧ (∀ (R : RW) (v : Nat), R.s_told v = RW.mk R.time v R.way R.fsize R.limit R.sent R.lost R.garbled R.given R.no R.c0 R.c1 R.k0 R.k1 R.mi R.ms) ∧ (∀ (R : RW) (v : Option Nat), R.s_way v = RW.mk R.time R.told v R.fsize R.limit R.sent R.lost R.garbled R.given R.no R.c0 R.c1 R.k0 R.k1 R.mi R.ms) ∧ (∀ (R : RW) (v : Nat), R.s_fsize v = RW.mk R.time R.told R.way v R.limit R.sent R.lost R.garbled R.given R.no R.c0 R.c1 R.k0 R.k1 R.mi R.ms) ∧ (∀ (R : RW) (v : Int32), R.s_limit v = RW.mk R.time R.told R.way R.fsize v R.sent R.lost R.garbled R.given R.no R.c0 R.c1 R.k0 R.k1 R.mi R.ms) ∧ (∀ (R : RW) (v : Int32), R.s_sent v = RW.mk R.time R.told R.way R.fsize R.limit v R.lost R.garbled R.given R.no R.c0 R.c1 R.k0 R.k1 R.mi R.ms) ∧ (∀ (R : RW) (v : Int32), R.s_lost v = RW.mk R.time R.told R.way R.fsize R.limit R.sent v R.garbled R.given R.no R.c0 R.c1 R.k0 R.k1 R.mi R.ms) ∧ (∀ (R : RW) (v : Int32), R.s_garbled v = RW.mk R.time R.told R.way R.fsize R.limit R.sent R.lost v R.given R.no R.c0 R.c1 R.k0 R.k1 R.mi R.ms) ∧ (∀ (R : RW) (v : Int32), R.s_given v = RW.mk R.time R.told R.way R.fsize R.limit R.sent R.lost R.garbled v R.no R.c0 R.c1 R.k0 R.k1 R.mi R.ms) ∧ (∀ (R : RW) (v : RMs), R.s_no v = RW.mk R.time R.told R.way R.fsize R.limit R.sent R.lost R.garbled R.given v R.c0 R.c1 R.k0 R.k1 R.mi R.ms) ∧ (∀ (R : RW) (v : RCh), R.s_c0 v = RW.mk R.time R.told R.way R.fsize R.limit R.sent R.lost R.garbled R.given R.no v R.c1 R.k0 R.k1 R.mi R.ms) ∧ (∀ (R : RW) (v : RCh), R.s_c1 v = RW.mk R.time R.told R.way R.fsize R.limit R.sent R.lost R.garbled R.given R.no R.c0 v R.k0 R.k1 R.mi R.ms) ∧ (∀ (R : RW) (v : RKp), R.s_k0 v = RW.mk R.time R.told R.way R.fsize R.limit R.sent R.lost R.garbled R.given R.no R.c0 R.c1 v R.k1 R.mi R.ms) ∧ (∀ (R : RW) (v : RKp), R.s_k1 v = RW.mk R.time R.told R.way R.fsize R.limit R.sent R.lost R.garbled R.given R.no R.c0 R.c1 R.k0 v R.mi R.ms) ∧ (∀ (R : RW) (v : RMi), R.s_mi v = RW.mk R.time R.told R.way R.fsize R.limit R.sent R.lost R.garbled R.given R.no R.c0 R.c1 R.k0 R.k1 v R.ms) ∧ (∀ (R : RW) (v : Nat → RMs), R.s_ms v = RW.mk R.time R.told R.way R.fsize R.limit R.sent R.lost R.garbled R.given R.no R.c0 R.c1 R.k0 R.k1 R.mi v) ∧ (∀ R : RW, RW.mk R.time R.told R.way R.fsize R.limit R.sent R.lost R.garbled R.given R.no R.c0 R.c1 R.k0 R.k1 R.mi R.ms = R) := ⟨RW_time, RW_told, RW_way, RW_fsize, RW_limit, RW_sent, RW_lost, RW_garbled, RW_given, RW_no, RW_c0, RW_c1, RW_k0, RW_k1, RW_mi, RW_ms, RW_u_time, RW_u_told, RW_u_way, RW_u_fsize, RW_u_limit, RW_u_sent, RW_u_lost, RW_u_garbled, RW_u_given, RW_u_no, RW_u_c0, RW_u_c1, RW_u_k0, RW_u_k1, RW_u_mi, RW_u_ms, RW_eta⟩
def wdO (w : Nat) (R : RW) : gC := .inr (6, [.int (nI R.time), .int (nI R.told), .int (oI R.way), .int (nI R.fsize), .int R.limit, .int R.sent, .int R.lost, .int R.garbled, .int R.given, .ref (w + 1), .ref (w + 2), .ref (w + 7), .ref (w + 9), .ref (w + 11), .ref (w + 14), .ref (w + 17)])
def wdA (w : Nat) : gC := .inl (4, 8, .inr (.inr (.inr (.inr fun i => if i < 8 then some (w + 21 + 5 * i) else none))))
def wdC (w : Nat) (R : RW) (j : Nat) : Option gC :=
  if j = 0 then some (wdO w R) else if j = 1 then some (wdA w) else
  if j < 7 then msC (w + 2) R.no (j - 2) else if j < 9 then chC (w + 7) R.c0 (j - 7) else if j < 11 then chC (w + 9) R.c1 (j - 9) else
  if j < 14 then kpC (w + 11) R.k0 (j - 11) else if j < 17 then kpC (w + 14) R.k1 (j - 14) else if j < 21 then miC (w + 17) R.mi (j - 17) else
  msC (w + 21 + 5 * ((j - 21) / 5)) (R.ms ((j - 21) / 5)) ((j - 21) % 5)
def wdP (h : gH) (w : Nat) (R : RW) : gH := (h.1, fun q => if w ≤ q ∧ q < w + 61 then wdC w R (q - w) else h.2 q)
def wdIs (h : gH) (w : Nat) (R : RW) : Prop := ∀ j, j < 61 → h.2 (w + j) = wdC w R j
theorem wdP_in (h : gH) (w : Nat) (R : RW) {j : Nat} (hj : j < 61) : (wdP h w R).2 (w + j) = wdC w R j := by
  simp only [RCh_s, RKp_s, RMs_s, RMi_s, RW_s, wdP]
  rw [if_pos ⟨by omega, by omega⟩, Nat.add_sub_cancel_left]
theorem wdP_out (h : gH) (w : Nat) (R : RW) {q : Nat} (hq : q < w ∨ w + 61 ≤ q) : (wdP h w R).2 q = h.2 q := by
  simp only [RCh_s, RKp_s, RMs_s, RMi_s, RW_s, wdP]
  rw [if_neg (by omega)]
theorem wdP_is (h : gH) (w : Nat) (R : RW) : wdIs (wdP h w R) w R := fun _ hj => wdP_in h w R hj
theorem wdP_self {h : gH} {w : Nat} {R : RW} (H : wdIs h w R) : wdP h w R = h := by
  refine Prod.ext rfl (funext fun q => ?_)
  simp only [RCh_s, RKp_s, RMs_s, RMi_s, RW_s, wdP]
  split
  · rename_i c
    rw [← H (q - w) (by omega), show w + (q - w) = q by omega]
  · rfl
theorem wdP_P (h : gH) (w : Nat) (R R' : RW) : wdP (wdP h w R) w R' = wdP h w R' := by
  refine Prod.ext rfl (funext fun q => ?_)
  simp only [RCh_s, RKp_s, RMs_s, RMi_s, RW_s, wdP]
  split <;> rfl
/-- two heaps are one, where both are outside as h and inside the same -/
theorem wdP_eq {h x : gH} {w : Nat} {R : RW} (h1 : x.1 = h.1) (h2 : ∀ j, j < 61 → x.2 (w + j) = wdC w R j) (h3 : ∀ q, q < w ∨ w + 61 ≤ q → x.2 q = h.2 q) : x = wdP h w R := by
  refine Prod.ext h1 (funext fun q => ?_)
  by_cases c : w ≤ q ∧ q < w + 61
  · obtain ⟨j, rfl⟩ := Nat.exists_eq_add_of_le c.1
    rw [wdP_in h w R (by omega), h2 j (by omega)]
  · rw [wdP_out h w R (by omega), h3 q (by omega)]
theorem wd0 (h : gH) (w : Nat) (R : RW) : (wdP h w R).2 w = some (wdO w R) := wdP_in h w R (j := 0) (by decide)
theorem wdP_g (h : gH) (w : Nat) (R : RW) : g_is (wdP h w R) w 6 = true := by simp [RCh_s, RKp_s, RMs_s, RMi_s, RW_s, bI_t, bI_f, oI_none, oI_some, SIM_m40, g_is, wd0, wdO]
theorem wdA1 (h : gH) (w : Nat) (R : RW) : (wdP h w R).2 (w + 1) = some (wdA w) := wdP_in h w R (j := 1) (by decide)
theorem wdL (h : gH) (w : Nat) (R : RW) : g_aln (wdP h w R) (w + 1) = some 8 := by
  rw [alnQ_of (t := 4) (n := 8) (wdA1 h w R)]
  decide
theorem wdQ (h : gH) (w : Nat) (R : RW) {i : Nat} (hi : i < 8) : g_qld (wdP h w R) (w + 1) 4 (nI i) = some (some (w + 21 + 5 * i)) := by
  rw [qld_of (wdA1 h w R) hi (by decide), if_pos hi]
theorem wdG_time (h : gH) (w : Nat) (R : RW) : g_gI (wdP h w R) w 6 0 = some (nI R.time) := gI_of (wd0 h w R) rfl
theorem wdT_time (h : gH) (w : Nat) (R : RW) (v : Nat) : g_put (wdP h w R) w 6 0 (.int (nI v)) = some (wdP h w (RW.mk v R.told R.way R.fsize R.limit R.sent R.lost R.garbled R.given R.no R.c0 R.c1 R.k0 R.k1 R.mi R.ms)) := by
  rw [put_of (wd0 h w R) (by simp [RCh_s, RKp_s, RMs_s, RMi_s, RW_s, bI_t, bI_f, oI_none, oI_some, SIM_m40])]
  refine congrArg some (wdP_eq rfl (fun j hj => ?_) (fun q hq => ?_))
  · by_cases c : j = 0
    · subst c; exact set_at
    · rw [set_ne (by omega), wdP_in h w R hj]
      simp only [RCh_s, RKp_s, RMs_s, RMi_s, RW_s, wdC, c, if_false]
  · rw [set_ne (by omega), wdP_out h w R hq]
theorem wdG_told (h : gH) (w : Nat) (R : RW) : g_gI (wdP h w R) w 6 1 = some (nI R.told) := gI_of (wd0 h w R) rfl
theorem wdT_told (h : gH) (w : Nat) (R : RW) (v : Nat) : g_put (wdP h w R) w 6 1 (.int (nI v)) = some (wdP h w (RW.mk R.time v R.way R.fsize R.limit R.sent R.lost R.garbled R.given R.no R.c0 R.c1 R.k0 R.k1 R.mi R.ms)) := by
  rw [put_of (wd0 h w R) (by simp [RCh_s, RKp_s, RMs_s, RMi_s, RW_s, bI_t, bI_f, oI_none, oI_some, SIM_m40])]
  refine congrArg some (wdP_eq rfl (fun j hj => ?_) (fun q hq => ?_))
  · by_cases c : j = 0
    · subst c; exact set_at
    · rw [set_ne (by omega), wdP_in h w R hj]
      simp only [RCh_s, RKp_s, RMs_s, RMi_s, RW_s, wdC, c, if_false]
  · rw [set_ne (by omega), wdP_out h w R hq]
theorem wdG_way (h : gH) (w : Nat) (R : RW) : g_gI (wdP h w R) w 6 2 = some (oI R.way) := gI_of (wd0 h w R) rfl
theorem wdT_way (h : gH) (w : Nat) (R : RW) (v : Option Nat) : g_put (wdP h w R) w 6 2 (.int (oI v)) = some (wdP h w (RW.mk R.time R.told v R.fsize R.limit R.sent R.lost R.garbled R.given R.no R.c0 R.c1 R.k0 R.k1 R.mi R.ms)) := by
  rw [put_of (wd0 h w R) (by simp [RCh_s, RKp_s, RMs_s, RMi_s, RW_s, bI_t, bI_f, oI_none, oI_some, SIM_m40])]
  refine congrArg some (wdP_eq rfl (fun j hj => ?_) (fun q hq => ?_))
  · by_cases c : j = 0
    · subst c; exact set_at
    · rw [set_ne (by omega), wdP_in h w R hj]
      simp only [RCh_s, RKp_s, RMs_s, RMi_s, RW_s, wdC, c, if_false]
  · rw [set_ne (by omega), wdP_out h w R hq]
theorem wdG_fsize (h : gH) (w : Nat) (R : RW) : g_gI (wdP h w R) w 6 3 = some (nI R.fsize) := gI_of (wd0 h w R) rfl
theorem wdT_fsize (h : gH) (w : Nat) (R : RW) (v : Nat) : g_put (wdP h w R) w 6 3 (.int (nI v)) = some (wdP h w (RW.mk R.time R.told R.way v R.limit R.sent R.lost R.garbled R.given R.no R.c0 R.c1 R.k0 R.k1 R.mi R.ms)) := by
  rw [put_of (wd0 h w R) (by simp [RCh_s, RKp_s, RMs_s, RMi_s, RW_s, bI_t, bI_f, oI_none, oI_some, SIM_m40])]
  refine congrArg some (wdP_eq rfl (fun j hj => ?_) (fun q hq => ?_))
  · by_cases c : j = 0
    · subst c; exact set_at
    · rw [set_ne (by omega), wdP_in h w R hj]
      simp only [RCh_s, RKp_s, RMs_s, RMi_s, RW_s, wdC, c, if_false]
  · rw [set_ne (by omega), wdP_out h w R hq]
theorem wdG_limit (h : gH) (w : Nat) (R : RW) : g_gI (wdP h w R) w 6 4 = some (R.limit) := gI_of (wd0 h w R) rfl
theorem wdT_limit (h : gH) (w : Nat) (R : RW) (v : Int32) : g_put (wdP h w R) w 6 4 (.int (v)) = some (wdP h w (RW.mk R.time R.told R.way R.fsize v R.sent R.lost R.garbled R.given R.no R.c0 R.c1 R.k0 R.k1 R.mi R.ms)) := by
  rw [put_of (wd0 h w R) (by simp [RCh_s, RKp_s, RMs_s, RMi_s, RW_s, bI_t, bI_f, oI_none, oI_some, SIM_m40])]
  refine congrArg some (wdP_eq rfl (fun j hj => ?_) (fun q hq => ?_))
  · by_cases c : j = 0
    · subst c; exact set_at
    · rw [set_ne (by omega), wdP_in h w R hj]
      simp only [RCh_s, RKp_s, RMs_s, RMi_s, RW_s, wdC, c, if_false]
  · rw [set_ne (by omega), wdP_out h w R hq]
theorem wdG_sent (h : gH) (w : Nat) (R : RW) : g_gI (wdP h w R) w 6 5 = some (R.sent) := gI_of (wd0 h w R) rfl
theorem wdT_sent (h : gH) (w : Nat) (R : RW) (v : Int32) : g_put (wdP h w R) w 6 5 (.int (v)) = some (wdP h w (RW.mk R.time R.told R.way R.fsize R.limit v R.lost R.garbled R.given R.no R.c0 R.c1 R.k0 R.k1 R.mi R.ms)) := by
  rw [put_of (wd0 h w R) (by simp [RCh_s, RKp_s, RMs_s, RMi_s, RW_s, bI_t, bI_f, oI_none, oI_some, SIM_m40])]
  refine congrArg some (wdP_eq rfl (fun j hj => ?_) (fun q hq => ?_))
  · by_cases c : j = 0
    · subst c; exact set_at
    · rw [set_ne (by omega), wdP_in h w R hj]
      simp only [RCh_s, RKp_s, RMs_s, RMi_s, RW_s, wdC, c, if_false]
  · rw [set_ne (by omega), wdP_out h w R hq]
theorem wdG_lost (h : gH) (w : Nat) (R : RW) : g_gI (wdP h w R) w 6 6 = some (R.lost) := gI_of (wd0 h w R) rfl
theorem wdT_lost (h : gH) (w : Nat) (R : RW) (v : Int32) : g_put (wdP h w R) w 6 6 (.int (v)) = some (wdP h w (RW.mk R.time R.told R.way R.fsize R.limit R.sent v R.garbled R.given R.no R.c0 R.c1 R.k0 R.k1 R.mi R.ms)) := by
  rw [put_of (wd0 h w R) (by simp [RCh_s, RKp_s, RMs_s, RMi_s, RW_s, bI_t, bI_f, oI_none, oI_some, SIM_m40])]
  refine congrArg some (wdP_eq rfl (fun j hj => ?_) (fun q hq => ?_))
  · by_cases c : j = 0
    · subst c; exact set_at
    · rw [set_ne (by omega), wdP_in h w R hj]
      simp only [RCh_s, RKp_s, RMs_s, RMi_s, RW_s, wdC, c, if_false]
  · rw [set_ne (by omega), wdP_out h w R hq]
theorem wdG_garbled (h : gH) (w : Nat) (R : RW) : g_gI (wdP h w R) w 6 7 = some (R.garbled) := gI_of (wd0 h w R) rfl
theorem wdT_garbled (h : gH) (w : Nat) (R : RW) (v : Int32) : g_put (wdP h w R) w 6 7 (.int (v)) = some (wdP h w (RW.mk R.time R.told R.way R.fsize R.limit R.sent R.lost v R.given R.no R.c0 R.c1 R.k0 R.k1 R.mi R.ms)) := by
  rw [put_of (wd0 h w R) (by simp [RCh_s, RKp_s, RMs_s, RMi_s, RW_s, bI_t, bI_f, oI_none, oI_some, SIM_m40])]
  refine congrArg some (wdP_eq rfl (fun j hj => ?_) (fun q hq => ?_))
  · by_cases c : j = 0
    · subst c; exact set_at
    · rw [set_ne (by omega), wdP_in h w R hj]
      simp only [RCh_s, RKp_s, RMs_s, RMi_s, RW_s, wdC, c, if_false]
  · rw [set_ne (by omega), wdP_out h w R hq]
theorem wdG_given (h : gH) (w : Nat) (R : RW) : g_gI (wdP h w R) w 6 8 = some (R.given) := gI_of (wd0 h w R) rfl
theorem wdT_given (h : gH) (w : Nat) (R : RW) (v : Int32) : g_put (wdP h w R) w 6 8 (.int (v)) = some (wdP h w (RW.mk R.time R.told R.way R.fsize R.limit R.sent R.lost R.garbled v R.no R.c0 R.c1 R.k0 R.k1 R.mi R.ms)) := by
  rw [put_of (wd0 h w R) (by simp [RCh_s, RKp_s, RMs_s, RMi_s, RW_s, bI_t, bI_f, oI_none, oI_some, SIM_m40])]
  refine congrArg some (wdP_eq rfl (fun j hj => ?_) (fun q hq => ?_))
  · by_cases c : j = 0
    · subst c; exact set_at
    · rw [set_ne (by omega), wdP_in h w R hj]
      simp only [RCh_s, RKp_s, RMs_s, RMi_s, RW_s, wdC, c, if_false]
  · rw [set_ne (by omega), wdP_out h w R hq]
theorem wdG_ar (h : gH) (w : Nat) (R : RW) : g_gA (wdP h w R) w 6 9 = some (w + 1) := gA_of (wd0 h w R) rfl
theorem wdG_no (h : gH) (w : Nat) (R : RW) : g_gA (wdP h w R) w 6 10 = some (w + 2) := gA_of (wd0 h w R) rfl
theorem wdG_c0 (h : gH) (w : Nat) (R : RW) : g_gA (wdP h w R) w 6 11 = some (w + 7) := gA_of (wd0 h w R) rfl
theorem wdG_c1 (h : gH) (w : Nat) (R : RW) : g_gA (wdP h w R) w 6 12 = some (w + 9) := gA_of (wd0 h w R) rfl
theorem wdG_k0 (h : gH) (w : Nat) (R : RW) : g_gA (wdP h w R) w 6 13 = some (w + 11) := gA_of (wd0 h w R) rfl
theorem wdG_k1 (h : gH) (w : Nat) (R : RW) : g_gA (wdP h w R) w 6 14 = some (w + 14) := gA_of (wd0 h w R) rfl
theorem wdG_mi (h : gH) (w : Nat) (R : RW) : g_gA (wdP h w R) w 6 15 = some (w + 17) := gA_of (wd0 h w R) rfl
theorem wdI_no {h : gH} {w : Nat} {R : RW} (H : wdIs h w R) : msIs h (w + 2) R.no := by
  refine ⟨H 2 (by decide), H 3 (by decide), H 4 (by decide), H 5 (by decide), H 6 (by decide)⟩
theorem wdU_no (h : gH) (w : Nat) (R : RW) (C : RMs) : msP (wdP h w R) (w + 2) C = wdP h w (RW.mk R.time R.told R.way R.fsize R.limit R.sent R.lost R.garbled R.given C R.c0 R.c1 R.k0 R.k1 R.mi R.ms) := by
  refine wdP_eq rfl (fun j hj => ?_) (fun q hq => ?_)
  · by_cases c : 2 ≤ j ∧ j < 7
    · have : j = 2 ∨ j = 3 ∨ j = 4 ∨ j = 5 ∨ j = 6 := by omega
      rcases this with rfl | rfl | rfl | rfl | rfl
      · simp [RCh_s, RKp_s, RMs_s, RMi_s, RW_s, bI_t, bI_f, oI_none, oI_some, SIM_m40, msP, wdC, msC]
      · simp [RCh_s, RKp_s, RMs_s, RMi_s, RW_s, bI_t, bI_f, oI_none, oI_some, SIM_m40, msP, wdC, msC]
      · simp [RCh_s, RKp_s, RMs_s, RMi_s, RW_s, bI_t, bI_f, oI_none, oI_some, SIM_m40, msP, wdC, msC]
      · simp [RCh_s, RKp_s, RMs_s, RMi_s, RW_s, bI_t, bI_f, oI_none, oI_some, SIM_m40, msP, wdC, msC]
      · simp [RCh_s, RKp_s, RMs_s, RMi_s, RW_s, bI_t, bI_f, oI_none, oI_some, SIM_m40, msP, wdC, msC]
    · rw [msP_ne (by omega) (by omega) (by omega) (by omega) (by omega), wdP_in h w R hj]
      simp only [RCh_s, RKp_s, RMs_s, RMi_s, RW_s, wdC]
      repeat (first | rfl | (split; · first | rfl | omega))
  · rw [msP_ne (by omega) (by omega) (by omega) (by omega) (by omega), wdP_out h w R hq]
theorem wdI_c0 {h : gH} {w : Nat} {R : RW} (H : wdIs h w R) : chIs h (w + 7) R.c0 := by
  refine ⟨H 7 (by decide), H 8 (by decide)⟩
theorem wdU_c0 (h : gH) (w : Nat) (R : RW) (C : RCh) : chP (wdP h w R) (w + 7) C = wdP h w (RW.mk R.time R.told R.way R.fsize R.limit R.sent R.lost R.garbled R.given R.no C R.c1 R.k0 R.k1 R.mi R.ms) := by
  refine wdP_eq rfl (fun j hj => ?_) (fun q hq => ?_)
  · by_cases c : 7 ≤ j ∧ j < 9
    · have : j = 7 ∨ j = 8 := by omega
      rcases this with rfl | rfl
      · simp [RCh_s, RKp_s, RMs_s, RMi_s, RW_s, bI_t, bI_f, oI_none, oI_some, SIM_m40, chP, wdC, chC]
      · simp [RCh_s, RKp_s, RMs_s, RMi_s, RW_s, bI_t, bI_f, oI_none, oI_some, SIM_m40, chP, wdC, chC]
    · rw [chP_ne (by omega) (by omega), wdP_in h w R hj]
      simp only [RCh_s, RKp_s, RMs_s, RMi_s, RW_s, wdC]
      repeat (first | rfl | (split; · first | rfl | omega))
  · rw [chP_ne (by omega) (by omega), wdP_out h w R hq]
theorem wdI_c1 {h : gH} {w : Nat} {R : RW} (H : wdIs h w R) : chIs h (w + 9) R.c1 := by
  refine ⟨H 9 (by decide), H 10 (by decide)⟩
theorem wdU_c1 (h : gH) (w : Nat) (R : RW) (C : RCh) : chP (wdP h w R) (w + 9) C = wdP h w (RW.mk R.time R.told R.way R.fsize R.limit R.sent R.lost R.garbled R.given R.no R.c0 C R.k0 R.k1 R.mi R.ms) := by
  refine wdP_eq rfl (fun j hj => ?_) (fun q hq => ?_)
  · by_cases c : 9 ≤ j ∧ j < 11
    · have : j = 9 ∨ j = 10 := by omega
      rcases this with rfl | rfl
      · simp [RCh_s, RKp_s, RMs_s, RMi_s, RW_s, bI_t, bI_f, oI_none, oI_some, SIM_m40, chP, wdC, chC]
      · simp [RCh_s, RKp_s, RMs_s, RMi_s, RW_s, bI_t, bI_f, oI_none, oI_some, SIM_m40, chP, wdC, chC]
    · rw [chP_ne (by omega) (by omega), wdP_in h w R hj]
      simp only [RCh_s, RKp_s, RMs_s, RMi_s, RW_s, wdC]
      repeat (first | rfl | (split; · first | rfl | omega))
  · rw [chP_ne (by omega) (by omega), wdP_out h w R hq]
theorem wdI_k0 {h : gH} {w : Nat} {R : RW} (H : wdIs h w R) : kpIs h (w + 11) R.k0 := by
  refine ⟨H 11 (by decide), H 12 (by decide), H 13 (by decide)⟩
theorem wdU_k0 (h : gH) (w : Nat) (R : RW) (C : RKp) : kpP (wdP h w R) (w + 11) C = wdP h w (RW.mk R.time R.told R.way R.fsize R.limit R.sent R.lost R.garbled R.given R.no R.c0 R.c1 C R.k1 R.mi R.ms) := by
  refine wdP_eq rfl (fun j hj => ?_) (fun q hq => ?_)
  · by_cases c : 11 ≤ j ∧ j < 14
    · have : j = 11 ∨ j = 12 ∨ j = 13 := by omega
      rcases this with rfl | rfl | rfl
      · simp [RCh_s, RKp_s, RMs_s, RMi_s, RW_s, bI_t, bI_f, oI_none, oI_some, SIM_m40, kpP, wdC, kpC]
      · simp [RCh_s, RKp_s, RMs_s, RMi_s, RW_s, bI_t, bI_f, oI_none, oI_some, SIM_m40, kpP, wdC, kpC]
      · simp [RCh_s, RKp_s, RMs_s, RMi_s, RW_s, bI_t, bI_f, oI_none, oI_some, SIM_m40, kpP, wdC, kpC]
    · rw [kpP_ne (by omega) (by omega) (by omega), wdP_in h w R hj]
      simp only [RCh_s, RKp_s, RMs_s, RMi_s, RW_s, wdC]
      repeat (first | rfl | (split; · first | rfl | omega))
  · rw [kpP_ne (by omega) (by omega) (by omega), wdP_out h w R hq]
theorem wdI_k1 {h : gH} {w : Nat} {R : RW} (H : wdIs h w R) : kpIs h (w + 14) R.k1 := by
  refine ⟨H 14 (by decide), H 15 (by decide), H 16 (by decide)⟩
theorem wdU_k1 (h : gH) (w : Nat) (R : RW) (C : RKp) : kpP (wdP h w R) (w + 14) C = wdP h w (RW.mk R.time R.told R.way R.fsize R.limit R.sent R.lost R.garbled R.given R.no R.c0 R.c1 R.k0 C R.mi R.ms) := by
  refine wdP_eq rfl (fun j hj => ?_) (fun q hq => ?_)
  · by_cases c : 14 ≤ j ∧ j < 17
    · have : j = 14 ∨ j = 15 ∨ j = 16 := by omega
      rcases this with rfl | rfl | rfl
      · simp [RCh_s, RKp_s, RMs_s, RMi_s, RW_s, bI_t, bI_f, oI_none, oI_some, SIM_m40, kpP, wdC, kpC]
      · simp [RCh_s, RKp_s, RMs_s, RMi_s, RW_s, bI_t, bI_f, oI_none, oI_some, SIM_m40, kpP, wdC, kpC]
      · simp [RCh_s, RKp_s, RMs_s, RMi_s, RW_s, bI_t, bI_f, oI_none, oI_some, SIM_m40, kpP, wdC, kpC]
    · rw [kpP_ne (by omega) (by omega) (by omega), wdP_in h w R hj]
      simp only [RCh_s, RKp_s, RMs_s, RMi_s, RW_s, wdC]
      repeat (first | rfl | (split; · first | rfl | omega))
  · rw [kpP_ne (by omega) (by omega) (by omega), wdP_out h w R hq]
theorem wdI_mi {h : gH} {w : Nat} {R : RW} (H : wdIs h w R) : miIs h (w + 17) R.mi := by
  refine ⟨H 17 (by decide), H 18 (by decide), H 19 (by decide), H 20 (by decide)⟩
theorem wdU_mi (h : gH) (w : Nat) (R : RW) (C : RMi) : miP (wdP h w R) (w + 17) C = wdP h w (RW.mk R.time R.told R.way R.fsize R.limit R.sent R.lost R.garbled R.given R.no R.c0 R.c1 R.k0 R.k1 C R.ms) := by
  refine wdP_eq rfl (fun j hj => ?_) (fun q hq => ?_)
  · by_cases c : 17 ≤ j ∧ j < 21
    · have : j = 17 ∨ j = 18 ∨ j = 19 ∨ j = 20 := by omega
      rcases this with rfl | rfl | rfl | rfl
      · simp [RCh_s, RKp_s, RMs_s, RMi_s, RW_s, bI_t, bI_f, oI_none, oI_some, SIM_m40, miP, wdC, miC]
      · simp [RCh_s, RKp_s, RMs_s, RMi_s, RW_s, bI_t, bI_f, oI_none, oI_some, SIM_m40, miP, wdC, miC]
      · simp [RCh_s, RKp_s, RMs_s, RMi_s, RW_s, bI_t, bI_f, oI_none, oI_some, SIM_m40, miP, wdC, miC]
      · simp [RCh_s, RKp_s, RMs_s, RMi_s, RW_s, bI_t, bI_f, oI_none, oI_some, SIM_m40, miP, wdC, miC]
    · rw [miP_ne (by omega) (by omega) (by omega) (by omega), wdP_in h w R hj]
      simp only [RCh_s, RKp_s, RMs_s, RMi_s, RW_s, wdC]
      repeat (first | rfl | (split; · first | rfl | omega))
  · rw [miP_ne (by omega) (by omega) (by omega) (by omega), wdP_out h w R hq]
def updM (f : Nat → RMs) (i : Nat) (M : RMs) : Nat → RMs := fun j => if j = i then M else f j
theorem wdI_ms {h : gH} {w : Nat} {R : RW} (H : wdIs h w R) {i : Nat} (hi : i < 8) : msIs h (w + 21 + 5 * i) (R.ms i) := by
  have k : ∀ t, t < 5 → h.2 (w + 21 + 5 * i + t) = msC (w + 21 + 5 * i) (R.ms i) t := fun t ht => by
    have e : w + 21 + 5 * i + t = w + (21 + 5 * i + t) := by omega
    rw [e, H _ (by omega)]
    unfold wdC
    rw [if_neg (by omega), if_neg (by omega), if_neg (by omega), if_neg (by omega), if_neg (by omega), if_neg (by omega), if_neg (by omega), if_neg (by omega)]
    rw [show (21 + 5 * i + t - 21) / 5 = i by omega, show (21 + 5 * i + t - 21) % 5 = t by omega]
  exact ⟨k 0 (by decide), k 1 (by decide), k 2 (by decide), k 3 (by decide), k 4 (by decide)⟩
theorem wdU_ms (h : gH) (w : Nat) (R : RW) {i : Nat} (hi : i < 8) (M : RMs) : msP (wdP h w R) (w + 21 + 5 * i) M = wdP h w (RW.mk R.time R.told R.way R.fsize R.limit R.sent R.lost R.garbled R.given R.no R.c0 R.c1 R.k0 R.k1 R.mi (updM R.ms i M)) := by
  refine wdP_eq rfl (fun j hj => ?_) (fun q hq => ?_)
  · by_cases c : 21 + 5 * i ≤ j ∧ j < 26 + 5 * i
    · obtain ⟨t, rfl⟩ := Nat.exists_eq_add_of_le c.1
      have ht : t < 5 := by omega
      have k : (msP (wdP h w R) (w + 21 + 5 * i) M).2 (w + 21 + 5 * i + t) = msC (w + 21 + 5 * i) M t := by
        have : t = 0 ∨ t = 1 ∨ t = 2 ∨ t = 3 ∨ t = 4 := by omega
        rcases this with rfl | rfl | rfl | rfl | rfl <;> simp [RCh_s, RKp_s, RMs_s, RMi_s, RW_s, bI_t, bI_f, oI_none, oI_some, SIM_m40, msP, msC]
      rw [show w + (21 + 5 * i + t) = w + 21 + 5 * i + t by omega, k]
      unfold wdC
      rw [if_neg (by omega), if_neg (by omega), if_neg (by omega), if_neg (by omega), if_neg (by omega), if_neg (by omega), if_neg (by omega), if_neg (by omega)]
      rw [show (21 + 5 * i + t - 21) / 5 = i by omega, show (21 + 5 * i + t - 21) % 5 = t by omega]
      simp [RCh_s, RKp_s, RMs_s, RMi_s, RW_s, bI_t, bI_f, oI_none, oI_some, SIM_m40, updM]
    · rw [msP_ne (by omega) (by omega) (by omega) (by omega) (by omega), wdP_in h w R hj]
      simp only [RCh_s, RKp_s, RMs_s, RMi_s, RW_s, wdC]
      repeat (first | rfl | (split; · first | rfl | omega))
      rename_i c1 c2 c3 c4 c5 c6 c7 c8
      have : (j - 21) / 5 ≠ i := by omega
      simp [RCh_s, RKp_s, RMs_s, RMi_s, RW_s, bI_t, bI_f, oI_none, oI_some, SIM_m40, updM, this]
  · rw [msP_ne (by omega) (by omega) (by omega) (by omega) (by omega), wdP_out h w R hq]
theorem SIM_m45 : (∀ (h : gH) (w : Nat) (R R' : RW), wdP (wdP h w R) w R' = wdP h w R') ∧ (∀ (h : gH) (w : Nat) (R : RW), g_is (wdP h w R) w 6 = true) ∧ (∀ (h : gH) (w : Nat) (R : RW), g_aln (wdP h w R) (w + 1) = some 8) ∧ (∀ (h : gH) (w : Nat) (R : RW), g_gI (wdP h w R) w 6 0 = some (nI R.time)) ∧ (∀ (h : gH) (w : Nat) (R : RW) (v : Nat), g_put (wdP h w R) w 6 0 (.int (nI v)) = some (wdP h w (RW.mk v R.told R.way R.fsize R.limit R.sent R.lost R.garbled R.given R.no R.c0 R.c1 R.k0 R.k1 R.mi R.ms))) ∧ (∀ (h : gH) (w : Nat) (R : RW), g_gI (wdP h w R) w 6 1 = some (nI R.told)) ∧ (∀ (h : gH) (w : Nat) (R : RW) (v : Nat), g_put (wdP h w R) w 6 1 (.int (nI v)) = some (wdP h w (RW.mk R.time v R.way R.fsize R.limit R.sent R.lost R.garbled R.given R.no R.c0 R.c1 R.k0 R.k1 R.mi R.ms))) ∧ (∀ (h : gH) (w : Nat) (R : RW), g_gI (wdP h w R) w 6 2 = some (oI R.way)) ∧ (∀ (h : gH) (w : Nat) (R : RW) (v : Option Nat), g_put (wdP h w R) w 6 2 (.int (oI v)) = some (wdP h w (RW.mk R.time R.told v R.fsize R.limit R.sent R.lost R.garbled R.given R.no R.c0 R.c1 R.k0 R.k1 R.mi R.ms))) ∧ (∀ (h : gH) (w : Nat) (R : RW), g_gI (wdP h w R) w 6 3 = some (nI R.fsize)) ∧ (∀ (h : gH) (w : Nat) (R : RW) (v : Nat), g_put (wdP h w R) w 6 3 (.int (nI v)) = some (wdP h w (RW.mk R.time R.told R.way v R.limit R.sent R.lost R.garbled R.given R.no R.c0 R.c1 R.k0 R.k1 R.mi R.ms))) ∧ (∀ (h : gH) (w : Nat) (R : RW), g_gI (wdP h w R) w 6 4 = some (R.limit)) ∧ (∀ (h : gH) (w : Nat) (R : RW) (v : Int32), g_put (wdP h w R) w 6 4 (.int (v)) = some (wdP h w (RW.mk R.time R.told R.way R.fsize v R.sent R.lost R.garbled R.given R.no R.c0 R.c1 R.k0 R.k1 R.mi R.ms))) ∧ (∀ (h : gH) (w : Nat) (R : RW), g_gI (wdP h w R) w 6 5 = some (R.sent)) ∧ (∀ (h : gH) (w : Nat) (R : RW) (v : Int32), g_put (wdP h w R) w 6 5 (.int (v)) = some (wdP h w (RW.mk R.time R.told R.way R.fsize R.limit v R.lost R.garbled R.given R.no R.c0 R.c1 R.k0 R.k1 R.mi R.ms))) ∧ (∀ (h : gH) (w : Nat) (R : RW), g_gI (wdP h w R) w 6 6 = some (R.lost)) ∧ (∀ (h : gH) (w : Nat) (R : RW) (v : Int32), g_put (wdP h w R) w 6 6 (.int (v)) = some (wdP h w (RW.mk R.time R.told R.way R.fsize R.limit R.sent v R.garbled R.given R.no R.c0 R.c1 R.k0 R.k1 R.mi R.ms))) ∧ (∀ (h : gH) (w : Nat) (R : RW), g_gI (wdP h w R) w 6 7 = some (R.garbled)) ∧ (∀ (h : gH) (w : Nat) (R : RW) (v : Int32), g_put (wdP h w R) w 6 7 (.int (v)) = some (wdP h w (RW.mk R.time R.told R.way R.fsize R.limit R.sent R.lost v R.given R.no R.c0 R.c1 R.k0 R.k1 R.mi R.ms))) ∧ (∀ (h : gH) (w : Nat) (R : RW), g_gI (wdP h w R) w 6 8 = some (R.given)) ∧ (∀ (h : gH) (w : Nat) (R : RW) (v : Int32), g_put (wdP h w R) w 6 8 (.int (v)) = some (wdP h w (RW.mk R.time R.told R.way R.fsize R.limit R.sent R.lost R.garbled v R.no R.c0 R.c1 R.k0 R.k1 R.mi R.ms))) ∧ (∀ (h : gH) (w : Nat) (R : RW), g_gA (wdP h w R) w 6 9 = some (w + 1)) ∧ (∀ (h : gH) (w : Nat) (R : RW), g_gA (wdP h w R) w 6 10 = some (w + 2)) ∧ (∀ (h : gH) (w : Nat) (R : RW), g_gA (wdP h w R) w 6 11 = some (w + 7)) ∧ (∀ (h : gH) (w : Nat) (R : RW), g_gA (wdP h w R) w 6 12 = some (w + 9)) ∧ (∀ (h : gH) (w : Nat) (R : RW), g_gA (wdP h w R) w 6 13 = some (w + 11)) ∧ (∀ (h : gH) (w : Nat) (R : RW), g_gA (wdP h w R) w 6 14 = some (w + 14)) ∧ (∀ (h : gH) (w : Nat) (R : RW), g_gA (wdP h w R) w 6 15 = some (w + 17)) := ⟨wdP_P, wdP_g, wdL, wdG_time, wdT_time, wdG_told, wdT_told, wdG_way, wdT_way, wdG_fsize, wdT_fsize, wdG_limit, wdT_limit, wdG_sent, wdT_sent, wdG_lost, wdT_lost, wdG_garbled, wdT_garbled, wdG_given, wdT_given, wdG_ar, wdG_no, wdG_c0, wdG_c1, wdG_k0, wdG_k1, wdG_mi⟩
