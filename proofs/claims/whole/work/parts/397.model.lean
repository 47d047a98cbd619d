def g_wD : UInt64 × gH → Option Value × gH := fun x => (some (.double x.1), x.2)
def f_X8_noMessage_b22 (h : gH) (s0 : Int32) (s1 : Nat) : Option (Int32 × gH) :=
  bif g_is h s1 8 then
  (f_X8_fails h s1 s0 1).bind fun y23 =>
  (g_z y23.1).bind fun z => some (y23.1, y23.2)
  else none
def f_X8_noMessage (h : gH) (a0 : Nat) (p1 : Int32) : Option (Int32 × gH) :=
  (g_gA h a0 8 8).bind fun v4 =>
  (g_ald h v4 1).bind fun v8 =>
  (if (f_X8_in p1 0 (v8 - 1)) = 0 then
    f_X8_noMessage_b22 h 1 a0
  else
    f_X8_noMessage_b22 h 0 a0)
set_option maxRecDepth 100000 in
theorem b_X8_noMessage_b22 {l : Launch} {G : gG} (h : gH) (s0 : Int32) (s1 : Nat) : GX l G M_X8_noMessage (g_phi G g_wI (m_R M_X8_noMessage).cells (m_R M_X8_noMessage).slots) 0 0 22 [none, none] [.int s0, .ref s1] h (f_X8_noMessage_b22 h s0 s1) := by
  unfold f_X8_noMessage_b22
  refine X_iconst (v := 1) rfl rfl (by decide) ?_
  refine X_callV_IW (M' := M_X8_fails) (nA := 2) (As := [.int s0, .int 1]) (st := []) (b := s1) (ci := 8) rfl rfl (by decide +kernel) rfl rfl rfl rfl rfl rfl rfl rfl (fun _ _ e => ct_X8_fails e) (fun y23 => ?_)
  exact X_zret rfl rfl rfl ⟨_, rfl, rfl⟩ rfl rfl
set_option maxRecDepth 100000 in
theorem ct_X8_noMessage {l : Launch} {G : gG} {h : gH} {a0 : Nat} {p1 : Int32} {r : Int32} {h1 : gH} (e : f_X8_noMessage h a0 p1 = some (r, h1)) : Ct l G M_X8_noMessage [.ref a0, .int p1] h (some (.int r)) h1 := by
  refine Ct_of (L := [some (.ref a0), some (.int p1)]) ok_X8_noMessage (by decide +kernel) rfl rfl rfl (ρ := g_wI) (F := f_X8_noMessage h a0 p1) ?_ e rfl
  unfold f_X8_noMessage
  refine X_aload_n rfl rfl rfl ?_
  refine X_iload_n rfl rfl rfl ?_
  refine X_iconst (v := 0) rfl rfl (by decide) ?_
  refine X_aload_n rfl rfl rfl ?_
  refine X_getA rfl rfl (fun v4 => ?_)
  refine X_iconst (v := 1) rfl rfl (by decide) ?_
  refine X_ald rfl rfl (fun v8 => ?_)
  refine X_iconst (v := 1) rfl rfl (by decide) ?_
  refine X_isub rfl rfl ?_
  refine X_callS_IP (v := f_X8_in p1 0 (v8 - 1)) (M' := M_X8_in) (nA := 3) (As := [.int p1, .int 0, .int (v8 - 1)]) (st := [.ref a0]) rfl rfl (by decide +kernel) rfl rfl rfl rfl rfl rfl rfl ct_X8_in ?_
  refine X_bif_ne rfl rfl (fun _ => ?_) (fun _ => ?_)
  · refine X_iconst (v := 1) rfl rfl (by decide) ?_
    refine X_goto rfl rfl ?_
    exact X_sub (g_sub_n (g_sub_n g_sub_0)) (b_X8_noMessage_b22  _ _ _)
  · refine X_iconst (v := 0) rfl rfl (by decide) ?_
    exact X_sub (g_sub_n (g_sub_n g_sub_0)) (b_X8_noMessage_b22  _ _ _)
def f_X8_toldChannel_b35 (h : gH) (s0 : Int32) (s1 : Int32) (s2 : Nat) : Option (Int32) :=
  bif g_is h s2 8 then
  (f_X8_ofChannel h s2 s1 s0).bind fun v35 =>
  some v35
  else none
def f_X8_toldChannel (h : gH) (a0 : Nat) (p1 : Int32) (p2 : Int32) : Option (Int32) :=
  (if p2 = 3 then
    bif g_is h a0 8 then
    (f_X8_isOpen h a0 p1).bind fun v7 =>
    (if v7 = 0 then
      some 0
    else
      some 1)
    else none
  else
    (if p2 < 3 then
      f_X8_toldChannel_b35 h p2 p1 a0
    else
      f_X8_toldChannel_b35 h (p2 - 1) p1 a0))
set_option maxRecDepth 100000 in
theorem b_X8_toldChannel_b35 {l : Launch} {G : gG} {h : gH} (s0 : Int32) (s1 : Int32) (s2 : Nat) : GX l G M_X8_toldChannel (g_phi G (g_rI h) (m_R M_X8_toldChannel).cells (m_R M_X8_toldChannel).slots) 0 0 35 [none, none, none] [.int s0, .int s1, .ref s2] h (f_X8_toldChannel_b35 h s0 s1 s2) := by
  unfold f_X8_toldChannel_b35
  refine X_callV_IR (M' := M_X8_ofChannel) (nA := 2) (As := [.int s1, .int s0]) (st := []) (b := s2) (ci := 8) rfl rfl (by decide +kernel) rfl rfl rfl rfl rfl rfl rfl rfl (fun _ e => ct_X8_ofChannel e) (fun v35 => ?_)
  exact X_iret rfl rfl rfl rfl rfl rfl rfl
set_option maxRecDepth 100000 in
theorem ct_X8_toldChannel {l : Launch} {G : gG} {h : gH} {a0 : Nat} {p1 : Int32} {p2 : Int32} {r : Int32} (e : f_X8_toldChannel h a0 p1 p2 = some r) : Ct l G M_X8_toldChannel [.ref a0, .int p1, .int p2] h (some (.int r)) h := by
  refine Ct_of (L := [some (.ref a0), some (.int p1), some (.int p2)]) ok_X8_toldChannel (by decide +kernel) rfl rfl rfl (ρ := (g_rI h)) (F := f_X8_toldChannel h a0 p1 p2) ?_ e rfl
  unfold f_X8_toldChannel
  refine X_iload_n rfl rfl rfl ?_
  refine X_iconst (v := 3) rfl rfl (by decide) ?_
  refine X_bicmp_ne rfl rfl (fun _ => ?_) (fun _ => ?_)
  · refine X_aload_n rfl rfl rfl ?_
    refine X_iload_n rfl rfl rfl ?_
    refine X_callV_IR (M' := M_X8_isOpen) (nA := 1) (As := [.int p1]) (st := []) (b := a0) (ci := 8) rfl rfl (by decide +kernel) rfl rfl rfl rfl rfl rfl rfl rfl (fun _ e => ct_X8_isOpen e) (fun v7 => ?_)
    refine X_bif_eq rfl rfl (fun _ => ?_) (fun _ => ?_)
    · refine X_iconst (v := 0) rfl rfl (by decide) ?_
      refine X_goto rfl rfl ?_
      exact X_iret rfl rfl rfl rfl rfl rfl rfl
    · refine X_iconst (v := 1) rfl rfl (by decide) ?_
      refine X_goto rfl rfl ?_
      exact X_iret rfl rfl rfl rfl rfl rfl rfl
  · refine X_aload_n rfl rfl rfl ?_
    refine X_iload_n rfl rfl rfl ?_
    refine X_iload_n rfl rfl rfl ?_
    refine X_iconst (v := 3) rfl rfl (by decide) ?_
    refine X_bicmp_ge rfl rfl (fun _ => ?_) (fun _ => ?_)
    · refine X_iload_n rfl rfl rfl ?_
      refine X_goto rfl rfl ?_
      exact X_sub (g_sub_n (g_sub_n (g_sub_n g_sub_0))) (b_X8_toldChannel_b35  _ _ _)
    · refine X_iload_n rfl rfl rfl ?_
      refine X_iconst (v := 1) rfl rfl (by decide) ?_
      refine X_isub rfl rfl ?_
      exact X_sub (g_sub_n (g_sub_n (g_sub_n g_sub_0))) (b_X8_toldChannel_b35  _ _ _)
def f_X8_channel_b35 (h : gH) : Option (Int32 × gH) :=
  some (0, h)
def f_X8_channel_b28 (h : gH) (l0 : Nat) (l1 : Int32) (l2 : Int32) (s0 : Int32) (s1 : Nat) : Option (Int32 × gH) :=
  bif g_is h s1 8 then
  (f_X8_fails h s1 s0 2).bind fun y29 =>
  (if y29.1 = 0 then
    bif g_is y29.2 l0 8 then
    (f_X8_toldChannel y29.2 l0 l1 l2).bind fun v42 =>
    some (v42, y29.2)
    else none
  else
    f_X8_channel_b35 y29.2)
  else none
def f_X8_channel (h : gH) (a0 : Nat) (p1 : Int32) (p2 : Int32) : Option (Int32 × gH) :=
  (g_put h a0 8 0 (.int 0)).bind fun h2 =>
  bif g_is h2 a0 8 then
  (f_X8_noChannel h2 a0 p1).bind fun y7 =>
  (if y7.1 = 0 then
    (if (f_X8_in p2 0 5) = 0 then
      f_X8_channel_b28 y7.2 a0 p1 p2 1 a0
    else
      f_X8_channel_b28 y7.2 a0 p1 p2 0 a0)
  else
    f_X8_channel_b35 y7.2)
  else none
set_option maxRecDepth 100000 in
theorem b_X8_channel_b35 {l : Launch} {G : gG} (h : gH) : GX l G M_X8_channel (g_phi G g_wI (m_R M_X8_channel).cells (m_R M_X8_channel).slots) 0 0 35 [none, none, none] [] h (f_X8_channel_b35 h) := by
  unfold f_X8_channel_b35
  refine X_iconst (v := 0) rfl rfl (by decide) ?_
  refine X_goto rfl rfl ?_
  exact X_iret rfl rfl rfl rfl rfl rfl rfl
set_option maxRecDepth 100000 in
theorem b_X8_channel_b28 {l : Launch} {G : gG} (h : gH) (l0 : Nat) (l1 : Int32) (l2 : Int32) (s0 : Int32) (s1 : Nat) : GX l G M_X8_channel (g_phi G g_wI (m_R M_X8_channel).cells (m_R M_X8_channel).slots) 0 0 28 [some (.ref l0), some (.int l1), some (.int l2)] [.int s0, .ref s1] h (f_X8_channel_b28 h l0 l1 l2 s0 s1) := by
  unfold f_X8_channel_b28
  refine X_iconst (v := 2) rfl rfl (by decide) ?_
  refine X_callV_IW (M' := M_X8_fails) (nA := 2) (As := [.int s0, .int 2]) (st := []) (b := s1) (ci := 8) rfl rfl (by decide +kernel) rfl rfl rfl rfl rfl rfl rfl rfl (fun _ _ e => ct_X8_fails e) (fun y29 => ?_)
  refine X_bif_eq rfl rfl (fun _ => ?_) (fun _ => ?_)
  · refine X_aload_n rfl rfl rfl ?_
    refine X_iload_n rfl rfl rfl ?_
    refine X_iload_n rfl rfl rfl ?_
    refine X_callV_IR (M' := M_X8_toldChannel) (nA := 2) (As := [.int l1, .int l2]) (st := []) (b := l0) (ci := 8) rfl rfl (by decide +kernel) rfl rfl rfl rfl rfl rfl rfl rfl (fun _ e => ct_X8_toldChannel e) (fun v42 => ?_)
    exact X_iret rfl rfl rfl rfl rfl rfl rfl
  · exact X_sub (g_sub_n (g_sub_n (g_sub_n g_sub_0))) (b_X8_channel_b35  _)
set_option maxRecDepth 100000 in
theorem ct_X8_channel {l : Launch} {G : gG} {h : gH} {a0 : Nat} {p1 : Int32} {p2 : Int32} {r : Int32} {h1 : gH} (e : f_X8_channel h a0 p1 p2 = some (r, h1)) : Ct l G M_X8_channel [.ref a0, .int p1, .int p2] h (some (.int r)) h1 := by
  refine Ct_of (L := [some (.ref a0), some (.int p1), some (.int p2)]) ok_X8_channel (by decide +kernel) rfl rfl rfl (ρ := g_wI) (F := f_X8_channel h a0 p1 p2) ?_ e rfl
  unfold f_X8_channel
  refine X_aload_n rfl rfl rfl ?_
  refine X_iconst (v := 0) rfl rfl (by decide) ?_
  refine X_put rfl rfl rfl rfl rfl (fun h2 => ?_)
  refine X_aload_n rfl rfl rfl ?_
  refine X_iload_n rfl rfl rfl ?_
  refine X_callV_IW (M' := M_X8_noChannel) (nA := 1) (As := [.int p1]) (st := []) (b := a0) (ci := 8) rfl rfl (by decide +kernel) rfl rfl rfl rfl rfl rfl rfl rfl (fun _ _ e => ct_X8_noChannel e) (fun y7 => ?_)
  refine X_bif_ne rfl rfl (fun _ => ?_) (fun _ => ?_)
  · refine X_aload_n rfl rfl rfl ?_
    refine X_iload_n rfl rfl rfl ?_
    refine X_iconst (v := 0) rfl rfl (by decide) ?_
    refine X_iconst (v := 5) rfl rfl (by decide) ?_
    refine X_callS_IP (v := f_X8_in p2 0 5) (M' := M_X8_in) (nA := 3) (As := [.int p2, .int 0, .int 5]) (st := [.ref a0]) rfl rfl (by decide +kernel) rfl rfl rfl rfl rfl rfl rfl ct_X8_in ?_
    refine X_bif_ne rfl rfl (fun _ => ?_) (fun _ => ?_)
    · refine X_iconst (v := 1) rfl rfl (by decide) ?_
      refine X_goto rfl rfl ?_
      exact X_sub (g_sub_s (g_sub_s (g_sub_s g_sub_0))) (b_X8_channel_b28  _ _ _ _ _ _)
    · refine X_iconst (v := 0) rfl rfl (by decide) ?_
      exact X_sub (g_sub_s (g_sub_s (g_sub_s g_sub_0))) (b_X8_channel_b28  _ _ _ _ _ _)
  · exact X_sub (g_sub_n (g_sub_n (g_sub_n g_sub_0))) (b_X8_channel_b35  _)
def f_X8_triesOf_b4 (h : gH) : Nat → Nat → Int32 → Int32 → Int32 → Option (Int32)
  | 0, _, _, _, _ => none
  | n + 1, l0, l1, l2, l3 =>
    bif g_is h l0 8 then
    (f_X8_frames h l0 l1).bind fun v7 =>
    (if l3 < v7 then
      bif g_is h l0 8 then
      (f_X8_of h l0 l1 (78 + l3)).bind fun v20 =>
      f_X8_triesOf_b4 h n l0 l1 (l2 + v20) (l3 + 1)
      else none
    else
      some l2)
    else none
def f_X8_triesOf (h : gH) (a0 : Nat) (p1 : Int32) : Option (Int32) :=
  f_X8_triesOf_b4 h g_N a0 p1 0 0
set_option maxRecDepth 100000 in
theorem b_X8_triesOf_b4 {l : Launch} {G : gG} {h : gH} : ∀ (n : Nat) (l0 : Nat) (l1 : Int32) (l2 : Int32) (l3 : Int32), GX l G M_X8_triesOf (g_phi G (g_rI h) (m_R M_X8_triesOf).cells (m_R M_X8_triesOf).slots) 0 0 4 [some (.ref l0), some (.int l1), some (.int l2), some (.int l3)] [] h (f_X8_triesOf_b4 h n l0 l1 l2 l3) := by
  intro n
  induction n with
  | zero => intros; exact X_none
  | succ n ih =>
    intro l0 l1 l2 l3
    rw [f_X8_triesOf_b4]
    refine X_iload_n rfl rfl rfl ?_
    refine X_aload_n rfl rfl rfl ?_
    refine X_iload_n rfl rfl rfl ?_
    refine X_callV_IR (M' := M_X8_frames) (nA := 1) (As := [.int l1]) (st := [.int l3]) (b := l0) (ci := 8) rfl rfl (by decide +kernel) rfl rfl rfl rfl rfl rfl rfl rfl (fun _ e => ct_X8_frames e) (fun v7 => ?_)
    refine X_bicmp_ge rfl rfl (fun _ => ?_) (fun _ => ?_)
    · refine X_iload_n rfl rfl rfl ?_
      refine X_aload_n rfl rfl rfl ?_
      refine X_iload_n rfl rfl rfl ?_
      refine X_bipush (v := 78) rfl rfl (by decide) ?_
      refine X_iload_n rfl rfl rfl ?_
      refine X_iadd rfl rfl ?_
      refine X_callV_IR (M' := M_X8_of) (nA := 2) (As := [.int l1, .int (78 + l3)]) (st := [.int l2]) (b := l0) (ci := 8) rfl rfl (by decide +kernel) rfl rfl rfl rfl rfl rfl rfl rfl (fun _ e => ct_X8_of e) (fun v20 => ?_)
      refine X_iadd rfl rfl ?_
      refine X_istore_n rfl rfl rfl rfl ?_
      refine X_iinc (v := l3 + 1) rfl rfl rfl (congrArg (fun z => l3 + z) (by decide : Int32.ofInt 1 = 1)) rfl ?_
      refine X_goto rfl rfl ?_
      exact X_sub (g_sub_s (g_sub_s (g_sub_s (g_sub_s g_sub_0)))) (ih _ _ _ _)
    · refine X_iload_n rfl rfl rfl ?_
      exact X_iret rfl rfl rfl rfl rfl rfl rfl
set_option maxRecDepth 100000 in
theorem ct_X8_triesOf {l : Launch} {G : gG} {h : gH} {a0 : Nat} {p1 : Int32} {r : Int32} (e : f_X8_triesOf h a0 p1 = some r) : Ct l G M_X8_triesOf [.ref a0, .int p1] h (some (.int r)) h := by
  refine Ct_of (L := [some (.ref a0), some (.int p1), none, none]) ok_X8_triesOf (by decide +kernel) rfl rfl rfl (ρ := (g_rI h)) (F := f_X8_triesOf h a0 p1) ?_ e rfl
  unfold f_X8_triesOf
  refine X_iconst (v := 0) rfl rfl (by decide) ?_
  refine X_istore_n rfl rfl rfl rfl ?_
  refine X_iconst (v := 0) rfl rfl (by decide) ?_
  refine X_istore_n rfl rfl rfl rfl ?_
  exact X_sub (g_sub_s (g_sub_s (g_sub_s (g_sub_s g_sub_0)))) (b_X8_triesOf_b4  _ _ _ _ _)
def f_X8_toldMessage (h : gH) (a0 : Nat) (p1 : Int32) (p2 : Int32) : Option (Int32) :=
  (if p2 = 3 then
    bif g_is h a0 8 then
    (f_X8_frames h a0 p1).bind fun v46 =>
    some v46
    else none
  else
    (if p2 = 4 then
      bif g_is h a0 8 then
      (f_X8_of h a0 p1 3).bind fun v53 =>
      some v53
      else none
    else
      (if p2 = 5 then
        bif g_is h a0 8 then
        (f_X8_wrongs h a0 p1 1).bind fun v60 =>
        some v60
        else none
      else
        (if p2 = 6 then
          bif g_is h a0 8 then
          (f_X8_wrongs h a0 p1 0).bind fun v67 =>
          some v67
          else none
        else
          (if p2 = 7 then
            bif g_is h a0 8 then
            (f_X8_triesOf h a0 p1).bind fun v73 =>
            some v73
            else none
          else
            (if p2 = 8 then
              bif g_is h a0 8 then
              (f_X8_of h a0 p1 4).bind fun v80 =>
              some v80
              else none
            else
              (if p2 = 9 then
                bif g_is h a0 8 then
                (f_X8_of h a0 p1 5).bind fun v87 =>
                some v87
                else none
              else
                bif g_is h a0 8 then
                (f_X8_of h a0 p1 p2).bind fun v94 =>
                some v94
                else none)))))))
set_option maxRecDepth 100000 in
theorem ct_X8_toldMessage {l : Launch} {G : gG} {h : gH} {a0 : Nat} {p1 : Int32} {p2 : Int32} {r : Int32} (e : f_X8_toldMessage h a0 p1 p2 = some r) : Ct l G M_X8_toldMessage [.ref a0, .int p1, .int p2] h (some (.int r)) h := by
  refine Ct_of (L := [some (.ref a0), some (.int p1), some (.int p2)]) ok_X8_toldMessage (by decide +kernel) rfl rfl rfl (ρ := (g_rI h)) (F := f_X8_toldMessage h a0 p1 p2) ?_ e rfl
  unfold f_X8_toldMessage
  refine X_iload_n rfl rfl rfl ?_
  refine X_if (fun c1_0 => ?_) (fun c1_0 => ?_)
  · refine X_tswIn (v := 3) (len := 43) (tgt := 44) (off := 43) rfl rfl c1_0 (by decide) (by decide) rfl rfl ?_
    refine X_aload_n rfl rfl rfl ?_
    refine X_iload_n rfl rfl rfl ?_
    refine X_callV_IR (M' := M_X8_frames) (nA := 1) (As := [.int p1]) (st := []) (b := a0) (ci := 8) rfl rfl (by decide +kernel) rfl rfl rfl rfl rfl rfl rfl rfl (fun _ e => ct_X8_frames e) (fun v46 => ?_)
    exact X_iret rfl rfl rfl rfl rfl rfl rfl
  · refine X_if (fun c1_1 => ?_) (fun c1_1 => ?_)
    · refine X_tswIn (v := 4) (len := 43) (tgt := 50) (off := 49) rfl rfl c1_1 (by decide) (by decide) rfl rfl ?_
      refine X_aload_n rfl rfl rfl ?_
      refine X_iload_n rfl rfl rfl ?_
      refine X_iconst (v := 3) rfl rfl (by decide) ?_
      refine X_callV_IR (M' := M_X8_of) (nA := 2) (As := [.int p1, .int 3]) (st := []) (b := a0) (ci := 8) rfl rfl (by decide +kernel) rfl rfl rfl rfl rfl rfl rfl rfl (fun _ e => ct_X8_of e) (fun v53 => ?_)
      exact X_iret rfl rfl rfl rfl rfl rfl rfl
    · refine X_if (fun c1_2 => ?_) (fun c1_2 => ?_)
      · refine X_tswIn (v := 5) (len := 43) (tgt := 57) (off := 56) rfl rfl c1_2 (by decide) (by decide) rfl rfl ?_
        refine X_aload_n rfl rfl rfl ?_
        refine X_iload_n rfl rfl rfl ?_
        refine X_iconst (v := 1) rfl rfl (by decide) ?_
        refine X_callV_IR (M' := M_X8_wrongs) (nA := 2) (As := [.int p1, .int 1]) (st := []) (b := a0) (ci := 8) rfl rfl (by decide +kernel) rfl rfl rfl rfl rfl rfl rfl rfl (fun _ e => ct_X8_wrongs e) (fun v60 => ?_)
        exact X_iret rfl rfl rfl rfl rfl rfl rfl
      · refine X_if (fun c1_3 => ?_) (fun c1_3 => ?_)
        · refine X_tswIn (v := 6) (len := 43) (tgt := 64) (off := 63) rfl rfl c1_3 (by decide) (by decide) rfl rfl ?_
          refine X_aload_n rfl rfl rfl ?_
          refine X_iload_n rfl rfl rfl ?_
          refine X_iconst (v := 0) rfl rfl (by decide) ?_
          refine X_callV_IR (M' := M_X8_wrongs) (nA := 2) (As := [.int p1, .int 0]) (st := []) (b := a0) (ci := 8) rfl rfl (by decide +kernel) rfl rfl rfl rfl rfl rfl rfl rfl (fun _ e => ct_X8_wrongs e) (fun v67 => ?_)
          exact X_iret rfl rfl rfl rfl rfl rfl rfl
        · refine X_if (fun c1_4 => ?_) (fun c1_4 => ?_)
          · refine X_tswIn (v := 7) (len := 43) (tgt := 71) (off := 70) rfl rfl c1_4 (by decide) (by decide) rfl rfl ?_
            refine X_aload_n rfl rfl rfl ?_
            refine X_iload_n rfl rfl rfl ?_
            refine X_callV_IR (M' := M_X8_triesOf) (nA := 1) (As := [.int p1]) (st := []) (b := a0) (ci := 8) rfl rfl (by decide +kernel) rfl rfl rfl rfl rfl rfl rfl rfl (fun _ e => ct_X8_triesOf e) (fun v73 => ?_)
            exact X_iret rfl rfl rfl rfl rfl rfl rfl
          · refine X_if (fun c1_5 => ?_) (fun c1_5 => ?_)
            · refine X_tswIn (v := 8) (len := 43) (tgt := 77) (off := 76) rfl rfl c1_5 (by decide) (by decide) rfl rfl ?_
              refine X_aload_n rfl rfl rfl ?_
              refine X_iload_n rfl rfl rfl ?_
              refine X_iconst (v := 4) rfl rfl (by decide) ?_
              refine X_callV_IR (M' := M_X8_of) (nA := 2) (As := [.int p1, .int 4]) (st := []) (b := a0) (ci := 8) rfl rfl (by decide +kernel) rfl rfl rfl rfl rfl rfl rfl rfl (fun _ e => ct_X8_of e) (fun v80 => ?_)
              exact X_iret rfl rfl rfl rfl rfl rfl rfl
            · refine X_if (fun c1_6 => ?_) (fun c1_6 => ?_)
              · refine X_tswIn (v := 9) (len := 43) (tgt := 84) (off := 83) rfl rfl c1_6 (by decide) (by decide) rfl rfl ?_
                refine X_aload_n rfl rfl rfl ?_
                refine X_iload_n rfl rfl rfl ?_
                refine X_iconst (v := 5) rfl rfl (by decide) ?_
                refine X_callV_IR (M' := M_X8_of) (nA := 2) (As := [.int p1, .int 5]) (st := []) (b := a0) (ci := 8) rfl rfl (by decide +kernel) rfl rfl rfl rfl rfl rfl rfl rfl (fun _ e => ct_X8_of e) (fun v87 => ?_)
                exact X_iret rfl rfl rfl rfl rfl rfl rfl
              · refine X_tswOut (len := 43) (tgt := 91) rfl rfl (by have := g_neI c1_0 (show Int32.toInt (3) = 3 by decide) ; have := g_neI c1_1 (show Int32.toInt (4) = 4 by decide) ; have := g_neI c1_2 (show Int32.toInt (5) = 5 by decide) ; have := g_neI c1_3 (show Int32.toInt (6) = 6 by decide) ; have := g_neI c1_4 (show Int32.toInt (7) = 7 by decide) ; have := g_neI c1_5 (show Int32.toInt (8) = 8 by decide) ; have := g_neI c1_6 (show Int32.toInt (9) = 9 by decide); omega) rfl ?_
                refine X_aload_n rfl rfl rfl ?_
                refine X_iload_n rfl rfl rfl ?_
                refine X_iload_n rfl rfl rfl ?_
                refine X_callV_IR (M' := M_X8_of) (nA := 2) (As := [.int p1, .int p2]) (st := []) (b := a0) (ci := 8) rfl rfl (by decide +kernel) rfl rfl rfl rfl rfl rfl rfl rfl (fun _ e => ct_X8_of e) (fun v94 => ?_)
                exact X_iret rfl rfl rfl rfl rfl rfl rfl
def f_X8_message_b36 (h : gH) : Option (Int32 × gH) :=
  some (0, h)
def f_X8_message_b29 (h : gH) (l0 : Nat) (l1 : Int32) (l2 : Int32) (s0 : Int32) (s1 : Nat) : Option (Int32 × gH) :=
  bif g_is h s1 8 then
  (f_X8_fails h s1 s0 2).bind fun y30 =>
  (if y30.1 = 0 then
    bif g_is y30.2 l0 8 then
    (f_X8_toldMessage y30.2 l0 l1 l2).bind fun v43 =>
    some (v43, y30.2)
    else none
  else
    f_X8_message_b36 y30.2)
  else none
def f_X8_message (h : gH) (a0 : Nat) (p1 : Int32) (p2 : Int32) : Option (Int32 × gH) :=
  (g_put h a0 8 0 (.int 0)).bind fun h2 =>
  bif g_is h2 a0 8 then
  (f_X8_noMessage h2 a0 p1).bind fun y7 =>
  (if y7.1 = 0 then
    (if (f_X8_in p2 0 9) = 0 then
      f_X8_message_b29 y7.2 a0 p1 p2 1 a0
    else
      f_X8_message_b29 y7.2 a0 p1 p2 0 a0)
  else
    f_X8_message_b36 y7.2)
  else none
set_option maxRecDepth 100000 in
theorem b_X8_message_b36 {l : Launch} {G : gG} (h : gH) : GX l G M_X8_message (g_phi G g_wI (m_R M_X8_message).cells (m_R M_X8_message).slots) 0 0 36 [none, none, none] [] h (f_X8_message_b36 h) := by
  unfold f_X8_message_b36
  refine X_iconst (v := 0) rfl rfl (by decide) ?_
  refine X_goto rfl rfl ?_
  exact X_iret rfl rfl rfl rfl rfl rfl rfl
set_option maxRecDepth 100000 in
theorem b_X8_message_b29 {l : Launch} {G : gG} (h : gH) (l0 : Nat) (l1 : Int32) (l2 : Int32) (s0 : Int32) (s1 : Nat) : GX l G M_X8_message (g_phi G g_wI (m_R M_X8_message).cells (m_R M_X8_message).slots) 0 0 29 [some (.ref l0), some (.int l1), some (.int l2)] [.int s0, .ref s1] h (f_X8_message_b29 h l0 l1 l2 s0 s1) := by
  unfold f_X8_message_b29
  refine X_iconst (v := 2) rfl rfl (by decide) ?_
  refine X_callV_IW (M' := M_X8_fails) (nA := 2) (As := [.int s0, .int 2]) (st := []) (b := s1) (ci := 8) rfl rfl (by decide +kernel) rfl rfl rfl rfl rfl rfl rfl rfl (fun _ _ e => ct_X8_fails e) (fun y30 => ?_)
  refine X_bif_eq rfl rfl (fun _ => ?_) (fun _ => ?_)
  · refine X_aload_n rfl rfl rfl ?_
    refine X_iload_n rfl rfl rfl ?_
    refine X_iload_n rfl rfl rfl ?_
    refine X_callV_IR (M' := M_X8_toldMessage) (nA := 2) (As := [.int l1, .int l2]) (st := []) (b := l0) (ci := 8) rfl rfl (by decide +kernel) rfl rfl rfl rfl rfl rfl rfl rfl (fun _ e => ct_X8_toldMessage e) (fun v43 => ?_)
    exact X_iret rfl rfl rfl rfl rfl rfl rfl
  · exact X_sub (g_sub_n (g_sub_n (g_sub_n g_sub_0))) (b_X8_message_b36  _)
set_option maxRecDepth 100000 in
theorem ct_X8_message {l : Launch} {G : gG} {h : gH} {a0 : Nat} {p1 : Int32} {p2 : Int32} {r : Int32} {h1 : gH} (e : f_X8_message h a0 p1 p2 = some (r, h1)) : Ct l G M_X8_message [.ref a0, .int p1, .int p2] h (some (.int r)) h1 := by
  refine Ct_of (L := [some (.ref a0), some (.int p1), some (.int p2)]) ok_X8_message (by decide +kernel) rfl rfl rfl (ρ := g_wI) (F := f_X8_message h a0 p1 p2) ?_ e rfl
  unfold f_X8_message
  refine X_aload_n rfl rfl rfl ?_
  refine X_iconst (v := 0) rfl rfl (by decide) ?_
  refine X_put rfl rfl rfl rfl rfl (fun h2 => ?_)
  refine X_aload_n rfl rfl rfl ?_
  refine X_iload_n rfl rfl rfl ?_
  refine X_callV_IW (M' := M_X8_noMessage) (nA := 1) (As := [.int p1]) (st := []) (b := a0) (ci := 8) rfl rfl (by decide +kernel) rfl rfl rfl rfl rfl rfl rfl rfl (fun _ _ e => ct_X8_noMessage e) (fun y7 => ?_)
  refine X_bif_ne rfl rfl (fun _ => ?_) (fun _ => ?_)
  · refine X_aload_n rfl rfl rfl ?_
    refine X_iload_n rfl rfl rfl ?_
    refine X_iconst (v := 0) rfl rfl (by decide) ?_
    refine X_bipush (v := 9) rfl rfl (by decide) ?_
    refine X_callS_IP (v := f_X8_in p2 0 9) (M' := M_X8_in) (nA := 3) (As := [.int p2, .int 0, .int 9]) (st := [.ref a0]) rfl rfl (by decide +kernel) rfl rfl rfl rfl rfl rfl rfl ct_X8_in ?_
    refine X_bif_ne rfl rfl (fun _ => ?_) (fun _ => ?_)
    · refine X_iconst (v := 1) rfl rfl (by decide) ?_
      refine X_goto rfl rfl ?_
      exact X_sub (g_sub_s (g_sub_s (g_sub_s g_sub_0))) (b_X8_message_b29  _ _ _ _ _ _)
    · refine X_iconst (v := 0) rfl rfl (by decide) ?_
      exact X_sub (g_sub_s (g_sub_s (g_sub_s g_sub_0))) (b_X8_message_b29  _ _ _ _ _ _)
  · exact X_sub (g_sub_n (g_sub_n (g_sub_n g_sub_0))) (b_X8_message_b36  _)
def f_X8_noLetter_b37 (h : gH) : Option (Int32 × gH) :=
  some (1, h)
def f_X8_noLetter_b30 (h : gH) (s0 : Int32) (s1 : Nat) : Option (Int32 × gH) :=
  bif g_is h s1 8 then
  (f_X8_fails h s1 s0 2).bind fun y31 =>
  (if y31.1 = 0 then
    some (0, y31.2)
  else
    f_X8_noLetter_b37 y31.2)
  else none
def f_X8_noLetter (h : gH) (a0 : Nat) (p1 : Int32) (p2 : Int32) : Option (Int32 × gH) :=
  bif g_is h a0 8 then
  (f_X8_noMessage h a0 p1).bind fun y2 =>
  (if y2.1 = 0 then
    bif g_is y2.2 a0 8 then
    (f_X8_of y2.2 a0 p1 2).bind fun v14 =>
    (if (f_X8_in p2 0 (v14 - 1)) = 0 then
      f_X8_noLetter_b30 y2.2 1 a0
    else
      f_X8_noLetter_b30 y2.2 0 a0)
    else none
  else
    f_X8_noLetter_b37 y2.2)
  else none
set_option maxRecDepth 100000 in
theorem b_X8_noLetter_b37 {l : Launch} {G : gG} (h : gH) : GX l G M_X8_noLetter (g_phi G g_wI (m_R M_X8_noLetter).cells (m_R M_X8_noLetter).slots) 0 0 37 [none, none, none] [] h (f_X8_noLetter_b37 h) := by
  unfold f_X8_noLetter_b37
  refine X_iconst (v := 1) rfl rfl (by decide) ?_
  refine X_goto rfl rfl ?_
  exact X_iret rfl rfl rfl rfl rfl rfl rfl
set_option maxRecDepth 100000 in
theorem b_X8_noLetter_b30 {l : Launch} {G : gG} (h : gH) (s0 : Int32) (s1 : Nat) : GX l G M_X8_noLetter (g_phi G g_wI (m_R M_X8_noLetter).cells (m_R M_X8_noLetter).slots) 0 0 30 [none, none, none] [.int s0, .ref s1] h (f_X8_noLetter_b30 h s0 s1) := by
  unfold f_X8_noLetter_b30
  refine X_iconst (v := 2) rfl rfl (by decide) ?_
  refine X_callV_IW (M' := M_X8_fails) (nA := 2) (As := [.int s0, .int 2]) (st := []) (b := s1) (ci := 8) rfl rfl (by decide +kernel) rfl rfl rfl rfl rfl rfl rfl rfl (fun _ _ e => ct_X8_fails e) (fun y31 => ?_)
  refine X_bif_eq rfl rfl (fun _ => ?_) (fun _ => ?_)
  · refine X_iconst (v := 0) rfl rfl (by decide) ?_
    exact X_iret rfl rfl rfl rfl rfl rfl rfl
  · exact X_sub (g_sub_n (g_sub_n (g_sub_n g_sub_0))) (b_X8_noLetter_b37  _)
set_option maxRecDepth 100000 in
theorem ct_X8_noLetter {l : Launch} {G : gG} {h : gH} {a0 : Nat} {p1 : Int32} {p2 : Int32} {r : Int32} {h1 : gH} (e : f_X8_noLetter h a0 p1 p2 = some (r, h1)) : Ct l G M_X8_noLetter [.ref a0, .int p1, .int p2] h (some (.int r)) h1 := by
  refine Ct_of (L := [some (.ref a0), some (.int p1), some (.int p2)]) ok_X8_noLetter (by decide +kernel) rfl rfl rfl (ρ := g_wI) (F := f_X8_noLetter h a0 p1 p2) ?_ e rfl
  unfold f_X8_noLetter
  refine X_aload_n rfl rfl rfl ?_
  refine X_iload_n rfl rfl rfl ?_
  refine X_callV_IW (M' := M_X8_noMessage) (nA := 1) (As := [.int p1]) (st := []) (b := a0) (ci := 8) rfl rfl (by decide +kernel) rfl rfl rfl rfl rfl rfl rfl rfl (fun _ _ e => ct_X8_noMessage e) (fun y2 => ?_)
  refine X_bif_ne rfl rfl (fun _ => ?_) (fun _ => ?_)
  · refine X_aload_n rfl rfl rfl ?_
    refine X_iload_n rfl rfl rfl ?_
    refine X_iconst (v := 0) rfl rfl (by decide) ?_
    refine X_aload_n rfl rfl rfl ?_
    refine X_iload_n rfl rfl rfl ?_
    refine X_iconst (v := 2) rfl rfl (by decide) ?_
    refine X_callV_IR (M' := M_X8_of) (nA := 2) (As := [.int p1, .int 2]) (st := [.int 0, .int p2, .ref a0]) (b := a0) (ci := 8) rfl rfl (by decide +kernel) rfl rfl rfl rfl rfl rfl rfl rfl (fun _ e => ct_X8_of e) (fun v14 => ?_)
    refine X_iconst (v := 1) rfl rfl (by decide) ?_
    refine X_isub rfl rfl ?_
    refine X_callS_IP (v := f_X8_in p2 0 (v14 - 1)) (M' := M_X8_in) (nA := 3) (As := [.int p2, .int 0, .int (v14 - 1)]) (st := [.ref a0]) rfl rfl (by decide +kernel) rfl rfl rfl rfl rfl rfl rfl ct_X8_in ?_
    refine X_bif_ne rfl rfl (fun _ => ?_) (fun _ => ?_)
    · refine X_iconst (v := 1) rfl rfl (by decide) ?_
      refine X_goto rfl rfl ?_
      exact X_sub (g_sub_n (g_sub_n (g_sub_n g_sub_0))) (b_X8_noLetter_b30  _ _ _)
    · refine X_iconst (v := 0) rfl rfl (by decide) ?_
      exact X_sub (g_sub_n (g_sub_n (g_sub_n g_sub_0))) (b_X8_noLetter_b30  _ _ _)
  · exact X_sub (g_sub_n (g_sub_n (g_sub_n g_sub_0))) (b_X8_noLetter_b37  _)
def f_X8_letter_b31 (h : gH) (l2 : Int32) (s0 : Int32) (s1 : Int32) (s2 : Nat) : Option (Int32 × gH) :=
  bif g_is h s2 8 then
  (f_X8_of h s2 s1 (s0 + l2)).bind fun v33 =>
  some (v33, h)
  else none
def f_X8_letter (h : gH) (a0 : Nat) (p1 : Int32) (p2 : Int32) (p3 : Int32) : Option (Int32 × gH) :=
  (g_put h a0 8 0 (.int 0)).bind fun h2 =>
  bif g_is h2 a0 8 then
  (f_X8_noLetter h2 a0 p1 p2).bind fun y8 =>
  (if y8.1 = 0 then
    (if p3 = 0 then
      f_X8_letter_b31 y8.2 p2 6 p1 a0
    else
      f_X8_letter_b31 y8.2 p2 30 p1 a0)
  else
    some (0, y8.2))
  else none
set_option maxRecDepth 100000 in
theorem b_X8_letter_b31 {l : Launch} {G : gG} (h : gH) (l2 : Int32) (s0 : Int32) (s1 : Int32) (s2 : Nat) : GX l G M_X8_letter (g_phi G g_wI (m_R M_X8_letter).cells (m_R M_X8_letter).slots) 0 0 31 [none, none, some (.int l2), none] [.int s0, .int s1, .ref s2] h (f_X8_letter_b31 h l2 s0 s1 s2) := by
  unfold f_X8_letter_b31
  refine X_iload_n rfl rfl rfl ?_
  refine X_iadd rfl rfl ?_
  refine X_callV_IR (M' := M_X8_of) (nA := 2) (As := [.int s1, .int (s0 + l2)]) (st := []) (b := s2) (ci := 8) rfl rfl (by decide +kernel) rfl rfl rfl rfl rfl rfl rfl rfl (fun _ e => ct_X8_of e) (fun v33 => ?_)
  exact X_iret rfl rfl rfl rfl rfl rfl rfl
set_option maxRecDepth 100000 in
theorem ct_X8_letter {l : Launch} {G : gG} {h : gH} {a0 : Nat} {p1 : Int32} {p2 : Int32} {p3 : Int32} {r : Int32} {h1 : gH} (e : f_X8_letter h a0 p1 p2 p3 = some (r, h1)) : Ct l G M_X8_letter [.ref a0, .int p1, .int p2, .int p3] h (some (.int r)) h1 := by
  refine Ct_of (L := [some (.ref a0), some (.int p1), some (.int p2), some (.int p3)]) ok_X8_letter (by decide +kernel) rfl rfl rfl (ρ := g_wI) (F := f_X8_letter h a0 p1 p2 p3) ?_ e rfl
  unfold f_X8_letter
  refine X_aload_n rfl rfl rfl ?_
  refine X_iconst (v := 0) rfl rfl (by decide) ?_
  refine X_put rfl rfl rfl rfl rfl (fun h2 => ?_)
  refine X_aload_n rfl rfl rfl ?_
  refine X_iload_n rfl rfl rfl ?_
  refine X_iload_n rfl rfl rfl ?_
  refine X_callV_IW (M' := M_X8_noLetter) (nA := 2) (As := [.int p1, .int p2]) (st := []) (b := a0) (ci := 8) rfl rfl (by decide +kernel) rfl rfl rfl rfl rfl rfl rfl rfl (fun _ _ e => ct_X8_noLetter e) (fun y8 => ?_)
  refine X_bif_eq rfl rfl (fun _ => ?_) (fun _ => ?_)
  · refine X_aload_n rfl rfl rfl ?_
    refine X_iload_n rfl rfl rfl ?_
    refine X_iload_n rfl rfl rfl ?_
    refine X_bif_eq rfl rfl (fun _ => ?_) (fun _ => ?_)
    · refine X_bipush (v := 6) rfl rfl (by decide) ?_
      exact X_sub (g_sub_n (g_sub_n (g_sub_s (g_sub_n g_sub_0)))) (b_X8_letter_b31  _ _ _ _ _)
    · refine X_bipush (v := 30) rfl rfl (by decide) ?_
      refine X_goto rfl rfl ?_
      exact X_sub (g_sub_n (g_sub_n (g_sub_s (g_sub_n g_sub_0)))) (b_X8_letter_b31  _ _ _ _ _)
  · refine X_iconst (v := 0) rfl rfl (by decide) ?_
    refine X_goto rfl rfl ?_
    exact X_iret rfl rfl rfl rfl rfl rfl rfl
def f_X8_reason (h : gH) (a0 : Nat) (p1 : Int32) (p2 : Int32) : Option (Int32) :=
  bif g_is h a0 8 then
  (f_X8_of h a0 p1 (30 + p2)).bind fun v6 =>
  (if v6 = (-1) then
    (g_gA h a0 8 8).bind fun v40 =>
    (g_ald h v40 8).bind fun v45 =>
    if v45 = 0 then none else
    bif g_is h a0 8 then
    (f_X8_of h a0 p1 (54 + (p2 / v45))).bind fun v48 =>
    (if v48 < 2 then
      some 1
    else
      some 2)
    else none
  else
    bif g_is h a0 8 then
    (f_X8_of h a0 p1 (6 + p2)).bind fun v22 =>
    (if v6 = v22 then
      some 0
    else
      some 3)
    else none)
  else none
set_option maxRecDepth 100000 in
theorem ct_X8_reason {l : Launch} {G : gG} {h : gH} {a0 : Nat} {p1 : Int32} {p2 : Int32} {r : Int32} (e : f_X8_reason h a0 p1 p2 = some r) : Ct l G M_X8_reason [.ref a0, .int p1, .int p2] h (some (.int r)) h := by
  refine Ct_of (L := [some (.ref a0), some (.int p1), some (.int p2), none]) ok_X8_reason (by decide +kernel) rfl rfl rfl (ρ := (g_rI h)) (F := f_X8_reason h a0 p1 p2) ?_ e rfl
  unfold f_X8_reason
  refine X_aload_n rfl rfl rfl ?_
  refine X_iload_n rfl rfl rfl ?_
  refine X_bipush (v := 30) rfl rfl (by decide) ?_
  refine X_iload_n rfl rfl rfl ?_
  refine X_iadd rfl rfl ?_
  refine X_callV_IR (M' := M_X8_of) (nA := 2) (As := [.int p1, .int (30 + p2)]) (st := []) (b := a0) (ci := 8) rfl rfl (by decide +kernel) rfl rfl rfl rfl rfl rfl rfl rfl (fun _ e => ct_X8_of e) (fun v6 => ?_)
  refine X_istore_n rfl rfl rfl rfl ?_
  refine X_iload_n rfl rfl rfl ?_
  refine X_iconst (v := -1) rfl rfl (by decide) ?_
  refine X_bicmp_eq rfl rfl (fun _ => ?_) (fun _ => ?_)
  · refine X_aload_n rfl rfl rfl ?_
    refine X_iload_n rfl rfl rfl ?_
    refine X_bipush (v := 54) rfl rfl (by decide) ?_
    refine X_iload_n rfl rfl rfl ?_
    refine X_aload_n rfl rfl rfl ?_
    refine X_getA rfl rfl (fun v40 => ?_)
    refine X_bipush (v := 8) rfl rfl (by decide) ?_
    refine X_ald rfl rfl (fun v45 => ?_)
    refine X_if (fun _ => X_none) (fun hz => ?_)
    refine X_idiv (v := p2 / v45) rfl rfl rfl hz ?_
    refine X_iadd rfl rfl ?_
    refine X_callV_IR (M' := M_X8_of) (nA := 2) (As := [.int p1, .int (54 + (p2 / v45))]) (st := []) (b := a0) (ci := 8) rfl rfl (by decide +kernel) rfl rfl rfl rfl rfl rfl rfl rfl (fun _ e => ct_X8_of e) (fun v48 => ?_)
    refine X_iconst (v := 2) rfl rfl (by decide) ?_
    refine X_bicmp_ge rfl rfl (fun _ => ?_) (fun _ => ?_)
    · refine X_iconst (v := 1) rfl rfl (by decide) ?_
      refine X_goto rfl rfl ?_
      exact X_iret rfl rfl rfl rfl rfl rfl rfl
    · refine X_iconst (v := 2) rfl rfl (by decide) ?_
      exact X_iret rfl rfl rfl rfl rfl rfl rfl
  · refine X_iload_n rfl rfl rfl ?_
    refine X_aload_n rfl rfl rfl ?_
    refine X_iload_n rfl rfl rfl ?_
    refine X_bipush (v := 6) rfl rfl (by decide) ?_
    refine X_iload_n rfl rfl rfl ?_
    refine X_iadd rfl rfl ?_
    refine X_callV_IR (M' := M_X8_of) (nA := 2) (As := [.int p1, .int (6 + p2)]) (st := [.int v6]) (b := a0) (ci := 8) rfl rfl (by decide +kernel) rfl rfl rfl rfl rfl rfl rfl rfl (fun _ e => ct_X8_of e) (fun v22 => ?_)
    refine X_bicmp_ne rfl rfl (fun _ => ?_) (fun _ => ?_)
    · refine X_iconst (v := 0) rfl rfl (by decide) ?_
      refine X_goto rfl rfl ?_
      exact X_iret rfl rfl rfl rfl rfl rfl rfl
    · refine X_iconst (v := 3) rfl rfl (by decide) ?_
      exact X_iret rfl rfl rfl rfl rfl rfl rfl
def f_X8_why (h : gH) (a0 : Nat) (p1 : Int32) (p2 : Int32) : Option (Int32 × gH) :=
  (g_put h a0 8 0 (.int 0)).bind fun h2 =>
  bif g_is h2 a0 8 then
  (f_X8_noLetter h2 a0 p1 p2).bind fun y8 =>
  (if y8.1 = 0 then
    bif g_is y8.2 a0 8 then
    (f_X8_reason y8.2 a0 p1 p2).bind fun v21 =>
    some (v21, y8.2)
    else none
  else
    some (0, y8.2))
  else none
set_option maxRecDepth 100000 in
theorem ct_X8_why {l : Launch} {G : gG} {h : gH} {a0 : Nat} {p1 : Int32} {p2 : Int32} {r : Int32} {h1 : gH} (e : f_X8_why h a0 p1 p2 = some (r, h1)) : Ct l G M_X8_why [.ref a0, .int p1, .int p2] h (some (.int r)) h1 := by
  refine Ct_of (L := [some (.ref a0), some (.int p1), some (.int p2)]) ok_X8_why (by decide +kernel) rfl rfl rfl (ρ := g_wI) (F := f_X8_why h a0 p1 p2) ?_ e rfl
  unfold f_X8_why
  refine X_aload_n rfl rfl rfl ?_
  refine X_iconst (v := 0) rfl rfl (by decide) ?_
  refine X_put rfl rfl rfl rfl rfl (fun h2 => ?_)
  refine X_aload_n rfl rfl rfl ?_
  refine X_iload_n rfl rfl rfl ?_
  refine X_iload_n rfl rfl rfl ?_
  refine X_callV_IW (M' := M_X8_noLetter) (nA := 2) (As := [.int p1, .int p2]) (st := []) (b := a0) (ci := 8) rfl rfl (by decide +kernel) rfl rfl rfl rfl rfl rfl rfl rfl (fun _ _ e => ct_X8_noLetter e) (fun y8 => ?_)
  refine X_bif_eq rfl rfl (fun _ => ?_) (fun _ => ?_)
  · refine X_aload_n rfl rfl rfl ?_
    refine X_iload_n rfl rfl rfl ?_
    refine X_iload_n rfl rfl rfl ?_
    refine X_callV_IR (M' := M_X8_reason) (nA := 2) (As := [.int p1, .int p2]) (st := []) (b := a0) (ci := 8) rfl rfl (by decide +kernel) rfl rfl rfl rfl rfl rfl rfl rfl (fun _ e => ct_X8_reason e) (fun v21 => ?_)
    exact X_iret rfl rfl rfl rfl rfl rfl rfl
  · refine X_iconst (v := 0) rfl rfl (by decide) ?_
    refine X_goto rfl rfl ?_
    exact X_iret rfl rfl rfl rfl rfl rfl rfl
def f_X8_mist_b22 (h : gH) (l0 : Nat) (l1 : Int32) (s0 : Int32) (s1 : Nat) : Option (Int32 × gH) :=
  bif g_is h s1 8 then
  (f_X8_fails h s1 s0 1).bind fun y23 =>
  (if y23.1 = 0 then
    bif g_is y23.2 l0 8 then
    (f_X8_mistOf y23.2 l0 l1).bind fun v35 =>
    some (v35, y23.2)
    else none
  else
    some (0, y23.2))
  else none
def f_X8_mist (h : gH) (a0 : Nat) (p1 : Int32) : Option (Int32 × gH) :=
  (g_put h a0 8 0 (.int 0)).bind fun h2 =>
  (if (f_X8_in p1 0 20000) = 0 then
    f_X8_mist_b22 h2 a0 p1 1 a0
  else
    f_X8_mist_b22 h2 a0 p1 0 a0)
set_option maxRecDepth 100000 in
theorem b_X8_mist_b22 {l : Launch} {G : gG} (h : gH) (l0 : Nat) (l1 : Int32) (s0 : Int32) (s1 : Nat) : GX l G M_X8_mist (g_phi G g_wI (m_R M_X8_mist).cells (m_R M_X8_mist).slots) 0 0 22 [some (.ref l0), some (.int l1)] [.int s0, .ref s1] h (f_X8_mist_b22 h l0 l1 s0 s1) := by
  unfold f_X8_mist_b22
  refine X_iconst (v := 1) rfl rfl (by decide) ?_
  refine X_callV_IW (M' := M_X8_fails) (nA := 2) (As := [.int s0, .int 1]) (st := []) (b := s1) (ci := 8) rfl rfl (by decide +kernel) rfl rfl rfl rfl rfl rfl rfl rfl (fun _ _ e => ct_X8_fails e) (fun y23 => ?_)
  refine X_bif_eq rfl rfl (fun _ => ?_) (fun _ => ?_)
  · refine X_aload_n rfl rfl rfl ?_
    refine X_iload_n rfl rfl rfl ?_
    refine X_callV_IR (M' := M_X8_mistOf) (nA := 1) (As := [.int l1]) (st := []) (b := l0) (ci := 8) rfl rfl (by decide +kernel) rfl rfl rfl rfl rfl rfl rfl rfl (fun _ e => ct_X8_mistOf e) (fun v35 => ?_)
    exact X_iret rfl rfl rfl rfl rfl rfl rfl
  · refine X_iconst (v := 0) rfl rfl (by decide) ?_
    refine X_goto rfl rfl ?_
    exact X_iret rfl rfl rfl rfl rfl rfl rfl
set_option maxRecDepth 100000 in
theorem ct_X8_mist {l : Launch} {G : gG} {h : gH} {a0 : Nat} {p1 : Int32} {r : Int32} {h1 : gH} (e : f_X8_mist h a0 p1 = some (r, h1)) : Ct l G M_X8_mist [.ref a0, .int p1] h (some (.int r)) h1 := by
  refine Ct_of (L := [some (.ref a0), some (.int p1)]) ok_X8_mist (by decide +kernel) rfl rfl rfl (ρ := g_wI) (F := f_X8_mist h a0 p1) ?_ e rfl
  unfold f_X8_mist
  refine X_aload_n rfl rfl rfl ?_
  refine X_iconst (v := 0) rfl rfl (by decide) ?_
  refine X_put rfl rfl rfl rfl rfl (fun h2 => ?_)
  refine X_aload_n rfl rfl rfl ?_
  refine X_iload_n rfl rfl rfl ?_
  refine X_iconst (v := 0) rfl rfl (by decide) ?_
  refine X_sipush (v := 20000) rfl rfl (by decide) ?_
  refine X_callS_IP (v := f_X8_in p1 0 20000) (M' := M_X8_in) (nA := 3) (As := [.int p1, .int 0, .int 20000]) (st := [.ref a0]) rfl rfl (by decide +kernel) rfl rfl rfl rfl rfl rfl rfl ct_X8_in ?_
  refine X_bif_ne rfl rfl (fun _ => ?_) (fun _ => ?_)
  · refine X_iconst (v := 1) rfl rfl (by decide) ?_
    refine X_goto rfl rfl ?_
    exact X_sub (g_sub_s (g_sub_s g_sub_0)) (b_X8_mist_b22  _ _ _ _ _)
  · refine X_iconst (v := 0) rfl rfl (by decide) ?_
    exact X_sub (g_sub_s (g_sub_s g_sub_0)) (b_X8_mist_b22  _ _ _ _ _)
def f_X8_key_b37 (h : gH) : Option (Int32 × gH) :=
  some (0, h)
def f_X8_key_b30 (h : gH) (l0 : Nat) (l1 : Int32) (l2 : Int32) (s0 : Int32) (s1 : Nat) : Option (Int32 × gH) :=
  bif g_is h s1 8 then
  (f_X8_fails h s1 s0 2).bind fun y31 =>
  (if y31.1 = 0 then
    bif g_is y31.2 l0 8 then
    (f_X8_keyOf y31.2 l0 l1 l2).bind fun v44 =>
    some (v44, y31.2)
    else none
  else
    f_X8_key_b37 y31.2)
  else none
def f_X8_key (h : gH) (a0 : Nat) (p1 : Int32) (p2 : Int32) : Option (Int32 × gH) :=
  (g_put h a0 8 0 (.int 0)).bind fun h2 =>
  bif g_is h2 a0 8 then
  (f_X8_noStation h2 a0 p1).bind fun y7 =>
  (if y7.1 = 0 then
    (if (f_X8_in p2 0 20000) = 0 then
      f_X8_key_b30 y7.2 a0 p1 p2 1 a0
    else
      f_X8_key_b30 y7.2 a0 p1 p2 0 a0)
  else
    f_X8_key_b37 y7.2)
  else none
set_option maxRecDepth 100000 in
theorem b_X8_key_b37 {l : Launch} {G : gG} (h : gH) : GX l G M_X8_key (g_phi G g_wI (m_R M_X8_key).cells (m_R M_X8_key).slots) 0 0 37 [none, none, none] [] h (f_X8_key_b37 h) := by
  unfold f_X8_key_b37
  refine X_iconst (v := 0) rfl rfl (by decide) ?_
  refine X_goto rfl rfl ?_
  exact X_iret rfl rfl rfl rfl rfl rfl rfl
set_option maxRecDepth 100000 in
theorem b_X8_key_b30 {l : Launch} {G : gG} (h : gH) (l0 : Nat) (l1 : Int32) (l2 : Int32) (s0 : Int32) (s1 : Nat) : GX l G M_X8_key (g_phi G g_wI (m_R M_X8_key).cells (m_R M_X8_key).slots) 0 0 30 [some (.ref l0), some (.int l1), some (.int l2)] [.int s0, .ref s1] h (f_X8_key_b30 h l0 l1 l2 s0 s1) := by
  unfold f_X8_key_b30
  refine X_iconst (v := 2) rfl rfl (by decide) ?_
  refine X_callV_IW (M' := M_X8_fails) (nA := 2) (As := [.int s0, .int 2]) (st := []) (b := s1) (ci := 8) rfl rfl (by decide +kernel) rfl rfl rfl rfl rfl rfl rfl rfl (fun _ _ e => ct_X8_fails e) (fun y31 => ?_)
  refine X_bif_eq rfl rfl (fun _ => ?_) (fun _ => ?_)
  · refine X_aload_n rfl rfl rfl ?_
    refine X_iload_n rfl rfl rfl ?_
    refine X_iload_n rfl rfl rfl ?_
    refine X_callV_IR (M' := M_X8_keyOf) (nA := 2) (As := [.int l1, .int l2]) (st := []) (b := l0) (ci := 8) rfl rfl (by decide +kernel) rfl rfl rfl rfl rfl rfl rfl rfl (fun _ e => ct_X8_keyOf e) (fun v44 => ?_)
    exact X_iret rfl rfl rfl rfl rfl rfl rfl
  · exact X_sub (g_sub_n (g_sub_n (g_sub_n g_sub_0))) (b_X8_key_b37  _)
set_option maxRecDepth 100000 in
theorem ct_X8_key {l : Launch} {G : gG} {h : gH} {a0 : Nat} {p1 : Int32} {p2 : Int32} {r : Int32} {h1 : gH} (e : f_X8_key h a0 p1 p2 = some (r, h1)) : Ct l G M_X8_key [.ref a0, .int p1, .int p2] h (some (.int r)) h1 := by
  refine Ct_of (L := [some (.ref a0), some (.int p1), some (.int p2)]) ok_X8_key (by decide +kernel) rfl rfl rfl (ρ := g_wI) (F := f_X8_key h a0 p1 p2) ?_ e rfl
  unfold f_X8_key
  refine X_aload_n rfl rfl rfl ?_
  refine X_iconst (v := 0) rfl rfl (by decide) ?_
  refine X_put rfl rfl rfl rfl rfl (fun h2 => ?_)
  refine X_aload_n rfl rfl rfl ?_
  refine X_iload_n rfl rfl rfl ?_
  refine X_callV_IW (M' := M_X8_noStation) (nA := 1) (As := [.int p1]) (st := []) (b := a0) (ci := 8) rfl rfl (by decide +kernel) rfl rfl rfl rfl rfl rfl rfl rfl (fun _ _ e => ct_X8_noStation e) (fun y7 => ?_)
  refine X_bif_ne rfl rfl (fun _ => ?_) (fun _ => ?_)
  · refine X_aload_n rfl rfl rfl ?_
    refine X_iload_n rfl rfl rfl ?_
    refine X_iconst (v := 0) rfl rfl (by decide) ?_
    refine X_sipush (v := 20000) rfl rfl (by decide) ?_
    refine X_callS_IP (v := f_X8_in p2 0 20000) (M' := M_X8_in) (nA := 3) (As := [.int p2, .int 0, .int 20000]) (st := [.ref a0]) rfl rfl (by decide +kernel) rfl rfl rfl rfl rfl rfl rfl ct_X8_in ?_
    refine X_bif_ne rfl rfl (fun _ => ?_) (fun _ => ?_)
    · refine X_iconst (v := 1) rfl rfl (by decide) ?_
      refine X_goto rfl rfl ?_
      exact X_sub (g_sub_s (g_sub_s (g_sub_s g_sub_0))) (b_X8_key_b30  _ _ _ _ _ _)
    · refine X_iconst (v := 0) rfl rfl (by decide) ?_
      exact X_sub (g_sub_s (g_sub_s (g_sub_s g_sub_0))) (b_X8_key_b30  _ _ _ _ _ _)
  · exact X_sub (g_sub_n (g_sub_n (g_sub_n g_sub_0))) (b_X8_key_b37  _)
def f_X8_next_b26 (h : gH) (l0 : Nat) (l1 : Int32) (s0 : Int32) (s1 : Nat) : Option (Int32 × gH) :=
  bif g_is h s1 8 then
  (f_X8_fails h s1 s0 1).bind fun y27 =>
  (if y27.1 = 0 then
    bif g_is y27.2 l0 8 then
    (f_X8_nextMessage y27.2 l0 l1).bind fun v39 =>
    some (v39, y27.2)
    else none
  else
    some (0, y27.2))
  else none
def f_X8_next (h : gH) (a0 : Nat) (p1 : Int32) : Option (Int32 × gH) :=
  (g_put h a0 8 0 (.int 0)).bind fun h2 =>
  bif g_is h2 a0 8 then
  (f_X8_inState h2 a0 0).bind fun v10 =>
  (if (f_X8_in p1 0 (v10 - 1)) = 0 then
    f_X8_next_b26 h2 a0 p1 1 a0
  else
    f_X8_next_b26 h2 a0 p1 0 a0)
  else none
set_option maxRecDepth 100000 in
theorem b_X8_next_b26 {l : Launch} {G : gG} (h : gH) (l0 : Nat) (l1 : Int32) (s0 : Int32) (s1 : Nat) : GX l G M_X8_next (g_phi G g_wI (m_R M_X8_next).cells (m_R M_X8_next).slots) 0 0 26 [some (.ref l0), some (.int l1)] [.int s0, .ref s1] h (f_X8_next_b26 h l0 l1 s0 s1) := by
  unfold f_X8_next_b26
  refine X_iconst (v := 1) rfl rfl (by decide) ?_
  refine X_callV_IW (M' := M_X8_fails) (nA := 2) (As := [.int s0, .int 1]) (st := []) (b := s1) (ci := 8) rfl rfl (by decide +kernel) rfl rfl rfl rfl rfl rfl rfl rfl (fun _ _ e => ct_X8_fails e) (fun y27 => ?_)
  refine X_bif_eq rfl rfl (fun _ => ?_) (fun _ => ?_)
  · refine X_aload_n rfl rfl rfl ?_
    refine X_iload_n rfl rfl rfl ?_
    refine X_callV_IR (M' := M_X8_nextMessage) (nA := 1) (As := [.int l1]) (st := []) (b := l0) (ci := 8) rfl rfl (by decide +kernel) rfl rfl rfl rfl rfl rfl rfl rfl (fun _ e => ct_X8_nextMessage e) (fun v39 => ?_)
    exact X_iret rfl rfl rfl rfl rfl rfl rfl
  · refine X_iconst (v := 0) rfl rfl (by decide) ?_
    refine X_goto rfl rfl ?_
    exact X_iret rfl rfl rfl rfl rfl rfl rfl
set_option maxRecDepth 100000 in
theorem ct_X8_next {l : Launch} {G : gG} {h : gH} {a0 : Nat} {p1 : Int32} {r : Int32} {h1 : gH} (e : f_X8_next h a0 p1 = some (r, h1)) : Ct l G M_X8_next [.ref a0, .int p1] h (some (.int r)) h1 := by
  refine Ct_of (L := [some (.ref a0), some (.int p1)]) ok_X8_next (by decide +kernel) rfl rfl rfl (ρ := g_wI) (F := f_X8_next h a0 p1) ?_ e rfl
  unfold f_X8_next
  refine X_aload_n rfl rfl rfl ?_
  refine X_iconst (v := 0) rfl rfl (by decide) ?_
  refine X_put rfl rfl rfl rfl rfl (fun h2 => ?_)
  refine X_aload_n rfl rfl rfl ?_
  refine X_iload_n rfl rfl rfl ?_
  refine X_iconst (v := 0) rfl rfl (by decide) ?_
  refine X_aload_n rfl rfl rfl ?_
  refine X_iconst (v := 0) rfl rfl (by decide) ?_
  refine X_callV_IR (M' := M_X8_inState) (nA := 1) (As := [.int 0]) (st := [.int 0, .int p1, .ref a0]) (b := a0) (ci := 8) rfl rfl (by decide +kernel) rfl rfl rfl rfl rfl rfl rfl rfl (fun _ e => ct_X8_inState e) (fun v10 => ?_)
  refine X_iconst (v := 1) rfl rfl (by decide) ?_
  refine X_isub rfl rfl ?_
  refine X_callS_IP (v := f_X8_in p1 0 (v10 - 1)) (M' := M_X8_in) (nA := 3) (As := [.int p1, .int 0, .int (v10 - 1)]) (st := [.ref a0]) rfl rfl (by decide +kernel) rfl rfl rfl rfl rfl rfl rfl ct_X8_in ?_
  refine X_bif_ne rfl rfl (fun _ => ?_) (fun _ => ?_)
  · refine X_iconst (v := 1) rfl rfl (by decide) ?_
    refine X_goto rfl rfl ?_
    exact X_sub (g_sub_s (g_sub_s g_sub_0)) (b_X8_next_b26  _ _ _ _ _)
  · refine X_iconst (v := 0) rfl rfl (by decide) ?_
    exact X_sub (g_sub_s (g_sub_s g_sub_0)) (b_X8_next_b26  _ _ _ _ _)
def f_X8_isLive_b18 (h : gH) : Option (Int32) :=
  some 1
def f_X8_isLive (h : gH) (a0 : Nat) : Option (Int32) :=
  (g_gA h a0 8 8).bind fun v1 =>
  (g_ald h v1 2).bind fun v5 =>
  (if v5 = (-1) then
    bif g_is h a0 8 then
    (f_X8_inState h a0 0).bind fun v12 =>
    (if 0 < v12 then
      f_X8_isLive_b18 h
    else
      some 0)
    else none
  else
    f_X8_isLive_b18 h)
set_option maxRecDepth 100000 in
theorem b_X8_isLive_b18 {l : Launch} {G : gG} {h : gH} : GX l G M_X8_isLive (g_phi G (g_rI h) (m_R M_X8_isLive).cells (m_R M_X8_isLive).slots) 0 0 18 [none] [] h (f_X8_isLive_b18 h) := by
  unfold f_X8_isLive_b18
  refine X_iconst (v := 1) rfl rfl (by decide) ?_
  refine X_goto rfl rfl ?_
  exact X_iret rfl rfl rfl rfl rfl rfl rfl
set_option maxRecDepth 100000 in
theorem ct_X8_isLive {l : Launch} {G : gG} {h : gH} {a0 : Nat} {r : Int32} (e : f_X8_isLive h a0 = some r) : Ct l G M_X8_isLive [.ref a0] h (some (.int r)) h := by
  refine Ct_of (L := [some (.ref a0)]) ok_X8_isLive (by decide +kernel) rfl rfl rfl (ρ := (g_rI h)) (F := f_X8_isLive h a0) ?_ e rfl
  unfold f_X8_isLive
  refine X_aload_n rfl rfl rfl ?_
  refine X_getA rfl rfl (fun v1 => ?_)
  refine X_iconst (v := 2) rfl rfl (by decide) ?_
  refine X_ald rfl rfl (fun v5 => ?_)
  refine X_iconst (v := -1) rfl rfl (by decide) ?_
  refine X_bicmp_ne rfl rfl (fun _ => ?_) (fun _ => ?_)
  · refine X_aload_n rfl rfl rfl ?_
    refine X_iconst (v := 0) rfl rfl (by decide) ?_
    refine X_callV_IR (M' := M_X8_inState) (nA := 1) (As := [.int 0]) (st := []) (b := a0) (ci := 8) rfl rfl (by decide +kernel) rfl rfl rfl rfl rfl rfl rfl rfl (fun _ e => ct_X8_inState e) (fun v12 => ?_)
    refine X_bif_le rfl rfl (fun _ => ?_) (fun _ => ?_)
    · exact X_sub (g_sub_n g_sub_0) (b_X8_isLive_b18  )
    · refine X_iconst (v := 0) rfl rfl (by decide) ?_
      exact X_iret rfl rfl rfl rfl rfl rfl rfl
  · exact X_sub (g_sub_n g_sub_0) (b_X8_isLive_b18  )
def f_X8_goOn_b26 (h : gH) (l0 : Nat) (l1 : Int32) : Option (Int32 × gH) :=
  bif g_is h l0 8 then
  (f_X8_isLive h l0).bind fun v27 =>
  (if v27 = 0 then
    some (l1, h)
  else
    some (-1, h))
  else none
def f_X8_goOn_b2 : Nat → gH → Nat → Int32 → Option (Int32 × gH)
  | 0, _, _, _ => none
  | n + 1, h, l0, l1 =>
    (if l1 < 1000 then
      bif g_is h l0 8 then
      (f_X8_isLive h l0).bind fun v10 =>
      (if v10 = 0 then
        f_X8_goOn_b26 h l0 l1
      else
        bif g_is h l0 8 then
        (f_X8_tick h l0).bind fun h17 =>
        f_X8_goOn_b2  n h17 l0 (l1 + 1)
        else none)
      else none
    else
      f_X8_goOn_b26 h l0 l1)
def f_X8_goOn (h : gH) (a0 : Nat) : Option (Int32 × gH) :=
  f_X8_goOn_b2 g_N h a0 0
set_option maxRecDepth 100000 in
theorem b_X8_goOn_b26 {l : Launch} {G : gG} (h : gH) (l0 : Nat) (l1 : Int32) : GX l G M_X8_goOn (g_phi G g_wI (m_R M_X8_goOn).cells (m_R M_X8_goOn).slots) 0 0 26 [some (.ref l0), some (.int l1)] [] h (f_X8_goOn_b26 h l0 l1) := by
  unfold f_X8_goOn_b26
  refine X_aload_n rfl rfl rfl ?_
  refine X_callV_IR (M' := M_X8_isLive) (nA := 0) (As := []) (st := []) (b := l0) (ci := 8) rfl rfl (by decide +kernel) rfl rfl rfl rfl rfl rfl rfl rfl (fun _ e => ct_X8_isLive e) (fun v27 => ?_)
  refine X_bif_eq rfl rfl (fun _ => ?_) (fun _ => ?_)
  · refine X_iload_n rfl rfl rfl ?_
    exact X_iret rfl rfl rfl rfl rfl rfl rfl
  · refine X_iconst (v := -1) rfl rfl (by decide) ?_
    refine X_goto rfl rfl ?_
    exact X_iret rfl rfl rfl rfl rfl rfl rfl
set_option maxRecDepth 100000 in
theorem b_X8_goOn_b2 {l : Launch} {G : gG} : ∀ (n : Nat) (h : gH) (l0 : Nat) (l1 : Int32), GX l G M_X8_goOn (g_phi G g_wI (m_R M_X8_goOn).cells (m_R M_X8_goOn).slots) 0 0 2 [some (.ref l0), some (.int l1)] [] h (f_X8_goOn_b2 n h l0 l1) := by
  intro n
  induction n with
  | zero => intros; exact X_none
  | succ n ih =>
    intro h l0 l1
    rw [f_X8_goOn_b2]
    refine X_iload_n rfl rfl rfl ?_
    refine X_sipush (v := 1000) rfl rfl (by decide) ?_
    refine X_bicmp_ge rfl rfl (fun _ => ?_) (fun _ => ?_)
    · refine X_aload_n rfl rfl rfl ?_
      refine X_callV_IR (M' := M_X8_isLive) (nA := 0) (As := []) (st := []) (b := l0) (ci := 8) rfl rfl (by decide +kernel) rfl rfl rfl rfl rfl rfl rfl rfl (fun _ e => ct_X8_isLive e) (fun v10 => ?_)
      refine X_bif_eq rfl rfl (fun _ => ?_) (fun _ => ?_)
      · exact X_sub (g_sub_s (g_sub_s g_sub_0)) (b_X8_goOn_b26  _ _ _)
      · refine X_aload_n rfl rfl rfl ?_
        refine X_callV_UW (M' := M_X8_tick) (nA := 0) (As := []) (st := []) (b := l0) (ci := 8) rfl rfl (by decide +kernel) rfl rfl rfl rfl rfl rfl rfl rfl (fun _ e => ct_X8_tick e) (fun h17 => ?_)
        refine X_iinc (v := l1 + 1) rfl rfl rfl (congrArg (fun z => l1 + z) (by decide : Int32.ofInt 1 = 1)) rfl ?_
        refine X_goto rfl rfl ?_
        exact X_sub (g_sub_s (g_sub_s g_sub_0)) (ih _ _ _)
    · exact X_sub (g_sub_s (g_sub_s g_sub_0)) (b_X8_goOn_b26  _ _ _)
set_option maxRecDepth 100000 in
theorem ct_X8_goOn {l : Launch} {G : gG} {h : gH} {a0 : Nat} {r : Int32} {h1 : gH} (e : f_X8_goOn h a0 = some (r, h1)) : Ct l G M_X8_goOn [.ref a0] h (some (.int r)) h1 := by
  refine Ct_of (L := [some (.ref a0), none]) ok_X8_goOn (by decide +kernel) rfl rfl rfl (ρ := g_wI) (F := f_X8_goOn h a0) ?_ e rfl
  unfold f_X8_goOn
  refine X_iconst (v := 0) rfl rfl (by decide) ?_
  refine X_istore_n rfl rfl rfl rfl ?_
  exact X_sub (g_sub_s (g_sub_s g_sub_0)) (b_X8_goOn_b2  _ _ _ _)
def f_X8_foretold_b80 (h : gH) (l0 : Nat) (s0 : Int32) : Option (Int32 × gH) :=
  (g_gA h l0 8 10).bind fun v82 =>
  (g_gA h l0 8 8).bind fun v86 =>
  (f_X8_copy h v82 v86).bind fun h89 =>
  some (s0, h89)
def f_X8_foretold_b20 (h : gH) (l0 : Nat) (l1 : Int32) (s0 : Int32) (s1 : Nat) : Option (Int32 × gH) :=
  bif g_is h s1 8 then
  (f_X8_fails h s1 s0 1).bind fun y21 =>
  (if y21.1 = 0 then
    (g_gA y21.2 l0 8 8).bind fun v30 =>
    (g_gA y21.2 l0 8 10).bind fun v34 =>
    (f_X8_copy y21.2 v30 v34).bind fun h37 =>
    bif g_is h37 l0 8 then
    (f_X8_goOn h37 l0).bind fun y41 =>
    (if l1 = 0 then
      f_X8_foretold_b80 y41.2 l0 y41.1
    else
      (if l1 = 1 then
        bif g_is y41.2 l0 8 then
        (f_X8_agreeing y41.2 l0).bind fun v59 =>
        f_X8_foretold_b80 y41.2 l0 v59
        else none
      else
        (g_gA y41.2 l0 8 8).bind fun v66 =>
        (g_ald y41.2 v66 6).bind fun v71 =>
        (g_gA y41.2 l0 8 10).bind fun v73 =>
        (g_ald y41.2 v73 6).bind fun v78 =>
        f_X8_foretold_b80 y41.2 l0 (v71 - v78)))
    else none
  else
    some (0, y21.2))
  else none
def f_X8_foretold (h : gH) (a0 : Nat) (p1 : Int32) : Option (Int32 × gH) :=
  (g_put h a0 8 0 (.int 0)).bind fun h2 =>
  (if (f_X8_in p1 0 2) = 0 then
    f_X8_foretold_b20 h2 a0 p1 1 a0
  else
    f_X8_foretold_b20 h2 a0 p1 0 a0)
set_option maxRecDepth 100000 in
theorem b_X8_foretold_b80 {l : Launch} {G : gG} (h : gH) (l0 : Nat) (s0 : Int32) : GX l G M_X8_foretold (g_phi G g_wI (m_R M_X8_foretold).cells (m_R M_X8_foretold).slots) 0 0 80 [some (.ref l0), none, none, none] [.int s0] h (f_X8_foretold_b80 h l0 s0) := by
  unfold f_X8_foretold_b80
  refine X_istore_n rfl rfl rfl rfl ?_
  refine X_aload_n rfl rfl rfl ?_
  refine X_getA rfl rfl (fun v82 => ?_)
  refine X_aload_n rfl rfl rfl ?_
  refine X_getA rfl rfl (fun v86 => ?_)
  refine X_callS_UW (M' := M_X8_copy) (nA := 2) (As := [.ref v82, .ref v86]) (st := []) rfl rfl (by decide +kernel) rfl rfl rfl rfl rfl rfl rfl (fun _ e => ct_X8_copy e) (fun h89 => ?_)
  refine X_iload_n rfl rfl rfl ?_
  exact X_iret rfl rfl rfl rfl rfl rfl rfl
set_option maxRecDepth 100000 in
theorem b_X8_foretold_b20 {l : Launch} {G : gG} (h : gH) (l0 : Nat) (l1 : Int32) (s0 : Int32) (s1 : Nat) : GX l G M_X8_foretold (g_phi G g_wI (m_R M_X8_foretold).cells (m_R M_X8_foretold).slots) 0 0 20 [some (.ref l0), some (.int l1), none, none] [.int s0, .ref s1] h (f_X8_foretold_b20 h l0 l1 s0 s1) := by
  unfold f_X8_foretold_b20
  refine X_iconst (v := 1) rfl rfl (by decide) ?_
  refine X_callV_IW (M' := M_X8_fails) (nA := 2) (As := [.int s0, .int 1]) (st := []) (b := s1) (ci := 8) rfl rfl (by decide +kernel) rfl rfl rfl rfl rfl rfl rfl rfl (fun _ _ e => ct_X8_fails e) (fun y21 => ?_)
  refine X_bif_eq rfl rfl (fun _ => ?_) (fun _ => ?_)
  · refine X_aload_n rfl rfl rfl ?_
    refine X_getA rfl rfl (fun v30 => ?_)
    refine X_aload_n rfl rfl rfl ?_
    refine X_getA rfl rfl (fun v34 => ?_)
    refine X_callS_UW (M' := M_X8_copy) (nA := 2) (As := [.ref v30, .ref v34]) (st := []) rfl rfl (by decide +kernel) rfl rfl rfl rfl rfl rfl rfl (fun _ e => ct_X8_copy e) (fun h37 => ?_)
    refine X_aload_n rfl rfl rfl ?_
    refine X_callV_IW (M' := M_X8_goOn) (nA := 0) (As := []) (st := []) (b := l0) (ci := 8) rfl rfl (by decide +kernel) rfl rfl rfl rfl rfl rfl rfl rfl (fun _ _ e => ct_X8_goOn e) (fun y41 => ?_)
    refine X_istore_n rfl rfl rfl rfl ?_
    refine X_iload_n rfl rfl rfl ?_
    refine X_bif_ne rfl rfl (fun _ => ?_) (fun _ => ?_)
    · refine X_iload_n rfl rfl rfl ?_
      refine X_goto rfl rfl ?_
      exact X_sub (g_sub_s (g_sub_n (g_sub_n (g_sub_n g_sub_0)))) (b_X8_foretold_b80  _ _ _)
    · refine X_iload_n rfl rfl rfl ?_
      refine X_iconst (v := 1) rfl rfl (by decide) ?_
      refine X_bicmp_ne rfl rfl (fun _ => ?_) (fun _ => ?_)
      · refine X_aload_n rfl rfl rfl ?_
        refine X_callV_IR (M' := M_X8_agreeing) (nA := 0) (As := []) (st := []) (b := l0) (ci := 8) rfl rfl (by decide +kernel) rfl rfl rfl rfl rfl rfl rfl rfl (fun _ e => ct_X8_agreeing e) (fun v59 => ?_)
        refine X_goto rfl rfl ?_
        exact X_sub (g_sub_s (g_sub_n (g_sub_n (g_sub_n g_sub_0)))) (b_X8_foretold_b80  _ _ _)
      · refine X_aload_n rfl rfl rfl ?_
        refine X_getA rfl rfl (fun v66 => ?_)
        refine X_bipush (v := 6) rfl rfl (by decide) ?_
        refine X_ald rfl rfl (fun v71 => ?_)
        refine X_aload_n rfl rfl rfl ?_
        refine X_getA rfl rfl (fun v73 => ?_)
        refine X_bipush (v := 6) rfl rfl (by decide) ?_
        refine X_ald rfl rfl (fun v78 => ?_)
        refine X_isub rfl rfl ?_
        exact X_sub (g_sub_s (g_sub_n (g_sub_n (g_sub_n g_sub_0)))) (b_X8_foretold_b80  _ _ _)
  · refine X_iconst (v := 0) rfl rfl (by decide) ?_
    exact X_iret rfl rfl rfl rfl rfl rfl rfl
set_option maxRecDepth 100000 in
theorem ct_X8_foretold {l : Launch} {G : gG} {h : gH} {a0 : Nat} {p1 : Int32} {r : Int32} {h1 : gH} (e : f_X8_foretold h a0 p1 = some (r, h1)) : Ct l G M_X8_foretold [.ref a0, .int p1] h (some (.int r)) h1 := by
  refine Ct_of (L := [some (.ref a0), some (.int p1), none, none]) ok_X8_foretold (by decide +kernel) rfl rfl rfl (ρ := g_wI) (F := f_X8_foretold h a0 p1) ?_ e rfl
  unfold f_X8_foretold
  refine X_aload_n rfl rfl rfl ?_
  refine X_iconst (v := 0) rfl rfl (by decide) ?_
  refine X_put rfl rfl rfl rfl rfl (fun h2 => ?_)
  refine X_aload_n rfl rfl rfl ?_
  refine X_iload_n rfl rfl rfl ?_
  refine X_iconst (v := 0) rfl rfl (by decide) ?_
  refine X_iconst (v := 2) rfl rfl (by decide) ?_
  refine X_callS_IP (v := f_X8_in p1 0 2) (M' := M_X8_in) (nA := 3) (As := [.int p1, .int 0, .int 2]) (st := [.ref a0]) rfl rfl (by decide +kernel) rfl rfl rfl rfl rfl rfl rfl ct_X8_in ?_
  refine X_bif_ne rfl rfl (fun _ => ?_) (fun _ => ?_)
  · refine X_iconst (v := 1) rfl rfl (by decide) ?_
    refine X_goto rfl rfl ?_
    exact X_sub (g_sub_s (g_sub_s (g_sub_n (g_sub_n g_sub_0)))) (b_X8_foretold_b20  _ _ _ _ _)
  · refine X_iconst (v := 0) rfl rfl (by decide) ?_
    exact X_sub (g_sub_s (g_sub_s (g_sub_n (g_sub_n g_sub_0)))) (b_X8_foretold_b20  _ _ _ _ _)
def f_X8_areThrough_b37 (h : gH) (K2 : Nat → Int32 → Option (Int32)) (l0 : Nat) (l1 : Int32) : Option (Int32) :=
  K2 l0 (l1 + 1)
def f_X8_areThrough_b2 (h : gH) : Nat → Nat → Int32 → Option (Int32)
  | 0, _, _ => none
  | n + 1, l0, l1 =>
    (g_gA h l0 8 8).bind fun v4 =>
    (g_ald h v4 1).bind fun v8 =>
    (if l1 < v8 then
      (g_gA h l0 8 10).bind fun v13 =>
      (g_ald h v13 ((f_X8_messageAt l1) + 3)).bind fun v22 =>
      (if v22 < 2 then
        bif g_is h l0 8 then
        (f_X8_agrees h l0 l1).bind fun v29 =>
        (if v29 = 0 then
          some 0
        else
          f_X8_areThrough_b37 h (f_X8_areThrough_b2 h n) l0 l1)
        else none
      else
        f_X8_areThrough_b37 h (f_X8_areThrough_b2 h n) l0 l1)
    else
      some 1)
def f_X8_areThrough (h : gH) (a0 : Nat) : Option (Int32) :=
  f_X8_areThrough_b2 h g_N a0 0
set_option maxRecDepth 100000 in
theorem b_X8_areThrough_b37 {l : Launch} {G : gG} {h : gH} {K2 : Nat → Int32 → Option (Int32)} (hK2 : ∀ (l0 : Nat) (l1 : Int32), GX l G M_X8_areThrough (g_phi G (g_rI h) (m_R M_X8_areThrough).cells (m_R M_X8_areThrough).slots) 0 0 2 [some (.ref l0), some (.int l1)] [] h (K2 l0 l1)) (l0 : Nat) (l1 : Int32) : GX l G M_X8_areThrough (g_phi G (g_rI h) (m_R M_X8_areThrough).cells (m_R M_X8_areThrough).slots) 0 0 37 [some (.ref l0), some (.int l1)] [] h (f_X8_areThrough_b37 h K2 l0 l1) := by
  unfold f_X8_areThrough_b37
  refine X_iinc (v := l1 + 1) rfl rfl rfl (congrArg (fun z => l1 + z) (by decide : Int32.ofInt 1 = 1)) rfl ?_
  refine X_goto rfl rfl ?_
  exact X_sub (g_sub_s (g_sub_s g_sub_0)) (hK2 _ _)
set_option maxRecDepth 100000 in
theorem b_X8_areThrough_b2 {l : Launch} {G : gG} {h : gH} : ∀ (n : Nat) (l0 : Nat) (l1 : Int32), GX l G M_X8_areThrough (g_phi G (g_rI h) (m_R M_X8_areThrough).cells (m_R M_X8_areThrough).slots) 0 0 2 [some (.ref l0), some (.int l1)] [] h (f_X8_areThrough_b2 h n l0 l1) := by
  intro n
  induction n with
  | zero => intros; exact X_none
  | succ n ih =>
    intro l0 l1
    rw [f_X8_areThrough_b2]
    refine X_iload_n rfl rfl rfl ?_
    refine X_aload_n rfl rfl rfl ?_
    refine X_getA rfl rfl (fun v4 => ?_)
    refine X_iconst (v := 1) rfl rfl (by decide) ?_
    refine X_ald rfl rfl (fun v8 => ?_)
    refine X_bicmp_ge rfl rfl (fun _ => ?_) (fun _ => ?_)
    · refine X_aload_n rfl rfl rfl ?_
      refine X_getA rfl rfl (fun v13 => ?_)
      refine X_iload_n rfl rfl rfl ?_
      refine X_callS_IP (v := f_X8_messageAt l1) (M' := M_X8_messageAt) (nA := 1) (As := [.int l1]) (st := [.ref v13]) rfl rfl (by decide +kernel) rfl rfl rfl rfl rfl rfl rfl ct_X8_messageAt ?_
      refine X_iconst (v := 3) rfl rfl (by decide) ?_
      refine X_iadd rfl rfl ?_
      refine X_ald rfl rfl (fun v22 => ?_)
      refine X_iconst (v := 2) rfl rfl (by decide) ?_
      refine X_bicmp_ge rfl rfl (fun _ => ?_) (fun _ => ?_)
      · refine X_aload_n rfl rfl rfl ?_
        refine X_iload_n rfl rfl rfl ?_
        refine X_callV_IR (M' := M_X8_agrees) (nA := 1) (As := [.int l1]) (st := []) (b := l0) (ci := 8) rfl rfl (by decide +kernel) rfl rfl rfl rfl rfl rfl rfl rfl (fun _ e => ct_X8_agrees e) (fun v29 => ?_)
        refine X_bif_ne rfl rfl (fun _ => ?_) (fun _ => ?_)
        · refine X_iconst (v := 0) rfl rfl (by decide) ?_
          exact X_iret rfl rfl rfl rfl rfl rfl rfl
        · exact X_sub (g_sub_s (g_sub_s g_sub_0)) (b_X8_areThrough_b37 ih _ _)
      · exact X_sub (g_sub_s (g_sub_s g_sub_0)) (b_X8_areThrough_b37 ih _ _)
    · refine X_iconst (v := 1) rfl rfl (by decide) ?_
      exact X_iret rfl rfl rfl rfl rfl rfl rfl
set_option maxRecDepth 100000 in
theorem ct_X8_areThrough {l : Launch} {G : gG} {h : gH} {a0 : Nat} {r : Int32} (e : f_X8_areThrough h a0 = some r) : Ct l G M_X8_areThrough [.ref a0] h (some (.int r)) h := by
  refine Ct_of (L := [some (.ref a0), none]) ok_X8_areThrough (by decide +kernel) rfl rfl rfl (ρ := (g_rI h)) (F := f_X8_areThrough h a0) ?_ e rfl
  unfold f_X8_areThrough
  refine X_iconst (v := 0) rfl rfl (by decide) ?_
  refine X_istore_n rfl rfl rfl rfl ?_
  exact X_sub (g_sub_s (g_sub_s g_sub_0)) (b_X8_areThrough_b2  _ _ _)
def f_X8_leastPower_b69 (K30 : gH → Nat → Int32 → Int32 → Int32 → Option (Int32 × gH)) (h : gH) (l0 : Nat) (l1 : Int32) (l2 : Int32) (l3 : Int32) : Option (Int32 × gH) :=
  (g_gA h l0 8 10).bind fun v70 =>
  (g_gA h l0 8 8).bind fun v74 =>
  (f_X8_copy h v70 v74).bind fun h77 =>
  K30 h77 l0 l1 l2 (l3 + 1)
def f_X8_leastPower_b30 : Nat → gH → Nat → Int32 → Int32 → Int32 → Option (Int32 × gH)
  | 0, _, _, _, _, _ => none
  | n + 1, h, l0, l1, l2, l3 =>
    (if l3 ≤ 9 then
      (if l2 = (-1) then
        bif g_is h l0 8 then
        (f_X8_setChannel h l0 l1 0 l3).bind fun h45 =>
        bif g_is h45 l0 8 then
        (f_X8_goOn h45 l0).bind fun y49 =>
        (if y49.1 = (-1) then
          f_X8_leastPower_b69 (f_X8_leastPower_b30  n) y49.2 l0 l1 l2 l3
        else
          bif g_is y49.2 l0 8 then
          (f_X8_areThrough y49.2 l0).bind fun v61 =>
          (if v61 = 0 then
            f_X8_leastPower_b69 (f_X8_leastPower_b30  n) y49.2 l0 l1 l2 l3
          else
            f_X8_leastPower_b69 (f_X8_leastPower_b30  n) y49.2 l0 l1 l3 l3)
          else none)
        else none
        else none
      else
        some (l2, h))
    else
      some (l2, h))
def f_X8_leastPower (h : gH) (a0 : Nat) (p1 : Int32) : Option (Int32 × gH) :=
  (g_put h a0 8 0 (.int 0)).bind fun h2 =>
  bif g_is h2 a0 8 then
  (f_X8_noChannel h2 a0 p1).bind fun y7 =>
  (if y7.1 = 0 then
    (g_gA y7.2 a0 8 8).bind fun v16 =>
    (g_gA y7.2 a0 8 10).bind fun v20 =>
    (f_X8_copy y7.2 v16 v20).bind fun h23 =>
    f_X8_leastPower_b30 g_N h23 a0 p1 (-1) 0
  else
    some (0, y7.2))
  else none
set_option maxRecDepth 100000 in
theorem b_X8_leastPower_b69 {l : Launch} {G : gG} {K30 : gH → Nat → Int32 → Int32 → Int32 → Option (Int32 × gH)} (hK30 : ∀ (h : gH) (l0 : Nat) (l1 : Int32) (l2 : Int32) (l3 : Int32), GX l G M_X8_leastPower (g_phi G g_wI (m_R M_X8_leastPower).cells (m_R M_X8_leastPower).slots) 0 0 30 [some (.ref l0), some (.int l1), some (.int l2), some (.int l3), none] [] h (K30 h l0 l1 l2 l3)) (h : gH) (l0 : Nat) (l1 : Int32) (l2 : Int32) (l3 : Int32) : GX l G M_X8_leastPower (g_phi G g_wI (m_R M_X8_leastPower).cells (m_R M_X8_leastPower).slots) 0 0 69 [some (.ref l0), some (.int l1), some (.int l2), some (.int l3), none] [] h (f_X8_leastPower_b69 K30 h l0 l1 l2 l3) := by
  unfold f_X8_leastPower_b69
  refine X_aload_n rfl rfl rfl ?_
  refine X_getA rfl rfl (fun v70 => ?_)
  refine X_aload_n rfl rfl rfl ?_
  refine X_getA rfl rfl (fun v74 => ?_)
  refine X_callS_UW (M' := M_X8_copy) (nA := 2) (As := [.ref v70, .ref v74]) (st := []) rfl rfl (by decide +kernel) rfl rfl rfl rfl rfl rfl rfl (fun _ e => ct_X8_copy e) (fun h77 => ?_)
  refine X_iinc (v := l3 + 1) rfl rfl rfl (congrArg (fun z => l3 + z) (by decide : Int32.ofInt 1 = 1)) rfl ?_
  refine X_goto rfl rfl ?_
  exact X_sub (g_sub_s (g_sub_s (g_sub_s (g_sub_s (g_sub_n g_sub_0))))) (hK30 _ _ _ _ _)
set_option maxRecDepth 100000 in
theorem b_X8_leastPower_b30 {l : Launch} {G : gG} : ∀ (n : Nat) (h : gH) (l0 : Nat) (l1 : Int32) (l2 : Int32) (l3 : Int32), GX l G M_X8_leastPower (g_phi G g_wI (m_R M_X8_leastPower).cells (m_R M_X8_leastPower).slots) 0 0 30 [some (.ref l0), some (.int l1), some (.int l2), some (.int l3), none] [] h (f_X8_leastPower_b30 n h l0 l1 l2 l3) := by
  intro n
  induction n with
  | zero => intros; exact X_none
  | succ n ih =>
    intro h l0 l1 l2 l3
    rw [f_X8_leastPower_b30]
    refine X_iload_n rfl rfl rfl ?_
    refine X_bipush (v := 9) rfl rfl (by decide) ?_
    refine X_bicmp_gt rfl rfl (fun _ => ?_) (fun _ => ?_)
    · refine X_iload_n rfl rfl rfl ?_
      refine X_iconst (v := -1) rfl rfl (by decide) ?_
      refine X_bicmp_ne rfl rfl (fun _ => ?_) (fun _ => ?_)
      · refine X_aload_n rfl rfl rfl ?_
        refine X_iload_n rfl rfl rfl ?_
        refine X_iconst (v := 0) rfl rfl (by decide) ?_
        refine X_iload_n rfl rfl rfl ?_
        refine X_callV_UW (M' := M_X8_setChannel) (nA := 3) (As := [.int l1, .int 0, .int l3]) (st := []) (b := l0) (ci := 8) rfl rfl (by decide +kernel) rfl rfl rfl rfl rfl rfl rfl rfl (fun _ e => ct_X8_setChannel e) (fun h45 => ?_)
        refine X_aload_n rfl rfl rfl ?_
        refine X_callV_IW (M' := M_X8_goOn) (nA := 0) (As := []) (st := []) (b := l0) (ci := 8) rfl rfl (by decide +kernel) rfl rfl rfl rfl rfl rfl rfl rfl (fun _ _ e => ct_X8_goOn e) (fun y49 => ?_)
        refine X_istore rfl rfl rfl rfl ?_
        refine X_iload rfl rfl rfl ?_
        refine X_iconst (v := -1) rfl rfl (by decide) ?_
        refine X_bicmp_eq rfl rfl (fun _ => ?_) (fun _ => ?_)
        · exact X_sub (g_sub_s (g_sub_s (g_sub_s (g_sub_s (g_sub_n g_sub_0))))) (b_X8_leastPower_b69 ih _ _ _ _ _)
        · refine X_aload_n rfl rfl rfl ?_
          refine X_callV_IR (M' := M_X8_areThrough) (nA := 0) (As := []) (st := []) (b := l0) (ci := 8) rfl rfl (by decide +kernel) rfl rfl rfl rfl rfl rfl rfl rfl (fun _ e => ct_X8_areThrough e) (fun v61 => ?_)
          refine X_bif_eq rfl rfl (fun _ => ?_) (fun _ => ?_)
          · exact X_sub (g_sub_s (g_sub_s (g_sub_s (g_sub_s (g_sub_n g_sub_0))))) (b_X8_leastPower_b69 ih _ _ _ _ _)
          · refine X_iload_n rfl rfl rfl ?_
            refine X_istore_n rfl rfl rfl rfl ?_
            exact X_sub (g_sub_s (g_sub_s (g_sub_s (g_sub_s (g_sub_n g_sub_0))))) (b_X8_leastPower_b69 ih _ _ _ _ _)
      · refine X_iload_n rfl rfl rfl ?_
        exact X_iret rfl rfl rfl rfl rfl rfl rfl
    · refine X_iload_n rfl rfl rfl ?_
      exact X_iret rfl rfl rfl rfl rfl rfl rfl
set_option maxRecDepth 100000 in
theorem ct_X8_leastPower {l : Launch} {G : gG} {h : gH} {a0 : Nat} {p1 : Int32} {r : Int32} {h1 : gH} (e : f_X8_leastPower h a0 p1 = some (r, h1)) : Ct l G M_X8_leastPower [.ref a0, .int p1] h (some (.int r)) h1 := by
  refine Ct_of (L := [some (.ref a0), some (.int p1), none, none, none]) ok_X8_leastPower (by decide +kernel) rfl rfl rfl (ρ := g_wI) (F := f_X8_leastPower h a0 p1) ?_ e rfl
  unfold f_X8_leastPower
  refine X_aload_n rfl rfl rfl ?_
  refine X_iconst (v := 0) rfl rfl (by decide) ?_
  refine X_put rfl rfl rfl rfl rfl (fun h2 => ?_)
  refine X_aload_n rfl rfl rfl ?_
  refine X_iload_n rfl rfl rfl ?_
  refine X_callV_IW (M' := M_X8_noChannel) (nA := 1) (As := [.int p1]) (st := []) (b := a0) (ci := 8) rfl rfl (by decide +kernel) rfl rfl rfl rfl rfl rfl rfl rfl (fun _ _ e => ct_X8_noChannel e) (fun y7 => ?_)
  refine X_bif_eq rfl rfl (fun _ => ?_) (fun _ => ?_)
  · refine X_aload_n rfl rfl rfl ?_
    refine X_getA rfl rfl (fun v16 => ?_)
    refine X_aload_n rfl rfl rfl ?_
    refine X_getA rfl rfl (fun v20 => ?_)
    refine X_callS_UW (M' := M_X8_copy) (nA := 2) (As := [.ref v16, .ref v20]) (st := []) rfl rfl (by decide +kernel) rfl rfl rfl rfl rfl rfl rfl (fun _ e => ct_X8_copy e) (fun h23 => ?_)
    refine X_iconst (v := -1) rfl rfl (by decide) ?_
    refine X_istore_n rfl rfl rfl rfl ?_
    refine X_iconst (v := 0) rfl rfl (by decide) ?_
    refine X_istore_n rfl rfl rfl rfl ?_
    exact X_sub (g_sub_s (g_sub_s (g_sub_s (g_sub_s (g_sub_n g_sub_0))))) (b_X8_leastPower_b30  _ _ _ _ _ _)
  · refine X_iconst (v := 0) rfl rfl (by decide) ?_
    exact X_iret rfl rfl rfl rfl rfl rfl rfl
def f_X8_quality (h : gH) (a0 : Nat) : Option (UInt64 × gH) :=
  (g_put h a0 8 0 (.int 0)).bind fun h2 =>
  (g_gA h2 a0 8 8).bind fun v6 =>
  (g_ald h2 v6 3).bind fun v10 =>
  (if v10 = 0 then
    some (0, h2)
  else
    (g_gA h2 a0 8 8).bind fun v19 =>
    (g_ald h2 v19 3).bind fun v23 =>
    (g_gA h2 a0 8 8).bind fun v25 =>
    (g_ald h2 v25 4).bind fun v29 =>
    (g_gA h2 a0 8 8).bind fun v32 =>
    (g_ald h2 v32 5).bind fun v36 =>
    (g_gA h2 a0 8 8).bind fun v40 =>
    (g_ald h2 v40 3).bind fun v44 =>
    if hd46 : (FP.ddiv (FP.i2d ((v23 - v29) - v36)) (FP.i2d v44)) &&& 0x7fffffffffffffff ≤ 0x7ff0000000000000 then
    some (FP.ddiv (FP.i2d ((v23 - v29) - v36)) (FP.i2d v44), h2)
    else none)
set_option maxRecDepth 100000 in
theorem ct_X8_quality {l : Launch} {G : gG} {h : gH} {a0 : Nat} {r : UInt64} {h1 : gH} (e : f_X8_quality h a0 = some (r, h1)) : Ct l G M_X8_quality [.ref a0] h (some (.double r)) h1 := by
  refine Ct_of (L := [some (.ref a0)]) ok_X8_quality (by decide +kernel) rfl rfl rfl (ρ := g_wD) (F := f_X8_quality h a0) ?_ e rfl
  unfold f_X8_quality
  refine X_aload_n rfl rfl rfl ?_
  refine X_iconst (v := 0) rfl rfl (by decide) ?_
  refine X_put rfl rfl rfl rfl rfl (fun h2 => ?_)
  refine X_aload_n rfl rfl rfl ?_
  refine X_getA rfl rfl (fun v6 => ?_)
  refine X_iconst (v := 3) rfl rfl (by decide) ?_
  refine X_ald rfl rfl (fun v10 => ?_)
  refine X_bif_ne rfl rfl (fun _ => ?_) (fun _ => ?_)
  · refine X_dconst0 rfl rfl ?_
    refine X_goto rfl rfl ?_
    exact X_dret rfl rfl rfl rfl rfl rfl
  · refine X_aload_n rfl rfl rfl ?_
    refine X_getA rfl rfl (fun v19 => ?_)
    refine X_iconst (v := 3) rfl rfl (by decide) ?_
    refine X_ald rfl rfl (fun v23 => ?_)
    refine X_aload_n rfl rfl rfl ?_
    refine X_getA rfl rfl (fun v25 => ?_)
    refine X_iconst (v := 4) rfl rfl (by decide) ?_
    refine X_ald rfl rfl (fun v29 => ?_)
    refine X_isub rfl rfl ?_
    refine X_aload_n rfl rfl rfl ?_
    refine X_getA rfl rfl (fun v32 => ?_)
    refine X_iconst (v := 5) rfl rfl (by decide) ?_
    refine X_ald rfl rfl (fun v36 => ?_)
    refine X_isub rfl rfl ?_
    refine X_i2d rfl rfl ?_
    refine X_aload_n rfl rfl rfl ?_
    refine X_getA rfl rfl (fun v40 => ?_)
    refine X_iconst (v := 3) rfl rfl (by decide) ?_
    refine X_ald rfl rfl (fun v44 => ?_)
    refine X_i2d rfl rfl ?_
    refine X_dif (fun c => ?_) (fun _ => X_none)
    refine X_ddiv rfl rfl c ?_
    exact X_dret rfl rfl rfl rfl rfl rfl
def f_X8_pass_b42 : Nat → gH → Nat → Int32 → Int32 → Int32 → Option (Int32 × gH)
  | 0, _, _, _, _, _ => none
  | n + 1, h, l0, l1, l2, l3 =>
    (if l3 < l1 then
      bif g_is h l0 8 then
      (f_X8_tick h l0).bind fun h48 =>
      f_X8_pass_b42  n h48 l0 l1 l2 (l3 + 1)
      else none
    else
      bif g_is h l0 8 then
      (f_X8_inState h l0 2).bind fun v59 =>
      some (v59 - l2, h)
      else none)
def f_X8_pass_b21 (h : gH) (l0 : Nat) (l1 : Int32) (s0 : Int32) (s1 : Nat) : Option (Int32 × gH) :=
  bif g_is h s1 8 then
  (f_X8_fails h s1 s0 1).bind fun y22 =>
  (if y22.1 = 0 then
    bif g_is y22.2 l0 8 then
    (f_X8_remember y22.2 l0).bind fun h31 =>
    bif g_is h31 l0 8 then
    (f_X8_inState h31 l0 2).bind fun v36 =>
    f_X8_pass_b42 g_N h31 l0 l1 v36 0
    else none
    else none
  else
    some (0, y22.2))
  else none
def f_X8_pass (h : gH) (a0 : Nat) (p1 : Int32) : Option (Int32 × gH) :=
  (g_put h a0 8 0 (.int 0)).bind fun h2 =>
  (if (f_X8_in p1 1 100) = 0 then
    f_X8_pass_b21 h2 a0 p1 1 a0
  else
    f_X8_pass_b21 h2 a0 p1 0 a0)
set_option maxRecDepth 100000 in
theorem b_X8_pass_b42 {l : Launch} {G : gG} : ∀ (n : Nat) (h : gH) (l0 : Nat) (l1 : Int32) (l2 : Int32) (l3 : Int32), GX l G M_X8_pass (g_phi G g_wI (m_R M_X8_pass).cells (m_R M_X8_pass).slots) 0 0 42 [some (.ref l0), some (.int l1), some (.int l2), some (.int l3)] [] h (f_X8_pass_b42 n h l0 l1 l2 l3) := by
  intro n
  induction n with
  | zero => intros; exact X_none
  | succ n ih =>
    intro h l0 l1 l2 l3
    rw [f_X8_pass_b42]
    refine X_iload_n rfl rfl rfl ?_
    refine X_iload_n rfl rfl rfl ?_
    refine X_bicmp_ge rfl rfl (fun _ => ?_) (fun _ => ?_)
    · refine X_aload_n rfl rfl rfl ?_
      refine X_callV_UW (M' := M_X8_tick) (nA := 0) (As := []) (st := []) (b := l0) (ci := 8) rfl rfl (by decide +kernel) rfl rfl rfl rfl rfl rfl rfl rfl (fun _ e => ct_X8_tick e) (fun h48 => ?_)
      refine X_iinc (v := l3 + 1) rfl rfl rfl (congrArg (fun z => l3 + z) (by decide : Int32.ofInt 1 = 1)) rfl ?_
      refine X_goto rfl rfl ?_
      exact X_sub (g_sub_s (g_sub_s (g_sub_s (g_sub_s g_sub_0)))) (ih _ _ _ _ _)
    · refine X_aload_n rfl rfl rfl ?_
      refine X_iconst (v := 2) rfl rfl (by decide) ?_
      refine X_callV_IR (M' := M_X8_inState) (nA := 1) (As := [.int 2]) (st := []) (b := l0) (ci := 8) rfl rfl (by decide +kernel) rfl rfl rfl rfl rfl rfl rfl rfl (fun _ e => ct_X8_inState e) (fun v59 => ?_)
      refine X_iload_n rfl rfl rfl ?_
      refine X_isub rfl rfl ?_
      exact X_iret rfl rfl rfl rfl rfl rfl rfl
set_option maxRecDepth 100000 in
theorem b_X8_pass_b21 {l : Launch} {G : gG} (h : gH) (l0 : Nat) (l1 : Int32) (s0 : Int32) (s1 : Nat) : GX l G M_X8_pass (g_phi G g_wI (m_R M_X8_pass).cells (m_R M_X8_pass).slots) 0 0 21 [some (.ref l0), some (.int l1), none, none] [.int s0, .ref s1] h (f_X8_pass_b21 h l0 l1 s0 s1) := by
  unfold f_X8_pass_b21
  refine X_iconst (v := 1) rfl rfl (by decide) ?_
  refine X_callV_IW (M' := M_X8_fails) (nA := 2) (As := [.int s0, .int 1]) (st := []) (b := s1) (ci := 8) rfl rfl (by decide +kernel) rfl rfl rfl rfl rfl rfl rfl rfl (fun _ _ e => ct_X8_fails e) (fun y22 => ?_)
  refine X_bif_eq rfl rfl (fun _ => ?_) (fun _ => ?_)
  · refine X_aload_n rfl rfl rfl ?_
    refine X_callV_UW (M' := M_X8_remember) (nA := 0) (As := []) (st := []) (b := l0) (ci := 8) rfl rfl (by decide +kernel) rfl rfl rfl rfl rfl rfl rfl rfl (fun _ e => ct_X8_remember e) (fun h31 => ?_)
    refine X_aload_n rfl rfl rfl ?_
    refine X_iconst (v := 2) rfl rfl (by decide) ?_
    refine X_callV_IR (M' := M_X8_inState) (nA := 1) (As := [.int 2]) (st := []) (b := l0) (ci := 8) rfl rfl (by decide +kernel) rfl rfl rfl rfl rfl rfl rfl rfl (fun _ e => ct_X8_inState e) (fun v36 => ?_)
    refine X_istore_n rfl rfl rfl rfl ?_
    refine X_iconst (v := 0) rfl rfl (by decide) ?_
    refine X_istore_n rfl rfl rfl rfl ?_
    exact X_sub (g_sub_s (g_sub_s (g_sub_s (g_sub_s g_sub_0)))) (b_X8_pass_b42  _ _ _ _ _ _)
  · refine X_iconst (v := 0) rfl rfl (by decide) ?_
    exact X_iret rfl rfl rfl rfl rfl rfl rfl
set_option maxRecDepth 100000 in
theorem ct_X8_pass {l : Launch} {G : gG} {h : gH} {a0 : Nat} {p1 : Int32} {r : Int32} {h1 : gH} (e : f_X8_pass h a0 p1 = some (r, h1)) : Ct l G M_X8_pass [.ref a0, .int p1] h (some (.int r)) h1 := by
  refine Ct_of (L := [some (.ref a0), some (.int p1), none, none]) ok_X8_pass (by decide +kernel) rfl rfl rfl (ρ := g_wI) (F := f_X8_pass h a0 p1) ?_ e rfl
  unfold f_X8_pass
  refine X_aload_n rfl rfl rfl ?_
  refine X_iconst (v := 0) rfl rfl (by decide) ?_
  refine X_put rfl rfl rfl rfl rfl (fun h2 => ?_)
  refine X_aload_n rfl rfl rfl ?_
  refine X_iload_n rfl rfl rfl ?_
  refine X_iconst (v := 1) rfl rfl (by decide) ?_
  refine X_bipush (v := 100) rfl rfl (by decide) ?_
  refine X_callS_IP (v := f_X8_in p1 1 100) (M' := M_X8_in) (nA := 3) (As := [.int p1, .int 1, .int 100]) (st := [.ref a0]) rfl rfl (by decide +kernel) rfl rfl rfl rfl rfl rfl rfl ct_X8_in ?_
  refine X_bif_ne rfl rfl (fun _ => ?_) (fun _ => ?_)
  · refine X_iconst (v := 1) rfl rfl (by decide) ?_
    refine X_goto rfl rfl ?_
    exact X_sub (g_sub_s (g_sub_s (g_sub_n (g_sub_n g_sub_0)))) (b_X8_pass_b21  _ _ _ _ _)
  · refine X_iconst (v := 0) rfl rfl (by decide) ?_
    exact X_sub (g_sub_s (g_sub_s (g_sub_n (g_sub_n g_sub_0)))) (b_X8_pass_b21  _ _ _ _ _)
def f_X8_areLetters_b2 (h : gH) : Nat → Nat → Int32 → Int32 → Option (Int32)
  | 0, _, _, _ => none
  | n + 1, l0, l1, l2 =>
    (if l2 < l1 then
      (g_gA h l0 8 1).bind fun v8 =>
      (g_ald h v8 l2).bind fun v12 =>
      (if (f_X8_in v12 97 122) = 0 then
        some 0
      else
        f_X8_areLetters_b2 h n l0 l1 (l2 + 1))
    else
      some 1)
def f_X8_areLetters (h : gH) (a0 : Nat) (p1 : Int32) : Option (Int32) :=
  f_X8_areLetters_b2 h g_N a0 p1 0
set_option maxRecDepth 100000 in
theorem b_X8_areLetters_b2 {l : Launch} {G : gG} {h : gH} : ∀ (n : Nat) (l0 : Nat) (l1 : Int32) (l2 : Int32), GX l G M_X8_areLetters (g_phi G (g_rI h) (m_R M_X8_areLetters).cells (m_R M_X8_areLetters).slots) 0 0 2 [some (.ref l0), some (.int l1), some (.int l2)] [] h (f_X8_areLetters_b2 h n l0 l1 l2) := by
  intro n
  induction n with
  | zero => intros; exact X_none
  | succ n ih =>
    intro l0 l1 l2
    rw [f_X8_areLetters_b2]
    refine X_iload_n rfl rfl rfl ?_
    refine X_iload_n rfl rfl rfl ?_
    refine X_bicmp_ge rfl rfl (fun _ => ?_) (fun _ => ?_)
    · refine X_aload_n rfl rfl rfl ?_
      refine X_getA rfl rfl (fun v8 => ?_)
      refine X_iload_n rfl rfl rfl ?_
      refine X_ald rfl rfl (fun v12 => ?_)
      refine X_bipush (v := 97) rfl rfl (by decide) ?_
      refine X_bipush (v := 122) rfl rfl (by decide) ?_
      refine X_callS_IP (v := f_X8_in v12 97 122) (M' := M_X8_in) (nA := 3) (As := [.int v12, .int 97, .int 122]) (st := []) rfl rfl (by decide +kernel) rfl rfl rfl rfl rfl rfl rfl ct_X8_in ?_
      refine X_bif_ne rfl rfl (fun _ => ?_) (fun _ => ?_)
      · refine X_iconst (v := 0) rfl rfl (by decide) ?_
        exact X_iret rfl rfl rfl rfl rfl rfl rfl
      · refine X_iinc (v := l2 + 1) rfl rfl rfl (congrArg (fun z => l2 + z) (by decide : Int32.ofInt 1 = 1)) rfl ?_
        refine X_goto rfl rfl ?_
        exact X_sub (g_sub_s (g_sub_s (g_sub_s g_sub_0))) (ih _ _ _)
    · refine X_iconst (v := 1) rfl rfl (by decide) ?_
      exact X_iret rfl rfl rfl rfl rfl rfl rfl
set_option maxRecDepth 100000 in
theorem ct_X8_areLetters {l : Launch} {G : gG} {h : gH} {a0 : Nat} {p1 : Int32} {r : Int32} (e : f_X8_areLetters h a0 p1 = some r) : Ct l G M_X8_areLetters [.ref a0, .int p1] h (some (.int r)) h := by
  refine Ct_of (L := [some (.ref a0), some (.int p1), none]) ok_X8_areLetters (by decide +kernel) rfl rfl rfl (ρ := (g_rI h)) (F := f_X8_areLetters h a0 p1) ?_ e rfl
  unfold f_X8_areLetters
  refine X_iconst (v := 0) rfl rfl (by decide) ?_
  refine X_istore_n rfl rfl rfl rfl ?_
  exact X_sub (g_sub_s (g_sub_s (g_sub_s g_sub_0))) (b_X8_areLetters_b2  _ _ _ _)
def f_X8_send_b102 : Nat → gH → Nat → Int32 → Int32 → Int32 → Int32 → Int32 → Option (Int32 × gH)
  | 0, _, _, _, _, _, _, _ => none
  | n + 1, h, l0, l1, l2, l3, l4, l5 =>
    (if l5 < l3 then
      (g_gA h l0 8 1).bind fun v117 =>
      (g_ald h v117 l5).bind fun v122 =>
      bif g_is h l0 8 then
      (f_X8_set h l0 l4 (6 + l5) (v122 - 97)).bind fun h126 =>
      f_X8_send_b102  n h126 l0 l1 l2 l3 l4 (l5 + 1)
      else none
    else
      (g_gA h l0 8 8).bind fun v136 =>
      (f_X8_layMessage h v136 l1 l2 l3).bind fun h142 =>
      (g_put h142 l0 8 2 (.int 0)).bind fun h147 =>
      some (l4, h147))
def f_X8_send_b78 (h : gH) (l0 : Nat) (l1 : Int32) (l2 : Int32) (l3 : Int32) (s0 : Int32) (s1 : Nat) : Option (Int32 × gH) :=
  bif g_is h s1 8 then
  (f_X8_fails h s1 s0 3).bind fun y79 =>
  (if y79.1 = 0 then
    bif g_is y79.2 l0 8 then
    (f_X8_remember y79.2 l0).bind fun h88 =>
    (g_gA h88 l0 8 8).bind fun v92 =>
    (g_ald h88 v92 1).bind fun v96 =>
    f_X8_send_b102 g_N h88 l0 l1 l2 l3 v96 0
    else none
  else
    some (0, y79.2))
  else none
def f_X8_send_b54 (h : gH) (l0 : Nat) (l1 : Int32) (l2 : Int32) (l3 : Int32) (s0 : Int32) (s1 : Nat) : Option (Int32 × gH) :=
  bif g_is h s1 8 then
  (f_X8_fails h s1 s0 2).bind fun y55 =>
  (if y55.1 = 0 then
    (g_gA y55.2 l0 8 8).bind fun v63 =>
    (g_ald y55.2 v63 1).bind fun v67 =>
    (if v67 = 8 then
      f_X8_send_b78 y55.2 l0 l1 l2 l3 1 l0
    else
      f_X8_send_b78 y55.2 l0 l1 l2 l3 0 l0)
  else
    some (0, y55.2))
  else none
def f_X8_send_b49 (h : gH) (l0 : Nat) (l1 : Int32) (l2 : Int32) (l3 : Int32) (s0 : Nat) : Option (Int32 × gH) :=
  f_X8_send_b54 h l0 l1 l2 l3 1 s0
def f_X8_send (h : gH) (a0 : Nat) (p1 : Int32) (p2 : Int32) (p3 : Int32) : Option (Int32 × gH) :=
  (g_put h a0 8 0 (.int 0)).bind fun h2 =>
  bif g_is h2 a0 8 then
  (f_X8_noStation h2 a0 p1).bind fun y7 =>
  (if y7.1 = 0 then
    (if (f_X8_in p2 0 9) = 0 then
      f_X8_send_b49 y7.2 a0 p1 p2 p3 a0
    else
      (g_gI y7.2 a0 8 2).bind fun v29 =>
      (if (f_X8_in p3 1 (f_X8_min 24 v29)) = 0 then
        f_X8_send_b49 y7.2 a0 p1 p2 p3 a0
      else
        bif g_is y7.2 a0 8 then
        (f_X8_areLetters y7.2 a0 p3).bind fun v43 =>
        (if v43 = 0 then
          f_X8_send_b49 y7.2 a0 p1 p2 p3 a0
        else
          f_X8_send_b54 y7.2 a0 p1 p2 p3 0 a0)
        else none))
  else
    some (0, y7.2))
  else none
set_option maxRecDepth 100000 in
theorem b_X8_send_b102 {l : Launch} {G : gG} : ∀ (n : Nat) (h : gH) (l0 : Nat) (l1 : Int32) (l2 : Int32) (l3 : Int32) (l4 : Int32) (l5 : Int32), GX l G M_X8_send (g_phi G g_wI (m_R M_X8_send).cells (m_R M_X8_send).slots) 0 0 102 [some (.ref l0), some (.int l1), some (.int l2), some (.int l3), some (.int l4), some (.int l5)] [] h (f_X8_send_b102 n h l0 l1 l2 l3 l4 l5) := by
  intro n
  induction n with
  | zero => intros; exact X_none
  | succ n ih =>
    intro h l0 l1 l2 l3 l4 l5
    rw [f_X8_send_b102]
    refine X_iload rfl rfl rfl ?_
    refine X_iload_n rfl rfl rfl ?_
    refine X_bicmp_ge rfl rfl (fun _ => ?_) (fun _ => ?_)
    · refine X_aload_n rfl rfl rfl ?_
      refine X_iload rfl rfl rfl ?_
      refine X_bipush (v := 6) rfl rfl (by decide) ?_
      refine X_iload rfl rfl rfl ?_
      refine X_iadd rfl rfl ?_
      refine X_aload_n rfl rfl rfl ?_
      refine X_getA rfl rfl (fun v117 => ?_)
      refine X_iload rfl rfl rfl ?_
      refine X_ald rfl rfl (fun v122 => ?_)
      refine X_bipush (v := 97) rfl rfl (by decide) ?_
      refine X_isub rfl rfl ?_
      refine X_callV_UW (M' := M_X8_set) (nA := 3) (As := [.int l4, .int (6 + l5), .int (v122 - 97)]) (st := []) (b := l0) (ci := 8) rfl rfl (by decide +kernel) rfl rfl rfl rfl rfl rfl rfl rfl (fun _ e => ct_X8_set e) (fun h126 => ?_)
      refine X_iinc (v := l5 + 1) rfl rfl rfl (congrArg (fun z => l5 + z) (by decide : Int32.ofInt 1 = 1)) rfl ?_
      refine X_goto rfl rfl ?_
      exact X_sub (g_sub_s (g_sub_s (g_sub_s (g_sub_s (g_sub_s (g_sub_s g_sub_0)))))) (ih _ _ _ _ _ _ _)
    · refine X_aload_n rfl rfl rfl ?_
      refine X_getA rfl rfl (fun v136 => ?_)
      refine X_iload_n rfl rfl rfl ?_
      refine X_iload_n rfl rfl rfl ?_
      refine X_iload_n rfl rfl rfl ?_
      refine X_callS_UW (M' := M_X8_layMessage) (nA := 4) (As := [.ref v136, .int l1, .int l2, .int l3]) (st := []) rfl rfl (by decide +kernel) rfl rfl rfl rfl rfl rfl rfl (fun _ e => ct_X8_layMessage e) (fun h142 => ?_)
      refine X_aload_n rfl rfl rfl ?_
      refine X_iconst (v := 0) rfl rfl (by decide) ?_
      refine X_put rfl rfl rfl rfl rfl (fun h147 => ?_)
      refine X_iload rfl rfl rfl ?_
      exact X_iret rfl rfl rfl rfl rfl rfl rfl
set_option maxRecDepth 100000 in
theorem b_X8_send_b78 {l : Launch} {G : gG} (h : gH) (l0 : Nat) (l1 : Int32) (l2 : Int32) (l3 : Int32) (s0 : Int32) (s1 : Nat) : GX l G M_X8_send (g_phi G g_wI (m_R M_X8_send).cells (m_R M_X8_send).slots) 0 0 78 [some (.ref l0), some (.int l1), some (.int l2), some (.int l3), none, none] [.int s0, .ref s1] h (f_X8_send_b78 h l0 l1 l2 l3 s0 s1) := by
  unfold f_X8_send_b78
  refine X_iconst (v := 3) rfl rfl (by decide) ?_
  refine X_callV_IW (M' := M_X8_fails) (nA := 2) (As := [.int s0, .int 3]) (st := []) (b := s1) (ci := 8) rfl rfl (by decide +kernel) rfl rfl rfl rfl rfl rfl rfl rfl (fun _ _ e => ct_X8_fails e) (fun y79 => ?_)
  refine X_bif_eq rfl rfl (fun _ => ?_) (fun _ => ?_)
  · refine X_aload_n rfl rfl rfl ?_
    refine X_callV_UW (M' := M_X8_remember) (nA := 0) (As := []) (st := []) (b := l0) (ci := 8) rfl rfl (by decide +kernel) rfl rfl rfl rfl rfl rfl rfl rfl (fun _ e => ct_X8_remember e) (fun h88 => ?_)
    refine X_aload_n rfl rfl rfl ?_
    refine X_getA rfl rfl (fun v92 => ?_)
    refine X_iconst (v := 1) rfl rfl (by decide) ?_
    refine X_ald rfl rfl (fun v96 => ?_)
    refine X_istore rfl rfl rfl rfl ?_
    refine X_iconst (v := 0) rfl rfl (by decide) ?_
    refine X_istore rfl rfl rfl rfl ?_
    exact X_sub (g_sub_s (g_sub_s (g_sub_s (g_sub_s (g_sub_s (g_sub_s g_sub_0)))))) (b_X8_send_b102  _ _ _ _ _ _ _ _)
  · refine X_iconst (v := 0) rfl rfl (by decide) ?_
    exact X_iret rfl rfl rfl rfl rfl rfl rfl
set_option maxRecDepth 100000 in
theorem b_X8_send_b54 {l : Launch} {G : gG} (h : gH) (l0 : Nat) (l1 : Int32) (l2 : Int32) (l3 : Int32) (s0 : Int32) (s1 : Nat) : GX l G M_X8_send (g_phi G g_wI (m_R M_X8_send).cells (m_R M_X8_send).slots) 0 0 54 [some (.ref l0), some (.int l1), some (.int l2), some (.int l3), none, none] [.int s0, .ref s1] h (f_X8_send_b54 h l0 l1 l2 l3 s0 s1) := by
  unfold f_X8_send_b54
  refine X_iconst (v := 2) rfl rfl (by decide) ?_
  refine X_callV_IW (M' := M_X8_fails) (nA := 2) (As := [.int s0, .int 2]) (st := []) (b := s1) (ci := 8) rfl rfl (by decide +kernel) rfl rfl rfl rfl rfl rfl rfl rfl (fun _ _ e => ct_X8_fails e) (fun y55 => ?_)
  refine X_bif_ne rfl rfl (fun _ => ?_) (fun _ => ?_)
  · refine X_aload_n rfl rfl rfl ?_
    refine X_aload_n rfl rfl rfl ?_
    refine X_getA rfl rfl (fun v63 => ?_)
    refine X_iconst (v := 1) rfl rfl (by decide) ?_
    refine X_ald rfl rfl (fun v67 => ?_)
    refine X_bipush (v := 8) rfl rfl (by decide) ?_
    refine X_bicmp_ne rfl rfl (fun _ => ?_) (fun _ => ?_)
    · refine X_iconst (v := 1) rfl rfl (by decide) ?_
      refine X_goto rfl rfl ?_
      exact X_sub (g_sub_s (g_sub_s (g_sub_s (g_sub_s (g_sub_n (g_sub_n g_sub_0)))))) (b_X8_send_b78  _ _ _ _ _ _ _)
    · refine X_iconst (v := 0) rfl rfl (by decide) ?_
      exact X_sub (g_sub_s (g_sub_s (g_sub_s (g_sub_s (g_sub_n (g_sub_n g_sub_0)))))) (b_X8_send_b78  _ _ _ _ _ _ _)
  · refine X_iconst (v := 0) rfl rfl (by decide) ?_
    exact X_iret rfl rfl rfl rfl rfl rfl rfl
set_option maxRecDepth 100000 in
theorem b_X8_send_b49 {l : Launch} {G : gG} (h : gH) (l0 : Nat) (l1 : Int32) (l2 : Int32) (l3 : Int32) (s0 : Nat) : GX l G M_X8_send (g_phi G g_wI (m_R M_X8_send).cells (m_R M_X8_send).slots) 0 0 49 [some (.ref l0), some (.int l1), some (.int l2), some (.int l3), none, none] [.ref s0] h (f_X8_send_b49 h l0 l1 l2 l3 s0) := by
  unfold f_X8_send_b49
  refine X_iconst (v := 1) rfl rfl (by decide) ?_
  refine X_goto rfl rfl ?_
  exact X_sub (g_sub_s (g_sub_s (g_sub_s (g_sub_s (g_sub_n (g_sub_n g_sub_0)))))) (b_X8_send_b54  _ _ _ _ _ _ _)
set_option maxRecDepth 100000 in
theorem ct_X8_send {l : Launch} {G : gG} {h : gH} {a0 : Nat} {p1 : Int32} {p2 : Int32} {p3 : Int32} {r : Int32} {h1 : gH} (e : f_X8_send h a0 p1 p2 p3 = some (r, h1)) : Ct l G M_X8_send [.ref a0, .int p1, .int p2, .int p3] h (some (.int r)) h1 := by
  refine Ct_of (L := [some (.ref a0), some (.int p1), some (.int p2), some (.int p3), none, none]) ok_X8_send (by decide +kernel) rfl rfl rfl (ρ := g_wI) (F := f_X8_send h a0 p1 p2 p3) ?_ e rfl
  unfold f_X8_send
  refine X_aload_n rfl rfl rfl ?_
  refine X_iconst (v := 0) rfl rfl (by decide) ?_
  refine X_put rfl rfl rfl rfl rfl (fun h2 => ?_)
  refine X_aload_n rfl rfl rfl ?_
  refine X_iload_n rfl rfl rfl ?_
  refine X_callV_IW (M' := M_X8_noStation) (nA := 1) (As := [.int p1]) (st := []) (b := a0) (ci := 8) rfl rfl (by decide +kernel) rfl rfl rfl rfl rfl rfl rfl rfl (fun _ _ e => ct_X8_noStation e) (fun y7 => ?_)
  refine X_bif_ne rfl rfl (fun _ => ?_) (fun _ => ?_)
  · refine X_aload_n rfl rfl rfl ?_
    refine X_iload_n rfl rfl rfl ?_
    refine X_iconst (v := 0) rfl rfl (by decide) ?_
    refine X_bipush (v := 9) rfl rfl (by decide) ?_
    refine X_callS_IP (v := f_X8_in p2 0 9) (M' := M_X8_in) (nA := 3) (As := [.int p2, .int 0, .int 9]) (st := [.ref a0]) rfl rfl (by decide +kernel) rfl rfl rfl rfl rfl rfl rfl ct_X8_in ?_
    refine X_bif_eq rfl rfl (fun _ => ?_) (fun _ => ?_)
    · exact X_sub (g_sub_s (g_sub_s (g_sub_s (g_sub_s (g_sub_n (g_sub_n g_sub_0)))))) (b_X8_send_b49  _ _ _ _ _ _)
    · refine X_iload_n rfl rfl rfl ?_
      refine X_iconst (v := 1) rfl rfl (by decide) ?_
      refine X_bipush (v := 24) rfl rfl (by decide) ?_
      refine X_aload_n rfl rfl rfl ?_
      refine X_getI rfl rfl (fun v29 => ?_)
      refine X_callS_IP (v := f_X8_min 24 v29) (M' := M_X8_min) (nA := 2) (As := [.int 24, .int v29]) (st := [.int 1, .int p3, .ref a0]) rfl rfl (by decide +kernel) rfl rfl rfl rfl rfl rfl rfl ct_X8_min ?_
      refine X_callS_IP (v := f_X8_in p3 1 (f_X8_min 24 v29)) (M' := M_X8_in) (nA := 3) (As := [.int p3, .int 1, .int (f_X8_min 24 v29)]) (st := [.ref a0]) rfl rfl (by decide +kernel) rfl rfl rfl rfl rfl rfl rfl ct_X8_in ?_
      refine X_bif_eq rfl rfl (fun _ => ?_) (fun _ => ?_)
      · exact X_sub (g_sub_s (g_sub_s (g_sub_s (g_sub_s (g_sub_n (g_sub_n g_sub_0)))))) (b_X8_send_b49  _ _ _ _ _ _)
      · refine X_aload_n rfl rfl rfl ?_
        refine X_iload_n rfl rfl rfl ?_
        refine X_callV_IR (M' := M_X8_areLetters) (nA := 1) (As := [.int p3]) (st := [.ref a0]) (b := a0) (ci := 8) rfl rfl (by decide +kernel) rfl rfl rfl rfl rfl rfl rfl rfl (fun _ e => ct_X8_areLetters e) (fun v43 => ?_)
        refine X_bif_ne rfl rfl (fun _ => ?_) (fun _ => ?_)
        · exact X_sub (g_sub_s (g_sub_s (g_sub_s (g_sub_s (g_sub_n (g_sub_n g_sub_0)))))) (b_X8_send_b49  _ _ _ _ _ _)
        · refine X_iconst (v := 0) rfl rfl (by decide) ?_
          exact X_sub (g_sub_s (g_sub_s (g_sub_s (g_sub_s (g_sub_n (g_sub_n g_sub_0)))))) (b_X8_send_b54  _ _ _ _ _ _ _)
  · refine X_iconst (v := 0) rfl rfl (by decide) ?_
    exact X_iret rfl rfl rfl rfl rfl rfl rfl
def f_X8_fog_b68 (h : gH) (l0 : Nat) (l1 : Int32) (l2 : Int32) (l3 : Int32) (s0 : Int32) (s1 : Nat) : Option (Int32 × gH) :=
  bif g_is h s1 8 then
  (f_X8_fails h s1 s0 2).bind fun y69 =>
  (if y69.1 = 0 then
    bif g_is y69.2 l0 8 then
    (f_X8_remember y69.2 l0).bind fun h78 =>
    (g_gA h78 l0 8 8).bind fun v82 =>
    (f_X8_addMist h78 v82 l1 l2 l3).bind fun h88 =>
    (g_gA h88 l0 8 8).bind fun v92 =>
    (g_ald h88 v92 7).bind fun v97 =>
    some (v97, h88)
    else none
  else
    some (0, y69.2))
  else none
def f_X8_fog_b43 (h : gH) (l0 : Nat) (l1 : Int32) (l2 : Int32) (l3 : Int32) (s0 : Int32) (s1 : Nat) : Option (Int32 × gH) :=
  bif g_is h s1 8 then
  (f_X8_fails h s1 s0 1).bind fun y44 =>
  (if y44.1 = 0 then
    (g_gA y44.2 l0 8 8).bind fun v52 =>
    (g_ald y44.2 v52 7).bind fun v57 =>
    (if v57 = 12 then
      f_X8_fog_b68 y44.2 l0 l1 l2 l3 1 l0
    else
      f_X8_fog_b68 y44.2 l0 l1 l2 l3 0 l0)
  else
    some (0, y44.2))
  else none
def f_X8_fog_b38 (h : gH) (l0 : Nat) (l1 : Int32) (l2 : Int32) (l3 : Int32) (s0 : Nat) : Option (Int32 × gH) :=
  f_X8_fog_b43 h l0 l1 l2 l3 1 s0
def f_X8_fog (h : gH) (a0 : Nat) (p1 : Int32) (p2 : Int32) (p3 : Int32) : Option (Int32 × gH) :=
  (g_put h a0 8 0 (.int 0)).bind fun h2 =>
  (if (f_X8_in p1 0 9999) = 0 then
    f_X8_fog_b38 h2 a0 p1 p2 p3 a0
  else
    (if (f_X8_in p2 p1 9999) = 0 then
      f_X8_fog_b38 h2 a0 p1 p2 p3 a0
    else
      (if (f_X8_in p3 0 9) = 0 then
        f_X8_fog_b38 h2 a0 p1 p2 p3 a0
      else
        f_X8_fog_b43 h2 a0 p1 p2 p3 0 a0)))
set_option maxRecDepth 100000 in
theorem b_X8_fog_b68 {l : Launch} {G : gG} (h : gH) (l0 : Nat) (l1 : Int32) (l2 : Int32) (l3 : Int32) (s0 : Int32) (s1 : Nat) : GX l G M_X8_fog (g_phi G g_wI (m_R M_X8_fog).cells (m_R M_X8_fog).slots) 0 0 68 [some (.ref l0), some (.int l1), some (.int l2), some (.int l3)] [.int s0, .ref s1] h (f_X8_fog_b68 h l0 l1 l2 l3 s0 s1) := by
  unfold f_X8_fog_b68
  refine X_iconst (v := 2) rfl rfl (by decide) ?_
  refine X_callV_IW (M' := M_X8_fails) (nA := 2) (As := [.int s0, .int 2]) (st := []) (b := s1) (ci := 8) rfl rfl (by decide +kernel) rfl rfl rfl rfl rfl rfl rfl rfl (fun _ _ e => ct_X8_fails e) (fun y69 => ?_)
  refine X_bif_eq rfl rfl (fun _ => ?_) (fun _ => ?_)
  · refine X_aload_n rfl rfl rfl ?_
    refine X_callV_UW (M' := M_X8_remember) (nA := 0) (As := []) (st := []) (b := l0) (ci := 8) rfl rfl (by decide +kernel) rfl rfl rfl rfl rfl rfl rfl rfl (fun _ e => ct_X8_remember e) (fun h78 => ?_)
    refine X_aload_n rfl rfl rfl ?_
    refine X_getA rfl rfl (fun v82 => ?_)
    refine X_iload_n rfl rfl rfl ?_
    refine X_iload_n rfl rfl rfl ?_
    refine X_iload_n rfl rfl rfl ?_
    refine X_callS_UW (M' := M_X8_addMist) (nA := 4) (As := [.ref v82, .int l1, .int l2, .int l3]) (st := []) rfl rfl (by decide +kernel) rfl rfl rfl rfl rfl rfl rfl (fun _ e => ct_X8_addMist e) (fun h88 => ?_)
    refine X_aload_n rfl rfl rfl ?_
    refine X_getA rfl rfl (fun v92 => ?_)
    refine X_bipush (v := 7) rfl rfl (by decide) ?_
    refine X_ald rfl rfl (fun v97 => ?_)
    exact X_iret rfl rfl rfl rfl rfl rfl rfl
  · refine X_iconst (v := 0) rfl rfl (by decide) ?_
    exact X_iret rfl rfl rfl rfl rfl rfl rfl
set_option maxRecDepth 100000 in
theorem b_X8_fog_b43 {l : Launch} {G : gG} (h : gH) (l0 : Nat) (l1 : Int32) (l2 : Int32) (l3 : Int32) (s0 : Int32) (s1 : Nat) : GX l G M_X8_fog (g_phi G g_wI (m_R M_X8_fog).cells (m_R M_X8_fog).slots) 0 0 43 [some (.ref l0), some (.int l1), some (.int l2), some (.int l3)] [.int s0, .ref s1] h (f_X8_fog_b43 h l0 l1 l2 l3 s0 s1) := by
  unfold f_X8_fog_b43
  refine X_iconst (v := 1) rfl rfl (by decide) ?_
  refine X_callV_IW (M' := M_X8_fails) (nA := 2) (As := [.int s0, .int 1]) (st := []) (b := s1) (ci := 8) rfl rfl (by decide +kernel) rfl rfl rfl rfl rfl rfl rfl rfl (fun _ _ e => ct_X8_fails e) (fun y44 => ?_)
  refine X_bif_ne rfl rfl (fun _ => ?_) (fun _ => ?_)
  · refine X_aload_n rfl rfl rfl ?_
    refine X_aload_n rfl rfl rfl ?_
    refine X_getA rfl rfl (fun v52 => ?_)
    refine X_bipush (v := 7) rfl rfl (by decide) ?_
    refine X_ald rfl rfl (fun v57 => ?_)
    refine X_bipush (v := 12) rfl rfl (by decide) ?_
    refine X_bicmp_ne rfl rfl (fun _ => ?_) (fun _ => ?_)
    · refine X_iconst (v := 1) rfl rfl (by decide) ?_
      refine X_goto rfl rfl ?_
      exact X_sub (g_sub_s (g_sub_s (g_sub_s (g_sub_s g_sub_0)))) (b_X8_fog_b68  _ _ _ _ _ _ _)
    · refine X_iconst (v := 0) rfl rfl (by decide) ?_
      exact X_sub (g_sub_s (g_sub_s (g_sub_s (g_sub_s g_sub_0)))) (b_X8_fog_b68  _ _ _ _ _ _ _)
  · refine X_iconst (v := 0) rfl rfl (by decide) ?_
    exact X_iret rfl rfl rfl rfl rfl rfl rfl
set_option maxRecDepth 100000 in
theorem b_X8_fog_b38 {l : Launch} {G : gG} (h : gH) (l0 : Nat) (l1 : Int32) (l2 : Int32) (l3 : Int32) (s0 : Nat) : GX l G M_X8_fog (g_phi G g_wI (m_R M_X8_fog).cells (m_R M_X8_fog).slots) 0 0 38 [some (.ref l0), some (.int l1), some (.int l2), some (.int l3)] [.ref s0] h (f_X8_fog_b38 h l0 l1 l2 l3 s0) := by
  unfold f_X8_fog_b38
  refine X_iconst (v := 1) rfl rfl (by decide) ?_
  refine X_goto rfl rfl ?_
  exact X_sub (g_sub_s (g_sub_s (g_sub_s (g_sub_s g_sub_0)))) (b_X8_fog_b43  _ _ _ _ _ _ _)
set_option maxRecDepth 100000 in
theorem ct_X8_fog {l : Launch} {G : gG} {h : gH} {a0 : Nat} {p1 : Int32} {p2 : Int32} {p3 : Int32} {r : Int32} {h1 : gH} (e : f_X8_fog h a0 p1 p2 p3 = some (r, h1)) : Ct l G M_X8_fog [.ref a0, .int p1, .int p2, .int p3] h (some (.int r)) h1 := by
  refine Ct_of (L := [some (.ref a0), some (.int p1), some (.int p2), some (.int p3)]) ok_X8_fog (by decide +kernel) rfl rfl rfl (ρ := g_wI) (F := f_X8_fog h a0 p1 p2 p3) ?_ e rfl
  unfold f_X8_fog
  refine X_aload_n rfl rfl rfl ?_
  refine X_iconst (v := 0) rfl rfl (by decide) ?_
  refine X_put rfl rfl rfl rfl rfl (fun h2 => ?_)
  refine X_aload_n rfl rfl rfl ?_
  refine X_iload_n rfl rfl rfl ?_
  refine X_iconst (v := 0) rfl rfl (by decide) ?_
  refine X_sipush (v := 9999) rfl rfl (by decide) ?_
  refine X_callS_IP (v := f_X8_in p1 0 9999) (M' := M_X8_in) (nA := 3) (As := [.int p1, .int 0, .int 9999]) (st := [.ref a0]) rfl rfl (by decide +kernel) rfl rfl rfl rfl rfl rfl rfl ct_X8_in ?_
  refine X_bif_eq rfl rfl (fun _ => ?_) (fun _ => ?_)
  · exact X_sub (g_sub_s (g_sub_s (g_sub_s (g_sub_s g_sub_0)))) (b_X8_fog_b38  _ _ _ _ _ _)
  · refine X_iload_n rfl rfl rfl ?_
    refine X_iload_n rfl rfl rfl ?_
    refine X_sipush (v := 9999) rfl rfl (by decide) ?_
    refine X_callS_IP (v := f_X8_in p2 p1 9999) (M' := M_X8_in) (nA := 3) (As := [.int p2, .int p1, .int 9999]) (st := [.ref a0]) rfl rfl (by decide +kernel) rfl rfl rfl rfl rfl rfl rfl ct_X8_in ?_
    refine X_bif_eq rfl rfl (fun _ => ?_) (fun _ => ?_)
    · exact X_sub (g_sub_s (g_sub_s (g_sub_s (g_sub_s g_sub_0)))) (b_X8_fog_b38  _ _ _ _ _ _)
    · refine X_iload_n rfl rfl rfl ?_
      refine X_iconst (v := 0) rfl rfl (by decide) ?_
      refine X_bipush (v := 9) rfl rfl (by decide) ?_
      refine X_callS_IP (v := f_X8_in p3 0 9) (M' := M_X8_in) (nA := 3) (As := [.int p3, .int 0, .int 9]) (st := [.ref a0]) rfl rfl (by decide +kernel) rfl rfl rfl rfl rfl rfl rfl ct_X8_in ?_
      refine X_bif_ne rfl rfl (fun _ => ?_) (fun _ => ?_)
      · exact X_sub (g_sub_s (g_sub_s (g_sub_s (g_sub_s g_sub_0)))) (b_X8_fog_b38  _ _ _ _ _ _)
      · refine X_iconst (v := 0) rfl rfl (by decide) ?_
        exact X_sub (g_sub_s (g_sub_s (g_sub_s (g_sub_s g_sub_0)))) (b_X8_fog_b43  _ _ _ _ _ _ _)
def f_X8_relieve_b96 (h : gH) (l0 : Nat) (l1 : Int32) (l2 : Int32) (l3 : Int32) (l4 : Int32) (l5 : Int32) (s0 : Int32) (s1 : Nat) : Option (Int32 × gH) :=
  bif g_is h s1 8 then
  (f_X8_fails h s1 s0 3).bind fun y97 =>
  (if y97.1 = 0 then
    bif g_is y97.2 l0 8 then
    (f_X8_remember y97.2 l0).bind fun h106 =>
    bif g_is h106 l0 8 then
    (f_X8_keyOf h106 l0 l1 l4).bind fun v113 =>
    (if l5 = (-1) then
      (g_gA h106 l0 8 8).bind fun v125 =>
      (f_X8_addKeeper h106 v125 l1 l4 l2).bind fun h132 =>
      some (v113, h132)
    else
      (g_gA h106 l0 8 8).bind fun v139 =>
      (g_ast h106 v139 (((l3 + 1) + (2 * l5)) + 1) l2).bind fun h153 =>
      some (v113, h153))
    else none
    else none
  else
    some (0, y97.2))
  else none
def f_X8_relieve_b91 (h : gH) (l0 : Nat) (l1 : Int32) (l2 : Int32) (l3 : Int32) (l4 : Int32) (l5 : Int32) (s0 : Nat) : Option (Int32 × gH) :=
  f_X8_relieve_b96 h l0 l1 l2 l3 l4 l5 1 s0
def f_X8_relieve_b83 (h : gH) (l0 : Nat) (l1 : Int32) (l2 : Int32) (l3 : Int32) (l4 : Int32) (l5 : Int32) (s0 : Nat) : Option (Int32 × gH) :=
  (if 9999 < l4 then
    f_X8_relieve_b91 h l0 l1 l2 l3 l4 l5 s0
  else
    f_X8_relieve_b96 h l0 l1 l2 l3 l4 l5 0 s0)
def f_X8_relieve_b29 (h : gH) (l0 : Nat) (l1 : Int32) (l2 : Int32) (s0 : Int32) (s1 : Nat) : Option (Int32 × gH) :=
  bif g_is h s1 8 then
  (f_X8_fails h s1 s0 2).bind fun y30 =>
  (if y30.1 = 0 then
    (g_gA y30.2 l0 8 8).bind fun v44 =>
    (g_ald y30.2 v44 0).bind fun v48 =>
    (g_gA y30.2 l0 8 8).bind fun v52 =>
    (f_X8_keeperAt y30.2 v52 l1 v48).bind fun v58 =>
    (if v58 = (-1) then
      (g_gA y30.2 l0 8 8).bind fun v71 =>
      (g_ald y30.2 v71 ((f_X8_stationAt l1) + 0)).bind fun v77 =>
      (if v77 = 8 then
        f_X8_relieve_b91 y30.2 l0 l1 l2 (f_X8_stationAt l1) v48 v58 l0
      else
        f_X8_relieve_b83 y30.2 l0 l1 l2 (f_X8_stationAt l1) v48 v58 l0)
    else
      f_X8_relieve_b83 y30.2 l0 l1 l2 (f_X8_stationAt l1) v48 v58 l0)
  else
    some (0, y30.2))
  else none
def f_X8_relieve (h : gH) (a0 : Nat) (p1 : Int32) (p2 : Int32) : Option (Int32 × gH) :=
  (g_put h a0 8 0 (.int 0)).bind fun h2 =>
  bif g_is h2 a0 8 then
  (f_X8_noStation h2 a0 p1).bind fun y7 =>
  (if y7.1 = 0 then
    (if (f_X8_in p2 0 25) = 0 then
      f_X8_relieve_b29 y7.2 a0 p1 p2 1 a0
    else
      f_X8_relieve_b29 y7.2 a0 p1 p2 0 a0)
  else
    some (0, y7.2))
  else none
set_option maxRecDepth 100000 in
theorem b_X8_relieve_b96 {l : Launch} {G : gG} (h : gH) (l0 : Nat) (l1 : Int32) (l2 : Int32) (l3 : Int32) (l4 : Int32) (l5 : Int32) (s0 : Int32) (s1 : Nat) : GX l G M_X8_relieve (g_phi G g_wI (m_R M_X8_relieve).cells (m_R M_X8_relieve).slots) 0 0 96 [some (.ref l0), some (.int l1), some (.int l2), some (.int l3), some (.int l4), some (.int l5), none] [.int s0, .ref s1] h (f_X8_relieve_b96 h l0 l1 l2 l3 l4 l5 s0 s1) := by
  unfold f_X8_relieve_b96
  refine X_iconst (v := 3) rfl rfl (by decide) ?_
  refine X_callV_IW (M' := M_X8_fails) (nA := 2) (As := [.int s0, .int 3]) (st := []) (b := s1) (ci := 8) rfl rfl (by decide +kernel) rfl rfl rfl rfl rfl rfl rfl rfl (fun _ _ e => ct_X8_fails e) (fun y97 => ?_)
  refine X_bif_eq rfl rfl (fun _ => ?_) (fun _ => ?_)
  · refine X_aload_n rfl rfl rfl ?_
    refine X_callV_UW (M' := M_X8_remember) (nA := 0) (As := []) (st := []) (b := l0) (ci := 8) rfl rfl (by decide +kernel) rfl rfl rfl rfl rfl rfl rfl rfl (fun _ e => ct_X8_remember e) (fun h106 => ?_)
    refine X_aload_n rfl rfl rfl ?_
    refine X_iload_n rfl rfl rfl ?_
    refine X_iload rfl rfl rfl ?_
    refine X_callV_IR (M' := M_X8_keyOf) (nA := 2) (As := [.int l1, .int l4]) (st := []) (b := l0) (ci := 8) rfl rfl (by decide +kernel) rfl rfl rfl rfl rfl rfl rfl rfl (fun _ e => ct_X8_keyOf e) (fun v113 => ?_)
    refine X_istore rfl rfl rfl rfl ?_
    refine X_iload rfl rfl rfl ?_
    refine X_iconst (v := -1) rfl rfl (by decide) ?_
    refine X_bicmp_ne rfl rfl (fun _ => ?_) (fun _ => ?_)
    · refine X_aload_n rfl rfl rfl ?_
      refine X_getA rfl rfl (fun v125 => ?_)
      refine X_iload_n rfl rfl rfl ?_
      refine X_iload rfl rfl rfl ?_
      refine X_iload_n rfl rfl rfl ?_
      refine X_callS_UW (M' := M_X8_addKeeper) (nA := 4) (As := [.ref v125, .int l1, .int l4, .int l2]) (st := []) rfl rfl (by decide +kernel) rfl rfl rfl rfl rfl rfl rfl (fun _ e => ct_X8_addKeeper e) (fun h132 => ?_)
      refine X_goto rfl rfl ?_
      refine X_iload rfl rfl rfl ?_
      exact X_iret rfl rfl rfl rfl rfl rfl rfl
    · refine X_aload_n rfl rfl rfl ?_
      refine X_getA rfl rfl (fun v139 => ?_)
      refine X_iload_n rfl rfl rfl ?_
      refine X_iconst (v := 1) rfl rfl (by decide) ?_
      refine X_iadd rfl rfl ?_
      refine X_iconst (v := 2) rfl rfl (by decide) ?_
      refine X_iload rfl rfl rfl ?_
      refine X_imul rfl rfl ?_
      refine X_iadd rfl rfl ?_
      refine X_iconst (v := 1) rfl rfl (by decide) ?_
      refine X_iadd rfl rfl ?_
      refine X_iload_n rfl rfl rfl ?_
      refine X_ast rfl rfl (fun h153 => ?_)
      refine X_iload rfl rfl rfl ?_
      exact X_iret rfl rfl rfl rfl rfl rfl rfl
  · refine X_iconst (v := 0) rfl rfl (by decide) ?_
    exact X_iret rfl rfl rfl rfl rfl rfl rfl
set_option maxRecDepth 100000 in
theorem b_X8_relieve_b91 {l : Launch} {G : gG} (h : gH) (l0 : Nat) (l1 : Int32) (l2 : Int32) (l3 : Int32) (l4 : Int32) (l5 : Int32) (s0 : Nat) : GX l G M_X8_relieve (g_phi G g_wI (m_R M_X8_relieve).cells (m_R M_X8_relieve).slots) 0 0 91 [some (.ref l0), some (.int l1), some (.int l2), some (.int l3), some (.int l4), some (.int l5), none] [.ref s0] h (f_X8_relieve_b91 h l0 l1 l2 l3 l4 l5 s0) := by
  unfold f_X8_relieve_b91
  refine X_iconst (v := 1) rfl rfl (by decide) ?_
  refine X_goto rfl rfl ?_
  exact X_sub (g_sub_s (g_sub_s (g_sub_s (g_sub_s (g_sub_s (g_sub_s (g_sub_n g_sub_0))))))) (b_X8_relieve_b96  _ _ _ _ _ _ _ _ _)
set_option maxRecDepth 100000 in
theorem b_X8_relieve_b83 {l : Launch} {G : gG} (h : gH) (l0 : Nat) (l1 : Int32) (l2 : Int32) (l3 : Int32) (l4 : Int32) (l5 : Int32) (s0 : Nat) : GX l G M_X8_relieve (g_phi G g_wI (m_R M_X8_relieve).cells (m_R M_X8_relieve).slots) 0 0 83 [some (.ref l0), some (.int l1), some (.int l2), some (.int l3), some (.int l4), some (.int l5), none] [.ref s0] h (f_X8_relieve_b83 h l0 l1 l2 l3 l4 l5 s0) := by
  unfold f_X8_relieve_b83
  refine X_iload rfl rfl rfl ?_
  refine X_sipush (v := 9999) rfl rfl (by decide) ?_
  refine X_bicmp_le rfl rfl (fun _ => ?_) (fun _ => ?_)
  · exact X_sub (g_sub_s (g_sub_s (g_sub_s (g_sub_s (g_sub_s (g_sub_s (g_sub_n g_sub_0))))))) (b_X8_relieve_b91  _ _ _ _ _ _ _ _)
  · refine X_iconst (v := 0) rfl rfl (by decide) ?_
    exact X_sub (g_sub_s (g_sub_s (g_sub_s (g_sub_s (g_sub_s (g_sub_s (g_sub_n g_sub_0))))))) (b_X8_relieve_b96  _ _ _ _ _ _ _ _ _)
set_option maxRecDepth 100000 in
theorem b_X8_relieve_b29 {l : Launch} {G : gG} (h : gH) (l0 : Nat) (l1 : Int32) (l2 : Int32) (s0 : Int32) (s1 : Nat) : GX l G M_X8_relieve (g_phi G g_wI (m_R M_X8_relieve).cells (m_R M_X8_relieve).slots) 0 0 29 [some (.ref l0), some (.int l1), some (.int l2), none, none, none, none] [.int s0, .ref s1] h (f_X8_relieve_b29 h l0 l1 l2 s0 s1) := by
  unfold f_X8_relieve_b29
  refine X_iconst (v := 2) rfl rfl (by decide) ?_
  refine X_callV_IW (M' := M_X8_fails) (nA := 2) (As := [.int s0, .int 2]) (st := []) (b := s1) (ci := 8) rfl rfl (by decide +kernel) rfl rfl rfl rfl rfl rfl rfl rfl (fun _ _ e => ct_X8_fails e) (fun y30 => ?_)
  refine X_bif_eq rfl rfl (fun _ => ?_) (fun _ => ?_)
  · refine X_iload_n rfl rfl rfl ?_
    refine X_callS_IP (v := f_X8_stationAt l1) (M' := M_X8_stationAt) (nA := 1) (As := [.int l1]) (st := []) rfl rfl (by decide +kernel) rfl rfl rfl rfl rfl rfl rfl ct_X8_stationAt ?_
    refine X_istore_n rfl rfl rfl rfl ?_
    refine X_aload_n rfl rfl rfl ?_
    refine X_getA rfl rfl (fun v44 => ?_)
    refine X_iconst (v := 0) rfl rfl (by decide) ?_
    refine X_ald rfl rfl (fun v48 => ?_)
    refine X_istore rfl rfl rfl rfl ?_
    refine X_aload_n rfl rfl rfl ?_
    refine X_getA rfl rfl (fun v52 => ?_)
    refine X_iload_n rfl rfl rfl ?_
    refine X_iload rfl rfl rfl ?_
    refine X_callS_IR (M' := M_X8_keeperAt) (nA := 3) (As := [.ref v52, .int l1, .int v48]) (st := []) rfl rfl (by decide +kernel) rfl rfl rfl rfl rfl rfl rfl (fun _ e => ct_X8_keeperAt e) (fun v58 => ?_)
    refine X_istore rfl rfl rfl rfl ?_
    refine X_aload_n rfl rfl rfl ?_
    refine X_iload rfl rfl rfl ?_
    refine X_iconst (v := -1) rfl rfl (by decide) ?_
    refine X_bicmp_ne rfl rfl (fun _ => ?_) (fun _ => ?_)
    · refine X_aload_n rfl rfl rfl ?_
      refine X_getA rfl rfl (fun v71 => ?_)
      refine X_iload_n rfl rfl rfl ?_
      refine X_iconst (v := 0) rfl rfl (by decide) ?_
      refine X_iadd rfl rfl ?_
      refine X_ald rfl rfl (fun v77 => ?_)
      refine X_bipush (v := 8) rfl rfl (by decide) ?_
      refine X_bicmp_eq rfl rfl (fun _ => ?_) (fun _ => ?_)
      · exact X_sub (g_sub_s (g_sub_s (g_sub_s (g_sub_s (g_sub_s (g_sub_s (g_sub_n g_sub_0))))))) (b_X8_relieve_b91  _ _ _ _ _ _ _ _)
      · exact X_sub (g_sub_s (g_sub_s (g_sub_s (g_sub_s (g_sub_s (g_sub_s (g_sub_n g_sub_0))))))) (b_X8_relieve_b83  _ _ _ _ _ _ _ _)
    · exact X_sub (g_sub_s (g_sub_s (g_sub_s (g_sub_s (g_sub_s (g_sub_s (g_sub_n g_sub_0))))))) (b_X8_relieve_b83  _ _ _ _ _ _ _ _)
  · refine X_iconst (v := 0) rfl rfl (by decide) ?_
    exact X_iret rfl rfl rfl rfl rfl rfl rfl
set_option maxRecDepth 100000 in
theorem ct_X8_relieve {l : Launch} {G : gG} {h : gH} {a0 : Nat} {p1 : Int32} {p2 : Int32} {r : Int32} {h1 : gH} (e : f_X8_relieve h a0 p1 p2 = some (r, h1)) : Ct l G M_X8_relieve [.ref a0, .int p1, .int p2] h (some (.int r)) h1 := by
  refine Ct_of (L := [some (.ref a0), some (.int p1), some (.int p2), none, none, none, none]) ok_X8_relieve (by decide +kernel) rfl rfl rfl (ρ := g_wI) (F := f_X8_relieve h a0 p1 p2) ?_ e rfl
  unfold f_X8_relieve
  refine X_aload_n rfl rfl rfl ?_
  refine X_iconst (v := 0) rfl rfl (by decide) ?_
  refine X_put rfl rfl rfl rfl rfl (fun h2 => ?_)
  refine X_aload_n rfl rfl rfl ?_
  refine X_iload_n rfl rfl rfl ?_
  refine X_callV_IW (M' := M_X8_noStation) (nA := 1) (As := [.int p1]) (st := []) (b := a0) (ci := 8) rfl rfl (by decide +kernel) rfl rfl rfl rfl rfl rfl rfl rfl (fun _ _ e => ct_X8_noStation e) (fun y7 => ?_)
  refine X_bif_ne rfl rfl (fun _ => ?_) (fun _ => ?_)
  · refine X_aload_n rfl rfl rfl ?_
    refine X_iload_n rfl rfl rfl ?_
    refine X_iconst (v := 0) rfl rfl (by decide) ?_
    refine X_bipush (v := 25) rfl rfl (by decide) ?_
    refine X_callS_IP (v := f_X8_in p2 0 25) (M' := M_X8_in) (nA := 3) (As := [.int p2, .int 0, .int 25]) (st := [.ref a0]) rfl rfl (by decide +kernel) rfl rfl rfl rfl rfl rfl rfl ct_X8_in ?_
    refine X_bif_ne rfl rfl (fun _ => ?_) (fun _ => ?_)
    · refine X_iconst (v := 1) rfl rfl (by decide) ?_
      refine X_goto rfl rfl ?_
      exact X_sub (g_sub_s (g_sub_s (g_sub_s (g_sub_n (g_sub_n (g_sub_n (g_sub_n g_sub_0))))))) (b_X8_relieve_b29  _ _ _ _ _ _)
    · refine X_iconst (v := 0) rfl rfl (by decide) ?_
      exact X_sub (g_sub_s (g_sub_s (g_sub_s (g_sub_n (g_sub_n (g_sub_n (g_sub_n g_sub_0))))))) (b_X8_relieve_b29  _ _ _ _ _ _)
  · refine X_iconst (v := 0) rfl rfl (by decide) ?_
    exact X_iret rfl rfl rfl rfl rfl rfl rfl
def f_X8_power_b29 (h : gH) (l0 : Nat) (l1 : Int32) (l2 : Int32) (s0 : Int32) (s1 : Nat) : Option (Int32 × gH) :=
  bif g_is h s1 8 then
  (f_X8_fails h s1 s0 2).bind fun y30 =>
  (if y30.1 = 0 then
    bif g_is y30.2 l0 8 then
    (f_X8_remember y30.2 l0).bind fun h39 =>
    bif g_is h39 l0 8 then
    (f_X8_ofChannel h39 l0 l1 0).bind fun v45 =>
    bif g_is h39 l0 8 then
    (f_X8_setChannel h39 l0 l1 0 l2).bind fun h53 =>
    some (v45, h53)
    else none
    else none
    else none
  else
    some (0, y30.2))
  else none
def f_X8_power (h : gH) (a0 : Nat) (p1 : Int32) (p2 : Int32) : Option (Int32 × gH) :=
  (g_put h a0 8 0 (.int 0)).bind fun h2 =>
  bif g_is h2 a0 8 then
  (f_X8_noChannel h2 a0 p1).bind fun y7 =>
  (if y7.1 = 0 then
    (if (f_X8_in p2 0 9) = 0 then
      f_X8_power_b29 y7.2 a0 p1 p2 1 a0
    else
      f_X8_power_b29 y7.2 a0 p1 p2 0 a0)
  else
    some (0, y7.2))
  else none
set_option maxRecDepth 100000 in
theorem b_X8_power_b29 {l : Launch} {G : gG} (h : gH) (l0 : Nat) (l1 : Int32) (l2 : Int32) (s0 : Int32) (s1 : Nat) : GX l G M_X8_power (g_phi G g_wI (m_R M_X8_power).cells (m_R M_X8_power).slots) 0 0 29 [some (.ref l0), some (.int l1), some (.int l2), none] [.int s0, .ref s1] h (f_X8_power_b29 h l0 l1 l2 s0 s1) := by
  unfold f_X8_power_b29
  refine X_iconst (v := 2) rfl rfl (by decide) ?_
  refine X_callV_IW (M' := M_X8_fails) (nA := 2) (As := [.int s0, .int 2]) (st := []) (b := s1) (ci := 8) rfl rfl (by decide +kernel) rfl rfl rfl rfl rfl rfl rfl rfl (fun _ _ e => ct_X8_fails e) (fun y30 => ?_)
  refine X_bif_eq rfl rfl (fun _ => ?_) (fun _ => ?_)
  · refine X_aload_n rfl rfl rfl ?_
    refine X_callV_UW (M' := M_X8_remember) (nA := 0) (As := []) (st := []) (b := l0) (ci := 8) rfl rfl (by decide +kernel) rfl rfl rfl rfl rfl rfl rfl rfl (fun _ e => ct_X8_remember e) (fun h39 => ?_)
    refine X_aload_n rfl rfl rfl ?_
    refine X_iload_n rfl rfl rfl ?_
    refine X_iconst (v := 0) rfl rfl (by decide) ?_
    refine X_callV_IR (M' := M_X8_ofChannel) (nA := 2) (As := [.int l1, .int 0]) (st := []) (b := l0) (ci := 8) rfl rfl (by decide +kernel) rfl rfl rfl rfl rfl rfl rfl rfl (fun _ e => ct_X8_ofChannel e) (fun v45 => ?_)
    refine X_istore_n rfl rfl rfl rfl ?_
    refine X_aload_n rfl rfl rfl ?_
    refine X_iload_n rfl rfl rfl ?_
    refine X_iconst (v := 0) rfl rfl (by decide) ?_
    refine X_iload_n rfl rfl rfl ?_
    refine X_callV_UW (M' := M_X8_setChannel) (nA := 3) (As := [.int l1, .int 0, .int l2]) (st := []) (b := l0) (ci := 8) rfl rfl (by decide +kernel) rfl rfl rfl rfl rfl rfl rfl rfl (fun _ e => ct_X8_setChannel e) (fun h53 => ?_)
    refine X_iload_n rfl rfl rfl ?_
    exact X_iret rfl rfl rfl rfl rfl rfl rfl
  · refine X_iconst (v := 0) rfl rfl (by decide) ?_
    exact X_iret rfl rfl rfl rfl rfl rfl rfl
set_option maxRecDepth 100000 in
theorem ct_X8_power {l : Launch} {G : gG} {h : gH} {a0 : Nat} {p1 : Int32} {p2 : Int32} {r : Int32} {h1 : gH} (e : f_X8_power h a0 p1 p2 = some (r, h1)) : Ct l G M_X8_power [.ref a0, .int p1, .int p2] h (some (.int r)) h1 := by
  refine Ct_of (L := [some (.ref a0), some (.int p1), some (.int p2), none]) ok_X8_power (by decide +kernel) rfl rfl rfl (ρ := g_wI) (F := f_X8_power h a0 p1 p2) ?_ e rfl
  unfold f_X8_power
  refine X_aload_n rfl rfl rfl ?_
  refine X_iconst (v := 0) rfl rfl (by decide) ?_
  refine X_put rfl rfl rfl rfl rfl (fun h2 => ?_)
  refine X_aload_n rfl rfl rfl ?_
  refine X_iload_n rfl rfl rfl ?_
  refine X_callV_IW (M' := M_X8_noChannel) (nA := 1) (As := [.int p1]) (st := []) (b := a0) (ci := 8) rfl rfl (by decide +kernel) rfl rfl rfl rfl rfl rfl rfl rfl (fun _ _ e => ct_X8_noChannel e) (fun y7 => ?_)
  refine X_bif_ne rfl rfl (fun _ => ?_) (fun _ => ?_)
  · refine X_aload_n rfl rfl rfl ?_
    refine X_iload_n rfl rfl rfl ?_
    refine X_iconst (v := 0) rfl rfl (by decide) ?_
    refine X_bipush (v := 9) rfl rfl (by decide) ?_
    refine X_callS_IP (v := f_X8_in p2 0 9) (M' := M_X8_in) (nA := 3) (As := [.int p2, .int 0, .int 9]) (st := [.ref a0]) rfl rfl (by decide +kernel) rfl rfl rfl rfl rfl rfl rfl ct_X8_in ?_
    refine X_bif_ne rfl rfl (fun _ => ?_) (fun _ => ?_)
    · refine X_iconst (v := 1) rfl rfl (by decide) ?_
      refine X_goto rfl rfl ?_
      exact X_sub (g_sub_s (g_sub_s (g_sub_s (g_sub_n g_sub_0)))) (b_X8_power_b29  _ _ _ _ _ _)
    · refine X_iconst (v := 0) rfl rfl (by decide) ?_
      exact X_sub (g_sub_s (g_sub_s (g_sub_s (g_sub_n g_sub_0)))) (b_X8_power_b29  _ _ _ _ _ _)
  · refine X_iconst (v := 0) rfl rfl (by decide) ?_
    exact X_iret rfl rfl rfl rfl rfl rfl rfl
def f_X8_cancel_b99 (h : gH) (l0 : Nat) (l2 : Int32) : Option (Int32 × gH) :=
  (if l2 = 0 then
    (g_z l2).bind fun z => some (l2, h)
  else
    (g_gA h l0 8 8).bind fun v104 =>
    (g_ast h v104 2 (-1)).bind fun h109 =>
    (g_z l2).bind fun z => some (l2, h109))
def f_X8_cancel_b79 : Nat → gH → Nat → Int32 → Int32 → Option (Int32 × gH)
  | 0, _, _, _, _ => none
  | n + 1, h, l0, l2, l3 =>
    (if l3 < 2 then
      (if l2 = 0 then
        f_X8_cancel_b99 h l0 l2
      else
        bif g_is h l0 8 then
        (f_X8_rest h l0 l3).bind fun h90 =>
        f_X8_cancel_b79  n h90 l0 l2 (l3 + 1)
        else none)
    else
      f_X8_cancel_b99 h l0 l2)
def f_X8_cancel_b57 (h : gH) (l0 : Nat) (l1 : Int32) (s0 : Int32) : Option (Int32 × gH) :=
  bif g_is h l0 8 then
  (f_X8_set h l0 l1 3 3).bind fun h62 =>
  (g_gA h62 l0 8 8).bind fun v69 =>
  (g_ald h62 v69 0).bind fun v73 =>
  bif g_is h62 l0 8 then
  (f_X8_set h62 l0 l1 5 v73).bind fun h74 =>
  f_X8_cancel_b79 g_N h74 l0 s0 0
  else none
  else none
def f_X8_cancel_b29 (h : gH) (l0 : Nat) (l1 : Int32) (s0 : Int32) (s1 : Nat) : Option (Int32 × gH) :=
  bif g_is h s1 8 then
  (f_X8_fails h s1 s0 2).bind fun y30 =>
  (if y30.1 = 0 then
    bif g_is y30.2 l0 8 then
    (f_X8_remember y30.2 l0).bind fun h39 =>
    (g_gA h39 l0 8 8).bind fun v43 =>
    (g_ald h39 v43 2).bind fun v47 =>
    (if v47 = l1 then
      f_X8_cancel_b57 h39 l0 l1 1
    else
      f_X8_cancel_b57 h39 l0 l1 0)
    else none
  else
    some (0, y30.2))
  else none
def f_X8_cancel (h : gH) (a0 : Nat) (p1 : Int32) : Option (Int32 × gH) :=
  (g_put h a0 8 0 (.int 0)).bind fun h2 =>
  bif g_is h2 a0 8 then
  (f_X8_noMessage h2 a0 p1).bind fun y7 =>
  (if y7.1 = 0 then
    bif g_is y7.2 a0 8 then
    (f_X8_of y7.2 a0 p1 3).bind fun v17 =>
    (if 2 ≤ v17 then
      f_X8_cancel_b29 y7.2 a0 p1 1 a0
    else
      f_X8_cancel_b29 y7.2 a0 p1 0 a0)
    else none
  else
    some (0, y7.2))
  else none
set_option maxRecDepth 100000 in
theorem b_X8_cancel_b99 {l : Launch} {G : gG} (h : gH) (l0 : Nat) (l2 : Int32) : GX l G M_X8_cancel (g_phi G g_wI (m_R M_X8_cancel).cells (m_R M_X8_cancel).slots) 0 0 99 [some (.ref l0), none, some (.int l2), none] [] h (f_X8_cancel_b99 h l0 l2) := by
  unfold f_X8_cancel_b99
  refine X_iload_n rfl rfl rfl ?_
  refine X_bif_eq rfl rfl (fun _ => ?_) (fun _ => ?_)
  · refine X_iload_n rfl rfl rfl ?_
    exact X_zret rfl rfl rfl ⟨_, rfl, rfl⟩ rfl rfl
  · refine X_aload_n rfl rfl rfl ?_
    refine X_getA rfl rfl (fun v104 => ?_)
    refine X_iconst (v := 2) rfl rfl (by decide) ?_
    refine X_iconst (v := -1) rfl rfl (by decide) ?_
    refine X_ast rfl rfl (fun h109 => ?_)
    refine X_iload_n rfl rfl rfl ?_
    exact X_zret rfl rfl rfl ⟨_, rfl, rfl⟩ rfl rfl
set_option maxRecDepth 100000 in
theorem b_X8_cancel_b79 {l : Launch} {G : gG} : ∀ (n : Nat) (h : gH) (l0 : Nat) (l2 : Int32) (l3 : Int32), GX l G M_X8_cancel (g_phi G g_wI (m_R M_X8_cancel).cells (m_R M_X8_cancel).slots) 0 0 79 [some (.ref l0), none, some (.int l2), some (.int l3)] [] h (f_X8_cancel_b79 n h l0 l2 l3) := by
  intro n
  induction n with
  | zero => intros; exact X_none
  | succ n ih =>
    intro h l0 l2 l3
    rw [f_X8_cancel_b79]
    refine X_iload_n rfl rfl rfl ?_
    refine X_iconst (v := 2) rfl rfl (by decide) ?_
    refine X_bicmp_ge rfl rfl (fun _ => ?_) (fun _ => ?_)
    · refine X_iload_n rfl rfl rfl ?_
      refine X_bif_eq rfl rfl (fun _ => ?_) (fun _ => ?_)
      · exact X_sub (g_sub_s (g_sub_n (g_sub_s (g_sub_n g_sub_0)))) (b_X8_cancel_b99  _ _ _)
      · refine X_aload_n rfl rfl rfl ?_
        refine X_iload_n rfl rfl rfl ?_
        refine X_callV_UW (M' := M_X8_rest) (nA := 1) (As := [.int l3]) (st := []) (b := l0) (ci := 8) rfl rfl (by decide +kernel) rfl rfl rfl rfl rfl rfl rfl rfl (fun _ e => ct_X8_rest e) (fun h90 => ?_)
        refine X_iinc (v := l3 + 1) rfl rfl rfl (congrArg (fun z => l3 + z) (by decide : Int32.ofInt 1 = 1)) rfl ?_
        refine X_goto rfl rfl ?_
        exact X_sub (g_sub_s (g_sub_n (g_sub_s (g_sub_s g_sub_0)))) (ih _ _ _ _)
    · exact X_sub (g_sub_s (g_sub_n (g_sub_s (g_sub_n g_sub_0)))) (b_X8_cancel_b99  _ _ _)
set_option maxRecDepth 100000 in
theorem b_X8_cancel_b57 {l : Launch} {G : gG} (h : gH) (l0 : Nat) (l1 : Int32) (s0 : Int32) : GX l G M_X8_cancel (g_phi G g_wI (m_R M_X8_cancel).cells (m_R M_X8_cancel).slots) 0 0 57 [some (.ref l0), some (.int l1), none, none] [.int s0] h (f_X8_cancel_b57 h l0 l1 s0) := by
  unfold f_X8_cancel_b57
  refine X_istore_n rfl rfl rfl rfl ?_
  refine X_aload_n rfl rfl rfl ?_
  refine X_iload_n rfl rfl rfl ?_
  refine X_iconst (v := 3) rfl rfl (by decide) ?_
  refine X_iconst (v := 3) rfl rfl (by decide) ?_
  refine X_callV_UW (M' := M_X8_set) (nA := 3) (As := [.int l1, .int 3, .int 3]) (st := []) (b := l0) (ci := 8) rfl rfl (by decide +kernel) rfl rfl rfl rfl rfl rfl rfl rfl (fun _ e => ct_X8_set e) (fun h62 => ?_)
  refine X_aload_n rfl rfl rfl ?_
  refine X_iload_n rfl rfl rfl ?_
  refine X_iconst (v := 5) rfl rfl (by decide) ?_
  refine X_aload_n rfl rfl rfl ?_
  refine X_getA rfl rfl (fun v69 => ?_)
  refine X_iconst (v := 0) rfl rfl (by decide) ?_
  refine X_ald rfl rfl (fun v73 => ?_)
  refine X_callV_UW (M' := M_X8_set) (nA := 3) (As := [.int l1, .int 5, .int v73]) (st := []) (b := l0) (ci := 8) rfl rfl (by decide +kernel) rfl rfl rfl rfl rfl rfl rfl rfl (fun _ e => ct_X8_set e) (fun h74 => ?_)
  refine X_iconst (v := 0) rfl rfl (by decide) ?_
  refine X_istore_n rfl rfl rfl rfl ?_
  exact X_sub (g_sub_s (g_sub_n (g_sub_s (g_sub_s g_sub_0)))) (b_X8_cancel_b79  _ _ _ _ _)
set_option maxRecDepth 100000 in
theorem b_X8_cancel_b29 {l : Launch} {G : gG} (h : gH) (l0 : Nat) (l1 : Int32) (s0 : Int32) (s1 : Nat) : GX l G M_X8_cancel (g_phi G g_wI (m_R M_X8_cancel).cells (m_R M_X8_cancel).slots) 0 0 29 [some (.ref l0), some (.int l1), none, none] [.int s0, .ref s1] h (f_X8_cancel_b29 h l0 l1 s0 s1) := by
  unfold f_X8_cancel_b29
  refine X_iconst (v := 2) rfl rfl (by decide) ?_
  refine X_callV_IW (M' := M_X8_fails) (nA := 2) (As := [.int s0, .int 2]) (st := []) (b := s1) (ci := 8) rfl rfl (by decide +kernel) rfl rfl rfl rfl rfl rfl rfl rfl (fun _ _ e => ct_X8_fails e) (fun y30 => ?_)
  refine X_bif_eq rfl rfl (fun _ => ?_) (fun _ => ?_)
  · refine X_aload_n rfl rfl rfl ?_
    refine X_callV_UW (M' := M_X8_remember) (nA := 0) (As := []) (st := []) (b := l0) (ci := 8) rfl rfl (by decide +kernel) rfl rfl rfl rfl rfl rfl rfl rfl (fun _ e => ct_X8_remember e) (fun h39 => ?_)
    refine X_aload_n rfl rfl rfl ?_
    refine X_getA rfl rfl (fun v43 => ?_)
    refine X_iconst (v := 2) rfl rfl (by decide) ?_
    refine X_ald rfl rfl (fun v47 => ?_)
    refine X_iload_n rfl rfl rfl ?_
    refine X_bicmp_ne rfl rfl (fun _ => ?_) (fun _ => ?_)
    · refine X_iconst (v := 1) rfl rfl (by decide) ?_
      refine X_goto rfl rfl ?_
      exact X_sub (g_sub_s (g_sub_s (g_sub_n (g_sub_n g_sub_0)))) (b_X8_cancel_b57  _ _ _ _)
    · refine X_iconst (v := 0) rfl rfl (by decide) ?_
      exact X_sub (g_sub_s (g_sub_s (g_sub_n (g_sub_n g_sub_0)))) (b_X8_cancel_b57  _ _ _ _)
  · refine X_iconst (v := 0) rfl rfl (by decide) ?_
    exact X_iret rfl rfl rfl rfl rfl rfl rfl
set_option maxRecDepth 100000 in
theorem ct_X8_cancel {l : Launch} {G : gG} {h : gH} {a0 : Nat} {p1 : Int32} {r : Int32} {h1 : gH} (e : f_X8_cancel h a0 p1 = some (r, h1)) : Ct l G M_X8_cancel [.ref a0, .int p1] h (some (.int r)) h1 := by
  refine Ct_of (L := [some (.ref a0), some (.int p1), none, none]) ok_X8_cancel (by decide +kernel) rfl rfl rfl (ρ := g_wI) (F := f_X8_cancel h a0 p1) ?_ e rfl
  unfold f_X8_cancel
  refine X_aload_n rfl rfl rfl ?_
  refine X_iconst (v := 0) rfl rfl (by decide) ?_
  refine X_put rfl rfl rfl rfl rfl (fun h2 => ?_)
  refine X_aload_n rfl rfl rfl ?_
  refine X_iload_n rfl rfl rfl ?_
  refine X_callV_IW (M' := M_X8_noMessage) (nA := 1) (As := [.int p1]) (st := []) (b := a0) (ci := 8) rfl rfl (by decide +kernel) rfl rfl rfl rfl rfl rfl rfl rfl (fun _ _ e => ct_X8_noMessage e) (fun y7 => ?_)
  refine X_bif_ne rfl rfl (fun _ => ?_) (fun _ => ?_)
  · refine X_aload_n rfl rfl rfl ?_
    refine X_aload_n rfl rfl rfl ?_
    refine X_iload_n rfl rfl rfl ?_
    refine X_iconst (v := 3) rfl rfl (by decide) ?_
    refine X_callV_IR (M' := M_X8_of) (nA := 2) (As := [.int p1, .int 3]) (st := [.ref a0]) (b := a0) (ci := 8) rfl rfl (by decide +kernel) rfl rfl rfl rfl rfl rfl rfl rfl (fun _ e => ct_X8_of e) (fun v17 => ?_)
    refine X_iconst (v := 2) rfl rfl (by decide) ?_
    refine X_bicmp_lt rfl rfl (fun _ => ?_) (fun _ => ?_)
    · refine X_iconst (v := 1) rfl rfl (by decide) ?_
      refine X_goto rfl rfl ?_
      exact X_sub (g_sub_s (g_sub_s (g_sub_n (g_sub_n g_sub_0)))) (b_X8_cancel_b29  _ _ _ _ _)
    · refine X_iconst (v := 0) rfl rfl (by decide) ?_
      exact X_sub (g_sub_s (g_sub_s (g_sub_n (g_sub_n g_sub_0)))) (b_X8_cancel_b29  _ _ _ _ _)
  · refine X_iconst (v := 0) rfl rfl (by decide) ?_
    exact X_iret rfl rfl rfl rfl rfl rfl rfl
def f_X8_undo (h : gH) (a0 : Nat) : Option (Int32 × gH) :=
  (g_put h a0 8 0 (.int 0)).bind fun h2 =>
  (g_gI h2 a0 8 12).bind fun v6 =>
  (if v6 = 0 then
    some (-1, h2)
  else
    (g_gI h2 a0 8 12).bind fun v16 =>
    (g_put h2 a0 8 12 (.int (v16 - 1))).bind fun h21 =>
    (g_gA h21 a0 8 11).bind fun v25 =>
    (g_gI h21 a0 8 12).bind fun v29 =>
    (g_qld h21 v25 3 v29).bind fun v32 =>
    v32.bind fun v32n =>
    (g_gA h21 a0 8 8).bind fun v34 =>
    (f_X8_copy h21 v32n v34).bind fun h37 =>
    (g_gI h37 a0 8 12).bind fun v41 =>
    some (v41, h37))
set_option maxRecDepth 100000 in
theorem ct_X8_undo {l : Launch} {G : gG} {h : gH} {a0 : Nat} {r : Int32} {h1 : gH} (e : f_X8_undo h a0 = some (r, h1)) : Ct l G M_X8_undo [.ref a0] h (some (.int r)) h1 := by
  refine Ct_of (L := [some (.ref a0)]) ok_X8_undo (by decide +kernel) rfl rfl rfl (ρ := g_wI) (F := f_X8_undo h a0) ?_ e rfl
  unfold f_X8_undo
  refine X_aload_n rfl rfl rfl ?_
  refine X_iconst (v := 0) rfl rfl (by decide) ?_
  refine X_put rfl rfl rfl rfl rfl (fun h2 => ?_)
  refine X_aload_n rfl rfl rfl ?_
  refine X_getI rfl rfl (fun v6 => ?_)
  refine X_bif_ne rfl rfl (fun _ => ?_) (fun _ => ?_)
  · refine X_iconst (v := -1) rfl rfl (by decide) ?_
    exact X_iret rfl rfl rfl rfl rfl rfl rfl
  · refine X_aload_n rfl rfl rfl ?_
    refine X_dup rfl rfl rfl ?_
    refine X_getI rfl rfl (fun v16 => ?_)
    refine X_iconst (v := 1) rfl rfl (by decide) ?_
    refine X_isub rfl rfl ?_
    refine X_put rfl rfl rfl rfl rfl (fun h21 => ?_)
    refine X_aload_n rfl rfl rfl ?_
    refine X_getA rfl rfl (fun v25 => ?_)
    refine X_aload_n rfl rfl rfl ?_
    refine X_getI rfl rfl (fun v29 => ?_)
    refine X_qld (t := 3) rfl rfl (by simp) (fun v32 => ?_)
    refine X_nn (fun v32n e32 => ?_)
    subst e32
    refine X_aload_n rfl rfl rfl ?_
    refine X_getA rfl rfl (fun v34 => ?_)
    refine X_callS_UW (M' := M_X8_copy) (nA := 2) (As := [.ref v32n, .ref v34]) (st := []) rfl rfl (by decide +kernel) rfl rfl rfl rfl rfl rfl rfl (fun _ e => ct_X8_copy e) (fun h37 => ?_)
    refine X_aload_n rfl rfl rfl ?_
    refine X_getI rfl rfl (fun v41 => ?_)
    exact X_iret rfl rfl rfl rfl rfl rfl rfl
def f_X8_checksum_b44 (K36 : gH → Nat → Int64 → Int32 → Option (Int64 × gH)) : Nat → gH → Nat → Int64 → Int32 → Int32 → Option (Int64 × gH)
  | 0, _, _, _, _, _ => none
  | n + 1, h, l0, l1, l3, l4 =>
    (if l4 < 6 then
      bif g_is h l0 8 then
      (f_X8_toldChannel h l0 l3 l4).bind fun v60 =>
      f_X8_checksum_b44 K36 n h l0 ((31 * l1) + (Int32.toInt64 v60)) l3 (l4 + 1)
      else none
    else
      K36 h l0 l1 (l3 + 1))
def f_X8_checksum_b124 (K80 : gH → Nat → Int64 → Int32 → Option (Int64 × gH)) (K93 : gH → Nat → Int64 → Int32 → Int32 → Option (Int64 × gH)) : Nat → gH → Nat → Int64 → Int32 → Int32 → Option (Int64 × gH)
  | 0, _, _, _, _, _ => none
  | n + 1, h, l0, l1, l3, l4 =>
    bif g_is h l0 8 then
    (f_X8_of h l0 l3 2).bind fun v129 =>
    (if l4 < v129 then
      bif g_is h l0 8 then
      (f_X8_of h l0 l3 (30 + l4)).bind fun v150 =>
      bif g_is h l0 8 then
      (f_X8_reason h l0 l3 l4).bind fun v160 =>
      f_X8_checksum_b124 K80 K93 n h l0 ((31 * ((31 * l1) + (Int32.toInt64 v150))) + (Int32.toInt64 v160)) l3 (l4 + 1)
      else none
      else none
    else
      K80 h l0 l1 (l3 + 1))
    else none
def f_X8_checksum_b93 (K80 : gH → Nat → Int64 → Int32 → Option (Int64 × gH)) : Nat → gH → Nat → Int64 → Int32 → Int32 → Option (Int64 × gH)
  | 0, _, _, _, _, _ => none
  | n + 1, h, l0, l1, l3, l4 =>
    (if l4 < 10 then
      bif g_is h l0 8 then
      (f_X8_toldMessage h l0 l3 l4).bind fun v109 =>
      f_X8_checksum_b93 K80 n h l0 ((31 * l1) + (Int32.toInt64 v109)) l3 (l4 + 1)
      else none
    else
      f_X8_checksum_b124 K80 (f_X8_checksum_b93 K80 n) g_N h l0 l1 l3 0)
def f_X8_checksum_b80 : Nat → gH → Nat → Int64 → Int32 → Option (Int64 × gH)
  | 0, _, _, _, _ => none
  | n + 1, h, l0, l1, l3 =>
    (g_gA h l0 8 8).bind fun v82 =>
    (g_ald h v82 1).bind fun v86 =>
    (if l3 < v86 then
      f_X8_checksum_b93 (f_X8_checksum_b80  n) g_N h l0 l1 l3 0
    else
      some (l1, h))
def f_X8_checksum_b36 : Nat → gH → Nat → Int64 → Int32 → Option (Int64 × gH)
  | 0, _, _, _, _ => none
  | n + 1, h, l0, l1, l3 =>
    (if l3 < 2 then
      f_X8_checksum_b44 (f_X8_checksum_b36  n) g_N h l0 l1 l3 0
    else
      f_X8_checksum_b80 g_N h l0 l1 0)
def f_X8_checksum_b9 : Nat → gH → Nat → Int64 → Int32 → Option (Int64 × gH)
  | 0, _, _, _, _ => none
  | n + 1, h, l0, l1, l3 =>
    (if l3 < 13 then
      bif g_is h l0 8 then
      (f_X8_told h l0 l3).bind fun v22 =>
      f_X8_checksum_b9  n h l0 ((31 * l1) + (Int32.toInt64 v22)) (l3 + 1)
      else none
    else
      f_X8_checksum_b36 g_N h l0 l1 0)
def f_X8_checksum (h : gH) (a0 : Nat) : Option (Int64 × gH) :=
  (g_put h a0 8 0 (.int 0)).bind fun h2 =>
  f_X8_checksum_b9 g_N h2 a0 0 0
set_option maxRecDepth 100000 in
theorem b_X8_checksum_b44 {l : Launch} {G : gG} {K36 : gH → Nat → Int64 → Int32 → Option (Int64 × gH)} (hK36 : ∀ (h : gH) (l0 : Nat) (l1 : Int64) (l3 : Int32), GX l G M_X8_checksum (g_phi G g_wL (m_R M_X8_checksum).cells (m_R M_X8_checksum).slots) 0 0 36 [some (.ref l0), some (.long l1), none, some (.int l3), none] [] h (K36 h l0 l1 l3)) : ∀ (n : Nat) (h : gH) (l0 : Nat) (l1 : Int64) (l3 : Int32) (l4 : Int32), GX l G M_X8_checksum (g_phi G g_wL (m_R M_X8_checksum).cells (m_R M_X8_checksum).slots) 0 0 44 [some (.ref l0), some (.long l1), none, some (.int l3), some (.int l4)] [] h (f_X8_checksum_b44 K36 n h l0 l1 l3 l4) := by
  intro n
  induction n with
  | zero => intros; exact X_none
  | succ n ih =>
    intro h l0 l1 l3 l4
    rw [f_X8_checksum_b44]
    refine X_iload rfl rfl rfl ?_
    refine X_bipush (v := 6) rfl rfl (by decide) ?_
    refine X_bicmp_ge rfl rfl (fun _ => ?_) (fun _ => ?_)
    · refine X_ldc2 (v := 31) rfl rfl (by decide +kernel) ?_
      refine X_lload_n rfl rfl rfl ?_
      refine X_lmul rfl rfl ?_
      refine X_aload_n rfl rfl rfl ?_
      refine X_iload_n rfl rfl rfl ?_
      refine X_iload rfl rfl rfl ?_
      refine X_callV_IR (M' := M_X8_toldChannel) (nA := 2) (As := [.int l3, .int l4]) (st := [.long (31 * l1)]) (b := l0) (ci := 8) rfl rfl (by decide +kernel) rfl rfl rfl rfl rfl rfl rfl rfl (fun _ e => ct_X8_toldChannel e) (fun v60 => ?_)
      refine X_i2l rfl rfl ?_
      refine X_ladd rfl rfl ?_
      refine X_lstore_n rfl rfl rfl rfl ?_
      refine X_iinc (v := l4 + 1) rfl rfl rfl (congrArg (fun z => l4 + z) (by decide : Int32.ofInt 1 = 1)) rfl ?_
      refine X_goto rfl rfl ?_
      exact X_sub (g_sub_s (g_sub_s (g_sub_n (g_sub_s (g_sub_s g_sub_0))))) (ih _ _ _ _ _)
    · refine X_iinc (v := l3 + 1) rfl rfl rfl (congrArg (fun z => l3 + z) (by decide : Int32.ofInt 1 = 1)) rfl ?_
      refine X_goto rfl rfl ?_
      exact X_sub (g_sub_s (g_sub_s (g_sub_n (g_sub_s (g_sub_n g_sub_0))))) (hK36 _ _ _ _)
set_option maxRecDepth 100000 in
theorem b_X8_checksum_b124 {l : Launch} {G : gG} {K80 : gH → Nat → Int64 → Int32 → Option (Int64 × gH)} {K93 : gH → Nat → Int64 → Int32 → Int32 → Option (Int64 × gH)} (hK80 : ∀ (h : gH) (l0 : Nat) (l1 : Int64) (l3 : Int32), GX l G M_X8_checksum (g_phi G g_wL (m_R M_X8_checksum).cells (m_R M_X8_checksum).slots) 0 0 80 [some (.ref l0), some (.long l1), none, some (.int l3), none] [] h (K80 h l0 l1 l3)) (hK93 : ∀ (h : gH) (l0 : Nat) (l1 : Int64) (l3 : Int32) (l4 : Int32), GX l G M_X8_checksum (g_phi G g_wL (m_R M_X8_checksum).cells (m_R M_X8_checksum).slots) 0 0 93 [some (.ref l0), some (.long l1), none, some (.int l3), some (.int l4)] [] h (K93 h l0 l1 l3 l4)) : ∀ (n : Nat) (h : gH) (l0 : Nat) (l1 : Int64) (l3 : Int32) (l4 : Int32), GX l G M_X8_checksum (g_phi G g_wL (m_R M_X8_checksum).cells (m_R M_X8_checksum).slots) 0 0 124 [some (.ref l0), some (.long l1), none, some (.int l3), some (.int l4)] [] h (f_X8_checksum_b124 K80 K93 n h l0 l1 l3 l4) := by
  intro n
  induction n with
  | zero => intros; exact X_none
  | succ n ih =>
    intro h l0 l1 l3 l4
    rw [f_X8_checksum_b124]
    refine X_iload rfl rfl rfl ?_
    refine X_aload_n rfl rfl rfl ?_
    refine X_iload_n rfl rfl rfl ?_
    refine X_iconst (v := 2) rfl rfl (by decide) ?_
    refine X_callV_IR (M' := M_X8_of) (nA := 2) (As := [.int l3, .int 2]) (st := [.int l4]) (b := l0) (ci := 8) rfl rfl (by decide +kernel) rfl rfl rfl rfl rfl rfl rfl rfl (fun _ e => ct_X8_of e) (fun v129 => ?_)
    refine X_bicmp_ge rfl rfl (fun _ => ?_) (fun _ => ?_)
    · refine X_ldc2 (v := 31) rfl rfl (by decide +kernel) ?_
      refine X_ldc2 (v := 31) rfl rfl (by decide +kernel) ?_
      refine X_lload_n rfl rfl rfl ?_
      refine X_lmul rfl rfl ?_
      refine X_aload_n rfl rfl rfl ?_
      refine X_iload_n rfl rfl rfl ?_
      refine X_bipush (v := 30) rfl rfl (by decide) ?_
      refine X_iload rfl rfl rfl ?_
      refine X_iadd rfl rfl ?_
      refine X_callV_IR (M' := M_X8_of) (nA := 2) (As := [.int l3, .int (30 + l4)]) (st := [.long (31 * l1), .long 31]) (b := l0) (ci := 8) rfl rfl (by decide +kernel) rfl rfl rfl rfl rfl rfl rfl rfl (fun _ e => ct_X8_of e) (fun v150 => ?_)
      refine X_i2l rfl rfl ?_
      refine X_ladd rfl rfl ?_
      refine X_lmul rfl rfl ?_
      refine X_aload_n rfl rfl rfl ?_
      refine X_iload_n rfl rfl rfl ?_
      refine X_iload rfl rfl rfl ?_
      refine X_callV_IR (M' := M_X8_reason) (nA := 2) (As := [.int l3, .int l4]) (st := [.long (31 * ((31 * l1) + (Int32.toInt64 v150)))]) (b := l0) (ci := 8) rfl rfl (by decide +kernel) rfl rfl rfl rfl rfl rfl rfl rfl (fun _ e => ct_X8_reason e) (fun v160 => ?_)
      refine X_i2l rfl rfl ?_
      refine X_ladd rfl rfl ?_
      refine X_lstore_n rfl rfl rfl rfl ?_
      refine X_iinc (v := l4 + 1) rfl rfl rfl (congrArg (fun z => l4 + z) (by decide : Int32.ofInt 1 = 1)) rfl ?_
      refine X_goto rfl rfl ?_
      exact X_sub (g_sub_s (g_sub_s (g_sub_n (g_sub_s (g_sub_s g_sub_0))))) (ih _ _ _ _ _)
    · refine X_iinc (v := l3 + 1) rfl rfl rfl (congrArg (fun z => l3 + z) (by decide : Int32.ofInt 1 = 1)) rfl ?_
      refine X_goto rfl rfl ?_
      exact X_sub (g_sub_s (g_sub_s (g_sub_n (g_sub_s (g_sub_n g_sub_0))))) (hK80 _ _ _ _)
set_option maxRecDepth 100000 in
theorem b_X8_checksum_b93 {l : Launch} {G : gG} {K80 : gH → Nat → Int64 → Int32 → Option (Int64 × gH)} (hK80 : ∀ (h : gH) (l0 : Nat) (l1 : Int64) (l3 : Int32), GX l G M_X8_checksum (g_phi G g_wL (m_R M_X8_checksum).cells (m_R M_X8_checksum).slots) 0 0 80 [some (.ref l0), some (.long l1), none, some (.int l3), none] [] h (K80 h l0 l1 l3)) : ∀ (n : Nat) (h : gH) (l0 : Nat) (l1 : Int64) (l3 : Int32) (l4 : Int32), GX l G M_X8_checksum (g_phi G g_wL (m_R M_X8_checksum).cells (m_R M_X8_checksum).slots) 0 0 93 [some (.ref l0), some (.long l1), none, some (.int l3), some (.int l4)] [] h (f_X8_checksum_b93 K80 n h l0 l1 l3 l4) := by
  intro n
  induction n with
  | zero => intros; exact X_none
  | succ n ih =>
    intro h l0 l1 l3 l4
    rw [f_X8_checksum_b93]
    refine X_iload rfl rfl rfl ?_
    refine X_bipush (v := 10) rfl rfl (by decide) ?_
    refine X_bicmp_ge rfl rfl (fun _ => ?_) (fun _ => ?_)
    · refine X_ldc2 (v := 31) rfl rfl (by decide +kernel) ?_
      refine X_lload_n rfl rfl rfl ?_
      refine X_lmul rfl rfl ?_
      refine X_aload_n rfl rfl rfl ?_
      refine X_iload_n rfl rfl rfl ?_
      refine X_iload rfl rfl rfl ?_
      refine X_callV_IR (M' := M_X8_toldMessage) (nA := 2) (As := [.int l3, .int l4]) (st := [.long (31 * l1)]) (b := l0) (ci := 8) rfl rfl (by decide +kernel) rfl rfl rfl rfl rfl rfl rfl rfl (fun _ e => ct_X8_toldMessage e) (fun v109 => ?_)
      refine X_i2l rfl rfl ?_
      refine X_ladd rfl rfl ?_
      refine X_lstore_n rfl rfl rfl rfl ?_
      refine X_iinc (v := l4 + 1) rfl rfl rfl (congrArg (fun z => l4 + z) (by decide : Int32.ofInt 1 = 1)) rfl ?_
      refine X_goto rfl rfl ?_
      exact X_sub (g_sub_s (g_sub_s (g_sub_n (g_sub_s (g_sub_s g_sub_0))))) (ih _ _ _ _ _)
    · refine X_iconst (v := 0) rfl rfl (by decide) ?_
      refine X_istore rfl rfl rfl rfl ?_
      exact X_sub (g_sub_s (g_sub_s (g_sub_n (g_sub_s (g_sub_s g_sub_0))))) (b_X8_checksum_b124 hK80 ih _ _ _ _ _ _)
set_option maxRecDepth 100000 in
theorem b_X8_checksum_b80 {l : Launch} {G : gG} : ∀ (n : Nat) (h : gH) (l0 : Nat) (l1 : Int64) (l3 : Int32), GX l G M_X8_checksum (g_phi G g_wL (m_R M_X8_checksum).cells (m_R M_X8_checksum).slots) 0 0 80 [some (.ref l0), some (.long l1), none, some (.int l3), none] [] h (f_X8_checksum_b80 n h l0 l1 l3) := by
  intro n
  induction n with
  | zero => intros; exact X_none
  | succ n ih =>
    intro h l0 l1 l3
    rw [f_X8_checksum_b80]
    refine X_iload_n rfl rfl rfl ?_
    refine X_aload_n rfl rfl rfl ?_
    refine X_getA rfl rfl (fun v82 => ?_)
    refine X_iconst (v := 1) rfl rfl (by decide) ?_
    refine X_ald rfl rfl (fun v86 => ?_)
    refine X_bicmp_ge rfl rfl (fun _ => ?_) (fun _ => ?_)
    · refine X_iconst (v := 0) rfl rfl (by decide) ?_
      refine X_istore rfl rfl rfl rfl ?_
      exact X_sub (g_sub_s (g_sub_s (g_sub_n (g_sub_s (g_sub_s g_sub_0))))) (b_X8_checksum_b93 ih _ _ _ _ _ _)
    · refine X_lload_n rfl rfl rfl ?_
      exact X_lret rfl rfl rfl rfl rfl rfl
set_option maxRecDepth 100000 in
theorem b_X8_checksum_b36 {l : Launch} {G : gG} : ∀ (n : Nat) (h : gH) (l0 : Nat) (l1 : Int64) (l3 : Int32), GX l G M_X8_checksum (g_phi G g_wL (m_R M_X8_checksum).cells (m_R M_X8_checksum).slots) 0 0 36 [some (.ref l0), some (.long l1), none, some (.int l3), none] [] h (f_X8_checksum_b36 n h l0 l1 l3) := by
  intro n
  induction n with
  | zero => intros; exact X_none
  | succ n ih =>
    intro h l0 l1 l3
    rw [f_X8_checksum_b36]
    refine X_iload_n rfl rfl rfl ?_
    refine X_iconst (v := 2) rfl rfl (by decide) ?_
    refine X_bicmp_ge rfl rfl (fun _ => ?_) (fun _ => ?_)
    · refine X_iconst (v := 0) rfl rfl (by decide) ?_
      refine X_istore rfl rfl rfl rfl ?_
      exact X_sub (g_sub_s (g_sub_s (g_sub_n (g_sub_s (g_sub_s g_sub_0))))) (b_X8_checksum_b44 ih _ _ _ _ _ _)
    · refine X_iconst (v := 0) rfl rfl (by decide) ?_
      refine X_istore_n rfl rfl rfl rfl ?_
      exact X_sub (g_sub_s (g_sub_s (g_sub_n (g_sub_s (g_sub_n g_sub_0))))) (b_X8_checksum_b80  _ _ _ _ _)
set_option maxRecDepth 100000 in
theorem b_X8_checksum_b9 {l : Launch} {G : gG} : ∀ (n : Nat) (h : gH) (l0 : Nat) (l1 : Int64) (l3 : Int32), GX l G M_X8_checksum (g_phi G g_wL (m_R M_X8_checksum).cells (m_R M_X8_checksum).slots) 0 0 9 [some (.ref l0), some (.long l1), none, some (.int l3), none] [] h (f_X8_checksum_b9 n h l0 l1 l3) := by
  intro n
  induction n with
  | zero => intros; exact X_none
  | succ n ih =>
    intro h l0 l1 l3
    rw [f_X8_checksum_b9]
    refine X_iload_n rfl rfl rfl ?_
    refine X_bipush (v := 13) rfl rfl (by decide) ?_
    refine X_bicmp_ge rfl rfl (fun _ => ?_) (fun _ => ?_)
    · refine X_ldc2 (v := 31) rfl rfl (by decide +kernel) ?_
      refine X_lload_n rfl rfl rfl ?_
      refine X_lmul rfl rfl ?_
      refine X_aload_n rfl rfl rfl ?_
      refine X_iload_n rfl rfl rfl ?_
      refine X_callV_IR (M' := M_X8_told) (nA := 1) (As := [.int l3]) (st := [.long (31 * l1)]) (b := l0) (ci := 8) rfl rfl (by decide +kernel) rfl rfl rfl rfl rfl rfl rfl rfl (fun _ e => ct_X8_told e) (fun v22 => ?_)
      refine X_i2l rfl rfl ?_
      refine X_ladd rfl rfl ?_
      refine X_lstore_n rfl rfl rfl rfl ?_
      refine X_iinc (v := l3 + 1) rfl rfl rfl (congrArg (fun z => l3 + z) (by decide : Int32.ofInt 1 = 1)) rfl ?_
      refine X_goto rfl rfl ?_
      exact X_sub (g_sub_s (g_sub_s (g_sub_n (g_sub_s (g_sub_n g_sub_0))))) (ih _ _ _ _)
    · refine X_iconst (v := 0) rfl rfl (by decide) ?_
      refine X_istore_n rfl rfl rfl rfl ?_
      exact X_sub (g_sub_s (g_sub_s (g_sub_n (g_sub_s (g_sub_n g_sub_0))))) (b_X8_checksum_b36  _ _ _ _ _)
set_option maxRecDepth 100000 in
theorem ct_X8_checksum {l : Launch} {G : gG} {h : gH} {a0 : Nat} {r : Int64} {h1 : gH} (e : f_X8_checksum h a0 = some (r, h1)) : Ct l G M_X8_checksum [.ref a0] h (some (.long r)) h1 := by
  refine Ct_of (L := [some (.ref a0), none, none, none, none]) ok_X8_checksum (by decide +kernel) rfl rfl rfl (ρ := g_wL) (F := f_X8_checksum h a0) ?_ e rfl
  unfold f_X8_checksum
  refine X_aload_n rfl rfl rfl ?_
  refine X_iconst (v := 0) rfl rfl (by decide) ?_
  refine X_put rfl rfl rfl rfl rfl (fun h2 => ?_)
  refine X_lconst (v := 0) rfl rfl (by decide) ?_
  refine X_lstore_n rfl rfl rfl rfl ?_
  refine X_iconst (v := 0) rfl rfl (by decide) ?_
  refine X_istore_n rfl rfl rfl rfl ?_
  exact X_sub (g_sub_s (g_sub_s (g_sub_n (g_sub_s (g_sub_n g_sub_0))))) (b_X8_checksum_b9  _ _ _ _ _)
