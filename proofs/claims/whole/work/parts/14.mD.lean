theorem in_X7_firstWord_X7 : ∀ w ∈ u_ws RX7 TX7 2, w ∈ wsX7_firstWord := by decide +kernel
def s_X7_firstWord_J38 (b1 : Nat) (x2 : Int32) (h : tt_H) : Option (Int32 × tt_H) :=
  (gg_obj h b1 2).bind fun _ =>
  (s_X2_at b1 x2 h).bind fun w40 =>
  some (w40.1, w40.2)
def s_X7_firstWord (b0 : Nat) (b1 : Nat) (x2 : Int32) (b3 : Nat) (x4 : Int32) (h : tt_H) : Option (Int32 × tt_H) :=
  (gg_obj h b1 2).bind fun _ =>
  (s_X2_has b1 x2 h).bind fun w2 =>
  if w2.1 = 0 then
    (gg_obj w2.2 b3 2).bind fun _ =>
    (s_X2_at b3 x4 w2.2).bind fun w11 =>
    some (w11.1, w11.2)
  else
  (gg_obj w2.2 b3 2).bind fun _ =>
  (s_X2_has b3 x4 w2.2).bind fun w18 =>
  if w18.1 = 0 then
    s_X7_firstWord_J38 b1 x2 w18.2
  else
  (gg_obj w18.2 b1 2).bind fun _ =>
  (s_X2_at b1 x2 w18.2).bind fun w26 =>
  (gg_obj w26.2 b3 2).bind fun _ =>
  (s_X2_at b3 x4 w26.2).bind fun w32 =>
  if w26.1 = w32.1 then
    s_X7_firstWord_J38 b1 x2 w32.2
  else
  (gg_fr w32.2 b0 7 0).bind fun o45 =>
  (gg_obj w32.2 o45 4).bind fun _ =>
  (s_X4_at o45 (x2 + 1) x4 w32.2).bind fun w53 =>
  (gg_fr w53.2 b0 7 0).bind fun o59 =>
  (gg_obj w53.2 o59 4).bind fun _ =>
  (s_X4_at o59 x2 (x4 + 1) w53.2).bind fun w67 =>
  if (lg_cmp w53.1 w67.1) = 0 then
    (gg_obj w67.2 b1 2).bind fun _ =>
    (s_X2_at b1 x2 w67.2).bind fun w82 =>
    (gg_obj w82.2 b3 2).bind fun _ =>
    (s_X2_at b3 x4 w82.2).bind fun w88 =>
    some (if w88.1 < w82.1 then w88.1 else w82.1, w88.2)
  else
  if 0 ≤ (lg_cmp w53.1 w67.1) then
    (gg_obj w67.2 b3 2).bind fun _ =>
    (s_X2_at b3 x4 w67.2).bind fun w114 =>
    some (w114.1, w114.2)
  else
  (gg_obj w67.2 b1 2).bind fun _ =>
  (s_X2_at b1 x2 w67.2).bind fun w105 =>
  some (w105.1, w105.2)
abbrev rm_X7_firstWord : Room := { frames := 2, cells := 0, slots := 0, locals := 43 }
set_option maxHeartbeats 4000000 in
set_option maxRecDepth 100000 in
theorem c_X7_firstWord (l : Launch) {b0 : Nat} {b1 : Nat} {x2 : Int32} {b3 : Nat} {x4 : Int32} {h : tt_H} {ρ : Int32 × tt_H} (hs : s_X7_firstWord b0 b1 x2 b3 x4 h = some ρ) : tt_M tt_cl l yX7_firstWord wsX7_firstWord rm_X7_firstWord 0 0 false [.ref b0, .ref b1, .int x2, .ref b3, .int x4] h (tt_ret (some (.int ρ.1)) ρ.2) := by
  refine tt_M.of0 (cc := cX7_firstWord) (maxL := 9) (ret := (some .int)) (by decide +kernel) rfl (Nat.le_of_ble_eq_true rfl) ?_
  intro p e s m args below meth c D ca ad n0 sz hwf hsz X hini
  unfold s_X7_firstWord at hs
  have t_38 : ∀ (b1 : Nat) (x2 : Int32) (h : tt_H), s_X7_firstWord_J38 b1 x2 h = some ρ → tt_T tt_cl (p, l, e, rm_X7_firstWord, s, m, args, below, meth, c, MQ below (tt_Q tt_cl D ca ad n0 sz false (tt_ret (some (.int ρ.1)) ρ.2)) args s 0 0 (tt_A ad n0 sz), D, ca, tt_A ad n0 sz, 9, some n0) ad 0 0 38 [(1, .ref b1), (2, .int x2)] [] h := by
    intro b1 x2 h hs
    unfold s_X7_firstWord_J38 at hs
    refine tt_aload_n X dX7_firstWord_38 rfl ?_
    refine tt_iload_n X dX7_firstWord_39 rfl ?_
    obtain ⟨o40, f40, hs⟩ := gg_bind hs
    obtain ⟨w40, e40, hs⟩ := gg_bind hs
    refine zr_callV X f40 rfl (c_X2_at l e40) (fun hts => cwV 1 hts gX7_firstWord_X2_at rfl rfl rfl (by decide +kernel) ⟨by decide, by decide⟩) rfl rfl (Nat.le_of_ble_eq_true rfl) dX7_firstWord_40 ⟨Nat.zero_le _, Nat.zero_le _⟩ ?_
    obtain rfl := Option.some.inj hs
    exact tt_iret X rfl dX7_firstWord_43 ⟨rfl, rfl⟩
  refine tt_aload_n X dX7_firstWord_0 rfl ?_
  refine tt_iload_n X dX7_firstWord_1 rfl ?_
  obtain ⟨o2, f2, hs⟩ := gg_bind hs
  obtain ⟨w2, e2, hs⟩ := gg_bind hs
  refine zr_callV X f2 rfl (c_X2_has l e2) (fun hts => cwV 1 hts gX7_firstWord_X2_has rfl rfl rfl (by decide +kernel) ⟨by decide, by decide⟩) rfl rfl (Nat.le_of_ble_eq_true rfl) dX7_firstWord_2 ⟨Nat.zero_le _, Nat.zero_le _⟩ ?_
  refine tt_if_ne (tgt := 15) X dX7_firstWord_5 (by decide) (fun c5 => ?_) (fun c5 => ?_)
  · rw [if_neg c5] at hs
    refine tt_aload_n X dX7_firstWord_15 rfl ?_
    refine tt_iload X dX7_firstWord_16 rfl ?_
    obtain ⟨o18, f18, hs⟩ := gg_bind hs
    obtain ⟨w18, e18, hs⟩ := gg_bind hs
    refine zr_callV X f18 rfl (c_X2_has l e18) (fun hts => cwV 1 hts gX7_firstWord_X2_has rfl rfl rfl (by decide +kernel) ⟨by decide, by decide⟩) rfl rfl (Nat.le_of_ble_eq_true rfl) dX7_firstWord_18 ⟨Nat.zero_le _, Nat.zero_le _⟩ ?_
    refine tt_if_eq (tgt := 38) X dX7_firstWord_21 (by decide) (fun c21 => ?_) (fun c21 => ?_)
    · rw [if_pos c21] at hs
      refine tt_drop [1, 2] ?_
      exact t_38 b1 x2 w18.2 hs
    · rw [if_neg c21] at hs
      refine tt_aload_n X dX7_firstWord_24 rfl ?_
      refine tt_iload_n X dX7_firstWord_25 rfl ?_
      obtain ⟨o26, f26, hs⟩ := gg_bind hs
      obtain ⟨w26, e26, hs⟩ := gg_bind hs
      refine zr_callV X f26 rfl (c_X2_at l e26) (fun hts => cwV 1 hts gX7_firstWord_X2_at rfl rfl rfl (by decide +kernel) ⟨by decide, by decide⟩) rfl rfl (Nat.le_of_ble_eq_true rfl) dX7_firstWord_26 ⟨Nat.zero_le _, Nat.zero_le _⟩ ?_
      refine tt_aload_n X dX7_firstWord_29 rfl ?_
      refine tt_iload X dX7_firstWord_30 rfl ?_
      obtain ⟨o32, f32, hs⟩ := gg_bind hs
      obtain ⟨w32, e32, hs⟩ := gg_bind hs
      refine zr_callV X f32 rfl (c_X2_at l e32) (fun hts => cwV 1 hts gX7_firstWord_X2_at rfl rfl rfl (by decide +kernel) ⟨by decide, by decide⟩) rfl rfl (Nat.le_of_ble_eq_true rfl) dX7_firstWord_32 ⟨Nat.zero_le _, Nat.zero_le _⟩ ?_
      refine tt_icmp_ne (tgt := 44) X dX7_firstWord_35 (by decide) (fun c35 => ?_) (fun c35 => ?_)
      · rw [if_neg c35] at hs
        refine tt_aload_n X dX7_firstWord_44 rfl ?_
        obtain ⟨o45, e45, hs⟩ := gg_bind hs
        refine zr_fr X e45 rfl in_X7_firstWord_X7 (by decide) (by decide +kernel) rfl dX7_firstWord_45 ?_
        refine tt_iload_n X dX7_firstWord_48 rfl ?_
        refine tt_iconst (v := 1) X dX7_firstWord_49 (by decide) ?_
        refine tt_iadd X dX7_firstWord_50 ?_
        refine tt_iload X dX7_firstWord_51 rfl ?_
        obtain ⟨o53, f53, hs⟩ := gg_bind hs
        obtain ⟨w53, e53, hs⟩ := gg_bind hs
        refine zr_callV X f53 rfl (c_X4_at l e53) (fun hts => cwV 2 hts gX7_firstWord_X4_at rfl rfl rfl (by decide +kernel) ⟨by decide, by decide⟩) rfl rfl (Nat.le_of_ble_eq_true rfl) dX7_firstWord_53 ⟨Nat.zero_le _, Nat.zero_le _⟩ ?_
        refine tt_lstore X dX7_firstWord_56 (Nat.le_of_ble_eq_true rfl) ?_
        refine tt_aload_n X dX7_firstWord_58 rfl ?_
        obtain ⟨o59, e59, hs⟩ := gg_bind hs
        refine zr_fr X e59 rfl in_X7_firstWord_X7 (by decide) (by decide +kernel) rfl dX7_firstWord_59 ?_
        refine tt_iload_n X dX7_firstWord_62 rfl ?_
        refine tt_iload X dX7_firstWord_63 rfl ?_
        refine tt_iconst (v := 1) X dX7_firstWord_65 (by decide) ?_
        refine tt_iadd X dX7_firstWord_66 ?_
        obtain ⟨o67, f67, hs⟩ := gg_bind hs
        obtain ⟨w67, e67, hs⟩ := gg_bind hs
        refine zr_callV X f67 rfl (c_X4_at l e67) (fun hts => cwV 2 hts gX7_firstWord_X4_at rfl rfl rfl (by decide +kernel) ⟨by decide, by decide⟩) rfl rfl (Nat.le_of_ble_eq_true rfl) dX7_firstWord_67 ⟨Nat.zero_le _, Nat.zero_le _⟩ ?_
        refine tt_lstore X dX7_firstWord_70 (Nat.le_of_ble_eq_true rfl) ?_
        refine tt_lload X dX7_firstWord_72 rfl ?_
        refine tt_lload X dX7_firstWord_74 rfl ?_
        refine tt_lcmp X dX7_firstWord_76 ?_
        refine tt_if_ne (tgt := 95) X dX7_firstWord_77 (by decide) (fun c77 => ?_) (fun c77 => ?_)
        · rw [if_neg c77] at hs
          refine tt_lload X dX7_firstWord_95 rfl ?_
          refine tt_lload X dX7_firstWord_97 rfl ?_
          refine tt_lcmp X dX7_firstWord_99 ?_
          refine tt_if_ge (tgt := 111) X dX7_firstWord_100 (by decide) (fun c100 => ?_) (fun c100 => ?_)
          · rw [if_pos c100] at hs
            refine tt_aload_n X dX7_firstWord_111 rfl ?_
            refine tt_iload X dX7_firstWord_112 rfl ?_
            obtain ⟨o114, f114, hs⟩ := gg_bind hs
            obtain ⟨w114, e114, hs⟩ := gg_bind hs
            refine zr_callV X f114 rfl (c_X2_at l e114) (fun hts => cwV 1 hts gX7_firstWord_X2_at rfl rfl rfl (by decide +kernel) ⟨by decide, by decide⟩) rfl rfl (Nat.le_of_ble_eq_true rfl) dX7_firstWord_114 ⟨Nat.zero_le _, Nat.zero_le _⟩ ?_
            obtain rfl := Option.some.inj hs
            exact tt_iret X rfl dX7_firstWord_117 ⟨rfl, rfl⟩
          · rw [if_neg c100] at hs
            refine tt_aload_n X dX7_firstWord_103 rfl ?_
            refine tt_iload_n X dX7_firstWord_104 rfl ?_
            obtain ⟨o105, f105, hs⟩ := gg_bind hs
            obtain ⟨w105, e105, hs⟩ := gg_bind hs
            refine zr_callV X f105 rfl (c_X2_at l e105) (fun hts => cwV 1 hts gX7_firstWord_X2_at rfl rfl rfl (by decide +kernel) ⟨by decide, by decide⟩) rfl rfl (Nat.le_of_ble_eq_true rfl) dX7_firstWord_105 ⟨Nat.zero_le _, Nat.zero_le _⟩ ?_
            refine tt_goto (tgt := 117) X dX7_firstWord_108 (by decide) ?_
            obtain rfl := Option.some.inj hs
            exact tt_iret X rfl dX7_firstWord_117 ⟨rfl, rfl⟩
        · rw [if_pos c77] at hs
          refine tt_aload_n X dX7_firstWord_80 rfl ?_
          refine tt_iload_n X dX7_firstWord_81 rfl ?_
          obtain ⟨o82, f82, hs⟩ := gg_bind hs
          obtain ⟨w82, e82, hs⟩ := gg_bind hs
          refine zr_callV X f82 rfl (c_X2_at l e82) (fun hts => cwV 1 hts gX7_firstWord_X2_at rfl rfl rfl (by decide +kernel) ⟨by decide, by decide⟩) rfl rfl (Nat.le_of_ble_eq_true rfl) dX7_firstWord_82 ⟨Nat.zero_le _, Nat.zero_le _⟩ ?_
          refine tt_aload_n X dX7_firstWord_85 rfl ?_
          refine tt_iload X dX7_firstWord_86 rfl ?_
          obtain ⟨o88, f88, hs⟩ := gg_bind hs
          obtain ⟨w88, e88, hs⟩ := gg_bind hs
          refine zr_callV X f88 rfl (c_X2_at l e88) (fun hts => cwV 1 hts gX7_firstWord_X2_at rfl rfl rfl (by decide +kernel) ⟨by decide, by decide⟩) rfl rfl (Nat.le_of_ble_eq_true rfl) dX7_firstWord_88 ⟨Nat.zero_le _, Nat.zero_le _⟩ ?_
          refine zr_mmin X (by decide +kernel) (by decide +kernel) (by decide +kernel) (by decide +kernel) (by decide) (Nat.le_of_ble_eq_true rfl) (Nat.zero_le _) (Nat.zero_le _) dX7_firstWord_91 ?_
          obtain rfl := Option.some.inj hs
          exact tt_iret X rfl dX7_firstWord_94 ⟨rfl, rfl⟩
      · rw [if_pos c35] at hs
        refine tt_drop [1, 2] ?_
        exact t_38 b1 x2 w32.2 hs
  · rw [if_pos c5] at hs
    refine tt_aload_n X dX7_firstWord_8 rfl ?_
    refine tt_iload X dX7_firstWord_9 rfl ?_
    obtain ⟨o11, f11, hs⟩ := gg_bind hs
    obtain ⟨w11, e11, hs⟩ := gg_bind hs
    refine zr_callV X f11 rfl (c_X2_at l e11) (fun hts => cwV 1 hts gX7_firstWord_X2_at rfl rfl rfl (by decide +kernel) ⟨by decide, by decide⟩) rfl rfl (Nat.le_of_ble_eq_true rfl) dX7_firstWord_11 ⟨Nat.zero_le _, Nat.zero_le _⟩ ?_
    obtain rfl := Option.some.inj hs
    exact tt_iret X rfl dX7_firstWord_14 ⟨rfl, rfl⟩

theorem in_X7_howMany_X7 : ∀ w ∈ u_ws RX7 TX7 2, w ∈ wsX7_howMany := by decide +kernel
def s_X7_howMany (b0 : Nat) (h : tt_H) : Option (Int64 × tt_H) :=
  (gg_fr h b0 7 1).bind fun o1 =>
  (gg_obj h o1 4).bind fun _ =>
  (s_X4_at o1 0 0 h).bind fun w6 =>
  some (w6.1, w6.2)
abbrev rm_X7_howMany : Room := { frames := 2, cells := 0, slots := 0, locals := 43 }
set_option maxHeartbeats 4000000 in
set_option maxRecDepth 100000 in
theorem c_X7_howMany (l : Launch) {b0 : Nat} {h : tt_H} {ρ : Int64 × tt_H} (hs : s_X7_howMany b0 h = some ρ) : tt_M tt_cl l yX7_howMany wsX7_howMany rm_X7_howMany 0 0 false [.ref b0] h (tt_ret (some (.long ρ.1)) ρ.2) := by
  refine tt_M.of0 (cc := cX7_howMany) (maxL := 1) (ret := (some .long)) (by decide +kernel) rfl (Nat.le_of_ble_eq_true rfl) ?_
  intro p e s m args below meth c D ca ad n0 sz hwf hsz X hini
  unfold s_X7_howMany at hs
  refine tt_aload_n X dX7_howMany_0 rfl ?_
  obtain ⟨o1, e1, hs⟩ := gg_bind hs
  refine zr_fr X e1 rfl in_X7_howMany_X7 (by decide) (by decide +kernel) rfl dX7_howMany_1 ?_
  refine tt_iconst (v := 0) X dX7_howMany_4 (by decide) ?_
  refine tt_iconst (v := 0) X dX7_howMany_5 (by decide) ?_
  obtain ⟨o6, f6, hs⟩ := gg_bind hs
  obtain ⟨w6, e6, hs⟩ := gg_bind hs
  refine zr_callV X f6 rfl (c_X4_at l e6) (fun hts => cwV 2 hts gX7_howMany_X4_at rfl rfl rfl (by decide +kernel) ⟨by decide, by decide⟩) rfl rfl (Nat.le_of_ble_eq_true rfl) dX7_howMany_6 ⟨Nat.zero_le _, Nat.zero_le _⟩ ?_
  obtain rfl := Option.some.inj hs
  exact tt_lret X rfl dX7_howMany_9 ⟨rfl, rfl⟩

theorem in_X7_keep_X7 : ∀ w ∈ u_ws RX7 TX7 2, w ∈ wsX7_keep := by decide +kernel
def s_X7_keep (b0 : Nat) (x1 : Int32) (x2 : Int32) (y3 : Int64) (y5 : Int64) (h : tt_H) : Option (Unit × tt_H) :=
  (gg_fr h b0 7 0).bind fun o1 =>
  (gg_obj h o1 4).bind fun _ =>
  (s_X4_write o1 x1 x2 y3 h).bind fun w7 =>
  (gg_fr w7.2 b0 7 1).bind fun o11 =>
  (gg_obj w7.2 o11 4).bind fun _ =>
  (s_X4_write o11 x1 x2 y5 w7.2).bind fun w18 =>
  some ((), w18.2)
abbrev rm_X7_keep : Room := { frames := 2, cells := 0, slots := 0, locals := 45 }
set_option maxHeartbeats 4000000 in
set_option maxRecDepth 100000 in
theorem c_X7_keep (l : Launch) {b0 : Nat} {x1 : Int32} {x2 : Int32} {y3 : Int64} {y5 : Int64} {h : tt_H} {ρ : Unit × tt_H} (hs : s_X7_keep b0 x1 x2 y3 y5 h = some ρ) : tt_M tt_cl l yX7_keep wsX7_keep rm_X7_keep 0 0 false [.ref b0, .int x1, .int x2, .long y3, .long y5] h (tt_ret (none) ρ.2) := by
  refine tt_M.of0 (cc := cX7_keep) (maxL := 7) (ret := none) (by decide +kernel) rfl (Nat.le_of_ble_eq_true rfl) ?_
  intro p e s m args below meth c D ca ad n0 sz hwf hsz X hini
  unfold s_X7_keep at hs
  refine tt_aload_n X dX7_keep_0 rfl ?_
  obtain ⟨o1, e1, hs⟩ := gg_bind hs
  refine zr_fr X e1 rfl in_X7_keep_X7 (by decide) (by decide +kernel) rfl dX7_keep_1 ?_
  refine tt_iload_n X dX7_keep_4 rfl ?_
  refine tt_iload_n X dX7_keep_5 rfl ?_
  refine tt_lload_n X dX7_keep_6 rfl ?_
  obtain ⟨o7, f7, hs⟩ := gg_bind hs
  obtain ⟨w7, e7, hs⟩ := gg_bind hs
  refine zr_callV X f7 rfl (c_X4_write l e7) (fun hts => cwV 3 hts gX7_keep_X4_write rfl rfl rfl (by decide +kernel) ⟨by decide, by decide⟩) rfl rfl (Nat.le_of_ble_eq_true rfl) dX7_keep_7 ⟨Nat.zero_le _, Nat.zero_le _⟩ ?_
  refine tt_aload_n X dX7_keep_10 rfl ?_
  obtain ⟨o11, e11, hs⟩ := gg_bind hs
  refine zr_fr X e11 rfl in_X7_keep_X7 (by decide) (by decide +kernel) rfl dX7_keep_11 ?_
  refine tt_iload_n X dX7_keep_14 rfl ?_
  refine tt_iload_n X dX7_keep_15 rfl ?_
  refine tt_lload X dX7_keep_16 rfl ?_
  obtain ⟨o18, f18, hs⟩ := gg_bind hs
  obtain ⟨w18, e18, hs⟩ := gg_bind hs
  refine zr_callV X f18 rfl (c_X4_write l e18) (fun hts => cwV 3 hts gX7_keep_X4_write rfl rfl rfl (by decide +kernel) ⟨by decide, by decide⟩) rfl rfl (Nat.le_of_ble_eq_true rfl) dX7_keep_18 ⟨Nat.zero_le _, Nat.zero_le _⟩ ?_
  obtain rfl := Option.some.inj hs
  exact tt_vret X rfl dX7_keep_21 ⟨rfl, rfl⟩

theorem in_X7_length_X7 : ∀ w ∈ u_ws RX7 TX7 2, w ∈ wsX7_length := by decide +kernel
def s_X7_length (b0 : Nat) (h : tt_H) : Option (Int32 × tt_H) :=
  (gg_fr h b0 7 0).bind fun o1 =>
  (gg_obj h o1 4).bind fun _ =>
  (s_X4_at o1 0 0 h).bind fun w6 =>
  some (w6.1.toInt32, w6.2)
abbrev rm_X7_length : Room := { frames := 2, cells := 0, slots := 0, locals := 43 }
set_option maxHeartbeats 4000000 in
set_option maxRecDepth 100000 in
theorem c_X7_length (l : Launch) {b0 : Nat} {h : tt_H} {ρ : Int32 × tt_H} (hs : s_X7_length b0 h = some ρ) : tt_M tt_cl l yX7_length wsX7_length rm_X7_length 0 0 false [.ref b0] h (tt_ret (some (.int ρ.1)) ρ.2) := by
  refine tt_M.of0 (cc := cX7_length) (maxL := 1) (ret := (some .int)) (by decide +kernel) rfl (Nat.le_of_ble_eq_true rfl) ?_
  intro p e s m args below meth c D ca ad n0 sz hwf hsz X hini
  unfold s_X7_length at hs
  refine tt_aload_n X dX7_length_0 rfl ?_
  obtain ⟨o1, e1, hs⟩ := gg_bind hs
  refine zr_fr X e1 rfl in_X7_length_X7 (by decide) (by decide +kernel) rfl dX7_length_1 ?_
  refine tt_iconst (v := 0) X dX7_length_4 (by decide) ?_
  refine tt_iconst (v := 0) X dX7_length_5 (by decide) ?_
  obtain ⟨o6, f6, hs⟩ := gg_bind hs
  obtain ⟨w6, e6, hs⟩ := gg_bind hs
  refine zr_callV X f6 rfl (c_X4_at l e6) (fun hts => cwV 2 hts gX7_length_X4_at rfl rfl rfl (by decide +kernel) ⟨by decide, by decide⟩) rfl rfl (Nat.le_of_ble_eq_true rfl) dX7_length_6 ⟨Nat.zero_le _, Nat.zero_le _⟩ ?_
  refine tt_l2i X dX7_length_9 ?_
  obtain rfl := Option.some.inj hs
  exact tt_iret X rfl dX7_length_10 ⟨rfl, rfl⟩

theorem in_X7_makeAt_X7 : ∀ w ∈ u_ws RX7 TX7 2, w ∈ wsX7_makeAt := by decide +kernel
def s_X7_makeAt_J173 (b0 : Nat) (x2 : Int32) (x4 : Int32) (y5 : Int64) (y7 : Int64) (uy0 : Int64) (uy1 : Int64) (h : tt_H) : Option (Unit × tt_H) :=
  (gg_obj h b0 7).bind fun _ =>
  (s_X7_keep b0 x2 x4 (1 + (if y7 < y5 then y7 else y5)) (uy0 + uy1) h).bind fun w191 =>
  some ((), w191.2)
def s_X7_makeAt_J149 (b0 : Nat) (x2 : Int32) (x4 : Int32) (y5 : Int64) (y7 : Int64) (uy0 : Int64) (h : tt_H) : Option (Unit × tt_H) :=
  if 0 < (lg_cmp y7 y5) then
    s_X7_makeAt_J173 b0 x2 x4 y5 y7 uy0 0 h
  else
  (gg_fr h b0 7 1).bind fun o158 =>
  (gg_obj h o158 4).bind fun _ =>
  (s_X4_at o158 x2 (x4 + 1) h).bind fun w166 =>
  s_X7_makeAt_J173 b0 x2 x4 y5 y7 uy0 w166.1 w166.2
def s_X7_makeAt_J17 (b0 : Nat) (b1 : Nat) (x2 : Int32) (b3 : Nat) (x4 : Int32) (h : tt_H) : Option (Unit × tt_H) :=
  (gg_obj h b1 2).bind fun _ =>
  (s_X2_size b1 h).bind fun w22 =>
  (gg_obj w22.2 b3 2).bind fun _ =>
  (s_X2_size b3 w22.2).bind fun w28 =>
  (gg_obj w28.2 b0 7).bind fun _ =>
  (s_X7_keep b0 x2 x4 ((((w22.1 - x2) + w28.1) - x4).toInt64) 1 w28.2).bind fun w37 =>
  some ((), w37.2)
def s_X7_makeAt (b0 : Nat) (b1 : Nat) (x2 : Int32) (b3 : Nat) (x4 : Int32) (h : tt_H) : Option (Unit × tt_H) :=
  (gg_obj h b1 2).bind fun _ =>
  (s_X2_has b1 x2 h).bind fun w2 =>
  if w2.1 = 0 then
    s_X7_makeAt_J17 b0 b1 x2 b3 x4 w2.2
  else
  (gg_obj w2.2 b3 2).bind fun _ =>
  (s_X2_has b3 x4 w2.2).bind fun w11 =>
  if w11.1 = 0 then
    s_X7_makeAt_J17 b0 b1 x2 b3 x4 w11.2
  else
  (gg_obj w11.2 b1 2).bind fun _ =>
  (s_X2_at b1 x2 w11.2).bind fun w45 =>
  (gg_obj w45.2 b3 2).bind fun _ =>
  (s_X2_at b3 x4 w45.2).bind fun w51 =>
  if w45.1 = w51.1 then
    (gg_fr w51.2 b0 7 0).bind fun o63 =>
    (gg_obj w51.2 o63 4).bind fun _ =>
    (s_X4_at o63 (x2 + 1) (x4 + 1) w51.2).bind fun w73 =>
    (gg_fr w73.2 b0 7 1).bind fun o78 =>
    (gg_obj w73.2 o78 4).bind fun _ =>
    (s_X4_at o78 (x2 + 1) (x4 + 1) w73.2).bind fun w88 =>
    (gg_obj w88.2 b0 7).bind fun _ =>
    (s_X7_keep b0 x2 x4 (1 + w73.1) w88.1 w88.2).bind fun w91 =>
    some ((), w91.2)
  else
  (gg_fr w51.2 b0 7 0).bind fun o98 =>
  (gg_obj w51.2 o98 4).bind fun _ =>
  (s_X4_at o98 (x2 + 1) x4 w51.2).bind fun w106 =>
  (gg_fr w106.2 b0 7 0).bind fun o112 =>
  (gg_obj w106.2 o112 4).bind fun _ =>
  (s_X4_at o112 x2 (x4 + 1) w106.2).bind fun w120 =>
  if 0 < (lg_cmp w106.1 w120.1) then
    s_X7_makeAt_J149 b0 x2 x4 w106.1 w120.1 0 w120.2
  else
  (gg_fr w120.2 b0 7 1).bind fun o134 =>
  (gg_obj w120.2 o134 4).bind fun _ =>
  (s_X4_at o134 (x2 + 1) x4 w120.2).bind fun w142 =>
  s_X7_makeAt_J149 b0 x2 x4 w106.1 w120.1 w142.1 w142.2
abbrev rm_X7_makeAt : Room := { frames := 3, cells := 0, slots := 0, locals := 71 }
set_option maxHeartbeats 4000000 in
set_option maxRecDepth 100000 in
theorem c_X7_makeAt (l : Launch) {b0 : Nat} {b1 : Nat} {x2 : Int32} {b3 : Nat} {x4 : Int32} {h : tt_H} {ρ : Unit × tt_H} (hs : s_X7_makeAt b0 b1 x2 b3 x4 h = some ρ) : tt_M tt_cl l yX7_makeAt wsX7_makeAt rm_X7_makeAt 0 0 false [.ref b0, .ref b1, .int x2, .ref b3, .int x4] h (tt_ret (none) ρ.2) := by
  refine tt_M.of0 (cc := cX7_makeAt) (maxL := 11) (ret := none) (by decide +kernel) rfl (Nat.le_of_ble_eq_true rfl) ?_
  intro p e s m args below meth c D ca ad n0 sz hwf hsz X hini
  unfold s_X7_makeAt at hs
  have t_149 : ∀ (b0 : Nat) (x2 : Int32) (x4 : Int32) (y5 : Int64) (y7 : Int64) (uy0 : Int64) (h : tt_H), s_X7_makeAt_J149 b0 x2 x4 y5 y7 uy0 h = some ρ → tt_T tt_cl (p, l, e, rm_X7_makeAt, s, m, args, below, meth, c, MQ below (tt_Q tt_cl D ca ad n0 sz false (tt_ret (none) ρ.2)) args s 0 0 (tt_A ad n0 sz), D, ca, tt_A ad n0 sz, 11, some n0) ad 0 0 149 [(0, .ref b0), (2, .int x2), (4, .int x4), (5, .long y5), (7, .long y7)] [.long uy0] h := by
    intro b0 x2 x4 y5 y7 uy0 h hs
    unfold s_X7_makeAt_J149 at hs
    have t_173 : ∀ (b0 : Nat) (x2 : Int32) (x4 : Int32) (y5 : Int64) (y7 : Int64) (uy0 : Int64) (uy1 : Int64) (h : tt_H), s_X7_makeAt_J173 b0 x2 x4 y5 y7 uy0 uy1 h = some ρ → tt_T tt_cl (p, l, e, rm_X7_makeAt, s, m, args, below, meth, c, MQ below (tt_Q tt_cl D ca ad n0 sz false (tt_ret (none) ρ.2)) args s 0 0 (tt_A ad n0 sz), D, ca, tt_A ad n0 sz, 11, some n0) ad 0 0 173 [(0, .ref b0), (2, .int x2), (4, .int x4), (5, .long y5), (7, .long y7)] [.long uy1, .long uy0] h := by
      intro b0 x2 x4 y5 y7 uy0 uy1 h hs
      unfold s_X7_makeAt_J173 at hs
      refine tt_ladd X dX7_makeAt_173 ?_
      refine tt_lstore X dX7_makeAt_174 (Nat.le_of_ble_eq_true rfl) ?_
      refine tt_aload_n X dX7_makeAt_176 rfl ?_
      refine tt_iload_n X dX7_makeAt_177 rfl ?_
      refine tt_iload X dX7_makeAt_178 rfl ?_
      refine tt_lconst (v := 1) X dX7_makeAt_180 (by decide) ?_
      refine tt_lload X dX7_makeAt_181 rfl ?_
      refine tt_lload X dX7_makeAt_183 rfl ?_
      refine zr_lmin X (by decide +kernel) (by decide +kernel) (by decide +kernel) (by decide +kernel) (by decide) (Nat.le_of_ble_eq_true rfl) (Nat.zero_le _) (Nat.zero_le _) dX7_makeAt_185 ?_
      refine tt_ladd X dX7_makeAt_188 ?_
      refine tt_lload X dX7_makeAt_189 rfl ?_
      obtain ⟨o191, f191, hs⟩ := gg_bind hs
      obtain ⟨w191, e191, hs⟩ := gg_bind hs
      refine zr_callV X f191 rfl (c_X7_keep l e191) (fun hts => cwV 4 hts gX7_makeAt_X7_keep rfl rfl rfl (by decide +kernel) ⟨by decide, by decide⟩) rfl rfl (Nat.le_of_ble_eq_true rfl) dX7_makeAt_191 ⟨Nat.zero_le _, Nat.zero_le _⟩ ?_
      obtain rfl := Option.some.inj hs
      exact tt_vret X rfl dX7_makeAt_194 ⟨rfl, rfl⟩
    refine tt_lload X dX7_makeAt_149 rfl ?_
    refine tt_lload X dX7_makeAt_151 rfl ?_
    refine tt_lcmp X dX7_makeAt_153 ?_
    refine tt_if_gt (tgt := 172) X dX7_makeAt_154 (by decide) (fun c154 => ?_) (fun c154 => ?_)
    · rw [if_pos c154] at hs
      refine tt_lconst (v := 0) X dX7_makeAt_172 (by decide) ?_
      refine tt_drop [0, 2, 4, 5, 7] ?_
      exact t_173 b0 x2 x4 y5 y7 uy0 0 h hs
    · rw [if_neg c154] at hs
      refine tt_aload_n X dX7_makeAt_157 rfl ?_
      obtain ⟨o158, e158, hs⟩ := gg_bind hs
      refine zr_fr X e158 rfl in_X7_makeAt_X7 (by decide) (by decide +kernel) rfl dX7_makeAt_158 ?_
      refine tt_iload_n X dX7_makeAt_161 rfl ?_
      refine tt_iload X dX7_makeAt_162 rfl ?_
      refine tt_iconst (v := 1) X dX7_makeAt_164 (by decide) ?_
      refine tt_iadd X dX7_makeAt_165 ?_
      obtain ⟨o166, f166, hs⟩ := gg_bind hs
      obtain ⟨w166, e166, hs⟩ := gg_bind hs
      refine zr_callV X f166 rfl (c_X4_at l e166) (fun hts => cwV 2 hts gX7_makeAt_X4_at rfl rfl rfl (by decide +kernel) ⟨by decide, by decide⟩) rfl rfl (Nat.le_of_ble_eq_true rfl) dX7_makeAt_166 ⟨Nat.zero_le _, Nat.zero_le _⟩ ?_
      refine tt_goto (tgt := 173) X dX7_makeAt_169 (by decide) ?_
      refine tt_drop [0, 2, 4, 5, 7] ?_
      exact t_173 b0 x2 x4 y5 y7 uy0 w166.1 w166.2 hs
  have t_17 : ∀ (b0 : Nat) (b1 : Nat) (x2 : Int32) (b3 : Nat) (x4 : Int32) (h : tt_H), s_X7_makeAt_J17 b0 b1 x2 b3 x4 h = some ρ → tt_T tt_cl (p, l, e, rm_X7_makeAt, s, m, args, below, meth, c, MQ below (tt_Q tt_cl D ca ad n0 sz false (tt_ret (none) ρ.2)) args s 0 0 (tt_A ad n0 sz), D, ca, tt_A ad n0 sz, 11, some n0) ad 0 0 17 [(0, .ref b0), (1, .ref b1), (2, .int x2), (3, .ref b3), (4, .int x4)] [] h := by
    intro b0 b1 x2 b3 x4 h hs
    unfold s_X7_makeAt_J17 at hs
    refine tt_aload_n X dX7_makeAt_17 rfl ?_
    refine tt_iload_n X dX7_makeAt_18 rfl ?_
    refine tt_iload X dX7_makeAt_19 rfl ?_
    refine tt_aload_n X dX7_makeAt_21 rfl ?_
    obtain ⟨o22, f22, hs⟩ := gg_bind hs
    obtain ⟨w22, e22, hs⟩ := gg_bind hs
    refine zr_callV X f22 rfl (c_X2_size l e22) (fun hts => cwV 0 hts gX7_makeAt_X2_size rfl rfl rfl (by decide +kernel) ⟨by decide, by decide⟩) rfl rfl (Nat.le_of_ble_eq_true rfl) dX7_makeAt_22 ⟨Nat.zero_le _, Nat.zero_le _⟩ ?_
    refine tt_iload_n X dX7_makeAt_25 rfl ?_
    refine tt_isub X dX7_makeAt_26 ?_
    refine tt_aload_n X dX7_makeAt_27 rfl ?_
    obtain ⟨o28, f28, hs⟩ := gg_bind hs
    obtain ⟨w28, e28, hs⟩ := gg_bind hs
    refine zr_callV X f28 rfl (c_X2_size l e28) (fun hts => cwV 0 hts gX7_makeAt_X2_size rfl rfl rfl (by decide +kernel) ⟨by decide, by decide⟩) rfl rfl (Nat.le_of_ble_eq_true rfl) dX7_makeAt_28 ⟨Nat.zero_le _, Nat.zero_le _⟩ ?_
    refine tt_iadd X dX7_makeAt_31 ?_
    refine tt_iload X dX7_makeAt_32 rfl ?_
    refine tt_isub X dX7_makeAt_34 ?_
    refine tt_i2l X dX7_makeAt_35 ?_
    refine tt_lconst (v := 1) X dX7_makeAt_36 (by decide) ?_
    obtain ⟨o37, f37, hs⟩ := gg_bind hs
    obtain ⟨w37, e37, hs⟩ := gg_bind hs
    refine zr_callV X f37 rfl (c_X7_keep l e37) (fun hts => cwV 4 hts gX7_makeAt_X7_keep rfl rfl rfl (by decide +kernel) ⟨by decide, by decide⟩) rfl rfl (Nat.le_of_ble_eq_true rfl) dX7_makeAt_37 ⟨Nat.zero_le _, Nat.zero_le _⟩ ?_
    refine tt_goto (tgt := 194) X dX7_makeAt_40 (by decide) ?_
    obtain rfl := Option.some.inj hs
    exact tt_vret X rfl dX7_makeAt_194 ⟨rfl, rfl⟩
  refine tt_aload_n X dX7_makeAt_0 rfl ?_
  refine tt_iload_n X dX7_makeAt_1 rfl ?_
  obtain ⟨o2, f2, hs⟩ := gg_bind hs
  obtain ⟨w2, e2, hs⟩ := gg_bind hs
  refine zr_callV X f2 rfl (c_X2_has l e2) (fun hts => cwV 1 hts gX7_makeAt_X2_has rfl rfl rfl (by decide +kernel) ⟨by decide, by decide⟩) rfl rfl (Nat.le_of_ble_eq_true rfl) dX7_makeAt_2 ⟨Nat.zero_le _, Nat.zero_le _⟩ ?_
  refine tt_if_eq (tgt := 17) X dX7_makeAt_5 (by decide) (fun c5 => ?_) (fun c5 => ?_)
  · rw [if_pos c5] at hs
    refine tt_drop [0, 1, 2, 3, 4] ?_
    exact t_17 b0 b1 x2 b3 x4 w2.2 hs
  · rw [if_neg c5] at hs
    refine tt_aload_n X dX7_makeAt_8 rfl ?_
    refine tt_iload X dX7_makeAt_9 rfl ?_
    obtain ⟨o11, f11, hs⟩ := gg_bind hs
    obtain ⟨w11, e11, hs⟩ := gg_bind hs
    refine zr_callV X f11 rfl (c_X2_has l e11) (fun hts => cwV 1 hts gX7_makeAt_X2_has rfl rfl rfl (by decide +kernel) ⟨by decide, by decide⟩) rfl rfl (Nat.le_of_ble_eq_true rfl) dX7_makeAt_11 ⟨Nat.zero_le _, Nat.zero_le _⟩ ?_
    refine tt_if_ne (tgt := 43) X dX7_makeAt_14 (by decide) (fun c14 => ?_) (fun c14 => ?_)
    · rw [if_neg c14] at hs
      refine tt_aload_n X dX7_makeAt_43 rfl ?_
      refine tt_iload_n X dX7_makeAt_44 rfl ?_
      obtain ⟨o45, f45, hs⟩ := gg_bind hs
      obtain ⟨w45, e45, hs⟩ := gg_bind hs
      refine zr_callV X f45 rfl (c_X2_at l e45) (fun hts => cwV 1 hts gX7_makeAt_X2_at rfl rfl rfl (by decide +kernel) ⟨by decide, by decide⟩) rfl rfl (Nat.le_of_ble_eq_true rfl) dX7_makeAt_45 ⟨Nat.zero_le _, Nat.zero_le _⟩ ?_
      refine tt_aload_n X dX7_makeAt_48 rfl ?_
      refine tt_iload X dX7_makeAt_49 rfl ?_
      obtain ⟨o51, f51, hs⟩ := gg_bind hs
      obtain ⟨w51, e51, hs⟩ := gg_bind hs
      refine zr_callV X f51 rfl (c_X2_at l e51) (fun hts => cwV 1 hts gX7_makeAt_X2_at rfl rfl rfl (by decide +kernel) ⟨by decide, by decide⟩) rfl rfl (Nat.le_of_ble_eq_true rfl) dX7_makeAt_51 ⟨Nat.zero_le _, Nat.zero_le _⟩ ?_
      refine tt_icmp_ne (tgt := 97) X dX7_makeAt_54 (by decide) (fun c54 => ?_) (fun c54 => ?_)
      · rw [if_neg c54] at hs
        refine tt_aload_n X dX7_makeAt_97 rfl ?_
        obtain ⟨o98, e98, hs⟩ := gg_bind hs
        refine zr_fr X e98 rfl in_X7_makeAt_X7 (by decide) (by decide +kernel) rfl dX7_makeAt_98 ?_
        refine tt_iload_n X dX7_makeAt_101 rfl ?_
        refine tt_iconst (v := 1) X dX7_makeAt_102 (by decide) ?_
        refine tt_iadd X dX7_makeAt_103 ?_
        refine tt_iload X dX7_makeAt_104 rfl ?_
        obtain ⟨o106, f106, hs⟩ := gg_bind hs
        obtain ⟨w106, e106, hs⟩ := gg_bind hs
        refine zr_callV X f106 rfl (c_X4_at l e106) (fun hts => cwV 2 hts gX7_makeAt_X4_at rfl rfl rfl (by decide +kernel) ⟨by decide, by decide⟩) rfl rfl (Nat.le_of_ble_eq_true rfl) dX7_makeAt_106 ⟨Nat.zero_le _, Nat.zero_le _⟩ ?_
        refine tt_lstore X dX7_makeAt_109 (Nat.le_of_ble_eq_true rfl) ?_
        refine tt_aload_n X dX7_makeAt_111 rfl ?_
        obtain ⟨o112, e112, hs⟩ := gg_bind hs
        refine zr_fr X e112 rfl in_X7_makeAt_X7 (by decide) (by decide +kernel) rfl dX7_makeAt_112 ?_
        refine tt_iload_n X dX7_makeAt_115 rfl ?_
        refine tt_iload X dX7_makeAt_116 rfl ?_
        refine tt_iconst (v := 1) X dX7_makeAt_118 (by decide) ?_
        refine tt_iadd X dX7_makeAt_119 ?_
        obtain ⟨o120, f120, hs⟩ := gg_bind hs
        obtain ⟨w120, e120, hs⟩ := gg_bind hs
        refine zr_callV X f120 rfl (c_X4_at l e120) (fun hts => cwV 2 hts gX7_makeAt_X4_at rfl rfl rfl (by decide +kernel) ⟨by decide, by decide⟩) rfl rfl (Nat.le_of_ble_eq_true rfl) dX7_makeAt_120 ⟨Nat.zero_le _, Nat.zero_le _⟩ ?_
        refine tt_lstore X dX7_makeAt_123 (Nat.le_of_ble_eq_true rfl) ?_
        refine tt_lload X dX7_makeAt_125 rfl ?_
        refine tt_lload X dX7_makeAt_127 rfl ?_
        refine tt_lcmp X dX7_makeAt_129 ?_
        refine tt_if_gt (tgt := 148) X dX7_makeAt_130 (by decide) (fun c130 => ?_) (fun c130 => ?_)
        · rw [if_pos c130] at hs
          refine tt_lconst (v := 0) X dX7_makeAt_148 (by decide) ?_
          refine tt_drop [0, 2, 4, 5, 7] ?_
          exact t_149 b0 x2 x4 w106.1 w120.1 0 w120.2 hs
        · rw [if_neg c130] at hs
          refine tt_aload_n X dX7_makeAt_133 rfl ?_
          obtain ⟨o134, e134, hs⟩ := gg_bind hs
          refine zr_fr X e134 rfl in_X7_makeAt_X7 (by decide) (by decide +kernel) rfl dX7_makeAt_134 ?_
          refine tt_iload_n X dX7_makeAt_137 rfl ?_
          refine tt_iconst (v := 1) X dX7_makeAt_138 (by decide) ?_
          refine tt_iadd X dX7_makeAt_139 ?_
          refine tt_iload X dX7_makeAt_140 rfl ?_
          obtain ⟨o142, f142, hs⟩ := gg_bind hs
          obtain ⟨w142, e142, hs⟩ := gg_bind hs
          refine zr_callV X f142 rfl (c_X4_at l e142) (fun hts => cwV 2 hts gX7_makeAt_X4_at rfl rfl rfl (by decide +kernel) ⟨by decide, by decide⟩) rfl rfl (Nat.le_of_ble_eq_true rfl) dX7_makeAt_142 ⟨Nat.zero_le _, Nat.zero_le _⟩ ?_
          refine tt_goto (tgt := 149) X dX7_makeAt_145 (by decide) ?_
          refine tt_drop [0, 2, 4, 5, 7] ?_
          exact t_149 b0 x2 x4 w106.1 w120.1 w142.1 w142.2 hs
      · rw [if_pos c54] at hs
        refine tt_aload_n X dX7_makeAt_57 rfl ?_
        refine tt_iload_n X dX7_makeAt_58 rfl ?_
        refine tt_iload X dX7_makeAt_59 rfl ?_
        refine tt_lconst (v := 1) X dX7_makeAt_61 (by decide) ?_
        refine tt_aload_n X dX7_makeAt_62 rfl ?_
        obtain ⟨o63, e63, hs⟩ := gg_bind hs
        refine zr_fr X e63 rfl in_X7_makeAt_X7 (by decide) (by decide +kernel) rfl dX7_makeAt_63 ?_
        refine tt_iload_n X dX7_makeAt_66 rfl ?_
        refine tt_iconst (v := 1) X dX7_makeAt_67 (by decide) ?_
        refine tt_iadd X dX7_makeAt_68 ?_
        refine tt_iload X dX7_makeAt_69 rfl ?_
        refine tt_iconst (v := 1) X dX7_makeAt_71 (by decide) ?_
        refine tt_iadd X dX7_makeAt_72 ?_
        obtain ⟨o73, f73, hs⟩ := gg_bind hs
        obtain ⟨w73, e73, hs⟩ := gg_bind hs
        refine zr_callV X f73 rfl (c_X4_at l e73) (fun hts => cwV 2 hts gX7_makeAt_X4_at rfl rfl rfl (by decide +kernel) ⟨by decide, by decide⟩) rfl rfl (Nat.le_of_ble_eq_true rfl) dX7_makeAt_73 ⟨Nat.zero_le _, Nat.zero_le _⟩ ?_
        refine tt_ladd X dX7_makeAt_76 ?_
        refine tt_aload_n X dX7_makeAt_77 rfl ?_
        obtain ⟨o78, e78, hs⟩ := gg_bind hs
        refine zr_fr X e78 rfl in_X7_makeAt_X7 (by decide) (by decide +kernel) rfl dX7_makeAt_78 ?_
        refine tt_iload_n X dX7_makeAt_81 rfl ?_
        refine tt_iconst (v := 1) X dX7_makeAt_82 (by decide) ?_
        refine tt_iadd X dX7_makeAt_83 ?_
        refine tt_iload X dX7_makeAt_84 rfl ?_
        refine tt_iconst (v := 1) X dX7_makeAt_86 (by decide) ?_
        refine tt_iadd X dX7_makeAt_87 ?_
        obtain ⟨o88, f88, hs⟩ := gg_bind hs
        obtain ⟨w88, e88, hs⟩ := gg_bind hs
        refine zr_callV X f88 rfl (c_X4_at l e88) (fun hts => cwV 2 hts gX7_makeAt_X4_at rfl rfl rfl (by decide +kernel) ⟨by decide, by decide⟩) rfl rfl (Nat.le_of_ble_eq_true rfl) dX7_makeAt_88 ⟨Nat.zero_le _, Nat.zero_le _⟩ ?_
        obtain ⟨o91, f91, hs⟩ := gg_bind hs
        obtain ⟨w91, e91, hs⟩ := gg_bind hs
        refine zr_callV X f91 rfl (c_X7_keep l e91) (fun hts => cwV 4 hts gX7_makeAt_X7_keep rfl rfl rfl (by decide +kernel) ⟨by decide, by decide⟩) rfl rfl (Nat.le_of_ble_eq_true rfl) dX7_makeAt_91 ⟨Nat.zero_le _, Nat.zero_le _⟩ ?_
        refine tt_goto (tgt := 194) X dX7_makeAt_94 (by decide) ?_
        obtain rfl := Option.some.inj hs
        exact tt_vret X rfl dX7_makeAt_194 ⟨rfl, rfl⟩
    · rw [if_pos c14] at hs
      refine tt_drop [0, 1, 2, 3, 4] ?_
      exact t_17 b0 b1 x2 b3 x4 w11.2 hs

def s_X7_make_L15 (κ5 : Nat → Nat → Nat → Int32 → tt_H → Option (Unit × tt_H)) : Nat → Nat → Nat → Nat → Int32 → Int32 → tt_H → Option (Unit × tt_H)
  | 0, _, _, _, _, _, _ => none
  | n + 1, b0, b1, b2, x3, x4, h =>
    if x4 < 0 then
      κ5 b0 b1 b2 (x3 + (-1)) h
    else
    (gg_obj h b0 7).bind fun _ =>
    (s_X7_makeAt b0 b1 x3 b2 x4 h).bind fun w26 =>
    s_X7_make_L15 κ5 n b0 b1 b2 x3 (x4 + (-1)) w26.2
def s_X7_make_L5 : Nat → Nat → Nat → Nat → Int32 → tt_H → Option (Unit × tt_H)
  | 0, _, _, _, _, _ => none
  | n + 1, b0, b1, b2, x3, h =>
    if x3 < 0 then
      some ((), h)
    else
    (gg_obj h b2 2).bind fun _ =>
    (s_X2_size b2 h).bind fun w10 =>
    s_X7_make_L15 (s_X7_make_L5 n) 1000 b0 b1 b2 x3 w10.1 w10.2
def s_X7_make (b0 : Nat) (b1 : Nat) (b2 : Nat) (h : tt_H) : Option (Unit × tt_H) :=
  (gg_obj h b1 2).bind fun _ =>
  (s_X2_size b1 h).bind fun w1 =>
  s_X7_make_L5 1000 b0 b1 b2 w1.1 w1.2
abbrev rm_X7_make : Room := { frames := 4, cells := 0, slots := 0, locals := 101 }
set_option maxHeartbeats 4000000 in
set_option maxRecDepth 100000 in
theorem c_X7_make (l : Launch) {b0 : Nat} {b1 : Nat} {b2 : Nat} {h : tt_H} {ρ : Unit × tt_H} (hs : s_X7_make b0 b1 b2 h = some ρ) : tt_M tt_cl l yX7_make wsX7_make rm_X7_make 0 0 false [.ref b0, .ref b1, .ref b2] h (tt_ret (none) ρ.2) := by
  refine tt_M.of0 (cc := cX7_make) (maxL := 5) (ret := none) (by decide +kernel) rfl (Nat.le_of_ble_eq_true rfl) ?_
  intro p e s m args below meth c D ca ad n0 sz hwf hsz X hini
  unfold s_X7_make at hs
  have t_5 : ∀ (fu : Nat) (b0 : Nat) (b1 : Nat) (b2 : Nat) (x3 : Int32) (h : tt_H), s_X7_make_L5 fu b0 b1 b2 x3 h = some ρ → tt_T tt_cl (p, l, e, rm_X7_make, s, m, args, below, meth, c, MQ below (tt_Q tt_cl D ca ad n0 sz false (tt_ret (none) ρ.2)) args s 0 0 (tt_A ad n0 sz), D, ca, tt_A ad n0 sz, 5, some n0) ad 0 0 5 [(0, .ref b0), (1, .ref b1), (2, .ref b2), (3, .int x3)] [] h := by
    intro fu
    induction fu with
    | zero => intro b0 b1 b2 x3 h hs; exact absurd hs (by rw [s_X7_make_L5]; exact fun q => by cases q)
    | succ n5 ih =>
      intro b0 b1 b2 x3 h hs
      rw [s_X7_make_L5] at hs
      have t_5 := ih
      have t_15 : ∀ (fu : Nat) (b0 : Nat) (b1 : Nat) (b2 : Nat) (x3 : Int32) (x4 : Int32) (h : tt_H), s_X7_make_L15 (s_X7_make_L5 n5) fu b0 b1 b2 x3 x4 h = some ρ → tt_T tt_cl (p, l, e, rm_X7_make, s, m, args, below, meth, c, MQ below (tt_Q tt_cl D ca ad n0 sz false (tt_ret (none) ρ.2)) args s 0 0 (tt_A ad n0 sz), D, ca, tt_A ad n0 sz, 5, some n0) ad 0 0 15 [(0, .ref b0), (1, .ref b1), (2, .ref b2), (3, .int x3), (4, .int x4)] [] h := by
        intro fu
        induction fu with
        | zero => intro b0 b1 b2 x3 x4 h hs; exact absurd hs (by rw [s_X7_make_L15]; exact fun q => by cases q)
        | succ n15 ih =>
          intro b0 b1 b2 x3 x4 h hs
          rw [s_X7_make_L15] at hs
          have t_15 := ih
          refine tt_iload X dX7_make_15 rfl ?_
          refine tt_if_lt (tgt := 35) X dX7_make_17 (by decide) (fun c17 => ?_) (fun c17 => ?_)
          · rw [if_pos c17] at hs
            refine tt_iinc (v := x3 + (-1)) X dX7_make_35 rfl rfl (Nat.le_of_ble_eq_true rfl) ?_
            refine tt_goto (tgt := 5) X dX7_make_38 (by decide) ?_
            refine tt_drop [0, 1, 2, 3] ?_
            exact t_5 b0 b1 b2 (x3 + (-1)) h hs
          · rw [if_neg c17] at hs
            refine tt_aload_n X dX7_make_20 rfl ?_
            refine tt_aload_n X dX7_make_21 rfl ?_
            refine tt_iload_n X dX7_make_22 rfl ?_
            refine tt_aload_n X dX7_make_23 rfl ?_
            refine tt_iload X dX7_make_24 rfl ?_
            obtain ⟨o26, f26, hs⟩ := gg_bind hs
            obtain ⟨w26, e26, hs⟩ := gg_bind hs
            refine zr_callV X f26 rfl (c_X7_makeAt l e26) (fun hts => cwV 4 hts gX7_make_X7_makeAt rfl rfl rfl (by decide +kernel) ⟨by decide, by decide⟩) rfl rfl (Nat.le_of_ble_eq_true rfl) dX7_make_26 ⟨Nat.zero_le _, Nat.zero_le _⟩ ?_
            refine tt_iinc (v := x4 + (-1)) X dX7_make_29 rfl rfl (Nat.le_of_ble_eq_true rfl) ?_
            refine tt_goto (tgt := 15) X dX7_make_32 (by decide) ?_
            refine tt_drop [0, 1, 2, 3, 4] ?_
            exact t_15 b0 b1 b2 x3 (x4 + (-1)) w26.2 hs
      refine tt_iload_n X dX7_make_5 rfl ?_
      refine tt_if_lt (tgt := 41) X dX7_make_6 (by decide) (fun c6 => ?_) (fun c6 => ?_)
      · rw [if_pos c6] at hs
        obtain rfl := Option.some.inj hs
        exact tt_vret X rfl dX7_make_41 ⟨rfl, rfl⟩
      · rw [if_neg c6] at hs
        refine tt_aload_n X dX7_make_9 rfl ?_
        obtain ⟨o10, f10, hs⟩ := gg_bind hs
        obtain ⟨w10, e10, hs⟩ := gg_bind hs
        refine zr_callV X f10 rfl (c_X2_size l e10) (fun hts => cwV 0 hts gX7_make_X2_size rfl rfl rfl (by decide +kernel) ⟨by decide, by decide⟩) rfl rfl (Nat.le_of_ble_eq_true rfl) dX7_make_10 ⟨Nat.zero_le _, Nat.zero_le _⟩ ?_
        refine tt_istore X dX7_make_13 (Nat.le_of_ble_eq_true rfl) ?_
        refine tt_drop [0, 1, 2, 3, 4] ?_
        exact t_15 1000 b0 b1 b2 x3 w10.1 w10.2 hs
  refine tt_aload_n X dX7_make_0 rfl ?_
  obtain ⟨o1, f1, hs⟩ := gg_bind hs
  obtain ⟨w1, e1, hs⟩ := gg_bind hs
  refine zr_callV X f1 rfl (c_X2_size l e1) (fun hts => cwV 0 hts gX7_make_X2_size rfl rfl rfl (by decide +kernel) ⟨by decide, by decide⟩) rfl rfl (Nat.le_of_ble_eq_true rfl) dX7_make_1 ⟨Nat.zero_le _, Nat.zero_le _⟩ ?_
  refine tt_istore_n X dX7_make_4 (Nat.le_of_ble_eq_true rfl) ?_
  refine tt_drop [0, 1, 2, 3] ?_
  exact t_5 1000 b0 b1 b2 w1.1 w1.2 hs

def s_X7_wordOfFirst_J77 (κ13 : Nat → Nat → Nat → Int32 → Int32 → Int32 → Int32 → Int32 → tt_H → Option (Int32 × tt_H)) (b0 : Nat) (b1 : Nat) (b2 : Nat) (x3 : Int32) (x4 : Int32) (x6 : Int32) (x7 : Int32) (ux0 : Int32) (ux1 : Int32) (h : tt_H) : Option (Int32 × tt_H) :=
  κ13 b0 b1 b2 x3 x4 (ux0 + ux1) x6 (x7 + 1) h
def s_X7_wordOfFirst_J56 (κ13 : Nat → Nat → Nat → Int32 → Int32 → Int32 → Int32 → Int32 → tt_H → Option (Int32 × tt_H)) (b0 : Nat) (b1 : Nat) (b2 : Nat) (x3 : Int32) (x5 : Int32) (x6 : Int32) (x7 : Int32) (ux0 : Int32) (ux1 : Int32) (h : tt_H) : Option (Int32 × tt_H) :=
  (gg_obj h b2 2).bind fun _ =>
  (s_X2_at b2 x5 h).bind fun w64 =>
  if w64.1 = x6 then
    s_X7_wordOfFirst_J77 κ13 b0 b1 b2 x3 (ux0 + ux1) x6 x7 x5 1 w64.2
  else
  s_X7_wordOfFirst_J77 κ13 b0 b1 b2 x3 (ux0 + ux1) x6 x7 x5 0 w64.2
def s_X7_wordOfFirst_L13 : Nat → Nat → Nat → Nat → Int32 → Int32 → Int32 → Int32 → Int32 → tt_H → Option (Int32 × tt_H)
  | 0, _, _, _, _, _, _, _, _, _ => none
  | n + 1, b0, b1, b2, x3, x4, x5, x6, x7, h =>
    if x3 < x7 then
      some (x6, h)
    else
    if 24 ≤ x7 then
      some (x6, h)
    else
    (gg_obj h b0 7).bind fun _ =>
    (s_X7_firstWord b0 b1 x4 b2 x5 h).bind fun w33 =>
    (gg_obj w33.2 b1 2).bind fun _ =>
    (s_X2_at b1 x4 w33.2).bind fun w43 =>
    if w43.1 = w33.1 then
      s_X7_wordOfFirst_J56 (s_X7_wordOfFirst_L13 n) b0 b1 b2 x3 x5 w33.1 x7 x4 1 w43.2
    else
    s_X7_wordOfFirst_J56 (s_X7_wordOfFirst_L13 n) b0 b1 b2 x3 x5 w33.1 x7 x4 0 w43.2
def s_X7_wordOfFirst (b0 : Nat) (b1 : Nat) (b2 : Nat) (x3 : Int32) (h : tt_H) : Option (Int32 × tt_H) :=
  s_X7_wordOfFirst_L13 1000 b0 b1 b2 x3 0 0 ((-9)) 0 h
abbrev rm_X7_wordOfFirst : Room := { frames := 3, cells := 0, slots := 0, locals := 71 }
set_option maxHeartbeats 4000000 in
set_option maxRecDepth 100000 in
theorem c_X7_wordOfFirst (l : Launch) {b0 : Nat} {b1 : Nat} {b2 : Nat} {x3 : Int32} {h : tt_H} {ρ : Int32 × tt_H} (hs : s_X7_wordOfFirst b0 b1 b2 x3 h = some ρ) : tt_M tt_cl l yX7_wordOfFirst wsX7_wordOfFirst rm_X7_wordOfFirst 0 0 false [.ref b0, .ref b1, .ref b2, .int x3] h (tt_ret (some (.int ρ.1)) ρ.2) := by
  refine tt_M.of0 (cc := cX7_wordOfFirst) (maxL := 8) (ret := (some .int)) (by decide +kernel) rfl (Nat.le_of_ble_eq_true rfl) ?_
  intro p e s m args below meth c D ca ad n0 sz hwf hsz X hini
  unfold s_X7_wordOfFirst at hs
  have t_13 : ∀ (fu : Nat) (b0 : Nat) (b1 : Nat) (b2 : Nat) (x3 : Int32) (x4 : Int32) (x5 : Int32) (x6 : Int32) (x7 : Int32) (h : tt_H), s_X7_wordOfFirst_L13 fu b0 b1 b2 x3 x4 x5 x6 x7 h = some ρ → tt_T tt_cl (p, l, e, rm_X7_wordOfFirst, s, m, args, below, meth, c, MQ below (tt_Q tt_cl D ca ad n0 sz false (tt_ret (some (.int ρ.1)) ρ.2)) args s 0 0 (tt_A ad n0 sz), D, ca, tt_A ad n0 sz, 8, some n0) ad 0 0 13 [(0, .ref b0), (1, .ref b1), (2, .ref b2), (3, .int x3), (4, .int x4), (5, .int x5), (6, .int x6), (7, .int x7)] [] h := by
    intro fu
    induction fu with
    | zero => intro b0 b1 b2 x3 x4 x5 x6 x7 h hs; exact absurd hs (by rw [s_X7_wordOfFirst_L13]; exact fun q => by cases q)
    | succ n13 ih =>
      intro b0 b1 b2 x3 x4 x5 x6 x7 h hs
      rw [s_X7_wordOfFirst_L13] at hs
      have t_13 := ih
      have t_56 : ∀ (b0 : Nat) (b1 : Nat) (b2 : Nat) (x3 : Int32) (x5 : Int32) (x6 : Int32) (x7 : Int32) (ux0 : Int32) (ux1 : Int32) (h : tt_H), s_X7_wordOfFirst_J56 (s_X7_wordOfFirst_L13 n13) b0 b1 b2 x3 x5 x6 x7 ux0 ux1 h = some ρ → tt_T tt_cl (p, l, e, rm_X7_wordOfFirst, s, m, args, below, meth, c, MQ below (tt_Q tt_cl D ca ad n0 sz false (tt_ret (some (.int ρ.1)) ρ.2)) args s 0 0 (tt_A ad n0 sz), D, ca, tt_A ad n0 sz, 8, some n0) ad 0 0 56 [(0, .ref b0), (1, .ref b1), (2, .ref b2), (3, .int x3), (5, .int x5), (6, .int x6), (7, .int x7)] [.int ux1, .int ux0] h := by
        intro b0 b1 b2 x3 x5 x6 x7 ux0 ux1 h hs
        unfold s_X7_wordOfFirst_J56 at hs
        have t_77 : ∀ (b0 : Nat) (b1 : Nat) (b2 : Nat) (x3 : Int32) (x4 : Int32) (x6 : Int32) (x7 : Int32) (ux0 : Int32) (ux1 : Int32) (h : tt_H), s_X7_wordOfFirst_J77 (s_X7_wordOfFirst_L13 n13) b0 b1 b2 x3 x4 x6 x7 ux0 ux1 h = some ρ → tt_T tt_cl (p, l, e, rm_X7_wordOfFirst, s, m, args, below, meth, c, MQ below (tt_Q tt_cl D ca ad n0 sz false (tt_ret (some (.int ρ.1)) ρ.2)) args s 0 0 (tt_A ad n0 sz), D, ca, tt_A ad n0 sz, 8, some n0) ad 0 0 77 [(0, .ref b0), (1, .ref b1), (2, .ref b2), (3, .int x3), (4, .int x4), (6, .int x6), (7, .int x7)] [.int ux1, .int ux0] h := by
          intro b0 b1 b2 x3 x4 x6 x7 ux0 ux1 h hs
          unfold s_X7_wordOfFirst_J77 at hs
          refine tt_iadd X dX7_wordOfFirst_77 ?_
          refine tt_istore X dX7_wordOfFirst_78 (Nat.le_of_ble_eq_true rfl) ?_
          refine tt_iinc (v := x7 + 1) X dX7_wordOfFirst_80 rfl rfl (Nat.le_of_ble_eq_true rfl) ?_
          refine tt_goto (tgt := 13) X dX7_wordOfFirst_83 (by decide) ?_
          refine tt_drop [0, 1, 2, 3, 4, 5, 6, 7] ?_
          exact t_13 b0 b1 b2 x3 x4 (ux0 + ux1) x6 (x7 + 1) h hs
        refine tt_iadd X dX7_wordOfFirst_56 ?_
        refine tt_istore X dX7_wordOfFirst_57 (Nat.le_of_ble_eq_true rfl) ?_
        refine tt_iload X dX7_wordOfFirst_59 rfl ?_
        refine tt_aload_n X dX7_wordOfFirst_61 rfl ?_
        refine tt_iload X dX7_wordOfFirst_62 rfl ?_
        obtain ⟨o64, f64, hs⟩ := gg_bind hs
        obtain ⟨w64, e64, hs⟩ := gg_bind hs
        refine zr_callV X f64 rfl (c_X2_at l e64) (fun hts => cwV 1 hts gX7_wordOfFirst_X2_at rfl rfl rfl (by decide +kernel) ⟨by decide, by decide⟩) rfl rfl (Nat.le_of_ble_eq_true rfl) dX7_wordOfFirst_64 ⟨Nat.zero_le _, Nat.zero_le _⟩ ?_
        refine tt_iload X dX7_wordOfFirst_67 rfl ?_
        refine tt_icmp_ne (tgt := 76) X dX7_wordOfFirst_69 (by decide) (fun c69 => ?_) (fun c69 => ?_)
        · rw [if_neg c69] at hs
          refine tt_iconst (v := 0) X dX7_wordOfFirst_76 (by decide) ?_
          refine tt_drop [0, 1, 2, 3, 4, 6, 7] ?_
          exact t_77 b0 b1 b2 x3 (ux0 + ux1) x6 x7 x5 0 w64.2 hs
        · rw [if_pos c69] at hs
          refine tt_iconst (v := 1) X dX7_wordOfFirst_72 (by decide) ?_
          refine tt_goto (tgt := 77) X dX7_wordOfFirst_73 (by decide) ?_
          refine tt_drop [0, 1, 2, 3, 4, 6, 7] ?_
          exact t_77 b0 b1 b2 x3 (ux0 + ux1) x6 x7 x5 1 w64.2 hs
      refine tt_iload X dX7_wordOfFirst_13 rfl ?_
      refine tt_iload_n X dX7_wordOfFirst_15 rfl ?_
      refine tt_icmp_gt (tgt := 86) X dX7_wordOfFirst_16 (by decide) (fun c16 => ?_) (fun c16 => ?_)
      · rw [if_pos c16] at hs
        refine tt_iload X dX7_wordOfFirst_86 rfl ?_
        obtain rfl := Option.some.inj hs
        exact tt_iret X rfl dX7_wordOfFirst_88 ⟨rfl, rfl⟩
      · rw [if_neg c16] at hs
        refine tt_iload X dX7_wordOfFirst_19 rfl ?_
        refine tt_bipush (v := 24) X dX7_wordOfFirst_21 (by decide) ?_
        refine tt_icmp_ge (tgt := 86) X dX7_wordOfFirst_23 (by decide) (fun c23 => ?_) (fun c23 => ?_)
        · rw [if_pos c23] at hs
          refine tt_iload X dX7_wordOfFirst_86 rfl ?_
          obtain rfl := Option.some.inj hs
          exact tt_iret X rfl dX7_wordOfFirst_88 ⟨rfl, rfl⟩
        · rw [if_neg c23] at hs
          refine tt_aload_n X dX7_wordOfFirst_26 rfl ?_
          refine tt_aload_n X dX7_wordOfFirst_27 rfl ?_
          refine tt_iload X dX7_wordOfFirst_28 rfl ?_
          refine tt_aload_n X dX7_wordOfFirst_30 rfl ?_
          refine tt_iload X dX7_wordOfFirst_31 rfl ?_
          obtain ⟨o33, f33, hs⟩ := gg_bind hs
          obtain ⟨w33, e33, hs⟩ := gg_bind hs
          refine zr_callV X f33 rfl (c_X7_firstWord l e33) (fun hts => cwV 4 hts gX7_wordOfFirst_X7_firstWord rfl rfl rfl (by decide +kernel) ⟨by decide, by decide⟩) rfl rfl (Nat.le_of_ble_eq_true rfl) dX7_wordOfFirst_33 ⟨Nat.zero_le _, Nat.zero_le _⟩ ?_
          refine tt_istore X dX7_wordOfFirst_36 (Nat.le_of_ble_eq_true rfl) ?_
          refine tt_iload X dX7_wordOfFirst_38 rfl ?_
          refine tt_aload_n X dX7_wordOfFirst_40 rfl ?_
          refine tt_iload X dX7_wordOfFirst_41 rfl ?_
          obtain ⟨o43, f43, hs⟩ := gg_bind hs
          obtain ⟨w43, e43, hs⟩ := gg_bind hs
          refine zr_callV X f43 rfl (c_X2_at l e43) (fun hts => cwV 1 hts gX7_wordOfFirst_X2_at rfl rfl rfl (by decide +kernel) ⟨by decide, by decide⟩) rfl rfl (Nat.le_of_ble_eq_true rfl) dX7_wordOfFirst_43 ⟨Nat.zero_le _, Nat.zero_le _⟩ ?_
          refine tt_iload X dX7_wordOfFirst_46 rfl ?_
          refine tt_icmp_ne (tgt := 55) X dX7_wordOfFirst_48 (by decide) (fun c48 => ?_) (fun c48 => ?_)
          · rw [if_neg c48] at hs
            refine tt_iconst (v := 0) X dX7_wordOfFirst_55 (by decide) ?_
            refine tt_drop [0, 1, 2, 3, 5, 6, 7] ?_
            exact t_56 b0 b1 b2 x3 x5 w33.1 x7 x4 0 w43.2 hs
          · rw [if_pos c48] at hs
            refine tt_iconst (v := 1) X dX7_wordOfFirst_51 (by decide) ?_
            refine tt_goto (tgt := 56) X dX7_wordOfFirst_52 (by decide) ?_
            refine tt_drop [0, 1, 2, 3, 5, 6, 7] ?_
            exact t_56 b0 b1 b2 x3 x5 w33.1 x7 x4 1 w43.2 hs
  refine tt_iconst (v := 0) X dX7_wordOfFirst_0 (by decide) ?_
  refine tt_istore X dX7_wordOfFirst_1 (Nat.le_of_ble_eq_true rfl) ?_
  refine tt_iconst (v := 0) X dX7_wordOfFirst_3 (by decide) ?_
  refine tt_istore X dX7_wordOfFirst_4 (Nat.le_of_ble_eq_true rfl) ?_
  refine tt_bipush (v := (-9)) X dX7_wordOfFirst_6 (by decide) ?_
  refine tt_istore X dX7_wordOfFirst_8 (Nat.le_of_ble_eq_true rfl) ?_
  refine tt_iconst (v := 0) X dX7_wordOfFirst_10 (by decide) ?_
  refine tt_istore X dX7_wordOfFirst_11 (Nat.le_of_ble_eq_true rfl) ?_
  refine tt_drop [0, 1, 2, 3, 4, 5, 6, 7] ?_
  exact t_13 1000 b0 b1 b2 x3 0 0 ((-9)) 0 h hs
