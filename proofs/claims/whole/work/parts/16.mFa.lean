def s_X9_inside (x0 : Int32) (x1 : Int32) (x2 : Int32) (h : tt_H) : Option (Int32 × tt_H) :=
  if x0 < x1 then
    some (0, h)
  else
  if x2 < x0 then
    some (0, h)
  else
  some (1, h)
abbrev rm_X9_inside : Room := { frames := 0, cells := 0, slots := 0, locals := 0 }
set_option maxHeartbeats 4000000 in
set_option maxRecDepth 100000 in
theorem c_X9_inside (l : Launch) {x0 : Int32} {x1 : Int32} {x2 : Int32} {h : tt_H} {ρ : Int32 × tt_H} (hs : s_X9_inside x0 x1 x2 h = some ρ) : tt_M tt_cl l yX9_inside wsX9_inside rm_X9_inside 0 0 false [.int x0, .int x1, .int x2] h (tt_ret (some (.int ρ.1)) ρ.2) := by
  refine tt_M.of0 (cc := cX9_inside) (maxL := 3) (ret := (some .boolean)) (by decide +kernel) rfl (Nat.le_of_ble_eq_true rfl) ?_
  intro p e s m args below meth c D ca ad n0 sz hwf hsz X hini
  unfold s_X9_inside at hs
  refine tt_iload_n X dX9_inside_0 rfl ?_
  refine tt_iload_n X dX9_inside_1 rfl ?_
  refine tt_icmp_lt (tgt := 14) X dX9_inside_2 (by decide) (fun c2 => ?_) (fun c2 => ?_)
  · rw [if_pos c2] at hs
    refine tt_iconst (v := 0) X dX9_inside_14 (by decide) ?_
    obtain rfl := Option.some.inj hs
    exact tt_zret X rfl rfl dX9_inside_15 ⟨rfl, rfl⟩
  · rw [if_neg c2] at hs
    refine tt_iload_n X dX9_inside_5 rfl ?_
    refine tt_iload_n X dX9_inside_6 rfl ?_
    refine tt_icmp_gt (tgt := 14) X dX9_inside_7 (by decide) (fun c7 => ?_) (fun c7 => ?_)
    · rw [if_pos c7] at hs
      refine tt_iconst (v := 0) X dX9_inside_14 (by decide) ?_
      obtain rfl := Option.some.inj hs
      exact tt_zret X rfl rfl dX9_inside_15 ⟨rfl, rfl⟩
    · rw [if_neg c7] at hs
      refine tt_iconst (v := 1) X dX9_inside_10 (by decide) ?_
      refine tt_goto (tgt := 15) X dX9_inside_11 (by decide) ?_
      obtain rfl := Option.some.inj hs
      exact tt_zret X rfl rfl dX9_inside_15 ⟨rfl, rfl⟩

def s_X9_isWord (x0 : Int32) (h : tt_H) : Option (Int32 × tt_H) :=
  (s_X9_inside x0 0 7 h).bind fun w4 =>
  (gg_b w4.1).bind fun _ =>
  some (w4.1, w4.2)
abbrev rm_X9_isWord : Room := { frames := 1, cells := 0, slots := 0, locals := 22 }
set_option maxHeartbeats 4000000 in
set_option maxRecDepth 100000 in
theorem c_X9_isWord (l : Launch) {x0 : Int32} {h : tt_H} {ρ : Int32 × tt_H} (hs : s_X9_isWord x0 h = some ρ) : tt_M tt_cl l yX9_isWord wsX9_isWord rm_X9_isWord 0 0 false [.int x0] h (tt_ret (some (.int ρ.1)) ρ.2) := by
  refine tt_M.of0 (cc := cX9_isWord) (maxL := 1) (ret := (some .boolean)) (by decide +kernel) rfl (Nat.le_of_ble_eq_true rfl) ?_
  intro p e s m args below meth c D ca ad n0 sz hwf hsz X hini
  unfold s_X9_isWord at hs
  refine tt_iload_n X dX9_isWord_0 rfl ?_
  refine tt_iconst (v := 0) X dX9_isWord_1 (by decide) ?_
  refine tt_bipush (v := 7) X dX9_isWord_2 (by decide) ?_
  obtain ⟨w4, e4, hs⟩ := gg_bind hs
  refine zr_callS X (c_X9_inside l e4) (fun hts => va_cwS 3 hts gX9_isWord_X9_inside rfl rfl rfl (by decide +kernel) ⟨by decide, by decide⟩) rfl rfl (Nat.le_of_ble_eq_true rfl) dX9_isWord_4 ⟨Nat.zero_le _, Nat.zero_le _⟩ ?_
  obtain ⟨q7, e7, hs⟩ := gg_bind hs
  obtain rfl := Option.some.inj hs
  exact tt_zret X rfl (gg_b_ok e7) dX9_isWord_7 ⟨rfl, rfl⟩

theorem in_X9_wordAt_X9 : ∀ w ∈ u_ws RX9 TX9 26, w ∈ wsX9_wordAt := by decide +kernel
def s_X9_wordAt (b0 : Nat) (x1 : Int32) (x2 : Int32) (h : tt_H) : Option (Int32 × tt_H) :=
  (gg_fr h b0 9 8).bind fun o1 =>
  (gg_il h o1 ((14 * x1) + x2)).bind fun z10 =>
  some (z10, h)
abbrev rm_X9_wordAt : Room := { frames := 0, cells := 0, slots := 0, locals := 0 }
set_option maxHeartbeats 4000000 in
set_option maxRecDepth 100000 in
theorem c_X9_wordAt (l : Launch) {b0 : Nat} {x1 : Int32} {x2 : Int32} {h : tt_H} {ρ : Int32 × tt_H} (hs : s_X9_wordAt b0 x1 x2 h = some ρ) : tt_M tt_cl l yX9_wordAt wsX9_wordAt rm_X9_wordAt 0 0 false [.ref b0, .int x1, .int x2] h (tt_ret (some (.int ρ.1)) ρ.2) := by
  refine tt_M.of0 (cc := cX9_wordAt) (maxL := 3) (ret := (some .int)) (by decide +kernel) rfl (Nat.le_of_ble_eq_true rfl) ?_
  intro p e s m args below meth c D ca ad n0 sz hwf hsz X hini
  unfold s_X9_wordAt at hs
  refine tt_aload_n X dX9_wordAt_0 rfl ?_
  obtain ⟨o1, e1, hs⟩ := gg_bind hs
  refine zr_fr X e1 rfl in_X9_wordAt_X9 (by decide) (by decide +kernel) rfl dX9_wordAt_1 ?_
  refine tt_bipush (v := 14) X dX9_wordAt_4 (by decide) ?_
  refine tt_iload_n X dX9_wordAt_6 rfl ?_
  refine tt_imul X dX9_wordAt_7 ?_
  refine tt_iload_n X dX9_wordAt_8 rfl ?_
  refine tt_iadd X dX9_wordAt_9 ?_
  obtain ⟨z10, e10, hs⟩ := gg_bind hs
  refine zr_il X e10 dX9_wordAt_10 ?_
  obtain rfl := Option.some.inj hs
  exact tt_iret X rfl dX9_wordAt_11 ⟨rfl, rfl⟩

theorem in_X9_add_X9 : ∀ w ∈ u_ws RX9 TX9 26, w ∈ wsX9_add := by decide +kernel
def s_X9_add_L63 : Nat → Nat → Int32 → Int32 → Int32 → Int32 → tt_H → Option (Int32 × tt_H)
  | 0, _, _, _, _, _, _ => none
  | n + 1, b0, x1, x2, x3, x4, h =>
    if x4 ≤ x1 then
      (gg_fr h b0 9 8).bind fun o97 =>
      (gg_is h o97 ((14 * x3) + x1) x2).bind fun h107 =>
      (gg_fr h107 b0 9 7).bind fun o109 =>
      (gg_il h107 o109 x3).bind fun z114 =>
      (gg_is h107 o109 x3 (z114 + 1)).bind fun h117 =>
      (gg_fr h117 b0 9 7).bind fun o119 =>
      (gg_il h117 o119 x3).bind fun z123 =>
      some (z123, h117)
    else
    (gg_fr h b0 9 8).bind fun o70 =>
    (gg_obj h b0 9).bind fun _ =>
    (s_X9_wordAt b0 x3 (x4 - 1) h).bind fun w86 =>
    (gg_is w86.2 o70 ((14 * x3) + x4) w86.1).bind fun h89 =>
    s_X9_add_L63 n b0 x1 x2 x3 (x4 + (-1)) h89
def s_X9_add_J34 (b0 : Nat) (x1 : Int32) (x2 : Int32) (x3 : Int32) (h : tt_H) : Option (Int32 × tt_H) :=
  if 0 ≤ x3 then
    (gg_fr h b0 9 7).bind fun o42 =>
    (gg_il h o42 x3).bind fun z46 =>
    if z46 = 12 then
      some ((-4), h)
    else
    (gg_fr h b0 9 7).bind fun o56 =>
    (gg_il h o56 x3).bind fun z60 =>
    s_X9_add_L63 1000 b0 x1 x2 x3 z60 h
  else
  some ((-3), h)
def s_X9_add (b0 : Nat) (x1 : Int32) (x2 : Int32) (h : tt_H) : Option (Int32 × tt_H) :=
  (gg_fi h b0 9 6).bind fun z1 =>
  (s_X9_isWord x2 h).bind fun w8 =>
  if w8.1 = 0 then
    some ((-1), w8.2)
  else
  if x1 < 0 then
    some ((-1), w8.2)
  else
  if (z1 - 1) < 0 then
    s_X9_add_J34 b0 x1 x2 (z1 - 1) w8.2
  else
  (gg_fr w8.2 b0 9 7).bind fun o24 =>
  (gg_il w8.2 o24 (z1 - 1)).bind fun z28 =>
  if x1 ≤ z28 then
    s_X9_add_J34 b0 x1 x2 (z1 - 1) w8.2
  else
  some ((-1), w8.2)
abbrev rm_X9_add : Room := { frames := 2, cells := 0, slots := 0, locals := 42 }
set_option maxHeartbeats 4000000 in
set_option maxRecDepth 100000 in
theorem c_X9_add (l : Launch) {b0 : Nat} {x1 : Int32} {x2 : Int32} {h : tt_H} {ρ : Int32 × tt_H} (hs : s_X9_add b0 x1 x2 h = some ρ) : tt_M tt_cl l yX9_add wsX9_add rm_X9_add 0 0 false [.ref b0, .int x1, .int x2] h (tt_ret (some (.int ρ.1)) ρ.2) := by
  refine tt_M.of0 (cc := cX9_add) (maxL := 5) (ret := (some .int)) (by decide +kernel) rfl (Nat.le_of_ble_eq_true rfl) ?_
  intro p e s m args below meth c D ca ad n0 sz hwf hsz X hini
  unfold s_X9_add at hs
  have t_34 : ∀ (b0 : Nat) (x1 : Int32) (x2 : Int32) (x3 : Int32) (h : tt_H), s_X9_add_J34 b0 x1 x2 x3 h = some ρ → tt_T tt_cl (p, l, e, rm_X9_add, s, m, args, below, meth, c, MQ below (tt_Q tt_cl D ca ad n0 sz false (tt_ret (some (.int ρ.1)) ρ.2)) args s 0 0 (tt_A ad n0 sz), D, ca, tt_A ad n0 sz, 5, some n0) ad 0 0 34 [(0, .ref b0), (1, .int x1), (2, .int x2), (3, .int x3)] [] h := by
    intro b0 x1 x2 x3 h hs
    unfold s_X9_add_J34 at hs
    have t_63 : ∀ (fu : Nat) (b0 : Nat) (x1 : Int32) (x2 : Int32) (x3 : Int32) (x4 : Int32) (h : tt_H), s_X9_add_L63 fu b0 x1 x2 x3 x4 h = some ρ → tt_T tt_cl (p, l, e, rm_X9_add, s, m, args, below, meth, c, MQ below (tt_Q tt_cl D ca ad n0 sz false (tt_ret (some (.int ρ.1)) ρ.2)) args s 0 0 (tt_A ad n0 sz), D, ca, tt_A ad n0 sz, 5, some n0) ad 0 0 63 [(0, .ref b0), (1, .int x1), (2, .int x2), (3, .int x3), (4, .int x4)] [] h := by
      intro fu
      induction fu with
      | zero => intro b0 x1 x2 x3 x4 h hs; exact absurd hs (by rw [s_X9_add_L63]; exact fun q => by cases q)
      | succ n63 ih =>
        intro b0 x1 x2 x3 x4 h hs
        rw [s_X9_add_L63] at hs
        have t_63 := ih
        refine tt_iload X dX9_add_63 rfl ?_
        refine tt_iload_n X dX9_add_65 rfl ?_
        refine tt_icmp_le (tgt := 96) X dX9_add_66 (by decide) (fun c66 => ?_) (fun c66 => ?_)
        · rw [if_pos c66] at hs
          refine tt_aload_n X dX9_add_96 rfl ?_
          obtain ⟨o97, e97, hs⟩ := gg_bind hs
          refine zr_fr X e97 rfl in_X9_add_X9 (by decide) (by decide +kernel) rfl dX9_add_97 ?_
          refine tt_bipush (v := 14) X dX9_add_100 (by decide) ?_
          refine tt_iload_n X dX9_add_102 rfl ?_
          refine tt_imul X dX9_add_103 ?_
          refine tt_iload_n X dX9_add_104 rfl ?_
          refine tt_iadd X dX9_add_105 ?_
          refine tt_iload_n X dX9_add_106 rfl ?_
          obtain ⟨h107, e107, hs⟩ := gg_bind hs
          refine zr_is X e107 dX9_add_107 ?_
          refine tt_aload_n X dX9_add_108 rfl ?_
          obtain ⟨o109, e109, hs⟩ := gg_bind hs
          refine zr_fr X e109 rfl in_X9_add_X9 (by decide) (by decide +kernel) rfl dX9_add_109 ?_
          refine tt_iload_n X dX9_add_112 rfl ?_
          refine tt_dup2 X dX9_add_113 rfl rfl ?_
          obtain ⟨z114, e114, hs⟩ := gg_bind hs
          refine zr_il X e114 dX9_add_114 ?_
          refine tt_iconst (v := 1) X dX9_add_115 (by decide) ?_
          refine tt_iadd X dX9_add_116 ?_
          obtain ⟨h117, e117, hs⟩ := gg_bind hs
          refine zr_is X e117 dX9_add_117 ?_
          refine tt_aload_n X dX9_add_118 rfl ?_
          obtain ⟨o119, e119, hs⟩ := gg_bind hs
          refine zr_fr X e119 rfl in_X9_add_X9 (by decide) (by decide +kernel) rfl dX9_add_119 ?_
          refine tt_iload_n X dX9_add_122 rfl ?_
          obtain ⟨z123, e123, hs⟩ := gg_bind hs
          refine zr_il X e123 dX9_add_123 ?_
          obtain rfl := Option.some.inj hs
          exact tt_iret X rfl dX9_add_124 ⟨rfl, rfl⟩
        · rw [if_neg c66] at hs
          refine tt_aload_n X dX9_add_69 rfl ?_
          obtain ⟨o70, e70, hs⟩ := gg_bind hs
          refine zr_fr X e70 rfl in_X9_add_X9 (by decide) (by decide +kernel) rfl dX9_add_70 ?_
          refine tt_bipush (v := 14) X dX9_add_73 (by decide) ?_
          refine tt_iload_n X dX9_add_75 rfl ?_
          refine tt_imul X dX9_add_76 ?_
          refine tt_iload X dX9_add_77 rfl ?_
          refine tt_iadd X dX9_add_79 ?_
          refine tt_aload_n X dX9_add_80 rfl ?_
          refine tt_iload_n X dX9_add_81 rfl ?_
          refine tt_iload X dX9_add_82 rfl ?_
          refine tt_iconst (v := 1) X dX9_add_84 (by decide) ?_
          refine tt_isub X dX9_add_85 ?_
          obtain ⟨o86, f86, hs⟩ := gg_bind hs
          obtain ⟨w86, e86, hs⟩ := gg_bind hs
          refine zr_callV X f86 rfl (c_X9_wordAt l e86) (fun hts => cwV 2 hts gX9_add_X9_wordAt rfl rfl rfl (by decide +kernel) ⟨by decide, by decide⟩) rfl rfl (Nat.le_of_ble_eq_true rfl) dX9_add_86 ⟨Nat.zero_le _, Nat.zero_le _⟩ ?_
          obtain ⟨h89, e89, hs⟩ := gg_bind hs
          refine zr_is X e89 dX9_add_89 ?_
          refine tt_iinc (v := x4 + (-1)) X dX9_add_90 rfl rfl (Nat.le_of_ble_eq_true rfl) ?_
          refine tt_goto (tgt := 63) X dX9_add_93 (by decide) ?_
          refine tt_drop [0, 1, 2, 3, 4] ?_
          exact t_63 b0 x1 x2 x3 (x4 + (-1)) h89 hs
    refine tt_iload_n X dX9_add_34 rfl ?_
    refine tt_if_ge (tgt := 41) X dX9_add_35 (by decide) (fun c35 => ?_) (fun c35 => ?_)
    · rw [if_pos c35] at hs
      refine tt_aload_n X dX9_add_41 rfl ?_
      obtain ⟨o42, e42, hs⟩ := gg_bind hs
      refine zr_fr X e42 rfl in_X9_add_X9 (by decide) (by decide +kernel) rfl dX9_add_42 ?_
      refine tt_iload_n X dX9_add_45 rfl ?_
      obtain ⟨z46, e46, hs⟩ := gg_bind hs
      refine zr_il X e46 dX9_add_46 ?_
      refine tt_bipush (v := 12) X dX9_add_47 (by decide) ?_
      refine tt_icmp_ne (tgt := 55) X dX9_add_49 (by decide) (fun c49 => ?_) (fun c49 => ?_)
      · rw [if_neg c49] at hs
        refine tt_aload_n X dX9_add_55 rfl ?_
        obtain ⟨o56, e56, hs⟩ := gg_bind hs
        refine zr_fr X e56 rfl in_X9_add_X9 (by decide) (by decide +kernel) rfl dX9_add_56 ?_
        refine tt_iload_n X dX9_add_59 rfl ?_
        obtain ⟨z60, e60, hs⟩ := gg_bind hs
        refine zr_il X e60 dX9_add_60 ?_
        refine tt_istore X dX9_add_61 (Nat.le_of_ble_eq_true rfl) ?_
        refine tt_drop [0, 1, 2, 3, 4] ?_
        exact t_63 1000 b0 x1 x2 x3 z60 h hs
      · rw [if_pos c49] at hs
        refine tt_bipush (v := (-4)) X dX9_add_52 (by decide) ?_
        obtain rfl := Option.some.inj hs
        exact tt_iret X rfl dX9_add_54 ⟨rfl, rfl⟩
    · rw [if_neg c35] at hs
      refine tt_bipush (v := (-3)) X dX9_add_38 (by decide) ?_
      obtain rfl := Option.some.inj hs
      exact tt_iret X rfl dX9_add_40 ⟨rfl, rfl⟩
  refine tt_aload_n X dX9_add_0 rfl ?_
  obtain ⟨z1, e1, hs⟩ := gg_bind hs
  refine zr_fi X e1 rfl in_X9_add_X9 (by decide) (by decide +kernel) rfl dX9_add_1 ?_
  refine tt_iconst (v := 1) X dX9_add_4 (by decide) ?_
  refine tt_isub X dX9_add_5 ?_
  refine tt_istore_n X dX9_add_6 (Nat.le_of_ble_eq_true rfl) ?_
  refine tt_iload_n X dX9_add_7 rfl ?_
  obtain ⟨w8, e8, hs⟩ := gg_bind hs
  refine zr_callS X (c_X9_isWord l e8) (fun hts => va_cwS 1 hts gX9_add_X9_isWord rfl rfl rfl (by decide +kernel) ⟨by decide, by decide⟩) rfl rfl (Nat.le_of_ble_eq_true rfl) dX9_add_8 ⟨Nat.zero_le _, Nat.zero_le _⟩ ?_
  refine tt_if_eq (tgt := 32) X dX9_add_11 (by decide) (fun c11 => ?_) (fun c11 => ?_)
  · rw [if_pos c11] at hs
    refine tt_iconst (v := (-1)) X dX9_add_32 (by decide) ?_
    obtain rfl := Option.some.inj hs
    exact tt_iret X rfl dX9_add_33 ⟨rfl, rfl⟩
  · rw [if_neg c11] at hs
    refine tt_iload_n X dX9_add_14 rfl ?_
    refine tt_if_lt (tgt := 32) X dX9_add_15 (by decide) (fun c15 => ?_) (fun c15 => ?_)
    · rw [if_pos c15] at hs
      refine tt_iconst (v := (-1)) X dX9_add_32 (by decide) ?_
      obtain rfl := Option.some.inj hs
      exact tt_iret X rfl dX9_add_33 ⟨rfl, rfl⟩
    · rw [if_neg c15] at hs
      refine tt_iload_n X dX9_add_18 rfl ?_
      refine tt_if_lt (tgt := 34) X dX9_add_19 (by decide) (fun c19 => ?_) (fun c19 => ?_)
      · rw [if_pos c19] at hs
        refine tt_drop [0, 1, 2, 3] ?_
        exact t_34 b0 x1 x2 (z1 - 1) w8.2 hs
      · rw [if_neg c19] at hs
        refine tt_iload_n X dX9_add_22 rfl ?_
        refine tt_aload_n X dX9_add_23 rfl ?_
        obtain ⟨o24, e24, hs⟩ := gg_bind hs
        refine zr_fr X e24 rfl in_X9_add_X9 (by decide) (by decide +kernel) rfl dX9_add_24 ?_
        refine tt_iload_n X dX9_add_27 rfl ?_
        obtain ⟨z28, e28, hs⟩ := gg_bind hs
        refine zr_il X e28 dX9_add_28 ?_
        refine tt_icmp_le (tgt := 34) X dX9_add_29 (by decide) (fun c29 => ?_) (fun c29 => ?_)
        · rw [if_pos c29] at hs
          refine tt_drop [0, 1, 2, 3] ?_
          exact t_34 b0 x1 x2 (z1 - 1) w8.2 hs
        · rw [if_neg c29] at hs
          refine tt_iconst (v := (-1)) X dX9_add_32 (by decide) ?_
          obtain rfl := Option.some.inj hs
          exact tt_iret X rfl dX9_add_33 ⟨rfl, rfl⟩

theorem in_X9_against_X9 : ∀ w ∈ u_ws RX9 TX9 26, w ∈ wsX9_against := by decide +kernel
def s_X9_against_J70 (h : tt_H) : Option (Int32 × tt_H) :=
  some (3, h)
def s_X9_against_J23 (b0 : Nat) (x1 : Int32) (x3 : Int32) (x4 : Int32) (h : tt_H) : Option (Int32 × tt_H) :=
  (gg_fr h b0 9 2).bind fun o24 =>
  (gg_il h o24 x1).bind fun z28 =>
  if z28 = ((-9)) then
    some (1, h)
  else
  if 0 ≤ x4 then
    if x3 < 0 then
      s_X9_against_J70 h
    else
    (gg_fr h b0 9 3).bind fun o49 =>
    (gg_il h o49 x1).bind fun z53 =>
    if z53 < x3 then
      s_X9_against_J70 h
    else
    (gg_fr h b0 9 3).bind fun o60 =>
    (gg_il h o60 x1).bind fun z64 =>
    if x4 ≤ (z64 - x3) then
      some (0, h)
    else
    s_X9_against_J70 h
  else
  some (4, h)
def s_X9_against (b0 : Nat) (x1 : Int32) (x2 : Int32) (x3 : Int32) (x4 : Int32) (h : tt_H) : Option (Int32 × tt_H) :=
  (gg_fr h b0 9 2).bind fun o1 =>
  (gg_il h o1 x1).bind fun z5 =>
  if z5 = ((-9)) then
    s_X9_against_J23 b0 x1 x3 x4 h
  else
  (gg_fr h b0 9 2).bind fun o12 =>
  (gg_il h o12 x1).bind fun z16 =>
  if z16 = x2 then
    s_X9_against_J23 b0 x1 x3 x4 h
  else
  some (2, h)
abbrev rm_X9_against : Room := { frames := 0, cells := 0, slots := 0, locals := 0 }
set_option maxHeartbeats 4000000 in
set_option maxRecDepth 100000 in
theorem c_X9_against (l : Launch) {b0 : Nat} {x1 : Int32} {x2 : Int32} {x3 : Int32} {x4 : Int32} {h : tt_H} {ρ : Int32 × tt_H} (hs : s_X9_against b0 x1 x2 x3 x4 h = some ρ) : tt_M tt_cl l yX9_against wsX9_against rm_X9_against 0 0 false [.ref b0, .int x1, .int x2, .int x3, .int x4] h (tt_ret (some (.int ρ.1)) ρ.2) := by
  refine tt_M.of0 (cc := cX9_against) (maxL := 5) (ret := (some .int)) (by decide +kernel) rfl (Nat.le_of_ble_eq_true rfl) ?_
  intro p e s m args below meth c D ca ad n0 sz hwf hsz X hini
  unfold s_X9_against at hs
  have t_23 : ∀ (b0 : Nat) (x1 : Int32) (x3 : Int32) (x4 : Int32) (h : tt_H), s_X9_against_J23 b0 x1 x3 x4 h = some ρ → tt_T tt_cl (p, l, e, rm_X9_against, s, m, args, below, meth, c, MQ below (tt_Q tt_cl D ca ad n0 sz false (tt_ret (some (.int ρ.1)) ρ.2)) args s 0 0 (tt_A ad n0 sz), D, ca, tt_A ad n0 sz, 5, some n0) ad 0 0 23 [(0, .ref b0), (1, .int x1), (3, .int x3), (4, .int x4)] [] h := by
    intro b0 x1 x3 x4 h hs
    unfold s_X9_against_J23 at hs
    have t_70 : ∀  (h : tt_H), s_X9_against_J70 h = some ρ → tt_T tt_cl (p, l, e, rm_X9_against, s, m, args, below, meth, c, MQ below (tt_Q tt_cl D ca ad n0 sz false (tt_ret (some (.int ρ.1)) ρ.2)) args s 0 0 (tt_A ad n0 sz), D, ca, tt_A ad n0 sz, 5, some n0) ad 0 0 70 [] [] h := by
      intro h hs
      unfold s_X9_against_J70 at hs
      refine tt_iconst (v := 3) X dX9_against_70 (by decide) ?_
      refine tt_goto (tgt := 75) X dX9_against_71 (by decide) ?_
      obtain rfl := Option.some.inj hs
      exact tt_iret X rfl dX9_against_75 ⟨rfl, rfl⟩
    refine tt_aload_n X dX9_against_23 rfl ?_
    obtain ⟨o24, e24, hs⟩ := gg_bind hs
    refine zr_fr X e24 rfl in_X9_against_X9 (by decide) (by decide +kernel) rfl dX9_against_24 ?_
    refine tt_iload_n X dX9_against_27 rfl ?_
    obtain ⟨z28, e28, hs⟩ := gg_bind hs
    refine zr_il X e28 dX9_against_28 ?_
    refine tt_bipush (v := (-9)) X dX9_against_29 (by decide) ?_
    refine tt_icmp_ne (tgt := 36) X dX9_against_31 (by decide) (fun c31 => ?_) (fun c31 => ?_)
    · rw [if_neg c31] at hs
      refine tt_iload X dX9_against_36 rfl ?_
      refine tt_if_ge (tgt := 43) X dX9_against_38 (by decide) (fun c38 => ?_) (fun c38 => ?_)
      · rw [if_pos c38] at hs
        refine tt_iload_n X dX9_against_43 rfl ?_
        refine tt_if_lt (tgt := 70) X dX9_against_44 (by decide) (fun c44 => ?_) (fun c44 => ?_)
        · rw [if_pos c44] at hs
          refine tt_drop [] ?_
          exact t_70 h hs
        · rw [if_neg c44] at hs
          refine tt_iload_n X dX9_against_47 rfl ?_
          refine tt_aload_n X dX9_against_48 rfl ?_
          obtain ⟨o49, e49, hs⟩ := gg_bind hs
          refine zr_fr X e49 rfl in_X9_against_X9 (by decide) (by decide +kernel) rfl dX9_against_49 ?_
          refine tt_iload_n X dX9_against_52 rfl ?_
          obtain ⟨z53, e53, hs⟩ := gg_bind hs
          refine zr_il X e53 dX9_against_53 ?_
          refine tt_icmp_gt (tgt := 70) X dX9_against_54 (by decide) (fun c54 => ?_) (fun c54 => ?_)
          · rw [if_pos c54] at hs
            refine tt_drop [] ?_
            exact t_70 h hs
          · rw [if_neg c54] at hs
            refine tt_iload X dX9_against_57 rfl ?_
            refine tt_aload_n X dX9_against_59 rfl ?_
            obtain ⟨o60, e60, hs⟩ := gg_bind hs
            refine zr_fr X e60 rfl in_X9_against_X9 (by decide) (by decide +kernel) rfl dX9_against_60 ?_
            refine tt_iload_n X dX9_against_63 rfl ?_
            obtain ⟨z64, e64, hs⟩ := gg_bind hs
            refine zr_il X e64 dX9_against_64 ?_
            refine tt_iload_n X dX9_against_65 rfl ?_
            refine tt_isub X dX9_against_66 ?_
            refine tt_icmp_le (tgt := 74) X dX9_against_67 (by decide) (fun c67 => ?_) (fun c67 => ?_)
            · rw [if_pos c67] at hs
              refine tt_iconst (v := 0) X dX9_against_74 (by decide) ?_
              obtain rfl := Option.some.inj hs
              exact tt_iret X rfl dX9_against_75 ⟨rfl, rfl⟩
            · rw [if_neg c67] at hs
              refine tt_drop [] ?_
              exact t_70 h hs
      · rw [if_neg c38] at hs
        refine tt_iconst (v := 4) X dX9_against_41 (by decide) ?_
        obtain rfl := Option.some.inj hs
        exact tt_iret X rfl dX9_against_42 ⟨rfl, rfl⟩
    · rw [if_pos c31] at hs
      refine tt_iconst (v := 1) X dX9_against_34 (by decide) ?_
      obtain rfl := Option.some.inj hs
      exact tt_iret X rfl dX9_against_35 ⟨rfl, rfl⟩
  refine tt_aload_n X dX9_against_0 rfl ?_
  obtain ⟨o1, e1, hs⟩ := gg_bind hs
  refine zr_fr X e1 rfl in_X9_against_X9 (by decide) (by decide +kernel) rfl dX9_against_1 ?_
  refine tt_iload_n X dX9_against_4 rfl ?_
  obtain ⟨z5, e5, hs⟩ := gg_bind hs
  refine zr_il X e5 dX9_against_5 ?_
  refine tt_bipush (v := (-9)) X dX9_against_6 (by decide) ?_
  refine tt_icmp_eq (tgt := 23) X dX9_against_8 (by decide) (fun c8 => ?_) (fun c8 => ?_)
  · rw [if_pos c8] at hs
    refine tt_drop [0, 1, 3, 4] ?_
    exact t_23 b0 x1 x3 x4 h hs
  · rw [if_neg c8] at hs
    refine tt_aload_n X dX9_against_11 rfl ?_
    obtain ⟨o12, e12, hs⟩ := gg_bind hs
    refine zr_fr X e12 rfl in_X9_against_X9 (by decide) (by decide +kernel) rfl dX9_against_12 ?_
    refine tt_iload_n X dX9_against_15 rfl ?_
    obtain ⟨z16, e16, hs⟩ := gg_bind hs
    refine zr_il X e16 dX9_against_16 ?_
    refine tt_iload_n X dX9_against_17 rfl ?_
    refine tt_icmp_eq (tgt := 23) X dX9_against_18 (by decide) (fun c18 => ?_) (fun c18 => ?_)
    · rw [if_pos c18] at hs
      refine tt_drop [0, 1, 3, 4] ?_
      exact t_23 b0 x1 x3 x4 h hs
    · rw [if_neg c18] at hs
      refine tt_iconst (v := 2) X dX9_against_21 (by decide) ?_
      obtain rfl := Option.some.inj hs
      exact tt_iret X rfl dX9_against_22 ⟨rfl, rfl⟩

theorem in_X9_alikeFrom_X9 : ∀ w ∈ u_ws RX9 TX9 26, w ∈ wsX9_alikeFrom := by decide +kernel
def s_X9_alikeFrom_L3 : Nat → Nat → Int32 → Int32 → Int32 → Int32 → Int32 → tt_H → Option (Int32 × tt_H)
  | 0, _, _, _, _, _, _, _ => none
  | n + 1, b0, x1, x2, x3, x4, x5, h =>
    (gg_fr h b0 9 7).bind fun o8 =>
    (gg_il h o8 x1).bind fun z12 =>
    if z12 ≤ (x2 + x5) then
      some (x5, h)
    else
    (gg_fr h b0 9 7).bind fun o22 =>
    (gg_il h o22 x3).bind fun z26 =>
    if z26 ≤ (x4 + x5) then
      some (x5, h)
    else
    (gg_obj h b0 9).bind fun _ =>
    (s_X9_wordAt b0 x1 (x2 + x5) h).bind fun w36 =>
    (gg_obj w36.2 b0 9).bind fun _ =>
    (s_X9_wordAt b0 x3 (x4 + x5) w36.2).bind fun w46 =>
    if w36.1 = w46.1 then
      s_X9_alikeFrom_L3 n b0 x1 x2 x3 x4 (x5 + 1) w46.2
    else
    some (x5, w46.2)
def s_X9_alikeFrom (b0 : Nat) (x1 : Int32) (x2 : Int32) (x3 : Int32) (x4 : Int32) (h : tt_H) : Option (Int32 × tt_H) :=
  s_X9_alikeFrom_L3 1000 b0 x1 x2 x3 x4 0 h
abbrev rm_X9_alikeFrom : Room := { frames := 1, cells := 0, slots := 0, locals := 22 }
set_option maxHeartbeats 4000000 in
set_option maxRecDepth 100000 in
theorem c_X9_alikeFrom (l : Launch) {b0 : Nat} {x1 : Int32} {x2 : Int32} {x3 : Int32} {x4 : Int32} {h : tt_H} {ρ : Int32 × tt_H} (hs : s_X9_alikeFrom b0 x1 x2 x3 x4 h = some ρ) : tt_M tt_cl l yX9_alikeFrom wsX9_alikeFrom rm_X9_alikeFrom 0 0 false [.ref b0, .int x1, .int x2, .int x3, .int x4] h (tt_ret (some (.int ρ.1)) ρ.2) := by
  refine tt_M.of0 (cc := cX9_alikeFrom) (maxL := 6) (ret := (some .int)) (by decide +kernel) rfl (Nat.le_of_ble_eq_true rfl) ?_
  intro p e s m args below meth c D ca ad n0 sz hwf hsz X hini
  unfold s_X9_alikeFrom at hs
  have t_3 : ∀ (fu : Nat) (b0 : Nat) (x1 : Int32) (x2 : Int32) (x3 : Int32) (x4 : Int32) (x5 : Int32) (h : tt_H), s_X9_alikeFrom_L3 fu b0 x1 x2 x3 x4 x5 h = some ρ → tt_T tt_cl (p, l, e, rm_X9_alikeFrom, s, m, args, below, meth, c, MQ below (tt_Q tt_cl D ca ad n0 sz false (tt_ret (some (.int ρ.1)) ρ.2)) args s 0 0 (tt_A ad n0 sz), D, ca, tt_A ad n0 sz, 6, some n0) ad 0 0 3 [(0, .ref b0), (1, .int x1), (2, .int x2), (3, .int x3), (4, .int x4), (5, .int x5)] [] h := by
    intro fu
    induction fu with
    | zero => intro b0 x1 x2 x3 x4 x5 h hs; exact absurd hs (by rw [s_X9_alikeFrom_L3]; exact fun q => by cases q)
    | succ n3 ih =>
      intro b0 x1 x2 x3 x4 x5 h hs
      rw [s_X9_alikeFrom_L3] at hs
      have t_3 := ih
      refine tt_iload_n X dX9_alikeFrom_3 rfl ?_
      refine tt_iload X dX9_alikeFrom_4 rfl ?_
      refine tt_iadd X dX9_alikeFrom_6 ?_
      refine tt_aload_n X dX9_alikeFrom_7 rfl ?_
      obtain ⟨o8, e8, hs⟩ := gg_bind hs
      refine zr_fr X e8 rfl in_X9_alikeFrom_X9 (by decide) (by decide +kernel) rfl dX9_alikeFrom_8 ?_
      refine tt_iload_n X dX9_alikeFrom_11 rfl ?_
      obtain ⟨z12, e12, hs⟩ := gg_bind hs
      refine zr_il X e12 dX9_alikeFrom_12 ?_
      refine tt_icmp_ge (tgt := 58) X dX9_alikeFrom_13 (by decide) (fun c13 => ?_) (fun c13 => ?_)
      · rw [if_pos c13] at hs
        refine tt_iload X dX9_alikeFrom_58 rfl ?_
        obtain rfl := Option.some.inj hs
        exact tt_iret X rfl dX9_alikeFrom_60 ⟨rfl, rfl⟩
      · rw [if_neg c13] at hs
        refine tt_iload X dX9_alikeFrom_16 rfl ?_
        refine tt_iload X dX9_alikeFrom_18 rfl ?_
        refine tt_iadd X dX9_alikeFrom_20 ?_
        refine tt_aload_n X dX9_alikeFrom_21 rfl ?_
        obtain ⟨o22, e22, hs⟩ := gg_bind hs
        refine zr_fr X e22 rfl in_X9_alikeFrom_X9 (by decide) (by decide +kernel) rfl dX9_alikeFrom_22 ?_
        refine tt_iload_n X dX9_alikeFrom_25 rfl ?_
        obtain ⟨z26, e26, hs⟩ := gg_bind hs
        refine zr_il X e26 dX9_alikeFrom_26 ?_
        refine tt_icmp_ge (tgt := 58) X dX9_alikeFrom_27 (by decide) (fun c27 => ?_) (fun c27 => ?_)
        · rw [if_pos c27] at hs
          refine tt_iload X dX9_alikeFrom_58 rfl ?_
          obtain rfl := Option.some.inj hs
          exact tt_iret X rfl dX9_alikeFrom_60 ⟨rfl, rfl⟩
        · rw [if_neg c27] at hs
          refine tt_aload_n X dX9_alikeFrom_30 rfl ?_
          refine tt_iload_n X dX9_alikeFrom_31 rfl ?_
          refine tt_iload_n X dX9_alikeFrom_32 rfl ?_
          refine tt_iload X dX9_alikeFrom_33 rfl ?_
          refine tt_iadd X dX9_alikeFrom_35 ?_
          obtain ⟨o36, f36, hs⟩ := gg_bind hs
          obtain ⟨w36, e36, hs⟩ := gg_bind hs
          refine zr_callV X f36 rfl (c_X9_wordAt l e36) (fun hts => cwV 2 hts gX9_alikeFrom_X9_wordAt rfl rfl rfl (by decide +kernel) ⟨by decide, by decide⟩) rfl rfl (Nat.le_of_ble_eq_true rfl) dX9_alikeFrom_36 ⟨Nat.zero_le _, Nat.zero_le _⟩ ?_
          refine tt_aload_n X dX9_alikeFrom_39 rfl ?_
          refine tt_iload_n X dX9_alikeFrom_40 rfl ?_
          refine tt_iload X dX9_alikeFrom_41 rfl ?_
          refine tt_iload X dX9_alikeFrom_43 rfl ?_
          refine tt_iadd X dX9_alikeFrom_45 ?_
          obtain ⟨o46, f46, hs⟩ := gg_bind hs
          obtain ⟨w46, e46, hs⟩ := gg_bind hs
          refine zr_callV X f46 rfl (c_X9_wordAt l e46) (fun hts => cwV 2 hts gX9_alikeFrom_X9_wordAt rfl rfl rfl (by decide +kernel) ⟨by decide, by decide⟩) rfl rfl (Nat.le_of_ble_eq_true rfl) dX9_alikeFrom_46 ⟨Nat.zero_le _, Nat.zero_le _⟩ ?_
          refine tt_icmp_ne (tgt := 58) X dX9_alikeFrom_49 (by decide) (fun c49 => ?_) (fun c49 => ?_)
          · rw [if_neg c49] at hs
            refine tt_iload X dX9_alikeFrom_58 rfl ?_
            obtain rfl := Option.some.inj hs
            exact tt_iret X rfl dX9_alikeFrom_60 ⟨rfl, rfl⟩
          · rw [if_pos c49] at hs
            refine tt_iinc (v := x5 + 1) X dX9_alikeFrom_52 rfl rfl (Nat.le_of_ble_eq_true rfl) ?_
            refine tt_goto (tgt := 3) X dX9_alikeFrom_55 (by decide) ?_
            refine tt_drop [0, 1, 2, 3, 4, 5] ?_
            exact t_3 b0 x1 x2 x3 x4 (x5 + 1) w46.2 hs
  refine tt_iconst (v := 0) X dX9_alikeFrom_0 (by decide) ?_
  refine tt_istore X dX9_alikeFrom_1 (Nat.le_of_ble_eq_true rfl) ?_
  refine tt_drop [0, 1, 2, 3, 4, 5] ?_
  exact t_3 1000 b0 x1 x2 x3 x4 0 h hs

theorem in_X9_fails_X9 : ∀ w ∈ u_ws RX9 TX9 26, w ∈ wsX9_fails := by decide +kernel
def s_X9_fails (b0 : Nat) (x1 : Int32) (h : tt_H) : Option (Int32 × tt_H) :=
  (gg_put h b0 9 0 (.int x1)).bind fun h2 =>
  some (((-10)) - x1, h2)
abbrev rm_X9_fails : Room := { frames := 0, cells := 0, slots := 0, locals := 0 }
set_option maxHeartbeats 4000000 in
set_option maxRecDepth 100000 in
theorem c_X9_fails (l : Launch) {b0 : Nat} {x1 : Int32} {h : tt_H} {ρ : Int32 × tt_H} (hs : s_X9_fails b0 x1 h = some ρ) : tt_M tt_cl l yX9_fails wsX9_fails rm_X9_fails 0 0 false [.ref b0, .int x1] h (tt_ret (some (.int ρ.1)) ρ.2) := by
  refine tt_M.of0 (cc := cX9_fails) (maxL := 2) (ret := (some .int)) (by decide +kernel) rfl (Nat.le_of_ble_eq_true rfl) ?_
  intro p e s m args below meth c D ca ad n0 sz hwf hsz X hini
  unfold s_X9_fails at hs
  refine tt_aload_n X dX9_fails_0 rfl ?_
  refine tt_iload_n X dX9_fails_1 rfl ?_
  obtain ⟨h2, e2, hs⟩ := gg_bind hs
  refine zr_put X e2 rfl in_X9_fails_X9 tyX9 tyX9_ok nmX9 (by decide) (by decide +kernel) rfl rfl (fun _ => rfl) (fun _ => rfl) dX9_fails_2 ?_
  refine tt_bipush (v := (-10)) X dX9_fails_5 (by decide) ?_
  refine tt_iload_n X dX9_fails_7 rfl ?_
  refine tt_isub X dX9_fails_8 ?_
  obtain rfl := Option.some.inj hs
  exact tt_iret X rfl dX9_fails_9 ⟨rfl, rfl⟩

theorem in_X9_as_X9 : ∀ w ∈ u_ws RX9 TX9 26, w ∈ wsX9_as := by decide +kernel
def s_X9_as (b0 : Nat) (x1 : Int32) (x2 : Int32) (h : tt_H) : Option (Int32 × tt_H) :=
  (gg_put h b0 9 0 (.int 0)).bind fun h2 =>
  (s_X9_isWord x1 h2).bind fun w6 =>
  if w6.1 = 0 then
    some ((-1), w6.2)
  else
  (s_X9_inside x2 0 2 w6.2).bind fun w17 =>
  if w17.1 = 0 then
    some ((-2), w17.2)
  else
  (gg_fr w17.2 b0 9 5).bind fun o27 =>
  (gg_il w17.2 o27 x1).bind fun z31 =>
  if z31 < x2 then
    (gg_obj w17.2 b0 9).bind fun _ =>
    (s_X9_fails b0 2 w17.2).bind fun w42 =>
    some (w42.1, w42.2)
  else
  some (1, w17.2)
abbrev rm_X9_as : Room := { frames := 2, cells := 0, slots := 0, locals := 42 }
set_option maxHeartbeats 4000000 in
set_option maxRecDepth 100000 in
theorem c_X9_as (l : Launch) {b0 : Nat} {x1 : Int32} {x2 : Int32} {h : tt_H} {ρ : Int32 × tt_H} (hs : s_X9_as b0 x1 x2 h = some ρ) : tt_M tt_cl l yX9_as wsX9_as rm_X9_as 0 0 false [.ref b0, .int x1, .int x2] h (tt_ret (some (.int ρ.1)) ρ.2) := by
  refine tt_M.of0 (cc := cX9_as) (maxL := 3) (ret := (some .int)) (by decide +kernel) rfl (Nat.le_of_ble_eq_true rfl) ?_
  intro p e s m args below meth c D ca ad n0 sz hwf hsz X hini
  unfold s_X9_as at hs
  refine tt_aload_n X dX9_as_0 rfl ?_
  refine tt_iconst (v := 0) X dX9_as_1 (by decide) ?_
  obtain ⟨h2, e2, hs⟩ := gg_bind hs
  refine zr_put X e2 rfl in_X9_as_X9 tyX9 tyX9_ok nmX9 (by decide) (by decide +kernel) rfl rfl (fun _ => rfl) (fun _ => rfl) dX9_as_2 ?_
  refine tt_iload_n X dX9_as_5 rfl ?_
  obtain ⟨w6, e6, hs⟩ := gg_bind hs
  refine zr_callS X (c_X9_isWord l e6) (fun hts => va_cwS 1 hts gX9_as_X9_isWord rfl rfl rfl (by decide +kernel) ⟨by decide, by decide⟩) rfl rfl (Nat.le_of_ble_eq_true rfl) dX9_as_6 ⟨Nat.zero_le _, Nat.zero_le _⟩ ?_
  refine tt_if_ne (tgt := 14) X dX9_as_9 (by decide) (fun c9 => ?_) (fun c9 => ?_)
  · rw [if_neg c9] at hs
    refine tt_iload_n X dX9_as_14 rfl ?_
    refine tt_iconst (v := 0) X dX9_as_15 (by decide) ?_
    refine tt_iconst (v := 2) X dX9_as_16 (by decide) ?_
    obtain ⟨w17, e17, hs⟩ := gg_bind hs
    refine zr_callS X (c_X9_inside l e17) (fun hts => va_cwS 3 hts gX9_as_X9_inside rfl rfl rfl (by decide +kernel) ⟨by decide, by decide⟩) rfl rfl (Nat.le_of_ble_eq_true rfl) dX9_as_17 ⟨Nat.zero_le _, Nat.zero_le _⟩ ?_
    refine tt_if_ne (tgt := 26) X dX9_as_20 (by decide) (fun c20 => ?_) (fun c20 => ?_)
    · rw [if_neg c20] at hs
      refine tt_aload_n X dX9_as_26 rfl ?_
      obtain ⟨o27, e27, hs⟩ := gg_bind hs
      refine zr_fr X e27 rfl in_X9_as_X9 (by decide) (by decide +kernel) rfl dX9_as_27 ?_
      refine tt_iload_n X dX9_as_30 rfl ?_
      obtain ⟨z31, e31, hs⟩ := gg_bind hs
      refine zr_il X e31 dX9_as_31 ?_
      refine tt_iload_n X dX9_as_32 rfl ?_
      refine tt_icmp_lt (tgt := 40) X dX9_as_33 (by decide) (fun c33 => ?_) (fun c33 => ?_)
      · rw [if_pos c33] at hs
        refine tt_aload_n X dX9_as_40 rfl ?_
        refine tt_iconst (v := 2) X dX9_as_41 (by decide) ?_
        obtain ⟨o42, f42, hs⟩ := gg_bind hs
        obtain ⟨w42, e42, hs⟩ := gg_bind hs
        refine zr_callV X f42 rfl (c_X9_fails l e42) (fun hts => cwV 1 hts gX9_as_X9_fails rfl rfl rfl (by decide +kernel) ⟨by decide, by decide⟩) rfl rfl (Nat.le_of_ble_eq_true rfl) dX9_as_42 ⟨Nat.zero_le _, Nat.zero_le _⟩ ?_
        obtain rfl := Option.some.inj hs
        exact tt_iret X rfl dX9_as_45 ⟨rfl, rfl⟩
      · rw [if_neg c33] at hs
        refine tt_iconst (v := 1) X dX9_as_36 (by decide) ?_
        refine tt_goto (tgt := 45) X dX9_as_37 (by decide) ?_
        obtain rfl := Option.some.inj hs
        exact tt_iret X rfl dX9_as_45 ⟨rfl, rfl⟩
    · rw [if_pos c20] at hs
      refine tt_bipush (v := (-2)) X dX9_as_23 (by decide) ?_
      obtain rfl := Option.some.inj hs
      exact tt_iret X rfl dX9_as_25 ⟨rfl, rfl⟩
  · rw [if_pos c9] at hs
    refine tt_iconst (v := (-1)) X dX9_as_12 (by decide) ?_
    obtain rfl := Option.some.inj hs
    exact tt_iret X rfl dX9_as_13 ⟨rfl, rfl⟩

theorem in_X9_begins_X9 : ∀ w ∈ u_ws RX9 TX9 26, w ∈ wsX9_begins := by decide +kernel
def s_X9_begins (b0 : Nat) (x1 : Int32) (h : tt_H) : Option (Unit × tt_H) :=
  (gg_fi h b0 9 1).bind fun z4 =>
  (gg_put h b0 9 1 (.int ((31 * z4) + x1))).bind fun h10 =>
  some ((), h10)
abbrev rm_X9_begins : Room := { frames := 0, cells := 0, slots := 0, locals := 0 }
set_option maxHeartbeats 4000000 in
set_option maxRecDepth 100000 in
theorem c_X9_begins (l : Launch) {b0 : Nat} {x1 : Int32} {h : tt_H} {ρ : Unit × tt_H} (hs : s_X9_begins b0 x1 h = some ρ) : tt_M tt_cl l yX9_begins wsX9_begins rm_X9_begins 0 0 false [.ref b0, .int x1] h (tt_ret (none) ρ.2) := by
  refine tt_M.of0 (cc := cX9_begins) (maxL := 2) (ret := none) (by decide +kernel) rfl (Nat.le_of_ble_eq_true rfl) ?_
  intro p e s m args below meth c D ca ad n0 sz hwf hsz X hini
  unfold s_X9_begins at hs
  refine tt_aload_n X dX9_begins_0 rfl ?_
  refine tt_bipush (v := 31) X dX9_begins_1 (by decide) ?_
  refine tt_aload_n X dX9_begins_3 rfl ?_
  obtain ⟨z4, e4, hs⟩ := gg_bind hs
  refine zr_fi X e4 rfl in_X9_begins_X9 (by decide) (by decide +kernel) rfl dX9_begins_4 ?_
  refine tt_imul X dX9_begins_7 ?_
  refine tt_iload_n X dX9_begins_8 rfl ?_
  refine tt_iadd X dX9_begins_9 ?_
  obtain ⟨h10, e10, hs⟩ := gg_bind hs
  refine zr_put X e10 rfl in_X9_begins_X9 tyX9 tyX9_ok nmX9 (by decide) (by decide +kernel) rfl rfl (fun _ => rfl) (fun _ => rfl) dX9_begins_10 ?_
  obtain rfl := Option.some.inj hs
  exact tt_vret X rfl dX9_begins_13 ⟨rfl, rfl⟩

theorem in_X9_behind_X9 : ∀ w ∈ u_ws RX9 TX9 26, w ∈ wsX9_behind := by decide +kernel
def s_X9_behind_L3 : Nat → Nat → Int32 → Int32 → Int32 → tt_H → Option (Int32 × tt_H)
  | 0, _, _, _, _, _ => none
  | n + 1, b0, x1, x3, x4, h =>
    (gg_fr h b0 9 7).bind fun o6 =>
    (gg_il h o6 x1).bind fun z10 =>
    if z10 ≤ x4 then
      some ((-9), h)
    else
    (gg_obj h b0 9).bind fun _ =>
    (s_X9_wordAt b0 x1 x4 h).bind fun w18 =>
    if w18.1 = x3 then
      some (x4 + 1, w18.2)
    else
    s_X9_behind_L3 n b0 x1 x3 (x4 + 1) w18.2
def s_X9_behind (b0 : Nat) (x1 : Int32) (x2 : Int32) (x3 : Int32) (h : tt_H) : Option (Int32 × tt_H) :=
  s_X9_behind_L3 1000 b0 x1 x3 x2 h
abbrev rm_X9_behind : Room := { frames := 1, cells := 0, slots := 0, locals := 22 }
set_option maxHeartbeats 4000000 in
set_option maxRecDepth 100000 in
theorem c_X9_behind (l : Launch) {b0 : Nat} {x1 : Int32} {x2 : Int32} {x3 : Int32} {h : tt_H} {ρ : Int32 × tt_H} (hs : s_X9_behind b0 x1 x2 x3 h = some ρ) : tt_M tt_cl l yX9_behind wsX9_behind rm_X9_behind 0 0 false [.ref b0, .int x1, .int x2, .int x3] h (tt_ret (some (.int ρ.1)) ρ.2) := by
  refine tt_M.of0 (cc := cX9_behind) (maxL := 5) (ret := (some .int)) (by decide +kernel) rfl (Nat.le_of_ble_eq_true rfl) ?_
  intro p e s m args below meth c D ca ad n0 sz hwf hsz X hini
  unfold s_X9_behind at hs
  have t_3 : ∀ (fu : Nat) (b0 : Nat) (x1 : Int32) (x3 : Int32) (x4 : Int32) (h : tt_H), s_X9_behind_L3 fu b0 x1 x3 x4 h = some ρ → tt_T tt_cl (p, l, e, rm_X9_behind, s, m, args, below, meth, c, MQ below (tt_Q tt_cl D ca ad n0 sz false (tt_ret (some (.int ρ.1)) ρ.2)) args s 0 0 (tt_A ad n0 sz), D, ca, tt_A ad n0 sz, 5, some n0) ad 0 0 3 [(0, .ref b0), (1, .int x1), (3, .int x3), (4, .int x4)] [] h := by
    intro fu
    induction fu with
    | zero => intro b0 x1 x3 x4 h hs; exact absurd hs (by rw [s_X9_behind_L3]; exact fun q => by cases q)
    | succ n3 ih =>
      intro b0 x1 x3 x4 h hs
      rw [s_X9_behind_L3] at hs
      have t_3 := ih
      refine tt_iload X dX9_behind_3 rfl ?_
      refine tt_aload_n X dX9_behind_5 rfl ?_
      obtain ⟨o6, e6, hs⟩ := gg_bind hs
      refine zr_fr X e6 rfl in_X9_behind_X9 (by decide) (by decide +kernel) rfl dX9_behind_6 ?_
      refine tt_iload_n X dX9_behind_9 rfl ?_
      obtain ⟨z10, e10, hs⟩ := gg_bind hs
      refine zr_il X e10 dX9_behind_10 ?_
      refine tt_icmp_ge (tgt := 36) X dX9_behind_11 (by decide) (fun c11 => ?_) (fun c11 => ?_)
      · rw [if_pos c11] at hs
        refine tt_bipush (v := (-9)) X dX9_behind_36 (by decide) ?_
        obtain rfl := Option.some.inj hs
        exact tt_iret X rfl dX9_behind_38 ⟨rfl, rfl⟩
      · rw [if_neg c11] at hs
        refine tt_aload_n X dX9_behind_14 rfl ?_
        refine tt_iload_n X dX9_behind_15 rfl ?_
        refine tt_iload X dX9_behind_16 rfl ?_
        obtain ⟨o18, f18, hs⟩ := gg_bind hs
        obtain ⟨w18, e18, hs⟩ := gg_bind hs
        refine zr_callV X f18 rfl (c_X9_wordAt l e18) (fun hts => cwV 2 hts gX9_behind_X9_wordAt rfl rfl rfl (by decide +kernel) ⟨by decide, by decide⟩) rfl rfl (Nat.le_of_ble_eq_true rfl) dX9_behind_18 ⟨Nat.zero_le _, Nat.zero_le _⟩ ?_
        refine tt_iload_n X dX9_behind_21 rfl ?_
        refine tt_icmp_ne (tgt := 30) X dX9_behind_22 (by decide) (fun c22 => ?_) (fun c22 => ?_)
        · rw [if_neg c22] at hs
          refine tt_iinc (v := x4 + 1) X dX9_behind_30 rfl rfl (Nat.le_of_ble_eq_true rfl) ?_
          refine tt_goto (tgt := 3) X dX9_behind_33 (by decide) ?_
          refine tt_drop [0, 1, 3, 4] ?_
          exact t_3 b0 x1 x3 (x4 + 1) w18.2 hs
        · rw [if_pos c22] at hs
          refine tt_iload X dX9_behind_25 rfl ?_
          refine tt_iconst (v := 1) X dX9_behind_27 (by decide) ?_
          refine tt_iadd X dX9_behind_28 ?_
          obtain rfl := Option.some.inj hs
          exact tt_iret X rfl dX9_behind_29 ⟨rfl, rfl⟩
  refine tt_iload_n X dX9_behind_0 rfl ?_
  refine tt_istore X dX9_behind_1 (Nat.le_of_ble_eq_true rfl) ?_
  refine tt_drop [0, 1, 3, 4] ?_
  exact t_3 1000 b0 x1 x3 x2 h hs

def s_X9_spot (x0 : Int32) (x1 : Int32) (h : tt_H) : Option (Int32 × tt_H) :=
  some ((13 * x0) + x1, h)
abbrev rm_X9_spot : Room := { frames := 0, cells := 0, slots := 0, locals := 0 }
set_option maxHeartbeats 4000000 in
set_option maxRecDepth 100000 in
theorem c_X9_spot (l : Launch) {x0 : Int32} {x1 : Int32} {h : tt_H} {ρ : Int32 × tt_H} (hs : s_X9_spot x0 x1 h = some ρ) : tt_M tt_cl l yX9_spot wsX9_spot rm_X9_spot 0 0 false [.int x0, .int x1] h (tt_ret (some (.int ρ.1)) ρ.2) := by
  refine tt_M.of0 (cc := cX9_spot) (maxL := 2) (ret := (some .int)) (by decide +kernel) rfl (Nat.le_of_ble_eq_true rfl) ?_
  intro p e s m args below meth c D ca ad n0 sz hwf hsz X hini
  unfold s_X9_spot at hs
  refine tt_bipush (v := 13) X dX9_spot_0 (by decide) ?_
  refine tt_iload_n X dX9_spot_2 rfl ?_
  refine tt_imul X dX9_spot_3 ?_
  refine tt_iload_n X dX9_spot_4 rfl ?_
  refine tt_iadd X dX9_spot_5 ?_
  obtain rfl := Option.some.inj hs
  exact tt_iret X rfl dX9_spot_6 ⟨rfl, rfl⟩

theorem in_X9_lengthen_X9 : ∀ w ∈ u_ws RX9 TX9 26, w ∈ wsX9_lengthen := by decide +kernel
def s_X9_lengthen_L139 : Nat → Nat → Int32 → tt_H → Option (Unit × tt_H)
  | 0, _, _, _ => none
  | n + 1, b0, x4, h =>
    if 169 ≤ x4 then
      some ((), h)
    else
    (gg_fr h b0 9 23).bind fun o148 =>
    (gg_fr h b0 9 24).bind fun o154 =>
    (gg_jl h o154 x4).bind fun z159 =>
    (gg_js h o148 x4 z159).bind fun h160 =>
    s_X9_lengthen_L139 n b0 (x4 + 1) h160
def s_X9_lengthen_J101 (κ29 : Nat → Int32 → Int32 → Int32 → Int32 → Int32 → Int64 → Int32 → tt_H → Option (Unit × tt_H)) (b0 : Nat) (x1 : Int32) (x2 : Int32) (x3 : Int32) (x4 : Int32) (x5 : Int32) (x8 : Int32) (uy0 : Int64) (uy1 : Int64) (h : tt_H) : Option (Unit × tt_H) :=
  κ29 b0 x1 x2 x3 x4 x5 (uy0 + uy1) (x8 + 1) h
def s_X9_lengthen_J74 (κ29 : Nat → Int32 → Int32 → Int32 → Int32 → Int32 → Int64 → Int32 → tt_H → Option (Unit × tt_H)) (b0 : Nat) (x1 : Int32) (x2 : Int32) (x3 : Int32) (x4 : Int32) (x5 : Int32) (y6 : Int64) (x8 : Int32) (x9 : Int32) (ux0 : Int32) (h : tt_H) : Option (Unit × tt_H) :=
  if x9 = ((-9)) then
    s_X9_lengthen_J101 κ29 b0 x1 x2 x3 x4 x5 x8 y6 0 h
  else
  (gg_fr h b0 9 23).bind fun o90 =>
  (s_X9_spot ux0 x9 h).bind fun w97 =>
  (gg_jl w97.2 o90 w97.1).bind fun z100 =>
  s_X9_lengthen_J101 κ29 b0 x1 x2 x3 x4 x5 x8 y6 z100 w97.2
def s_X9_lengthen_J72 (κ74 : Nat → Int32 → Int32 → Int32 → Int32 → Int32 → Int64 → Int32 → Int32 → Int32 → tt_H → Option (Unit × tt_H)) (b0 : Nat) (x1 : Int32) (x2 : Int32) (x3 : Int32) (x4 : Int32) (x5 : Int32) (y6 : Int64) (x8 : Int32) (x9 : Int32) (h : tt_H) : Option (Unit × tt_H) :=
  κ74 b0 x1 x2 x3 x4 x5 y6 x8 x9 x4 h
def s_X9_lengthen_L29 (κ12 : Nat → Int32 → Int32 → Int32 → Int32 → Int32 → tt_H → Option (Unit × tt_H)) : Nat → Nat → Int32 → Int32 → Int32 → Int32 → Int32 → Int64 → Int32 → tt_H → Option (Unit × tt_H)
  | 0, _, _, _, _, _, _, _, _, _ => none
  | n + 1, b0, x1, x2, x3, x4, x5, y6, x8, h =>
    if 8 ≤ x8 then
      (gg_fr h b0 9 24).bind fun o111 =>
      (s_X9_spot x4 x5 h).bind fun w118 =>
      (gg_js w118.2 o111 w118.1 y6).bind fun h123 =>
      κ12 b0 x1 x2 x3 x4 (x5 + 1) h123
    else
    (gg_obj h b0 9).bind fun _ =>
    (s_X9_behind b0 x2 x5 x8 h).bind fun w42 =>
    if x3 ≤ x4 then
      s_X9_lengthen_J72 (s_X9_lengthen_J74 (s_X9_lengthen_L29 κ12 n)) b0 x1 x2 x3 x4 x5 y6 x8 w42.1 w42.2
    else
    (gg_obj w42.2 b0 9).bind fun _ =>
    (s_X9_wordAt b0 x1 x4 w42.2).bind fun w57 =>
    if w57.1 = x8 then
      s_X9_lengthen_J74 (s_X9_lengthen_L29 κ12 n) b0 x1 x2 x3 x4 x5 y6 x8 w42.1 (x4 + 1) w57.2
    else
    s_X9_lengthen_J72 (s_X9_lengthen_J74 (s_X9_lengthen_L29 κ12 n)) b0 x1 x2 x3 x4 x5 y6 x8 w42.1 w57.2
def s_X9_lengthen_L12 (κ3 : Nat → Int32 → Int32 → Int32 → Int32 → tt_H → Option (Unit × tt_H)) : Nat → Nat → Int32 → Int32 → Int32 → Int32 → Int32 → tt_H → Option (Unit × tt_H)
  | 0, _, _, _, _, _, _, _ => none
  | n + 1, b0, x1, x2, x3, x4, x5, h =>
    (gg_fr h b0 9 7).bind fun o15 =>
    (gg_il h o15 x2).bind fun z19 =>
    if z19 < x5 then
      κ3 b0 x1 x2 x3 (x4 + 1) h
    else
    s_X9_lengthen_L29 (s_X9_lengthen_L12 κ3 n) 1000 b0 x1 x2 x3 x4 x5 0 0 h
def s_X9_lengthen_L3 : Nat → Nat → Int32 → Int32 → Int32 → Int32 → tt_H → Option (Unit × tt_H)
  | 0, _, _, _, _, _, _ => none
  | n + 1, b0, x1, x2, x3, x4, h =>
    if x3 < x4 then
      s_X9_lengthen_L139 1000 b0 0 h
    else
    s_X9_lengthen_L12 (s_X9_lengthen_L3 n) 1000 b0 x1 x2 x3 x4 0 h
def s_X9_lengthen (b0 : Nat) (x1 : Int32) (x2 : Int32) (x3 : Int32) (h : tt_H) : Option (Unit × tt_H) :=
  s_X9_lengthen_L3 1000 b0 x1 x2 x3 0 h
abbrev rm_X9_lengthen : Room := { frames := 2, cells := 0, slots := 0, locals := 46 }
set_option maxHeartbeats 4000000 in
set_option maxRecDepth 100000 in
theorem c_X9_lengthen (l : Launch) {b0 : Nat} {x1 : Int32} {x2 : Int32} {x3 : Int32} {h : tt_H} {ρ : Unit × tt_H} (hs : s_X9_lengthen b0 x1 x2 x3 h = some ρ) : tt_M tt_cl l yX9_lengthen wsX9_lengthen rm_X9_lengthen 0 0 false [.ref b0, .int x1, .int x2, .int x3] h (tt_ret (none) ρ.2) := by
  refine tt_M.of0 (cc := cX9_lengthen) (maxL := 11) (ret := none) (by decide +kernel) rfl (Nat.le_of_ble_eq_true rfl) ?_
  intro p e s m args below meth c D ca ad n0 sz hwf hsz X hini
  unfold s_X9_lengthen at hs
  have t_3 : ∀ (fu : Nat) (b0 : Nat) (x1 : Int32) (x2 : Int32) (x3 : Int32) (x4 : Int32) (h : tt_H), s_X9_lengthen_L3 fu b0 x1 x2 x3 x4 h = some ρ → tt_T tt_cl (p, l, e, rm_X9_lengthen, s, m, args, below, meth, c, MQ below (tt_Q tt_cl D ca ad n0 sz false (tt_ret (none) ρ.2)) args s 0 0 (tt_A ad n0 sz), D, ca, tt_A ad n0 sz, 11, some n0) ad 0 0 3 [(0, .ref b0), (1, .int x1), (2, .int x2), (3, .int x3), (4, .int x4)] [] h := by
    intro fu
    induction fu with
    | zero => intro b0 x1 x2 x3 x4 h hs; exact absurd hs (by rw [s_X9_lengthen_L3]; exact fun q => by cases q)
    | succ n3 ih =>
      intro b0 x1 x2 x3 x4 h hs
      rw [s_X9_lengthen_L3] at hs
      have t_3 := ih
      have t_139 : ∀ (fu : Nat) (b0 : Nat) (x4 : Int32) (h : tt_H), s_X9_lengthen_L139 fu b0 x4 h = some ρ → tt_T tt_cl (p, l, e, rm_X9_lengthen, s, m, args, below, meth, c, MQ below (tt_Q tt_cl D ca ad n0 sz false (tt_ret (none) ρ.2)) args s 0 0 (tt_A ad n0 sz), D, ca, tt_A ad n0 sz, 11, some n0) ad 0 0 139 [(0, .ref b0), (4, .int x4)] [] h := by
        intro fu
        induction fu with
        | zero => intro b0 x4 h hs; exact absurd hs (by rw [s_X9_lengthen_L139]; exact fun q => by cases q)
        | succ n139 ih =>
          intro b0 x4 h hs
          rw [s_X9_lengthen_L139] at hs
          have t_139 := ih
          refine tt_iload X dX9_lengthen_139 rfl ?_
          refine tt_sipush (v := 169) X dX9_lengthen_141 (by decide) ?_
          refine tt_icmp_ge (tgt := 167) X dX9_lengthen_144 (by decide) (fun c144 => ?_) (fun c144 => ?_)
          · rw [if_pos c144] at hs
            obtain rfl := Option.some.inj hs
            exact tt_vret X rfl dX9_lengthen_167 ⟨rfl, rfl⟩
          · rw [if_neg c144] at hs
            refine tt_aload_n X dX9_lengthen_147 rfl ?_
            obtain ⟨o148, e148, hs⟩ := gg_bind hs
            refine zr_fr X e148 rfl in_X9_lengthen_X9 (by decide) (by decide +kernel) rfl dX9_lengthen_148 ?_
            refine tt_iload X dX9_lengthen_151 rfl ?_
            refine tt_aload_n X dX9_lengthen_153 rfl ?_
            obtain ⟨o154, e154, hs⟩ := gg_bind hs
            refine zr_fr X e154 rfl in_X9_lengthen_X9 (by decide) (by decide +kernel) rfl dX9_lengthen_154 ?_
            refine tt_iload X dX9_lengthen_157 rfl ?_
            obtain ⟨z159, e159, hs⟩ := gg_bind hs
            refine zr_jl X e159 dX9_lengthen_159 ?_
            obtain ⟨h160, e160, hs⟩ := gg_bind hs
            refine zr_js X e160 dX9_lengthen_160 ?_
            refine tt_iinc (v := x4 + 1) X dX9_lengthen_161 rfl rfl (Nat.le_of_ble_eq_true rfl) ?_
            refine tt_goto (tgt := 139) X dX9_lengthen_164 (by decide) ?_
            refine tt_drop [0, 4] ?_
            exact t_139 b0 (x4 + 1) h160 hs
      have t_12 : ∀ (fu : Nat) (b0 : Nat) (x1 : Int32) (x2 : Int32) (x3 : Int32) (x4 : Int32) (x5 : Int32) (h : tt_H), s_X9_lengthen_L12 (s_X9_lengthen_L3 n3) fu b0 x1 x2 x3 x4 x5 h = some ρ → tt_T tt_cl (p, l, e, rm_X9_lengthen, s, m, args, below, meth, c, MQ below (tt_Q tt_cl D ca ad n0 sz false (tt_ret (none) ρ.2)) args s 0 0 (tt_A ad n0 sz), D, ca, tt_A ad n0 sz, 11, some n0) ad 0 0 12 [(0, .ref b0), (1, .int x1), (2, .int x2), (3, .int x3), (4, .int x4), (5, .int x5)] [] h := by
        intro fu
        induction fu with
        | zero => intro b0 x1 x2 x3 x4 x5 h hs; exact absurd hs (by rw [s_X9_lengthen_L12]; exact fun q => by cases q)
        | succ n12 ih =>
          intro b0 x1 x2 x3 x4 x5 h hs
          rw [s_X9_lengthen_L12] at hs
          have t_12 := ih
          have t_29 : ∀ (fu : Nat) (b0 : Nat) (x1 : Int32) (x2 : Int32) (x3 : Int32) (x4 : Int32) (x5 : Int32) (y6 : Int64) (x8 : Int32) (h : tt_H), s_X9_lengthen_L29 (s_X9_lengthen_L12 (s_X9_lengthen_L3 n3) n12) fu b0 x1 x2 x3 x4 x5 y6 x8 h = some ρ → tt_T tt_cl (p, l, e, rm_X9_lengthen, s, m, args, below, meth, c, MQ below (tt_Q tt_cl D ca ad n0 sz false (tt_ret (none) ρ.2)) args s 0 0 (tt_A ad n0 sz), D, ca, tt_A ad n0 sz, 11, some n0) ad 0 0 29 [(0, .ref b0), (1, .int x1), (2, .int x2), (3, .int x3), (4, .int x4), (5, .int x5), (6, .long y6), (8, .int x8)] [] h := by
            intro fu
            induction fu with
            | zero => intro b0 x1 x2 x3 x4 x5 y6 x8 h hs; exact absurd hs (by rw [s_X9_lengthen_L29]; exact fun q => by cases q)
            | succ n29 ih =>
              intro b0 x1 x2 x3 x4 x5 y6 x8 h hs
              rw [s_X9_lengthen_L29] at hs
              have t_29 := ih
              have t_74 : ∀ (b0 : Nat) (x1 : Int32) (x2 : Int32) (x3 : Int32) (x4 : Int32) (x5 : Int32) (y6 : Int64) (x8 : Int32) (x9 : Int32) (ux0 : Int32) (h : tt_H), s_X9_lengthen_J74 (s_X9_lengthen_L29 (s_X9_lengthen_L12 (s_X9_lengthen_L3 n3) n12) n29) b0 x1 x2 x3 x4 x5 y6 x8 x9 ux0 h = some ρ → tt_T tt_cl (p, l, e, rm_X9_lengthen, s, m, args, below, meth, c, MQ below (tt_Q tt_cl D ca ad n0 sz false (tt_ret (none) ρ.2)) args s 0 0 (tt_A ad n0 sz), D, ca, tt_A ad n0 sz, 11, some n0) ad 0 0 74 [(0, .ref b0), (1, .int x1), (2, .int x2), (3, .int x3), (4, .int x4), (5, .int x5), (6, .long y6), (8, .int x8), (9, .int x9)] [.int ux0] h := by
                intro b0 x1 x2 x3 x4 x5 y6 x8 x9 ux0 h hs
                unfold s_X9_lengthen_J74 at hs
                have t_101 : ∀ (b0 : Nat) (x1 : Int32) (x2 : Int32) (x3 : Int32) (x4 : Int32) (x5 : Int32) (x8 : Int32) (uy0 : Int64) (uy1 : Int64) (h : tt_H), s_X9_lengthen_J101 (s_X9_lengthen_L29 (s_X9_lengthen_L12 (s_X9_lengthen_L3 n3) n12) n29) b0 x1 x2 x3 x4 x5 x8 uy0 uy1 h = some ρ → tt_T tt_cl (p, l, e, rm_X9_lengthen, s, m, args, below, meth, c, MQ below (tt_Q tt_cl D ca ad n0 sz false (tt_ret (none) ρ.2)) args s 0 0 (tt_A ad n0 sz), D, ca, tt_A ad n0 sz, 11, some n0) ad 0 0 101 [(0, .ref b0), (1, .int x1), (2, .int x2), (3, .int x3), (4, .int x4), (5, .int x5), (8, .int x8)] [.long uy1, .long uy0] h := by
                  intro b0 x1 x2 x3 x4 x5 x8 uy0 uy1 h hs
                  unfold s_X9_lengthen_J101 at hs
                  refine tt_ladd X dX9_lengthen_101 ?_
                  refine tt_lstore X dX9_lengthen_102 (Nat.le_of_ble_eq_true rfl) ?_
                  refine tt_iinc (v := x8 + 1) X dX9_lengthen_104 rfl rfl (Nat.le_of_ble_eq_true rfl) ?_
                  refine tt_goto (tgt := 29) X dX9_lengthen_107 (by decide) ?_
                  refine tt_drop [0, 1, 2, 3, 4, 5, 6, 8] ?_
                  exact t_29 b0 x1 x2 x3 x4 x5 (uy0 + uy1) (x8 + 1) h hs
                refine tt_istore X dX9_lengthen_74 (Nat.le_of_ble_eq_true rfl) ?_
                refine tt_lload X dX9_lengthen_76 rfl ?_
                refine tt_iload X dX9_lengthen_78 rfl ?_
                refine tt_bipush (v := (-9)) X dX9_lengthen_80 (by decide) ?_
                refine tt_icmp_ne (tgt := 89) X dX9_lengthen_82 (by decide) (fun c82 => ?_) (fun c82 => ?_)
                · rw [if_neg c82] at hs
                  refine tt_aload_n X dX9_lengthen_89 rfl ?_
                  obtain ⟨o90, e90, hs⟩ := gg_bind hs
                  refine zr_fr X e90 rfl in_X9_lengthen_X9 (by decide) (by decide +kernel) rfl dX9_lengthen_90 ?_
                  refine tt_iload X dX9_lengthen_93 rfl ?_
                  refine tt_iload X dX9_lengthen_95 rfl ?_
                  obtain ⟨w97, e97, hs⟩ := gg_bind hs
                  refine zr_callS X (c_X9_spot l e97) (fun hts => va_cwS 2 hts gX9_lengthen_X9_spot rfl rfl rfl (by decide +kernel) ⟨by decide, by decide⟩) rfl rfl (Nat.le_of_ble_eq_true rfl) dX9_lengthen_97 ⟨Nat.zero_le _, Nat.zero_le _⟩ ?_
                  obtain ⟨z100, e100, hs⟩ := gg_bind hs
                  refine zr_jl X e100 dX9_lengthen_100 ?_
                  refine tt_drop [0, 1, 2, 3, 4, 5, 8] ?_
                  exact t_101 b0 x1 x2 x3 x4 x5 x8 y6 z100 w97.2 hs
                · rw [if_pos c82] at hs
                  refine tt_lconst (v := 0) X dX9_lengthen_85 (by decide) ?_
                  refine tt_goto (tgt := 101) X dX9_lengthen_86 (by decide) ?_
                  refine tt_drop [0, 1, 2, 3, 4, 5, 8] ?_
                  exact t_101 b0 x1 x2 x3 x4 x5 x8 y6 0 h hs
              have t_72 : ∀ (b0 : Nat) (x1 : Int32) (x2 : Int32) (x3 : Int32) (x4 : Int32) (x5 : Int32) (y6 : Int64) (x8 : Int32) (x9 : Int32) (h : tt_H), s_X9_lengthen_J72 (s_X9_lengthen_J74 (s_X9_lengthen_L29 (s_X9_lengthen_L12 (s_X9_lengthen_L3 n3) n12) n29)) b0 x1 x2 x3 x4 x5 y6 x8 x9 h = some ρ → tt_T tt_cl (p, l, e, rm_X9_lengthen, s, m, args, below, meth, c, MQ below (tt_Q tt_cl D ca ad n0 sz false (tt_ret (none) ρ.2)) args s 0 0 (tt_A ad n0 sz), D, ca, tt_A ad n0 sz, 11, some n0) ad 0 0 72 [(0, .ref b0), (1, .int x1), (2, .int x2), (3, .int x3), (4, .int x4), (5, .int x5), (6, .long y6), (8, .int x8), (9, .int x9)] [] h := by
                intro b0 x1 x2 x3 x4 x5 y6 x8 x9 h hs
                unfold s_X9_lengthen_J72 at hs
                refine tt_iload X dX9_lengthen_72 rfl ?_
                refine tt_drop [0, 1, 2, 3, 4, 5, 6, 8, 9] ?_
                exact t_74 b0 x1 x2 x3 x4 x5 y6 x8 x9 x4 h hs
              refine tt_iload X dX9_lengthen_29 rfl ?_
              refine tt_bipush (v := 8) X dX9_lengthen_31 (by decide) ?_
              refine tt_icmp_ge (tgt := 110) X dX9_lengthen_33 (by decide) (fun c33 => ?_) (fun c33 => ?_)
              · rw [if_pos c33] at hs
                refine tt_aload_n X dX9_lengthen_110 rfl ?_
                obtain ⟨o111, e111, hs⟩ := gg_bind hs
                refine zr_fr X e111 rfl in_X9_lengthen_X9 (by decide) (by decide +kernel) rfl dX9_lengthen_111 ?_
                refine tt_iload X dX9_lengthen_114 rfl ?_
                refine tt_iload X dX9_lengthen_116 rfl ?_
                obtain ⟨w118, e118, hs⟩ := gg_bind hs
                refine zr_callS X (c_X9_spot l e118) (fun hts => va_cwS 2 hts gX9_lengthen_X9_spot rfl rfl rfl (by decide +kernel) ⟨by decide, by decide⟩) rfl rfl (Nat.le_of_ble_eq_true rfl) dX9_lengthen_118 ⟨Nat.zero_le _, Nat.zero_le _⟩ ?_
                refine tt_lload X dX9_lengthen_121 rfl ?_
                obtain ⟨h123, e123, hs⟩ := gg_bind hs
                refine zr_js X e123 dX9_lengthen_123 ?_
                refine tt_iinc (v := x5 + 1) X dX9_lengthen_124 rfl rfl (Nat.le_of_ble_eq_true rfl) ?_
                refine tt_goto (tgt := 12) X dX9_lengthen_127 (by decide) ?_
                refine tt_drop [0, 1, 2, 3, 4, 5] ?_
                exact t_12 b0 x1 x2 x3 x4 (x5 + 1) h123 hs
              · rw [if_neg c33] at hs
                refine tt_aload_n X dX9_lengthen_36 rfl ?_
                refine tt_iload_n X dX9_lengthen_37 rfl ?_
                refine tt_iload X dX9_lengthen_38 rfl ?_
                refine tt_iload X dX9_lengthen_40 rfl ?_
                obtain ⟨o42, f42, hs⟩ := gg_bind hs
                obtain ⟨w42, e42, hs⟩ := gg_bind hs
                refine zr_callV X f42 rfl (c_X9_behind l e42) (fun hts => cwV 3 hts gX9_lengthen_X9_behind rfl rfl rfl (by decide +kernel) ⟨by decide, by decide⟩) rfl rfl (Nat.le_of_ble_eq_true rfl) dX9_lengthen_42 ⟨Nat.zero_le _, Nat.zero_le _⟩ ?_
                refine tt_istore X dX9_lengthen_45 (Nat.le_of_ble_eq_true rfl) ?_
                refine tt_iload X dX9_lengthen_47 rfl ?_
                refine tt_iload_n X dX9_lengthen_49 rfl ?_
                refine tt_icmp_ge (tgt := 72) X dX9_lengthen_50 (by decide) (fun c50 => ?_) (fun c50 => ?_)
                · rw [if_pos c50] at hs
                  refine tt_drop [0, 1, 2, 3, 4, 5, 6, 8, 9] ?_
                  exact t_72 b0 x1 x2 x3 x4 x5 y6 x8 w42.1 w42.2 hs
                · rw [if_neg c50] at hs
                  refine tt_aload_n X dX9_lengthen_53 rfl ?_
                  refine tt_iload_n X dX9_lengthen_54 rfl ?_
                  refine tt_iload X dX9_lengthen_55 rfl ?_
                  obtain ⟨o57, f57, hs⟩ := gg_bind hs
                  obtain ⟨w57, e57, hs⟩ := gg_bind hs
                  refine zr_callV X f57 rfl (c_X9_wordAt l e57) (fun hts => cwV 2 hts gX9_lengthen_X9_wordAt rfl rfl rfl (by decide +kernel) ⟨by decide, by decide⟩) rfl rfl (Nat.le_of_ble_eq_true rfl) dX9_lengthen_57 ⟨Nat.zero_le _, Nat.zero_le _⟩ ?_
                  refine tt_iload X dX9_lengthen_60 rfl ?_
                  refine tt_icmp_ne (tgt := 72) X dX9_lengthen_62 (by decide) (fun c62 => ?_) (fun c62 => ?_)
                  · rw [if_neg c62] at hs
                    refine tt_drop [0, 1, 2, 3, 4, 5, 6, 8, 9] ?_
                    exact t_72 b0 x1 x2 x3 x4 x5 y6 x8 w42.1 w57.2 hs
                  · rw [if_pos c62] at hs
                    refine tt_iload X dX9_lengthen_65 rfl ?_
                    refine tt_iconst (v := 1) X dX9_lengthen_67 (by decide) ?_
                    refine tt_iadd X dX9_lengthen_68 ?_
                    refine tt_goto (tgt := 74) X dX9_lengthen_69 (by decide) ?_
                    refine tt_drop [0, 1, 2, 3, 4, 5, 6, 8, 9] ?_
                    exact t_74 b0 x1 x2 x3 x4 x5 y6 x8 w42.1 (x4 + 1) w57.2 hs
          refine tt_iload X dX9_lengthen_12 rfl ?_
          refine tt_aload_n X dX9_lengthen_14 rfl ?_
          obtain ⟨o15, e15, hs⟩ := gg_bind hs
          refine zr_fr X e15 rfl in_X9_lengthen_X9 (by decide) (by decide +kernel) rfl dX9_lengthen_15 ?_
          refine tt_iload_n X dX9_lengthen_18 rfl ?_
          obtain ⟨z19, e19, hs⟩ := gg_bind hs
          refine zr_il X e19 dX9_lengthen_19 ?_
          refine tt_icmp_gt (tgt := 130) X dX9_lengthen_20 (by decide) (fun c20 => ?_) (fun c20 => ?_)
          · rw [if_pos c20] at hs
            refine tt_iinc (v := x4 + 1) X dX9_lengthen_130 rfl rfl (Nat.le_of_ble_eq_true rfl) ?_
            refine tt_goto (tgt := 3) X dX9_lengthen_133 (by decide) ?_
            refine tt_drop [0, 1, 2, 3, 4] ?_
            exact t_3 b0 x1 x2 x3 (x4 + 1) h hs
          · rw [if_neg c20] at hs
            refine tt_lconst (v := 0) X dX9_lengthen_23 (by decide) ?_
            refine tt_lstore X dX9_lengthen_24 (Nat.le_of_ble_eq_true rfl) ?_
            refine tt_iconst (v := 0) X dX9_lengthen_26 (by decide) ?_
            refine tt_istore X dX9_lengthen_27 (Nat.le_of_ble_eq_true rfl) ?_
            refine tt_drop [0, 1, 2, 3, 4, 5, 6, 8] ?_
            exact t_29 1000 b0 x1 x2 x3 x4 x5 0 0 h hs
      refine tt_iload X dX9_lengthen_3 rfl ?_
      refine tt_iload_n X dX9_lengthen_5 rfl ?_
      refine tt_icmp_gt (tgt := 136) X dX9_lengthen_6 (by decide) (fun c6 => ?_) (fun c6 => ?_)
      · rw [if_pos c6] at hs
        refine tt_iconst (v := 0) X dX9_lengthen_136 (by decide) ?_
        refine tt_istore X dX9_lengthen_137 (Nat.le_of_ble_eq_true rfl) ?_
        refine tt_drop [0, 4] ?_
        exact t_139 1000 b0 0 h hs
      · rw [if_neg c6] at hs
        refine tt_iconst (v := 0) X dX9_lengthen_9 (by decide) ?_
        refine tt_istore X dX9_lengthen_10 (Nat.le_of_ble_eq_true rfl) ?_
        refine tt_drop [0, 1, 2, 3, 4, 5] ?_
        exact t_12 1000 b0 x1 x2 x3 x4 0 h hs
  refine tt_iconst (v := 0) X dX9_lengthen_0 (by decide) ?_
  refine tt_istore X dX9_lengthen_1 (Nat.le_of_ble_eq_true rfl) ?_
  refine tt_drop [0, 1, 2, 3, 4] ?_
  exact t_3 1000 b0 x1 x2 x3 0 h hs

theorem in_X9_between_X9 : ∀ w ∈ u_ws RX9 TX9 26, w ∈ wsX9_between := by decide +kernel
def s_X9_between_L41 : Nat → Nat → Int32 → Int32 → Int32 → Int32 → Int32 → tt_H → Option (Int64 × tt_H)
  | 0, _, _, _, _, _, _, _ => none
  | n + 1, b0, x1, x2, x3, x4, x5, h =>
    if x4 ≤ x5 then
      (gg_fr h b0 9 23).bind fun o62 =>
      (gg_jl h o62 0).bind fun z66 =>
      some (z66, h)
    else
    (gg_obj h b0 9).bind fun _ =>
    (s_X9_lengthen b0 x1 x2 x3 h).bind fun w52 =>
    s_X9_between_L41 n b0 x1 x2 x3 x4 (x5 + 1) w52.2
def s_X9_between_J31 (κ3 : Nat → Int32 → Int32 → Int32 → Int32 → Int32 → tt_H → Option (Int64 × tt_H)) (b0 : Nat) (x1 : Int32) (x2 : Int32) (x3 : Int32) (x4 : Int32) (x5 : Int32) (ub0 : Nat) (ux1 : Int32) (uy2 : Int64) (h : tt_H) : Option (Int64 × tt_H) :=
  (gg_js h ub0 ux1 uy2).bind fun h31 =>
  κ3 b0 x1 x2 x3 x4 (x5 + 1) h31
def s_X9_between_L3 : Nat → Nat → Int32 → Int32 → Int32 → Int32 → Int32 → tt_H → Option (Int64 × tt_H)
  | 0, _, _, _, _, _, _, _ => none
  | n + 1, b0, x1, x2, x3, x4, x5, h =>
    if 169 ≤ x5 then
      s_X9_between_L41 1000 b0 x1 x2 x3 x4 0 h
    else
    (gg_fr h b0 9 23).bind fun o12 =>
    (gg_nz 13).bind fun _ =>
    if (x5 / 13) = x3 then
      s_X9_between_J31 (s_X9_between_L3 n) b0 x1 x2 x3 x4 x5 o12 x5 1 h
    else
    s_X9_between_J31 (s_X9_between_L3 n) b0 x1 x2 x3 x4 x5 o12 x5 0 h
def s_X9_between (b0 : Nat) (x1 : Int32) (x2 : Int32) (x3 : Int32) (x4 : Int32) (h : tt_H) : Option (Int64 × tt_H) :=
  s_X9_between_L3 1000 b0 x1 x2 x3 x4 0 h
abbrev rm_X9_between : Room := { frames := 3, cells := 0, slots := 0, locals := 76 }
set_option maxHeartbeats 4000000 in
set_option maxRecDepth 100000 in
theorem c_X9_between (l : Launch) {b0 : Nat} {x1 : Int32} {x2 : Int32} {x3 : Int32} {x4 : Int32} {h : tt_H} {ρ : Int64 × tt_H} (hs : s_X9_between b0 x1 x2 x3 x4 h = some ρ) : tt_M tt_cl l yX9_between wsX9_between rm_X9_between 0 0 false [.ref b0, .int x1, .int x2, .int x3, .int x4] h (tt_ret (some (.long ρ.1)) ρ.2) := by
  refine tt_M.of0 (cc := cX9_between) (maxL := 6) (ret := (some .long)) (by decide +kernel) rfl (Nat.le_of_ble_eq_true rfl) ?_
  intro p e s m args below meth c D ca ad n0 sz hwf hsz X hini
  unfold s_X9_between at hs
  have t_3 : ∀ (fu : Nat) (b0 : Nat) (x1 : Int32) (x2 : Int32) (x3 : Int32) (x4 : Int32) (x5 : Int32) (h : tt_H), s_X9_between_L3 fu b0 x1 x2 x3 x4 x5 h = some ρ → tt_T tt_cl (p, l, e, rm_X9_between, s, m, args, below, meth, c, MQ below (tt_Q tt_cl D ca ad n0 sz false (tt_ret (some (.long ρ.1)) ρ.2)) args s 0 0 (tt_A ad n0 sz), D, ca, tt_A ad n0 sz, 6, some n0) ad 0 0 3 [(0, .ref b0), (1, .int x1), (2, .int x2), (3, .int x3), (4, .int x4), (5, .int x5)] [] h := by
    intro fu
    induction fu with
    | zero => intro b0 x1 x2 x3 x4 x5 h hs; exact absurd hs (by rw [s_X9_between_L3]; exact fun q => by cases q)
    | succ n3 ih =>
      intro b0 x1 x2 x3 x4 x5 h hs
      rw [s_X9_between_L3] at hs
      have t_3 := ih
      have t_41 : ∀ (fu : Nat) (b0 : Nat) (x1 : Int32) (x2 : Int32) (x3 : Int32) (x4 : Int32) (x5 : Int32) (h : tt_H), s_X9_between_L41 fu b0 x1 x2 x3 x4 x5 h = some ρ → tt_T tt_cl (p, l, e, rm_X9_between, s, m, args, below, meth, c, MQ below (tt_Q tt_cl D ca ad n0 sz false (tt_ret (some (.long ρ.1)) ρ.2)) args s 0 0 (tt_A ad n0 sz), D, ca, tt_A ad n0 sz, 6, some n0) ad 0 0 41 [(0, .ref b0), (1, .int x1), (2, .int x2), (3, .int x3), (4, .int x4), (5, .int x5)] [] h := by
        intro fu
        induction fu with
        | zero => intro b0 x1 x2 x3 x4 x5 h hs; exact absurd hs (by rw [s_X9_between_L41]; exact fun q => by cases q)
        | succ n41 ih =>
          intro b0 x1 x2 x3 x4 x5 h hs
          rw [s_X9_between_L41] at hs
          have t_41 := ih
          refine tt_iload X dX9_between_41 rfl ?_
          refine tt_iload X dX9_between_43 rfl ?_
          refine tt_icmp_ge (tgt := 61) X dX9_between_45 (by decide) (fun c45 => ?_) (fun c45 => ?_)
          · rw [if_pos c45] at hs
            refine tt_aload_n X dX9_between_61 rfl ?_
            obtain ⟨o62, e62, hs⟩ := gg_bind hs
            refine zr_fr X e62 rfl in_X9_between_X9 (by decide) (by decide +kernel) rfl dX9_between_62 ?_
            refine tt_iconst (v := 0) X dX9_between_65 (by decide) ?_
            obtain ⟨z66, e66, hs⟩ := gg_bind hs
            refine zr_jl X e66 dX9_between_66 ?_
            obtain rfl := Option.some.inj hs
            exact tt_lret X rfl dX9_between_67 ⟨rfl, rfl⟩
          · rw [if_neg c45] at hs
            refine tt_aload_n X dX9_between_48 rfl ?_
            refine tt_iload_n X dX9_between_49 rfl ?_
            refine tt_iload_n X dX9_between_50 rfl ?_
            refine tt_iload_n X dX9_between_51 rfl ?_
            obtain ⟨o52, f52, hs⟩ := gg_bind hs
            obtain ⟨w52, e52, hs⟩ := gg_bind hs
            refine zr_callV X f52 rfl (c_X9_lengthen l e52) (fun hts => cwV 3 hts gX9_between_X9_lengthen rfl rfl rfl (by decide +kernel) ⟨by decide, by decide⟩) rfl rfl (Nat.le_of_ble_eq_true rfl) dX9_between_52 ⟨Nat.zero_le _, Nat.zero_le _⟩ ?_
            refine tt_iinc (v := x5 + 1) X dX9_between_55 rfl rfl (Nat.le_of_ble_eq_true rfl) ?_
            refine tt_goto (tgt := 41) X dX9_between_58 (by decide) ?_
            refine tt_drop [0, 1, 2, 3, 4, 5] ?_
            exact t_41 b0 x1 x2 x3 x4 (x5 + 1) w52.2 hs
      have t_31 : ∀ (b0 : Nat) (x1 : Int32) (x2 : Int32) (x3 : Int32) (x4 : Int32) (x5 : Int32) (ub0 : Nat) (ux1 : Int32) (uy2 : Int64) (h : tt_H), s_X9_between_J31 (s_X9_between_L3 n3) b0 x1 x2 x3 x4 x5 ub0 ux1 uy2 h = some ρ → tt_T tt_cl (p, l, e, rm_X9_between, s, m, args, below, meth, c, MQ below (tt_Q tt_cl D ca ad n0 sz false (tt_ret (some (.long ρ.1)) ρ.2)) args s 0 0 (tt_A ad n0 sz), D, ca, tt_A ad n0 sz, 6, some n0) ad 0 0 31 [(0, .ref b0), (1, .int x1), (2, .int x2), (3, .int x3), (4, .int x4), (5, .int x5)] [.long uy2, .int ux1, .ref ub0] h := by
        intro b0 x1 x2 x3 x4 x5 ub0 ux1 uy2 h hs
        unfold s_X9_between_J31 at hs
        obtain ⟨h31, e31, hs⟩ := gg_bind hs
        refine zr_js X e31 dX9_between_31 ?_
        refine tt_iinc (v := x5 + 1) X dX9_between_32 rfl rfl (Nat.le_of_ble_eq_true rfl) ?_
        refine tt_goto (tgt := 3) X dX9_between_35 (by decide) ?_
        refine tt_drop [0, 1, 2, 3, 4, 5] ?_
        exact t_3 b0 x1 x2 x3 x4 (x5 + 1) h31 hs
      refine tt_iload X dX9_between_3 rfl ?_
      refine tt_sipush (v := 169) X dX9_between_5 (by decide) ?_
      refine tt_icmp_ge (tgt := 38) X dX9_between_8 (by decide) (fun c8 => ?_) (fun c8 => ?_)
      · rw [if_pos c8] at hs
        refine tt_iconst (v := 0) X dX9_between_38 (by decide) ?_
        refine tt_istore X dX9_between_39 (Nat.le_of_ble_eq_true rfl) ?_
        refine tt_drop [0, 1, 2, 3, 4, 5] ?_
        exact t_41 1000 b0 x1 x2 x3 x4 0 h hs
      · rw [if_neg c8] at hs
        refine tt_aload_n X dX9_between_11 rfl ?_
        obtain ⟨o12, e12, hs⟩ := gg_bind hs
        refine zr_fr X e12 rfl in_X9_between_X9 (by decide) (by decide +kernel) rfl dX9_between_12 ?_
        refine tt_iload X dX9_between_15 rfl ?_
        refine tt_iload X dX9_between_17 rfl ?_
        refine tt_bipush (v := 13) X dX9_between_19 (by decide) ?_
        obtain ⟨q21, e21, hs⟩ := gg_bind hs
        refine tt_idiv X dX9_between_21 (zr_nz e21) ?_
        refine tt_iload_n X dX9_between_22 rfl ?_
        refine tt_icmp_ne (tgt := 30) X dX9_between_23 (by decide) (fun c23 => ?_) (fun c23 => ?_)
        · rw [if_neg c23] at hs
          refine tt_lconst (v := 0) X dX9_between_30 (by decide) ?_
          refine tt_drop [0, 1, 2, 3, 4, 5] ?_
          exact t_31 b0 x1 x2 x3 x4 x5 o12 x5 0 h hs
        · rw [if_pos c23] at hs
          refine tt_lconst (v := 1) X dX9_between_26 (by decide) ?_
          refine tt_goto (tgt := 31) X dX9_between_27 (by decide) ?_
          refine tt_drop [0, 1, 2, 3, 4, 5] ?_
          exact t_31 b0 x1 x2 x3 x4 x5 o12 x5 1 h hs
  refine tt_iconst (v := 0) X dX9_between_0 (by decide) ?_
  refine tt_istore X dX9_between_1 (Nat.le_of_ble_eq_true rfl) ?_
  refine tt_drop [0, 1, 2, 3, 4, 5] ?_
  exact t_3 1000 b0 x1 x2 x3 x4 0 h hs

theorem in_X9_isDay_X9 : ∀ w ∈ u_ws RX9 TX9 26, w ∈ wsX9_isDay := by decide +kernel
def s_X9_isDay (b0 : Nat) (x1 : Int32) (h : tt_H) : Option (Int32 × tt_H) :=
  if x1 < 0 then
    some (0, h)
  else
  (gg_fi h b0 9 6).bind fun z6 =>
  if z6 ≤ x1 then
    some (0, h)
  else
  some (1, h)
abbrev rm_X9_isDay : Room := { frames := 0, cells := 0, slots := 0, locals := 0 }
set_option maxHeartbeats 4000000 in
set_option maxRecDepth 100000 in
theorem c_X9_isDay (l : Launch) {b0 : Nat} {x1 : Int32} {h : tt_H} {ρ : Int32 × tt_H} (hs : s_X9_isDay b0 x1 h = some ρ) : tt_M tt_cl l yX9_isDay wsX9_isDay rm_X9_isDay 0 0 false [.ref b0, .int x1] h (tt_ret (some (.int ρ.1)) ρ.2) := by
  refine tt_M.of0 (cc := cX9_isDay) (maxL := 2) (ret := (some .boolean)) (by decide +kernel) rfl (Nat.le_of_ble_eq_true rfl) ?_
  intro p e s m args below meth c D ca ad n0 sz hwf hsz X hini
  unfold s_X9_isDay at hs
  refine tt_iload_n X dX9_isDay_0 rfl ?_
  refine tt_if_lt (tgt := 16) X dX9_isDay_1 (by decide) (fun c1 => ?_) (fun c1 => ?_)
  · rw [if_pos c1] at hs
    refine tt_iconst (v := 0) X dX9_isDay_16 (by decide) ?_
    obtain rfl := Option.some.inj hs
    exact tt_zret X rfl rfl dX9_isDay_17 ⟨rfl, rfl⟩
  · rw [if_neg c1] at hs
    refine tt_iload_n X dX9_isDay_4 rfl ?_
    refine tt_aload_n X dX9_isDay_5 rfl ?_
    obtain ⟨z6, e6, hs⟩ := gg_bind hs
    refine zr_fi X e6 rfl in_X9_isDay_X9 (by decide) (by decide +kernel) rfl dX9_isDay_6 ?_
    refine tt_icmp_ge (tgt := 16) X dX9_isDay_9 (by decide) (fun c9 => ?_) (fun c9 => ?_)
    · rw [if_pos c9] at hs
      refine tt_iconst (v := 0) X dX9_isDay_16 (by decide) ?_
      obtain rfl := Option.some.inj hs
      exact tt_zret X rfl rfl dX9_isDay_17 ⟨rfl, rfl⟩
    · rw [if_neg c9] at hs
      refine tt_iconst (v := 1) X dX9_isDay_12 (by decide) ?_
      refine tt_goto (tgt := 17) X dX9_isDay_13 (by decide) ?_
      obtain rfl := Option.some.inj hs
      exact tt_zret X rfl rfl dX9_isDay_17 ⟨rfl, rfl⟩

theorem in_X9_layOne_X9 : ∀ w ∈ u_ws RX9 TX9 26, w ∈ wsX9_layOne := by decide +kernel
def s_X9_layOne_J209 (b0 : Nat) (x3 : Int32) (x4 : Int32) (x6 : Int32) (x7 : Int32) (ub0 : Nat) (ux1 : Int32) (uy2 : Int64) (h : tt_H) : Option (Unit × tt_H) :=
  if x6 < x7 then
    (gg_js h ub0 ux1 (uy2 + 0)).bind fun h234 =>
    some ((), h234)
  else
  (gg_fr h b0 9 21).bind fun o217 =>
  (s_X9_spot x3 (x4 + 1) h).bind fun w225 =>
  (gg_jl w225.2 o217 w225.1).bind fun z228 =>
  (gg_js w225.2 ub0 ux1 (uy2 + z228)).bind fun h234 =>
  some ((), h234)
def s_X9_layOne_J177 (b0 : Nat) (x3 : Int32) (x4 : Int32) (x5 : Int32) (x6 : Int32) (x7 : Int32) (ub0 : Nat) (ux1 : Int32) (ux2 : Int32) (ux3 : Int32) (h : tt_H) : Option (Unit × tt_H) :=
  (gg_is h ub0 ux1 (ux2 + ux3)).bind fun h178 =>
  (gg_fr h178 b0 9 21).bind fun o180 =>
  if x7 < x6 then
    s_X9_layOne_J209 b0 x3 x4 x6 x7 o180 x5 0 h178
  else
  (gg_fr h178 b0 9 21).bind fun o193 =>
  (s_X9_spot (x3 + 1) x4 h178).bind fun w201 =>
  (gg_jl w201.2 o193 w201.1).bind fun z204 =>
  s_X9_layOne_J209 b0 x3 x4 x6 x7 o180 x5 z204 w201.2
def s_X9_layOne_J29 (b0 : Nat) (x1 : Int32) (x2 : Int32) (x3 : Int32) (x4 : Int32) (x5 : Int32) (h : tt_H) : Option (Unit × tt_H) :=
  (gg_fr h b0 9 20).bind fun o30 =>
  (gg_fr h b0 9 7).bind fun o36 =>
  (gg_il h o36 x1).bind fun z40 =>
  (gg_fr h b0 9 7).bind fun o44 =>
  (gg_il h o44 x2).bind fun z48 =>
  (gg_is h o30 x5 (((z40 - x3) + z48) - x4)).bind fun h53 =>
  (gg_fr h53 b0 9 21).bind fun o55 =>
  (gg_js h53 o55 x5 1).bind fun h61 =>
  some ((), h61)
def s_X9_layOne (b0 : Nat) (x1 : Int32) (x2 : Int32) (x3 : Int32) (x4 : Int32) (h : tt_H) : Option (Unit × tt_H) :=
  (s_X9_spot x3 x4 h).bind fun w3 =>
  (gg_fr w3.2 b0 9 7).bind fun o10 =>
  (gg_il w3.2 o10 x1).bind fun z14 =>
  if x3 = z14 then
    s_X9_layOne_J29 b0 x1 x2 x3 x4 w3.1 w3.2
  else
  (gg_fr w3.2 b0 9 7).bind fun o21 =>
  (gg_il w3.2 o21 x2).bind fun z25 =>
  if x4 = z25 then
    s_X9_layOne_J29 b0 x1 x2 x3 x4 w3.1 w3.2
  else
  (gg_obj w3.2 b0 9).bind fun _ =>
  (s_X9_wordAt b0 x1 x3 w3.2).bind fun w66 =>
  (gg_obj w66.2 b0 9).bind fun _ =>
  (s_X9_wordAt b0 x2 x4 w66.2).bind fun w73 =>
  if w66.1 = w73.1 then
    (gg_fr w73.2 b0 9 20).bind fun o80 =>
    (gg_fr w73.2 b0 9 20).bind fun o87 =>
    (s_X9_spot (x3 + 1) (x4 + 1) w73.2).bind fun w97 =>
    (gg_il w97.2 o87 w97.1).bind fun z100 =>
    (gg_is w97.2 o80 w3.1 (1 + z100)).bind fun h102 =>
    (gg_fr h102 b0 9 21).bind fun o104 =>
    (gg_fr h102 b0 9 21).bind fun o110 =>
    (s_X9_spot (x3 + 1) (x4 + 1) h102).bind fun w120 =>
    (gg_jl w120.2 o110 w120.1).bind fun z123 =>
    (gg_js w120.2 o104 w3.1 z123).bind fun h124 =>
    some ((), h124)
  else
  (gg_fr w73.2 b0 9 20).bind fun o127 =>
  (s_X9_spot (x3 + 1) x4 w73.2).bind fun w135 =>
  (gg_il w135.2 o127 w135.1).bind fun z138 =>
  (gg_fr w135.2 b0 9 20).bind fun o142 =>
  (s_X9_spot x3 (x4 + 1) w135.2).bind fun w150 =>
  (gg_il w150.2 o142 w150.1).bind fun z153 =>
  (gg_fr w150.2 b0 9 20).bind fun o157 =>
  if z153 ≤ z138 then
    s_X9_layOne_J177 b0 x3 x4 w3.1 z138 z153 o157 w3.1 1 z153 w150.2
  else
  s_X9_layOne_J177 b0 x3 x4 w3.1 z138 z153 o157 w3.1 1 z138 w150.2
abbrev rm_X9_layOne : Room := { frames := 1, cells := 0, slots := 0, locals := 22 }
set_option maxHeartbeats 4000000 in
set_option maxRecDepth 100000 in
theorem c_X9_layOne (l : Launch) {b0 : Nat} {x1 : Int32} {x2 : Int32} {x3 : Int32} {x4 : Int32} {h : tt_H} {ρ : Unit × tt_H} (hs : s_X9_layOne b0 x1 x2 x3 x4 h = some ρ) : tt_M tt_cl l yX9_layOne wsX9_layOne rm_X9_layOne 0 0 false [.ref b0, .int x1, .int x2, .int x3, .int x4] h (tt_ret (none) ρ.2) := by
  refine tt_M.of0 (cc := cX9_layOne) (maxL := 8) (ret := none) (by decide +kernel) rfl (Nat.le_of_ble_eq_true rfl) ?_
  intro p e s m args below meth c D ca ad n0 sz hwf hsz X hini
  unfold s_X9_layOne at hs
  have t_177 : ∀ (b0 : Nat) (x3 : Int32) (x4 : Int32) (x5 : Int32) (x6 : Int32) (x7 : Int32) (ub0 : Nat) (ux1 : Int32) (ux2 : Int32) (ux3 : Int32) (h : tt_H), s_X9_layOne_J177 b0 x3 x4 x5 x6 x7 ub0 ux1 ux2 ux3 h = some ρ → tt_T tt_cl (p, l, e, rm_X9_layOne, s, m, args, below, meth, c, MQ below (tt_Q tt_cl D ca ad n0 sz false (tt_ret (none) ρ.2)) args s 0 0 (tt_A ad n0 sz), D, ca, tt_A ad n0 sz, 8, some n0) ad 0 0 177 [(0, .ref b0), (3, .int x3), (4, .int x4), (5, .int x5), (6, .int x6), (7, .int x7)] [.int ux3, .int ux2, .int ux1, .ref ub0] h := by
    intro b0 x3 x4 x5 x6 x7 ub0 ux1 ux2 ux3 h hs
    unfold s_X9_layOne_J177 at hs
    have t_209 : ∀ (b0 : Nat) (x3 : Int32) (x4 : Int32) (x6 : Int32) (x7 : Int32) (ub0 : Nat) (ux1 : Int32) (uy2 : Int64) (h : tt_H), s_X9_layOne_J209 b0 x3 x4 x6 x7 ub0 ux1 uy2 h = some ρ → tt_T tt_cl (p, l, e, rm_X9_layOne, s, m, args, below, meth, c, MQ below (tt_Q tt_cl D ca ad n0 sz false (tt_ret (none) ρ.2)) args s 0 0 (tt_A ad n0 sz), D, ca, tt_A ad n0 sz, 8, some n0) ad 0 0 209 [(0, .ref b0), (3, .int x3), (4, .int x4), (6, .int x6), (7, .int x7)] [.long uy2, .int ux1, .ref ub0] h := by
      intro b0 x3 x4 x6 x7 ub0 ux1 uy2 h hs
      unfold s_X9_layOne_J209 at hs
      refine tt_iload X dX9_layOne_209 rfl ?_
      refine tt_iload X dX9_layOne_211 rfl ?_
      refine tt_icmp_gt (tgt := 232) X dX9_layOne_213 (by decide) (fun c213 => ?_) (fun c213 => ?_)
      · rw [if_pos c213] at hs
        refine tt_lconst (v := 0) X dX9_layOne_232 (by decide) ?_
        refine tt_ladd X dX9_layOne_233 ?_
        obtain ⟨h234, e234, hs⟩ := gg_bind hs
        refine zr_js X e234 dX9_layOne_234 ?_
        obtain rfl := Option.some.inj hs
        exact tt_vret X rfl dX9_layOne_235 ⟨rfl, rfl⟩
      · rw [if_neg c213] at hs
        refine tt_aload_n X dX9_layOne_216 rfl ?_
        obtain ⟨o217, e217, hs⟩ := gg_bind hs
        refine zr_fr X e217 rfl in_X9_layOne_X9 (by decide) (by decide +kernel) rfl dX9_layOne_217 ?_
        refine tt_iload_n X dX9_layOne_220 rfl ?_
        refine tt_iload X dX9_layOne_221 rfl ?_
        refine tt_iconst (v := 1) X dX9_layOne_223 (by decide) ?_
        refine tt_iadd X dX9_layOne_224 ?_
        obtain ⟨w225, e225, hs⟩ := gg_bind hs
        refine zr_callS X (c_X9_spot l e225) (fun hts => va_cwS 2 hts gX9_layOne_X9_spot rfl rfl rfl (by decide +kernel) ⟨by decide, by decide⟩) rfl rfl (Nat.le_of_ble_eq_true rfl) dX9_layOne_225 ⟨Nat.zero_le _, Nat.zero_le _⟩ ?_
        obtain ⟨z228, e228, hs⟩ := gg_bind hs
        refine zr_jl X e228 dX9_layOne_228 ?_
        refine tt_goto (tgt := 233) X dX9_layOne_229 (by decide) ?_
        refine tt_ladd X dX9_layOne_233 ?_
        obtain ⟨h234, e234, hs⟩ := gg_bind hs
        refine zr_js X e234 dX9_layOne_234 ?_
        obtain rfl := Option.some.inj hs
        exact tt_vret X rfl dX9_layOne_235 ⟨rfl, rfl⟩
    refine tt_iadd X dX9_layOne_177 ?_
    obtain ⟨h178, e178, hs⟩ := gg_bind hs
    refine zr_is X e178 dX9_layOne_178 ?_
    refine tt_aload_n X dX9_layOne_179 rfl ?_
    obtain ⟨o180, e180, hs⟩ := gg_bind hs
    refine zr_fr X e180 rfl in_X9_layOne_X9 (by decide) (by decide +kernel) rfl dX9_layOne_180 ?_
    refine tt_iload X dX9_layOne_183 rfl ?_
    refine tt_iload X dX9_layOne_185 rfl ?_
    refine tt_iload X dX9_layOne_187 rfl ?_
    refine tt_icmp_gt (tgt := 208) X dX9_layOne_189 (by decide) (fun c189 => ?_) (fun c189 => ?_)
    · rw [if_pos c189] at hs
      refine tt_lconst (v := 0) X dX9_layOne_208 (by decide) ?_
      refine tt_drop [0, 3, 4, 6, 7] ?_
      exact t_209 b0 x3 x4 x6 x7 o180 x5 0 h178 hs
    · rw [if_neg c189] at hs
      refine tt_aload_n X dX9_layOne_192 rfl ?_
      obtain ⟨o193, e193, hs⟩ := gg_bind hs
      refine zr_fr X e193 rfl in_X9_layOne_X9 (by decide) (by decide +kernel) rfl dX9_layOne_193 ?_
      refine tt_iload_n X dX9_layOne_196 rfl ?_
      refine tt_iconst (v := 1) X dX9_layOne_197 (by decide) ?_
      refine tt_iadd X dX9_layOne_198 ?_
      refine tt_iload X dX9_layOne_199 rfl ?_
      obtain ⟨w201, e201, hs⟩ := gg_bind hs
      refine zr_callS X (c_X9_spot l e201) (fun hts => va_cwS 2 hts gX9_layOne_X9_spot rfl rfl rfl (by decide +kernel) ⟨by decide, by decide⟩) rfl rfl (Nat.le_of_ble_eq_true rfl) dX9_layOne_201 ⟨Nat.zero_le _, Nat.zero_le _⟩ ?_
      obtain ⟨z204, e204, hs⟩ := gg_bind hs
      refine zr_jl X e204 dX9_layOne_204 ?_
      refine tt_goto (tgt := 209) X dX9_layOne_205 (by decide) ?_
      refine tt_drop [0, 3, 4, 6, 7] ?_
      exact t_209 b0 x3 x4 x6 x7 o180 x5 z204 w201.2 hs
  have t_29 : ∀ (b0 : Nat) (x1 : Int32) (x2 : Int32) (x3 : Int32) (x4 : Int32) (x5 : Int32) (h : tt_H), s_X9_layOne_J29 b0 x1 x2 x3 x4 x5 h = some ρ → tt_T tt_cl (p, l, e, rm_X9_layOne, s, m, args, below, meth, c, MQ below (tt_Q tt_cl D ca ad n0 sz false (tt_ret (none) ρ.2)) args s 0 0 (tt_A ad n0 sz), D, ca, tt_A ad n0 sz, 8, some n0) ad 0 0 29 [(0, .ref b0), (1, .int x1), (2, .int x2), (3, .int x3), (4, .int x4), (5, .int x5)] [] h := by
    intro b0 x1 x2 x3 x4 x5 h hs
    unfold s_X9_layOne_J29 at hs
    refine tt_aload_n X dX9_layOne_29 rfl ?_
    obtain ⟨o30, e30, hs⟩ := gg_bind hs
    refine zr_fr X e30 rfl in_X9_layOne_X9 (by decide) (by decide +kernel) rfl dX9_layOne_30 ?_
    refine tt_iload X dX9_layOne_33 rfl ?_
    refine tt_aload_n X dX9_layOne_35 rfl ?_
    obtain ⟨o36, e36, hs⟩ := gg_bind hs
    refine zr_fr X e36 rfl in_X9_layOne_X9 (by decide) (by decide +kernel) rfl dX9_layOne_36 ?_
    refine tt_iload_n X dX9_layOne_39 rfl ?_
    obtain ⟨z40, e40, hs⟩ := gg_bind hs
    refine zr_il X e40 dX9_layOne_40 ?_
    refine tt_iload_n X dX9_layOne_41 rfl ?_
    refine tt_isub X dX9_layOne_42 ?_
    refine tt_aload_n X dX9_layOne_43 rfl ?_
    obtain ⟨o44, e44, hs⟩ := gg_bind hs
    refine zr_fr X e44 rfl in_X9_layOne_X9 (by decide) (by decide +kernel) rfl dX9_layOne_44 ?_
    refine tt_iload_n X dX9_layOne_47 rfl ?_
    obtain ⟨z48, e48, hs⟩ := gg_bind hs
    refine zr_il X e48 dX9_layOne_48 ?_
    refine tt_iadd X dX9_layOne_49 ?_
    refine tt_iload X dX9_layOne_50 rfl ?_
    refine tt_isub X dX9_layOne_52 ?_
    obtain ⟨h53, e53, hs⟩ := gg_bind hs
    refine zr_is X e53 dX9_layOne_53 ?_
    refine tt_aload_n X dX9_layOne_54 rfl ?_
    obtain ⟨o55, e55, hs⟩ := gg_bind hs
    refine zr_fr X e55 rfl in_X9_layOne_X9 (by decide) (by decide +kernel) rfl dX9_layOne_55 ?_
    refine tt_iload X dX9_layOne_58 rfl ?_
    refine tt_lconst (v := 1) X dX9_layOne_60 (by decide) ?_
    obtain ⟨h61, e61, hs⟩ := gg_bind hs
    refine zr_js X e61 dX9_layOne_61 ?_
    obtain rfl := Option.some.inj hs
    exact tt_vret X rfl dX9_layOne_62 ⟨rfl, rfl⟩
  refine tt_iload_n X dX9_layOne_0 rfl ?_
  refine tt_iload X dX9_layOne_1 rfl ?_
  obtain ⟨w3, e3, hs⟩ := gg_bind hs
  refine zr_callS X (c_X9_spot l e3) (fun hts => va_cwS 2 hts gX9_layOne_X9_spot rfl rfl rfl (by decide +kernel) ⟨by decide, by decide⟩) rfl rfl (Nat.le_of_ble_eq_true rfl) dX9_layOne_3 ⟨Nat.zero_le _, Nat.zero_le _⟩ ?_
  refine tt_istore X dX9_layOne_6 (Nat.le_of_ble_eq_true rfl) ?_
  refine tt_iload_n X dX9_layOne_8 rfl ?_
  refine tt_aload_n X dX9_layOne_9 rfl ?_
  obtain ⟨o10, e10, hs⟩ := gg_bind hs
  refine zr_fr X e10 rfl in_X9_layOne_X9 (by decide) (by decide +kernel) rfl dX9_layOne_10 ?_
  refine tt_iload_n X dX9_layOne_13 rfl ?_
  obtain ⟨z14, e14, hs⟩ := gg_bind hs
  refine zr_il X e14 dX9_layOne_14 ?_
  refine tt_icmp_eq (tgt := 29) X dX9_layOne_15 (by decide) (fun c15 => ?_) (fun c15 => ?_)
  · rw [if_pos c15] at hs
    refine tt_drop [0, 1, 2, 3, 4, 5] ?_
    exact t_29 b0 x1 x2 x3 x4 w3.1 w3.2 hs
  · rw [if_neg c15] at hs
    refine tt_iload X dX9_layOne_18 rfl ?_
    refine tt_aload_n X dX9_layOne_20 rfl ?_
    obtain ⟨o21, e21, hs⟩ := gg_bind hs
    refine zr_fr X e21 rfl in_X9_layOne_X9 (by decide) (by decide +kernel) rfl dX9_layOne_21 ?_
    refine tt_iload_n X dX9_layOne_24 rfl ?_
    obtain ⟨z25, e25, hs⟩ := gg_bind hs
    refine zr_il X e25 dX9_layOne_25 ?_
    refine tt_icmp_ne (tgt := 63) X dX9_layOne_26 (by decide) (fun c26 => ?_) (fun c26 => ?_)
    · rw [if_neg c26] at hs
      refine tt_aload_n X dX9_layOne_63 rfl ?_
      refine tt_iload_n X dX9_layOne_64 rfl ?_
      refine tt_iload_n X dX9_layOne_65 rfl ?_
      obtain ⟨o66, f66, hs⟩ := gg_bind hs
      obtain ⟨w66, e66, hs⟩ := gg_bind hs
      refine zr_callV X f66 rfl (c_X9_wordAt l e66) (fun hts => cwV 2 hts gX9_layOne_X9_wordAt rfl rfl rfl (by decide +kernel) ⟨by decide, by decide⟩) rfl rfl (Nat.le_of_ble_eq_true rfl) dX9_layOne_66 ⟨Nat.zero_le _, Nat.zero_le _⟩ ?_
      refine tt_aload_n X dX9_layOne_69 rfl ?_
      refine tt_iload_n X dX9_layOne_70 rfl ?_
      refine tt_iload X dX9_layOne_71 rfl ?_
      obtain ⟨o73, f73, hs⟩ := gg_bind hs
      obtain ⟨w73, e73, hs⟩ := gg_bind hs
      refine zr_callV X f73 rfl (c_X9_wordAt l e73) (fun hts => cwV 2 hts gX9_layOne_X9_wordAt rfl rfl rfl (by decide +kernel) ⟨by decide, by decide⟩) rfl rfl (Nat.le_of_ble_eq_true rfl) dX9_layOne_73 ⟨Nat.zero_le _, Nat.zero_le _⟩ ?_
      refine tt_icmp_ne (tgt := 126) X dX9_layOne_76 (by decide) (fun c76 => ?_) (fun c76 => ?_)
      · rw [if_neg c76] at hs
        refine tt_aload_n X dX9_layOne_126 rfl ?_
        obtain ⟨o127, e127, hs⟩ := gg_bind hs
        refine zr_fr X e127 rfl in_X9_layOne_X9 (by decide) (by decide +kernel) rfl dX9_layOne_127 ?_
        refine tt_iload_n X dX9_layOne_130 rfl ?_
        refine tt_iconst (v := 1) X dX9_layOne_131 (by decide) ?_
        refine tt_iadd X dX9_layOne_132 ?_
        refine tt_iload X dX9_layOne_133 rfl ?_
        obtain ⟨w135, e135, hs⟩ := gg_bind hs
        refine zr_callS X (c_X9_spot l e135) (fun hts => va_cwS 2 hts gX9_layOne_X9_spot rfl rfl rfl (by decide +kernel) ⟨by decide, by decide⟩) rfl rfl (Nat.le_of_ble_eq_true rfl) dX9_layOne_135 ⟨Nat.zero_le _, Nat.zero_le _⟩ ?_
        obtain ⟨z138, e138, hs⟩ := gg_bind hs
        refine zr_il X e138 dX9_layOne_138 ?_
        refine tt_istore X dX9_layOne_139 (Nat.le_of_ble_eq_true rfl) ?_
        refine tt_aload_n X dX9_layOne_141 rfl ?_
        obtain ⟨o142, e142, hs⟩ := gg_bind hs
        refine zr_fr X e142 rfl in_X9_layOne_X9 (by decide) (by decide +kernel) rfl dX9_layOne_142 ?_
        refine tt_iload_n X dX9_layOne_145 rfl ?_
        refine tt_iload X dX9_layOne_146 rfl ?_
        refine tt_iconst (v := 1) X dX9_layOne_148 (by decide) ?_
        refine tt_iadd X dX9_layOne_149 ?_
        obtain ⟨w150, e150, hs⟩ := gg_bind hs
        refine zr_callS X (c_X9_spot l e150) (fun hts => va_cwS 2 hts gX9_layOne_X9_spot rfl rfl rfl (by decide +kernel) ⟨by decide, by decide⟩) rfl rfl (Nat.le_of_ble_eq_true rfl) dX9_layOne_150 ⟨Nat.zero_le _, Nat.zero_le _⟩ ?_
        obtain ⟨z153, e153, hs⟩ := gg_bind hs
        refine zr_il X e153 dX9_layOne_153 ?_
        refine tt_istore X dX9_layOne_154 (Nat.le_of_ble_eq_true rfl) ?_
        refine tt_aload_n X dX9_layOne_156 rfl ?_
        obtain ⟨o157, e157, hs⟩ := gg_bind hs
        refine zr_fr X e157 rfl in_X9_layOne_X9 (by decide) (by decide +kernel) rfl dX9_layOne_157 ?_
        refine tt_iload X dX9_layOne_160 rfl ?_
        refine tt_iconst (v := 1) X dX9_layOne_162 (by decide) ?_
        refine tt_iload X dX9_layOne_163 rfl ?_
        refine tt_iload X dX9_layOne_165 rfl ?_
        refine tt_icmp_ge (tgt := 175) X dX9_layOne_167 (by decide) (fun c167 => ?_) (fun c167 => ?_)
        · rw [if_pos c167] at hs
          refine tt_iload X dX9_layOne_175 rfl ?_
          refine tt_drop [0, 3, 4, 5, 6, 7] ?_
          exact t_177 b0 x3 x4 w3.1 z138 z153 o157 w3.1 1 z153 w150.2 hs
        · rw [if_neg c167] at hs
          refine tt_iload X dX9_layOne_170 rfl ?_
          refine tt_goto (tgt := 177) X dX9_layOne_172 (by decide) ?_
          refine tt_drop [0, 3, 4, 5, 6, 7] ?_
          exact t_177 b0 x3 x4 w3.1 z138 z153 o157 w3.1 1 z138 w150.2 hs
      · rw [if_pos c76] at hs
        refine tt_aload_n X dX9_layOne_79 rfl ?_
        obtain ⟨o80, e80, hs⟩ := gg_bind hs
        refine zr_fr X e80 rfl in_X9_layOne_X9 (by decide) (by decide +kernel) rfl dX9_layOne_80 ?_
        refine tt_iload X dX9_layOne_83 rfl ?_
        refine tt_iconst (v := 1) X dX9_layOne_85 (by decide) ?_
        refine tt_aload_n X dX9_layOne_86 rfl ?_
        obtain ⟨o87, e87, hs⟩ := gg_bind hs
        refine zr_fr X e87 rfl in_X9_layOne_X9 (by decide) (by decide +kernel) rfl dX9_layOne_87 ?_
        refine tt_iload_n X dX9_layOne_90 rfl ?_
        refine tt_iconst (v := 1) X dX9_layOne_91 (by decide) ?_
        refine tt_iadd X dX9_layOne_92 ?_
        refine tt_iload X dX9_layOne_93 rfl ?_
        refine tt_iconst (v := 1) X dX9_layOne_95 (by decide) ?_
        refine tt_iadd X dX9_layOne_96 ?_
        obtain ⟨w97, e97, hs⟩ := gg_bind hs
        refine zr_callS X (c_X9_spot l e97) (fun hts => va_cwS 2 hts gX9_layOne_X9_spot rfl rfl rfl (by decide +kernel) ⟨by decide, by decide⟩) rfl rfl (Nat.le_of_ble_eq_true rfl) dX9_layOne_97 ⟨Nat.zero_le _, Nat.zero_le _⟩ ?_
        obtain ⟨z100, e100, hs⟩ := gg_bind hs
        refine zr_il X e100 dX9_layOne_100 ?_
        refine tt_iadd X dX9_layOne_101 ?_
        obtain ⟨h102, e102, hs⟩ := gg_bind hs
        refine zr_is X e102 dX9_layOne_102 ?_
        refine tt_aload_n X dX9_layOne_103 rfl ?_
        obtain ⟨o104, e104, hs⟩ := gg_bind hs
        refine zr_fr X e104 rfl in_X9_layOne_X9 (by decide) (by decide +kernel) rfl dX9_layOne_104 ?_
        refine tt_iload X dX9_layOne_107 rfl ?_
        refine tt_aload_n X dX9_layOne_109 rfl ?_
        obtain ⟨o110, e110, hs⟩ := gg_bind hs
        refine zr_fr X e110 rfl in_X9_layOne_X9 (by decide) (by decide +kernel) rfl dX9_layOne_110 ?_
        refine tt_iload_n X dX9_layOne_113 rfl ?_
        refine tt_iconst (v := 1) X dX9_layOne_114 (by decide) ?_
        refine tt_iadd X dX9_layOne_115 ?_
        refine tt_iload X dX9_layOne_116 rfl ?_
        refine tt_iconst (v := 1) X dX9_layOne_118 (by decide) ?_
        refine tt_iadd X dX9_layOne_119 ?_
        obtain ⟨w120, e120, hs⟩ := gg_bind hs
        refine zr_callS X (c_X9_spot l e120) (fun hts => va_cwS 2 hts gX9_layOne_X9_spot rfl rfl rfl (by decide +kernel) ⟨by decide, by decide⟩) rfl rfl (Nat.le_of_ble_eq_true rfl) dX9_layOne_120 ⟨Nat.zero_le _, Nat.zero_le _⟩ ?_
        obtain ⟨z123, e123, hs⟩ := gg_bind hs
        refine zr_jl X e123 dX9_layOne_123 ?_
        obtain ⟨h124, e124, hs⟩ := gg_bind hs
        refine zr_js X e124 dX9_layOne_124 ?_
        obtain rfl := Option.some.inj hs
        exact tt_vret X rfl dX9_layOne_125 ⟨rfl, rfl⟩
    · rw [if_pos c26] at hs
      refine tt_drop [0, 1, 2, 3, 4, 5] ?_
      exact t_29 b0 x1 x2 x3 x4 w3.1 w3.2 hs

theorem in_X9_layYet_X9 : ∀ w ∈ u_ws RX9 TX9 26, w ∈ wsX9_layYet := by decide +kernel
def s_X9_layYet_L19 (κ7 : Nat → Int32 → Int32 → Int32 → tt_H → Option (Unit × tt_H)) : Nat → Nat → Int32 → Int32 → Int32 → Int32 → tt_H → Option (Unit × tt_H)
  | 0, _, _, _, _, _, _ => none
  | n + 1, b0, x1, x2, x3, x4, h =>
    if x4 < 0 then
      κ7 b0 x1 x2 (x3 + (-1)) h
    else
    (gg_obj h b0 9).bind fun _ =>
    (s_X9_layOne b0 x1 x2 x3 x4 h).bind fun w30 =>
    s_X9_layYet_L19 κ7 n b0 x1 x2 x3 (x4 + (-1)) w30.2
def s_X9_layYet_L7 : Nat → Nat → Int32 → Int32 → Int32 → tt_H → Option (Unit × tt_H)
  | 0, _, _, _, _, _ => none
  | n + 1, b0, x1, x2, x3, h =>
    if x3 < 0 then
      some ((), h)
    else
    (gg_fr h b0 9 7).bind fun o12 =>
    (gg_il h o12 x2).bind fun z16 =>
    s_X9_layYet_L19 (s_X9_layYet_L7 n) 1000 b0 x1 x2 x3 z16 h
def s_X9_layYet (b0 : Nat) (x1 : Int32) (x2 : Int32) (h : tt_H) : Option (Unit × tt_H) :=
  (gg_fr h b0 9 7).bind fun o1 =>
  (gg_il h o1 x1).bind fun z5 =>
  s_X9_layYet_L7 1000 b0 x1 x2 z5 h
abbrev rm_X9_layYet : Room := { frames := 2, cells := 0, slots := 0, locals := 49 }
set_option maxHeartbeats 4000000 in
set_option maxRecDepth 100000 in
theorem c_X9_layYet (l : Launch) {b0 : Nat} {x1 : Int32} {x2 : Int32} {h : tt_H} {ρ : Unit × tt_H} (hs : s_X9_layYet b0 x1 x2 h = some ρ) : tt_M tt_cl l yX9_layYet wsX9_layYet rm_X9_layYet 0 0 false [.ref b0, .int x1, .int x2] h (tt_ret (none) ρ.2) := by
  refine tt_M.of0 (cc := cX9_layYet) (maxL := 5) (ret := none) (by decide +kernel) rfl (Nat.le_of_ble_eq_true rfl) ?_
  intro p e s m args below meth c D ca ad n0 sz hwf hsz X hini
  unfold s_X9_layYet at hs
  have t_7 : ∀ (fu : Nat) (b0 : Nat) (x1 : Int32) (x2 : Int32) (x3 : Int32) (h : tt_H), s_X9_layYet_L7 fu b0 x1 x2 x3 h = some ρ → tt_T tt_cl (p, l, e, rm_X9_layYet, s, m, args, below, meth, c, MQ below (tt_Q tt_cl D ca ad n0 sz false (tt_ret (none) ρ.2)) args s 0 0 (tt_A ad n0 sz), D, ca, tt_A ad n0 sz, 5, some n0) ad 0 0 7 [(0, .ref b0), (1, .int x1), (2, .int x2), (3, .int x3)] [] h := by
    intro fu
    induction fu with
    | zero => intro b0 x1 x2 x3 h hs; exact absurd hs (by rw [s_X9_layYet_L7]; exact fun q => by cases q)
    | succ n7 ih =>
      intro b0 x1 x2 x3 h hs
      rw [s_X9_layYet_L7] at hs
      have t_7 := ih
      have t_19 : ∀ (fu : Nat) (b0 : Nat) (x1 : Int32) (x2 : Int32) (x3 : Int32) (x4 : Int32) (h : tt_H), s_X9_layYet_L19 (s_X9_layYet_L7 n7) fu b0 x1 x2 x3 x4 h = some ρ → tt_T tt_cl (p, l, e, rm_X9_layYet, s, m, args, below, meth, c, MQ below (tt_Q tt_cl D ca ad n0 sz false (tt_ret (none) ρ.2)) args s 0 0 (tt_A ad n0 sz), D, ca, tt_A ad n0 sz, 5, some n0) ad 0 0 19 [(0, .ref b0), (1, .int x1), (2, .int x2), (3, .int x3), (4, .int x4)] [] h := by
        intro fu
        induction fu with
        | zero => intro b0 x1 x2 x3 x4 h hs; exact absurd hs (by rw [s_X9_layYet_L19]; exact fun q => by cases q)
        | succ n19 ih =>
          intro b0 x1 x2 x3 x4 h hs
          rw [s_X9_layYet_L19] at hs
          have t_19 := ih
          refine tt_iload X dX9_layYet_19 rfl ?_
          refine tt_if_lt (tgt := 39) X dX9_layYet_21 (by decide) (fun c21 => ?_) (fun c21 => ?_)
          · rw [if_pos c21] at hs
            refine tt_iinc (v := x3 + (-1)) X dX9_layYet_39 rfl rfl (Nat.le_of_ble_eq_true rfl) ?_
            refine tt_goto (tgt := 7) X dX9_layYet_42 (by decide) ?_
            refine tt_drop [0, 1, 2, 3] ?_
            exact t_7 b0 x1 x2 (x3 + (-1)) h hs
          · rw [if_neg c21] at hs
            refine tt_aload_n X dX9_layYet_24 rfl ?_
            refine tt_iload_n X dX9_layYet_25 rfl ?_
            refine tt_iload_n X dX9_layYet_26 rfl ?_
            refine tt_iload_n X dX9_layYet_27 rfl ?_
            refine tt_iload X dX9_layYet_28 rfl ?_
            obtain ⟨o30, f30, hs⟩ := gg_bind hs
            obtain ⟨w30, e30, hs⟩ := gg_bind hs
            refine zr_callV X f30 rfl (c_X9_layOne l e30) (fun hts => cwV 4 hts gX9_layYet_X9_layOne rfl rfl rfl (by decide +kernel) ⟨by decide, by decide⟩) rfl rfl (Nat.le_of_ble_eq_true rfl) dX9_layYet_30 ⟨Nat.zero_le _, Nat.zero_le _⟩ ?_
            refine tt_iinc (v := x4 + (-1)) X dX9_layYet_33 rfl rfl (Nat.le_of_ble_eq_true rfl) ?_
            refine tt_goto (tgt := 19) X dX9_layYet_36 (by decide) ?_
            refine tt_drop [0, 1, 2, 3, 4] ?_
            exact t_19 b0 x1 x2 x3 (x4 + (-1)) w30.2 hs
      refine tt_iload_n X dX9_layYet_7 rfl ?_
      refine tt_if_lt (tgt := 45) X dX9_layYet_8 (by decide) (fun c8 => ?_) (fun c8 => ?_)
      · rw [if_pos c8] at hs
        obtain rfl := Option.some.inj hs
        exact tt_vret X rfl dX9_layYet_45 ⟨rfl, rfl⟩
      · rw [if_neg c8] at hs
        refine tt_aload_n X dX9_layYet_11 rfl ?_
        obtain ⟨o12, e12, hs⟩ := gg_bind hs
        refine zr_fr X e12 rfl in_X9_layYet_X9 (by decide) (by decide +kernel) rfl dX9_layYet_12 ?_
        refine tt_iload_n X dX9_layYet_15 rfl ?_
        obtain ⟨z16, e16, hs⟩ := gg_bind hs
        refine zr_il X e16 dX9_layYet_16 ?_
        refine tt_istore X dX9_layYet_17 (Nat.le_of_ble_eq_true rfl) ?_
        refine tt_drop [0, 1, 2, 3, 4] ?_
        exact t_19 1000 b0 x1 x2 x3 z16 h hs
  refine tt_aload_n X dX9_layYet_0 rfl ?_
  obtain ⟨o1, e1, hs⟩ := gg_bind hs
  refine zr_fr X e1 rfl in_X9_layYet_X9 (by decide) (by decide +kernel) rfl dX9_layYet_1 ?_
  refine tt_iload_n X dX9_layYet_4 rfl ?_
  obtain ⟨z5, e5, hs⟩ := gg_bind hs
  refine zr_il X e5 dX9_layYet_5 ?_
  refine tt_istore_n X dX9_layYet_6 (Nat.le_of_ble_eq_true rfl) ?_
  refine tt_drop [0, 1, 2, 3] ?_
  exact t_7 1000 b0 x1 x2 z5 h hs

theorem in_X9_both_X9 : ∀ w ∈ u_ws RX9 TX9 26, w ∈ wsX9_both := by decide +kernel
def s_X9_both (b0 : Nat) (x1 : Int32) (x2 : Int32) (x3 : Int32) (h : tt_H) : Option (Int32 × tt_H) :=
  (gg_obj h b0 9).bind fun _ =>
  (s_X9_isDay b0 x1 h).bind fun w2 =>
  if w2.1 = 0 then
    some ((-1), w2.2)
  else
  (gg_obj w2.2 b0 9).bind fun _ =>
  (s_X9_isDay b0 x2 w2.2).bind fun w10 =>
  if w10.1 = 0 then
    some ((-1), w10.2)
  else
  (s_X9_inside x3 0 1 w10.2).bind fun w21 =>
  if w21.1 = 0 then
    some ((-2), w21.2)
  else
  (gg_obj w21.2 b0 9).bind fun _ =>
  (s_X9_layYet b0 x1 x2 w21.2).bind fun w33 =>
  if x3 = 1 then
    (gg_fr w33.2 b0 9 20).bind fun o42 =>
    (gg_il w33.2 o42 0).bind fun z46 =>
    some (z46, w33.2)
  else
  (gg_fr w33.2 b0 9 7).bind fun o51 =>
  (gg_il w33.2 o51 x1).bind fun z55 =>
  (gg_fr w33.2 b0 9 7).bind fun o57 =>
  (gg_il w33.2 o57 x2).bind fun z61 =>
  (gg_fr w33.2 b0 9 20).bind fun o64 =>
  (gg_il w33.2 o64 0).bind fun z68 =>
  some ((z55 + z61) - z68, w33.2)
abbrev rm_X9_both : Room := { frames := 3, cells := 0, slots := 0, locals := 73 }
set_option maxHeartbeats 4000000 in
set_option maxRecDepth 100000 in
theorem c_X9_both (l : Launch) {b0 : Nat} {x1 : Int32} {x2 : Int32} {x3 : Int32} {h : tt_H} {ρ : Int32 × tt_H} (hs : s_X9_both b0 x1 x2 x3 h = some ρ) : tt_M tt_cl l yX9_both wsX9_both rm_X9_both 0 0 false [.ref b0, .int x1, .int x2, .int x3] h (tt_ret (some (.int ρ.1)) ρ.2) := by
  refine tt_M.of0 (cc := cX9_both) (maxL := 4) (ret := (some .int)) (by decide +kernel) rfl (Nat.le_of_ble_eq_true rfl) ?_
  intro p e s m args below meth c D ca ad n0 sz hwf hsz X hini
  unfold s_X9_both at hs
  refine tt_aload_n X dX9_both_0 rfl ?_
  refine tt_iload_n X dX9_both_1 rfl ?_
  obtain ⟨o2, f2, hs⟩ := gg_bind hs
  obtain ⟨w2, e2, hs⟩ := gg_bind hs
  refine zr_callV X f2 rfl (c_X9_isDay l e2) (fun hts => cwV 1 hts gX9_both_X9_isDay rfl rfl rfl (by decide +kernel) ⟨by decide, by decide⟩) rfl rfl (Nat.le_of_ble_eq_true rfl) dX9_both_2 ⟨Nat.zero_le _, Nat.zero_le _⟩ ?_
  refine tt_if_eq (tgt := 16) X dX9_both_5 (by decide) (fun c5 => ?_) (fun c5 => ?_)
  · rw [if_pos c5] at hs
    refine tt_iconst (v := (-1)) X dX9_both_16 (by decide) ?_
    obtain rfl := Option.some.inj hs
    exact tt_iret X rfl dX9_both_17 ⟨rfl, rfl⟩
  · rw [if_neg c5] at hs
    refine tt_aload_n X dX9_both_8 rfl ?_
    refine tt_iload_n X dX9_both_9 rfl ?_
    obtain ⟨o10, f10, hs⟩ := gg_bind hs
    obtain ⟨w10, e10, hs⟩ := gg_bind hs
    refine zr_callV X f10 rfl (c_X9_isDay l e10) (fun hts => cwV 1 hts gX9_both_X9_isDay rfl rfl rfl (by decide +kernel) ⟨by decide, by decide⟩) rfl rfl (Nat.le_of_ble_eq_true rfl) dX9_both_10 ⟨Nat.zero_le _, Nat.zero_le _⟩ ?_
    refine tt_if_ne (tgt := 18) X dX9_both_13 (by decide) (fun c13 => ?_) (fun c13 => ?_)
    · rw [if_neg c13] at hs
      refine tt_iload_n X dX9_both_18 rfl ?_
      refine tt_iconst (v := 0) X dX9_both_19 (by decide) ?_
      refine tt_iconst (v := 1) X dX9_both_20 (by decide) ?_
      obtain ⟨w21, e21, hs⟩ := gg_bind hs
      refine zr_callS X (c_X9_inside l e21) (fun hts => va_cwS 3 hts gX9_both_X9_inside rfl rfl rfl (by decide +kernel) ⟨by decide, by decide⟩) rfl rfl (Nat.le_of_ble_eq_true rfl) dX9_both_21 ⟨Nat.zero_le _, Nat.zero_le _⟩ ?_
      refine tt_if_ne (tgt := 30) X dX9_both_24 (by decide) (fun c24 => ?_) (fun c24 => ?_)
      · rw [if_neg c24] at hs
        refine tt_aload_n X dX9_both_30 rfl ?_
        refine tt_iload_n X dX9_both_31 rfl ?_
        refine tt_iload_n X dX9_both_32 rfl ?_
        obtain ⟨o33, f33, hs⟩ := gg_bind hs
        obtain ⟨w33, e33, hs⟩ := gg_bind hs
        refine zr_callV X f33 rfl (c_X9_layYet l e33) (fun hts => cwV 2 hts gX9_both_X9_layYet rfl rfl rfl (by decide +kernel) ⟨by decide, by decide⟩) rfl rfl (Nat.le_of_ble_eq_true rfl) dX9_both_33 ⟨Nat.zero_le _, Nat.zero_le _⟩ ?_
        refine tt_iload_n X dX9_both_36 rfl ?_
        refine tt_iconst (v := 1) X dX9_both_37 (by decide) ?_
        refine tt_icmp_ne (tgt := 50) X dX9_both_38 (by decide) (fun c38 => ?_) (fun c38 => ?_)
        · rw [if_neg c38] at hs
          refine tt_aload_n X dX9_both_50 rfl ?_
          obtain ⟨o51, e51, hs⟩ := gg_bind hs
          refine zr_fr X e51 rfl in_X9_both_X9 (by decide) (by decide +kernel) rfl dX9_both_51 ?_
          refine tt_iload_n X dX9_both_54 rfl ?_
          obtain ⟨z55, e55, hs⟩ := gg_bind hs
          refine zr_il X e55 dX9_both_55 ?_
          refine tt_aload_n X dX9_both_56 rfl ?_
          obtain ⟨o57, e57, hs⟩ := gg_bind hs
          refine zr_fr X e57 rfl in_X9_both_X9 (by decide) (by decide +kernel) rfl dX9_both_57 ?_
          refine tt_iload_n X dX9_both_60 rfl ?_
          obtain ⟨z61, e61, hs⟩ := gg_bind hs
          refine zr_il X e61 dX9_both_61 ?_
          refine tt_iadd X dX9_both_62 ?_
          refine tt_aload_n X dX9_both_63 rfl ?_
          obtain ⟨o64, e64, hs⟩ := gg_bind hs
          refine zr_fr X e64 rfl in_X9_both_X9 (by decide) (by decide +kernel) rfl dX9_both_64 ?_
          refine tt_iconst (v := 0) X dX9_both_67 (by decide) ?_
          obtain ⟨z68, e68, hs⟩ := gg_bind hs
          refine zr_il X e68 dX9_both_68 ?_
          refine tt_isub X dX9_both_69 ?_
          obtain rfl := Option.some.inj hs
          exact tt_iret X rfl dX9_both_70 ⟨rfl, rfl⟩
        · rw [if_pos c38] at hs
          refine tt_aload_n X dX9_both_41 rfl ?_
          obtain ⟨o42, e42, hs⟩ := gg_bind hs
          refine zr_fr X e42 rfl in_X9_both_X9 (by decide) (by decide +kernel) rfl dX9_both_42 ?_
          refine tt_iconst (v := 0) X dX9_both_45 (by decide) ?_
          obtain ⟨z46, e46, hs⟩ := gg_bind hs
          refine zr_il X e46 dX9_both_46 ?_
          refine tt_goto (tgt := 70) X dX9_both_47 (by decide) ?_
          obtain rfl := Option.some.inj hs
          exact tt_iret X rfl dX9_both_70 ⟨rfl, rfl⟩
      · rw [if_pos c24] at hs
        refine tt_bipush (v := (-2)) X dX9_both_27 (by decide) ?_
        obtain rfl := Option.some.inj hs
        exact tt_iret X rfl dX9_both_29 ⟨rfl, rfl⟩
    · rw [if_pos c13] at hs
      refine tt_iconst (v := (-1)) X dX9_both_16 (by decide) ?_
      obtain rfl := Option.some.inj hs
      exact tt_iret X rfl dX9_both_17 ⟨rfl, rfl⟩

theorem in_X9_breaths_X9 : ∀ w ∈ u_ws RX9 TX9 26, w ∈ wsX9_breaths := by decide +kernel
def s_X9_breaths_J201 (κ40 : Nat → Int32 → Int32 → Int32 → Int32 → tt_H → Option (Int32 × tt_H)) (b0 : Nat) (x1 : Int32) (x2 : Int32) (x3 : Int32) (x4 : Int32) (h : tt_H) : Option (Int32 × tt_H) :=
  κ40 b0 x1 x2 x3 (x4 + 1) h
def s_X9_breaths_J194 (κ102 : Nat → Int32 → Int32 → Int32 → Int32 → Int32 → Int32 → tt_H → Option (Int32 × tt_H)) (b0 : Nat) (x1 : Int32) (x2 : Int32) (x3 : Int32) (x4 : Int32) (x5 : Int32) (x6 : Int32) (ub0 : Nat) (ux1 : Int32) (ux2 : Int32) (h : tt_H) : Option (Int32 × tt_H) :=
  (gg_is h ub0 ux1 ux2).bind fun h194 =>
  κ102 b0 x1 x2 x3 x4 x5 (x6 + 1) h194
def s_X9_breaths_J162 (κ102 : Nat → Int32 → Int32 → Int32 → Int32 → Int32 → Int32 → tt_H → Option (Int32 × tt_H)) (b0 : Nat) (x1 : Int32) (x2 : Int32) (x3 : Int32) (x4 : Int32) (x5 : Int32) (x6 : Int32) (ux0 : Int32) (h : tt_H) : Option (Int32 × tt_H) :=
  (gg_fr h b0 9 25).bind fun o165 =>
  if ux0 = 0 then
    (gg_fr h b0 9 25).bind fun o188 =>
    (gg_il h o188 x4).bind fun z193 =>
    s_X9_breaths_J194 κ102 b0 x1 x2 x3 x4 x5 x6 o165 x4 z193 h
  else
  (gg_fr h b0 9 25).bind fun o176 =>
  (gg_il h o176 x6).bind fun z181 =>
  s_X9_breaths_J194 κ102 b0 x1 x2 x3 x4 x5 x6 o165 x4 (z181 + 1) h
def s_X9_breaths_J161 (κ162 : Nat → Int32 → Int32 → Int32 → Int32 → Int32 → Int32 → Int32 → tt_H → Option (Int32 × tt_H)) (b0 : Nat) (x1 : Int32) (x2 : Int32) (x3 : Int32) (x4 : Int32) (x5 : Int32) (x6 : Int32) (h : tt_H) : Option (Int32 × tt_H) :=
  κ162 b0 x1 x2 x3 x4 x5 x6 0 h
def s_X9_breaths_J157 (κ162 : Nat → Int32 → Int32 → Int32 → Int32 → Int32 → Int32 → Int32 → tt_H → Option (Int32 × tt_H)) (b0 : Nat) (x1 : Int32) (x2 : Int32) (x3 : Int32) (x4 : Int32) (x5 : Int32) (x6 : Int32) (h : tt_H) : Option (Int32 × tt_H) :=
  κ162 b0 x1 x2 x3 x4 x5 x6 1 h
def s_X9_breaths_L102 (κ40 : Nat → Int32 → Int32 → Int32 → Int32 → tt_H → Option (Int32 × tt_H)) : Nat → Nat → Int32 → Int32 → Int32 → Int32 → Int32 → Int32 → tt_H → Option (Int32 × tt_H)
  | 0, _, _, _, _, _, _, _, _ => none
  | n + 1, b0, x1, x2, x3, x4, x5, x6, h =>
    if x4 ≤ x6 then
      s_X9_breaths_J201 κ40 b0 x1 x2 x3 x4 h
    else
    if x5 = 0 then
      s_X9_breaths_J201 κ40 b0 x1 x2 x3 x4 h
    else
    (gg_fr h b0 9 25).bind fun o115 =>
    (gg_il h o115 x6).bind fun z120 =>
    if z120 = ((-9)) then
      s_X9_breaths_J161 (s_X9_breaths_J162 (s_X9_breaths_L102 κ40 n)) b0 x1 x2 x3 x4 x5 x6 h
    else
    (gg_fr h b0 9 25).bind fun o127 =>
    (gg_il h o127 x4).bind fun z132 =>
    if z132 = ((-9)) then
      s_X9_breaths_J157 (s_X9_breaths_J162 (s_X9_breaths_L102 κ40 n)) b0 x1 x2 x3 x4 x5 x6 h
    else
    (gg_fr h b0 9 25).bind fun o139 =>
    (gg_il h o139 x6).bind fun z144 =>
    (gg_fr h b0 9 25).bind fun o148 =>
    (gg_il h o148 x4).bind fun z153 =>
    if z153 ≤ (z144 + 1) then
      s_X9_breaths_J161 (s_X9_breaths_J162 (s_X9_breaths_L102 κ40 n)) b0 x1 x2 x3 x4 x5 x6 h
    else
    s_X9_breaths_J157 (s_X9_breaths_J162 (s_X9_breaths_L102 κ40 n)) b0 x1 x2 x3 x4 x5 x6 h
def s_X9_breaths_J100 (κ40 : Nat → Int32 → Int32 → Int32 → Int32 → tt_H → Option (Int32 × tt_H)) (b0 : Nat) (x1 : Int32) (x2 : Int32) (x3 : Int32) (x4 : Int32) (x5 : Int32) (ux0 : Int32) (h : tt_H) : Option (Int32 × tt_H) :=
  s_X9_breaths_L102 κ40 1000 b0 x1 x2 x3 x4 x5 ux0 h
def s_X9_breaths_J83 (κ40 : Nat → Int32 → Int32 → Int32 → Int32 → tt_H → Option (Int32 × tt_H)) (b0 : Nat) (x1 : Int32) (x2 : Int32) (x3 : Int32) (x4 : Int32) (ux0 : Int32) (h : tt_H) : Option (Int32 × tt_H) :=
  if 0 ≤ (x4 - x2) then
    s_X9_breaths_J100 κ40 b0 x1 x2 x3 x4 ux0 (x4 - x2) h
  else
  s_X9_breaths_J100 κ40 b0 x1 x2 x3 x4 ux0 0 h
def s_X9_breaths_J78 (κ83 : Nat → Int32 → Int32 → Int32 → Int32 → Int32 → tt_H → Option (Int32 × tt_H)) (b0 : Nat) (x1 : Int32) (x2 : Int32) (x3 : Int32) (x4 : Int32) (h : tt_H) : Option (Int32 × tt_H) :=
  κ83 b0 x1 x2 x3 x4 1 h
def s_X9_breaths_L40 : Nat → Nat → Int32 → Int32 → Int32 → Int32 → tt_H → Option (Int32 × tt_H)
  | 0, _, _, _, _, _, _ => none
  | n + 1, b0, x1, x2, x3, x4, h =>
    if x3 < x4 then
      (gg_fr h b0 9 25).bind fun o208 =>
      (gg_il h o208 x3).bind fun z212 =>
      some (z212, h)
    else
    (gg_fr h b0 9 25).bind fun o47 =>
    (gg_is h o47 x4 ((-9))).bind fun h54 =>
    if x4 = x3 then
      s_X9_breaths_J78 (s_X9_breaths_J83 (s_X9_breaths_L40 n)) b0 x1 x2 x3 x4 h54
    else
    (gg_fr h54 b0 9 5).bind fun o62 =>
    (gg_obj h54 b0 9).bind fun _ =>
    (s_X9_wordAt b0 x1 (x4 - 1) h54).bind fun w71 =>
    (gg_il w71.2 o62 w71.1).bind fun z74 =>
    if z74 = 0 then
      s_X9_breaths_J78 (s_X9_breaths_J83 (s_X9_breaths_L40 n)) b0 x1 x2 x3 x4 w71.2
    else
    s_X9_breaths_J83 (s_X9_breaths_L40 n) b0 x1 x2 x3 x4 0 w71.2
def s_X9_breaths (b0 : Nat) (x1 : Int32) (x2 : Int32) (h : tt_H) : Option (Int32 × tt_H) :=
  (gg_obj h b0 9).bind fun _ =>
  (s_X9_isDay b0 x1 h).bind fun w2 =>
  if w2.1 = 0 then
    some ((-1), w2.2)
  else
  (s_X9_inside x2 1 12 w2.2).bind fun w14 =>
  if w14.1 = 0 then
    some ((-2), w14.2)
  else
  (gg_fr w14.2 b0 9 7).bind fun o24 =>
  (gg_il w14.2 o24 x1).bind fun z28 =>
  (gg_fr w14.2 b0 9 25).bind fun o31 =>
  (gg_is w14.2 o31 0 0).bind fun h36 =>
  s_X9_breaths_L40 1000 b0 x1 x2 z28 1 h36
abbrev rm_X9_breaths : Room := { frames := 1, cells := 0, slots := 0, locals := 22 }
set_option maxHeartbeats 4000000 in
set_option maxRecDepth 100000 in
theorem c_X9_breaths (l : Launch) {b0 : Nat} {x1 : Int32} {x2 : Int32} {h : tt_H} {ρ : Int32 × tt_H} (hs : s_X9_breaths b0 x1 x2 h = some ρ) : tt_M tt_cl l yX9_breaths wsX9_breaths rm_X9_breaths 0 0 false [.ref b0, .int x1, .int x2] h (tt_ret (some (.int ρ.1)) ρ.2) := by
  refine tt_M.of0 (cc := cX9_breaths) (maxL := 8) (ret := (some .int)) (by decide +kernel) rfl (Nat.le_of_ble_eq_true rfl) ?_
  intro p e s m args below meth c D ca ad n0 sz hwf hsz X hini
  unfold s_X9_breaths at hs
  have t_40 : ∀ (fu : Nat) (b0 : Nat) (x1 : Int32) (x2 : Int32) (x3 : Int32) (x4 : Int32) (h : tt_H), s_X9_breaths_L40 fu b0 x1 x2 x3 x4 h = some ρ → tt_T tt_cl (p, l, e, rm_X9_breaths, s, m, args, below, meth, c, MQ below (tt_Q tt_cl D ca ad n0 sz false (tt_ret (some (.int ρ.1)) ρ.2)) args s 0 0 (tt_A ad n0 sz), D, ca, tt_A ad n0 sz, 8, some n0) ad 0 0 40 [(0, .ref b0), (1, .int x1), (2, .int x2), (3, .int x3), (4, .int x4)] [] h := by
    intro fu
    induction fu with
    | zero => intro b0 x1 x2 x3 x4 h hs; exact absurd hs (by rw [s_X9_breaths_L40]; exact fun q => by cases q)
    | succ n40 ih =>
      intro b0 x1 x2 x3 x4 h hs
      rw [s_X9_breaths_L40] at hs
      have t_40 := ih
      have t_83 : ∀ (b0 : Nat) (x1 : Int32) (x2 : Int32) (x3 : Int32) (x4 : Int32) (ux0 : Int32) (h : tt_H), s_X9_breaths_J83 (s_X9_breaths_L40 n40) b0 x1 x2 x3 x4 ux0 h = some ρ → tt_T tt_cl (p, l, e, rm_X9_breaths, s, m, args, below, meth, c, MQ below (tt_Q tt_cl D ca ad n0 sz false (tt_ret (some (.int ρ.1)) ρ.2)) args s 0 0 (tt_A ad n0 sz), D, ca, tt_A ad n0 sz, 8, some n0) ad 0 0 83 [(0, .ref b0), (1, .int x1), (2, .int x2), (3, .int x3), (4, .int x4)] [.int ux0] h := by
        intro b0 x1 x2 x3 x4 ux0 h hs
        unfold s_X9_breaths_J83 at hs
        have t_100 : ∀ (b0 : Nat) (x1 : Int32) (x2 : Int32) (x3 : Int32) (x4 : Int32) (x5 : Int32) (ux0 : Int32) (h : tt_H), s_X9_breaths_J100 (s_X9_breaths_L40 n40) b0 x1 x2 x3 x4 x5 ux0 h = some ρ → tt_T tt_cl (p, l, e, rm_X9_breaths, s, m, args, below, meth, c, MQ below (tt_Q tt_cl D ca ad n0 sz false (tt_ret (some (.int ρ.1)) ρ.2)) args s 0 0 (tt_A ad n0 sz), D, ca, tt_A ad n0 sz, 8, some n0) ad 0 0 100 [(0, .ref b0), (1, .int x1), (2, .int x2), (3, .int x3), (4, .int x4), (5, .int x5)] [.int ux0] h := by
          intro b0 x1 x2 x3 x4 x5 ux0 h hs
          unfold s_X9_breaths_J100 at hs
          have t_102 : ∀ (fu : Nat) (b0 : Nat) (x1 : Int32) (x2 : Int32) (x3 : Int32) (x4 : Int32) (x5 : Int32) (x6 : Int32) (h : tt_H), s_X9_breaths_L102 (s_X9_breaths_L40 n40) fu b0 x1 x2 x3 x4 x5 x6 h = some ρ → tt_T tt_cl (p, l, e, rm_X9_breaths, s, m, args, below, meth, c, MQ below (tt_Q tt_cl D ca ad n0 sz false (tt_ret (some (.int ρ.1)) ρ.2)) args s 0 0 (tt_A ad n0 sz), D, ca, tt_A ad n0 sz, 8, some n0) ad 0 0 102 [(0, .ref b0), (1, .int x1), (2, .int x2), (3, .int x3), (4, .int x4), (5, .int x5), (6, .int x6)] [] h := by
            intro fu
            induction fu with
            | zero => intro b0 x1 x2 x3 x4 x5 x6 h hs; exact absurd hs (by rw [s_X9_breaths_L102]; exact fun q => by cases q)
            | succ n102 ih =>
              intro b0 x1 x2 x3 x4 x5 x6 h hs
              rw [s_X9_breaths_L102] at hs
              have t_102 := ih
              have t_201 : ∀ (b0 : Nat) (x1 : Int32) (x2 : Int32) (x3 : Int32) (x4 : Int32) (h : tt_H), s_X9_breaths_J201 (s_X9_breaths_L40 n40) b0 x1 x2 x3 x4 h = some ρ → tt_T tt_cl (p, l, e, rm_X9_breaths, s, m, args, below, meth, c, MQ below (tt_Q tt_cl D ca ad n0 sz false (tt_ret (some (.int ρ.1)) ρ.2)) args s 0 0 (tt_A ad n0 sz), D, ca, tt_A ad n0 sz, 8, some n0) ad 0 0 201 [(0, .ref b0), (1, .int x1), (2, .int x2), (3, .int x3), (4, .int x4)] [] h := by
                intro b0 x1 x2 x3 x4 h hs
                unfold s_X9_breaths_J201 at hs
                refine tt_iinc (v := x4 + 1) X dX9_breaths_201 rfl rfl (Nat.le_of_ble_eq_true rfl) ?_
                refine tt_goto (tgt := 40) X dX9_breaths_204 (by decide) ?_
                refine tt_drop [0, 1, 2, 3, 4] ?_
                exact t_40 b0 x1 x2 x3 (x4 + 1) h hs
              have t_162 : ∀ (b0 : Nat) (x1 : Int32) (x2 : Int32) (x3 : Int32) (x4 : Int32) (x5 : Int32) (x6 : Int32) (ux0 : Int32) (h : tt_H), s_X9_breaths_J162 (s_X9_breaths_L102 (s_X9_breaths_L40 n40) n102) b0 x1 x2 x3 x4 x5 x6 ux0 h = some ρ → tt_T tt_cl (p, l, e, rm_X9_breaths, s, m, args, below, meth, c, MQ below (tt_Q tt_cl D ca ad n0 sz false (tt_ret (some (.int ρ.1)) ρ.2)) args s 0 0 (tt_A ad n0 sz), D, ca, tt_A ad n0 sz, 8, some n0) ad 0 0 162 [(0, .ref b0), (1, .int x1), (2, .int x2), (3, .int x3), (4, .int x4), (5, .int x5), (6, .int x6)] [.int ux0] h := by
                intro b0 x1 x2 x3 x4 x5 x6 ux0 h hs
                unfold s_X9_breaths_J162 at hs
                have t_194 : ∀ (b0 : Nat) (x1 : Int32) (x2 : Int32) (x3 : Int32) (x4 : Int32) (x5 : Int32) (x6 : Int32) (ub0 : Nat) (ux1 : Int32) (ux2 : Int32) (h : tt_H), s_X9_breaths_J194 (s_X9_breaths_L102 (s_X9_breaths_L40 n40) n102) b0 x1 x2 x3 x4 x5 x6 ub0 ux1 ux2 h = some ρ → tt_T tt_cl (p, l, e, rm_X9_breaths, s, m, args, below, meth, c, MQ below (tt_Q tt_cl D ca ad n0 sz false (tt_ret (some (.int ρ.1)) ρ.2)) args s 0 0 (tt_A ad n0 sz), D, ca, tt_A ad n0 sz, 8, some n0) ad 0 0 194 [(0, .ref b0), (1, .int x1), (2, .int x2), (3, .int x3), (4, .int x4), (5, .int x5), (6, .int x6)] [.int ux2, .int ux1, .ref ub0] h := by
                  intro b0 x1 x2 x3 x4 x5 x6 ub0 ux1 ux2 h hs
                  unfold s_X9_breaths_J194 at hs
                  obtain ⟨h194, e194, hs⟩ := gg_bind hs
                  refine zr_is X e194 dX9_breaths_194 ?_
                  refine tt_iinc (v := x6 + 1) X dX9_breaths_195 rfl rfl (Nat.le_of_ble_eq_true rfl) ?_
                  refine tt_goto (tgt := 102) X dX9_breaths_198 (by decide) ?_
                  refine tt_drop [0, 1, 2, 3, 4, 5, 6] ?_
                  exact t_102 b0 x1 x2 x3 x4 x5 (x6 + 1) h194 hs
                refine tt_istore X dX9_breaths_162 (Nat.le_of_ble_eq_true rfl) ?_
                refine tt_aload_n X dX9_breaths_164 rfl ?_
                obtain ⟨o165, e165, hs⟩ := gg_bind hs
                refine zr_fr X e165 rfl in_X9_breaths_X9 (by decide) (by decide +kernel) rfl dX9_breaths_165 ?_
                refine tt_iload X dX9_breaths_168 rfl ?_
                refine tt_iload X dX9_breaths_170 rfl ?_
                refine tt_if_eq (tgt := 187) X dX9_breaths_172 (by decide) (fun c172 => ?_) (fun c172 => ?_)
                · rw [if_pos c172] at hs
                  refine tt_aload_n X dX9_breaths_187 rfl ?_
                  obtain ⟨o188, e188, hs⟩ := gg_bind hs
                  refine zr_fr X e188 rfl in_X9_breaths_X9 (by decide) (by decide +kernel) rfl dX9_breaths_188 ?_
                  refine tt_iload X dX9_breaths_191 rfl ?_
                  obtain ⟨z193, e193, hs⟩ := gg_bind hs
                  refine zr_il X e193 dX9_breaths_193 ?_
                  refine tt_drop [0, 1, 2, 3, 4, 5, 6] ?_
                  exact t_194 b0 x1 x2 x3 x4 x5 x6 o165 x4 z193 h hs
                · rw [if_neg c172] at hs
                  refine tt_aload_n X dX9_breaths_175 rfl ?_
                  obtain ⟨o176, e176, hs⟩ := gg_bind hs
                  refine zr_fr X e176 rfl in_X9_breaths_X9 (by decide) (by decide +kernel) rfl dX9_breaths_176 ?_
                  refine tt_iload X dX9_breaths_179 rfl ?_
                  obtain ⟨z181, e181, hs⟩ := gg_bind hs
                  refine zr_il X e181 dX9_breaths_181 ?_
                  refine tt_iconst (v := 1) X dX9_breaths_182 (by decide) ?_
                  refine tt_iadd X dX9_breaths_183 ?_
                  refine tt_goto (tgt := 194) X dX9_breaths_184 (by decide) ?_
                  refine tt_drop [0, 1, 2, 3, 4, 5, 6] ?_
                  exact t_194 b0 x1 x2 x3 x4 x5 x6 o165 x4 (z181 + 1) h hs
              have t_161 : ∀ (b0 : Nat) (x1 : Int32) (x2 : Int32) (x3 : Int32) (x4 : Int32) (x5 : Int32) (x6 : Int32) (h : tt_H), s_X9_breaths_J161 (s_X9_breaths_J162 (s_X9_breaths_L102 (s_X9_breaths_L40 n40) n102)) b0 x1 x2 x3 x4 x5 x6 h = some ρ → tt_T tt_cl (p, l, e, rm_X9_breaths, s, m, args, below, meth, c, MQ below (tt_Q tt_cl D ca ad n0 sz false (tt_ret (some (.int ρ.1)) ρ.2)) args s 0 0 (tt_A ad n0 sz), D, ca, tt_A ad n0 sz, 8, some n0) ad 0 0 161 [(0, .ref b0), (1, .int x1), (2, .int x2), (3, .int x3), (4, .int x4), (5, .int x5), (6, .int x6)] [] h := by
                intro b0 x1 x2 x3 x4 x5 x6 h hs
                unfold s_X9_breaths_J161 at hs
                refine tt_iconst (v := 0) X dX9_breaths_161 (by decide) ?_
                refine tt_drop [0, 1, 2, 3, 4, 5, 6] ?_
                exact t_162 b0 x1 x2 x3 x4 x5 x6 0 h hs
              have t_157 : ∀ (b0 : Nat) (x1 : Int32) (x2 : Int32) (x3 : Int32) (x4 : Int32) (x5 : Int32) (x6 : Int32) (h : tt_H), s_X9_breaths_J157 (s_X9_breaths_J162 (s_X9_breaths_L102 (s_X9_breaths_L40 n40) n102)) b0 x1 x2 x3 x4 x5 x6 h = some ρ → tt_T tt_cl (p, l, e, rm_X9_breaths, s, m, args, below, meth, c, MQ below (tt_Q tt_cl D ca ad n0 sz false (tt_ret (some (.int ρ.1)) ρ.2)) args s 0 0 (tt_A ad n0 sz), D, ca, tt_A ad n0 sz, 8, some n0) ad 0 0 157 [(0, .ref b0), (1, .int x1), (2, .int x2), (3, .int x3), (4, .int x4), (5, .int x5), (6, .int x6)] [] h := by
                intro b0 x1 x2 x3 x4 x5 x6 h hs
                unfold s_X9_breaths_J157 at hs
                refine tt_iconst (v := 1) X dX9_breaths_157 (by decide) ?_
                refine tt_goto (tgt := 162) X dX9_breaths_158 (by decide) ?_
                refine tt_drop [0, 1, 2, 3, 4, 5, 6] ?_
                exact t_162 b0 x1 x2 x3 x4 x5 x6 1 h hs
              refine tt_iload X dX9_breaths_102 rfl ?_
              refine tt_iload X dX9_breaths_104 rfl ?_
              refine tt_icmp_ge (tgt := 201) X dX9_breaths_106 (by decide) (fun c106 => ?_) (fun c106 => ?_)
              · rw [if_pos c106] at hs
                refine tt_drop [0, 1, 2, 3, 4] ?_
                exact t_201 b0 x1 x2 x3 x4 h hs
              · rw [if_neg c106] at hs
                refine tt_iload X dX9_breaths_109 rfl ?_
                refine tt_if_eq (tgt := 201) X dX9_breaths_111 (by decide) (fun c111 => ?_) (fun c111 => ?_)
                · rw [if_pos c111] at hs
                  refine tt_drop [0, 1, 2, 3, 4] ?_
                  exact t_201 b0 x1 x2 x3 x4 h hs
                · rw [if_neg c111] at hs
                  refine tt_aload_n X dX9_breaths_114 rfl ?_
                  obtain ⟨o115, e115, hs⟩ := gg_bind hs
                  refine zr_fr X e115 rfl in_X9_breaths_X9 (by decide) (by decide +kernel) rfl dX9_breaths_115 ?_
                  refine tt_iload X dX9_breaths_118 rfl ?_
                  obtain ⟨z120, e120, hs⟩ := gg_bind hs
                  refine zr_il X e120 dX9_breaths_120 ?_
                  refine tt_bipush (v := (-9)) X dX9_breaths_121 (by decide) ?_
                  refine tt_icmp_eq (tgt := 161) X dX9_breaths_123 (by decide) (fun c123 => ?_) (fun c123 => ?_)
                  · rw [if_pos c123] at hs
                    refine tt_drop [0, 1, 2, 3, 4, 5, 6] ?_
                    exact t_161 b0 x1 x2 x3 x4 x5 x6 h hs
                  · rw [if_neg c123] at hs
                    refine tt_aload_n X dX9_breaths_126 rfl ?_
                    obtain ⟨o127, e127, hs⟩ := gg_bind hs
                    refine zr_fr X e127 rfl in_X9_breaths_X9 (by decide) (by decide +kernel) rfl dX9_breaths_127 ?_
                    refine tt_iload X dX9_breaths_130 rfl ?_
                    obtain ⟨z132, e132, hs⟩ := gg_bind hs
                    refine zr_il X e132 dX9_breaths_132 ?_
                    refine tt_bipush (v := (-9)) X dX9_breaths_133 (by decide) ?_
                    refine tt_icmp_eq (tgt := 157) X dX9_breaths_135 (by decide) (fun c135 => ?_) (fun c135 => ?_)
                    · rw [if_pos c135] at hs
                      refine tt_drop [0, 1, 2, 3, 4, 5, 6] ?_
                      exact t_157 b0 x1 x2 x3 x4 x5 x6 h hs
                    · rw [if_neg c135] at hs
                      refine tt_aload_n X dX9_breaths_138 rfl ?_
                      obtain ⟨o139, e139, hs⟩ := gg_bind hs
                      refine zr_fr X e139 rfl in_X9_breaths_X9 (by decide) (by decide +kernel) rfl dX9_breaths_139 ?_
                      refine tt_iload X dX9_breaths_142 rfl ?_
                      obtain ⟨z144, e144, hs⟩ := gg_bind hs
                      refine zr_il X e144 dX9_breaths_144 ?_
                      refine tt_iconst (v := 1) X dX9_breaths_145 (by decide) ?_
                      refine tt_iadd X dX9_breaths_146 ?_
                      refine tt_aload_n X dX9_breaths_147 rfl ?_
                      obtain ⟨o148, e148, hs⟩ := gg_bind hs
                      refine zr_fr X e148 rfl in_X9_breaths_X9 (by decide) (by decide +kernel) rfl dX9_breaths_148 ?_
                      refine tt_iload X dX9_breaths_151 rfl ?_
                      obtain ⟨z153, e153, hs⟩ := gg_bind hs
                      refine zr_il X e153 dX9_breaths_153 ?_
                      refine tt_icmp_ge (tgt := 161) X dX9_breaths_154 (by decide) (fun c154 => ?_) (fun c154 => ?_)
                      · rw [if_pos c154] at hs
                        refine tt_drop [0, 1, 2, 3, 4, 5, 6] ?_
                        exact t_161 b0 x1 x2 x3 x4 x5 x6 h hs
                      · rw [if_neg c154] at hs
                        refine tt_drop [0, 1, 2, 3, 4, 5, 6] ?_
                        exact t_157 b0 x1 x2 x3 x4 x5 x6 h hs
          refine tt_istore X dX9_breaths_100 (Nat.le_of_ble_eq_true rfl) ?_
          refine tt_drop [0, 1, 2, 3, 4, 5, 6] ?_
          exact t_102 1000 b0 x1 x2 x3 x4 x5 ux0 h hs
        refine tt_istore X dX9_breaths_83 (Nat.le_of_ble_eq_true rfl) ?_
        refine tt_iload X dX9_breaths_85 rfl ?_
        refine tt_iload_n X dX9_breaths_87 rfl ?_
        refine tt_isub X dX9_breaths_88 ?_
        refine tt_if_ge (tgt := 96) X dX9_breaths_89 (by decide) (fun c89 => ?_) (fun c89 => ?_)
        · rw [if_pos c89] at hs
          refine tt_iload X dX9_breaths_96 rfl ?_
          refine tt_iload_n X dX9_breaths_98 rfl ?_
          refine tt_isub X dX9_breaths_99 ?_
          refine tt_drop [0, 1, 2, 3, 4, 5] ?_
          exact t_100 b0 x1 x2 x3 x4 ux0 (x4 - x2) h hs
        · rw [if_neg c89] at hs
          refine tt_iconst (v := 0) X dX9_breaths_92 (by decide) ?_
          refine tt_goto (tgt := 100) X dX9_breaths_93 (by decide) ?_
          refine tt_drop [0, 1, 2, 3, 4, 5] ?_
          exact t_100 b0 x1 x2 x3 x4 ux0 0 h hs
      have t_78 : ∀ (b0 : Nat) (x1 : Int32) (x2 : Int32) (x3 : Int32) (x4 : Int32) (h : tt_H), s_X9_breaths_J78 (s_X9_breaths_J83 (s_X9_breaths_L40 n40)) b0 x1 x2 x3 x4 h = some ρ → tt_T tt_cl (p, l, e, rm_X9_breaths, s, m, args, below, meth, c, MQ below (tt_Q tt_cl D ca ad n0 sz false (tt_ret (some (.int ρ.1)) ρ.2)) args s 0 0 (tt_A ad n0 sz), D, ca, tt_A ad n0 sz, 8, some n0) ad 0 0 78 [(0, .ref b0), (1, .int x1), (2, .int x2), (3, .int x3), (4, .int x4)] [] h := by
        intro b0 x1 x2 x3 x4 h hs
        unfold s_X9_breaths_J78 at hs
        refine tt_iconst (v := 1) X dX9_breaths_78 (by decide) ?_
        refine tt_goto (tgt := 83) X dX9_breaths_79 (by decide) ?_
        refine tt_drop [0, 1, 2, 3, 4] ?_
        exact t_83 b0 x1 x2 x3 x4 1 h hs
      refine tt_iload X dX9_breaths_40 rfl ?_
      refine tt_iload_n X dX9_breaths_42 rfl ?_
      refine tt_icmp_gt (tgt := 207) X dX9_breaths_43 (by decide) (fun c43 => ?_) (fun c43 => ?_)
      · rw [if_pos c43] at hs
        refine tt_aload_n X dX9_breaths_207 rfl ?_
        obtain ⟨o208, e208, hs⟩ := gg_bind hs
        refine zr_fr X e208 rfl in_X9_breaths_X9 (by decide) (by decide +kernel) rfl dX9_breaths_208 ?_
        refine tt_iload_n X dX9_breaths_211 rfl ?_
        obtain ⟨z212, e212, hs⟩ := gg_bind hs
        refine zr_il X e212 dX9_breaths_212 ?_
        obtain rfl := Option.some.inj hs
        exact tt_iret X rfl dX9_breaths_213 ⟨rfl, rfl⟩
      · rw [if_neg c43] at hs
        refine tt_aload_n X dX9_breaths_46 rfl ?_
        obtain ⟨o47, e47, hs⟩ := gg_bind hs
        refine zr_fr X e47 rfl in_X9_breaths_X9 (by decide) (by decide +kernel) rfl dX9_breaths_47 ?_
        refine tt_iload X dX9_breaths_50 rfl ?_
        refine tt_bipush (v := (-9)) X dX9_breaths_52 (by decide) ?_
        obtain ⟨h54, e54, hs⟩ := gg_bind hs
        refine zr_is X e54 dX9_breaths_54 ?_
        refine tt_iload X dX9_breaths_55 rfl ?_
        refine tt_iload_n X dX9_breaths_57 rfl ?_
        refine tt_icmp_eq (tgt := 78) X dX9_breaths_58 (by decide) (fun c58 => ?_) (fun c58 => ?_)
        · rw [if_pos c58] at hs
          refine tt_drop [0, 1, 2, 3, 4] ?_
          exact t_78 b0 x1 x2 x3 x4 h54 hs
        · rw [if_neg c58] at hs
          refine tt_aload_n X dX9_breaths_61 rfl ?_
          obtain ⟨o62, e62, hs⟩ := gg_bind hs
          refine zr_fr X e62 rfl in_X9_breaths_X9 (by decide) (by decide +kernel) rfl dX9_breaths_62 ?_
          refine tt_aload_n X dX9_breaths_65 rfl ?_
          refine tt_iload_n X dX9_breaths_66 rfl ?_
          refine tt_iload X dX9_breaths_67 rfl ?_
          refine tt_iconst (v := 1) X dX9_breaths_69 (by decide) ?_
          refine tt_isub X dX9_breaths_70 ?_
          obtain ⟨o71, f71, hs⟩ := gg_bind hs
          obtain ⟨w71, e71, hs⟩ := gg_bind hs
          refine zr_callV X f71 rfl (c_X9_wordAt l e71) (fun hts => cwV 2 hts gX9_breaths_X9_wordAt rfl rfl rfl (by decide +kernel) ⟨by decide, by decide⟩) rfl rfl (Nat.le_of_ble_eq_true rfl) dX9_breaths_71 ⟨Nat.zero_le _, Nat.zero_le _⟩ ?_
          obtain ⟨z74, e74, hs⟩ := gg_bind hs
          refine zr_il X e74 dX9_breaths_74 ?_
          refine tt_if_ne (tgt := 82) X dX9_breaths_75 (by decide) (fun c75 => ?_) (fun c75 => ?_)
          · rw [if_neg c75] at hs
            refine tt_iconst (v := 0) X dX9_breaths_82 (by decide) ?_
            refine tt_drop [0, 1, 2, 3, 4] ?_
            exact t_83 b0 x1 x2 x3 x4 0 w71.2 hs
          · rw [if_pos c75] at hs
            refine tt_drop [0, 1, 2, 3, 4] ?_
            exact t_78 b0 x1 x2 x3 x4 w71.2 hs
  refine tt_aload_n X dX9_breaths_0 rfl ?_
  refine tt_iload_n X dX9_breaths_1 rfl ?_
  obtain ⟨o2, f2, hs⟩ := gg_bind hs
  obtain ⟨w2, e2, hs⟩ := gg_bind hs
  refine zr_callV X f2 rfl (c_X9_isDay l e2) (fun hts => cwV 1 hts gX9_breaths_X9_isDay rfl rfl rfl (by decide +kernel) ⟨by decide, by decide⟩) rfl rfl (Nat.le_of_ble_eq_true rfl) dX9_breaths_2 ⟨Nat.zero_le _, Nat.zero_le _⟩ ?_
  refine tt_if_ne (tgt := 10) X dX9_breaths_5 (by decide) (fun c5 => ?_) (fun c5 => ?_)
  · rw [if_neg c5] at hs
    refine tt_iload_n X dX9_breaths_10 rfl ?_
    refine tt_iconst (v := 1) X dX9_breaths_11 (by decide) ?_
    refine tt_bipush (v := 12) X dX9_breaths_12 (by decide) ?_
    obtain ⟨w14, e14, hs⟩ := gg_bind hs
    refine zr_callS X (c_X9_inside l e14) (fun hts => va_cwS 3 hts gX9_breaths_X9_inside rfl rfl rfl (by decide +kernel) ⟨by decide, by decide⟩) rfl rfl (Nat.le_of_ble_eq_true rfl) dX9_breaths_14 ⟨Nat.zero_le _, Nat.zero_le _⟩ ?_
    refine tt_if_ne (tgt := 23) X dX9_breaths_17 (by decide) (fun c17 => ?_) (fun c17 => ?_)
    · rw [if_neg c17] at hs
      refine tt_aload_n X dX9_breaths_23 rfl ?_
      obtain ⟨o24, e24, hs⟩ := gg_bind hs
      refine zr_fr X e24 rfl in_X9_breaths_X9 (by decide) (by decide +kernel) rfl dX9_breaths_24 ?_
      refine tt_iload_n X dX9_breaths_27 rfl ?_
      obtain ⟨z28, e28, hs⟩ := gg_bind hs
      refine zr_il X e28 dX9_breaths_28 ?_
      refine tt_istore_n X dX9_breaths_29 (Nat.le_of_ble_eq_true rfl) ?_
      refine tt_aload_n X dX9_breaths_30 rfl ?_
      obtain ⟨o31, e31, hs⟩ := gg_bind hs
      refine zr_fr X e31 rfl in_X9_breaths_X9 (by decide) (by decide +kernel) rfl dX9_breaths_31 ?_
      refine tt_iconst (v := 0) X dX9_breaths_34 (by decide) ?_
      refine tt_iconst (v := 0) X dX9_breaths_35 (by decide) ?_
      obtain ⟨h36, e36, hs⟩ := gg_bind hs
      refine zr_is X e36 dX9_breaths_36 ?_
      refine tt_iconst (v := 1) X dX9_breaths_37 (by decide) ?_
      refine tt_istore X dX9_breaths_38 (Nat.le_of_ble_eq_true rfl) ?_
      refine tt_drop [0, 1, 2, 3, 4] ?_
      exact t_40 1000 b0 x1 x2 z28 1 h36 hs
    · rw [if_pos c17] at hs
      refine tt_bipush (v := (-2)) X dX9_breaths_20 (by decide) ?_
      obtain rfl := Option.some.inj hs
      exact tt_iret X rfl dX9_breaths_22 ⟨rfl, rfl⟩
  · rw [if_pos c5] at hs
    refine tt_iconst (v := (-1)) X dX9_breaths_8 (by decide) ?_
    obtain rfl := Option.some.inj hs
    exact tt_iret X rfl dX9_breaths_9 ⟨rfl, rfl⟩

def s_X9_isSheet (x0 : Int32) (h : tt_H) : Option (Int32 × tt_H) :=
  (s_X9_inside x0 0 3 h).bind fun w3 =>
  (gg_b w3.1).bind fun _ =>
  some (w3.1, w3.2)
abbrev rm_X9_isSheet : Room := { frames := 1, cells := 0, slots := 0, locals := 22 }
set_option maxHeartbeats 4000000 in
set_option maxRecDepth 100000 in
theorem c_X9_isSheet (l : Launch) {x0 : Int32} {h : tt_H} {ρ : Int32 × tt_H} (hs : s_X9_isSheet x0 h = some ρ) : tt_M tt_cl l yX9_isSheet wsX9_isSheet rm_X9_isSheet 0 0 false [.int x0] h (tt_ret (some (.int ρ.1)) ρ.2) := by
  refine tt_M.of0 (cc := cX9_isSheet) (maxL := 1) (ret := (some .boolean)) (by decide +kernel) rfl (Nat.le_of_ble_eq_true rfl) ?_
  intro p e s m args below meth c D ca ad n0 sz hwf hsz X hini
  unfold s_X9_isSheet at hs
  refine tt_iload_n X dX9_isSheet_0 rfl ?_
  refine tt_iconst (v := 0) X dX9_isSheet_1 (by decide) ?_
  refine tt_iconst (v := 3) X dX9_isSheet_2 (by decide) ?_
  obtain ⟨w3, e3, hs⟩ := gg_bind hs
  refine zr_callS X (c_X9_inside l e3) (fun hts => va_cwS 3 hts gX9_isSheet_X9_inside rfl rfl rfl (by decide +kernel) ⟨by decide, by decide⟩) rfl rfl (Nat.le_of_ble_eq_true rfl) dX9_isSheet_3 ⟨Nat.zero_le _, Nat.zero_le _⟩ ?_
  obtain ⟨q6, e6, hs⟩ := gg_bind hs
  obtain rfl := Option.some.inj hs
  exact tt_zret X rfl (gg_b_ok e6) dX9_isSheet_6 ⟨rfl, rfl⟩

def s_X9_isSort (x0 : Int32) (h : tt_H) : Option (Int32 × tt_H) :=
  (s_X9_inside x0 0 2 h).bind fun w3 =>
  (gg_b w3.1).bind fun _ =>
  some (w3.1, w3.2)
abbrev rm_X9_isSort : Room := { frames := 1, cells := 0, slots := 0, locals := 22 }
set_option maxHeartbeats 4000000 in
set_option maxRecDepth 100000 in
theorem c_X9_isSort (l : Launch) {x0 : Int32} {h : tt_H} {ρ : Int32 × tt_H} (hs : s_X9_isSort x0 h = some ρ) : tt_M tt_cl l yX9_isSort wsX9_isSort rm_X9_isSort 0 0 false [.int x0] h (tt_ret (some (.int ρ.1)) ρ.2) := by
  refine tt_M.of0 (cc := cX9_isSort) (maxL := 1) (ret := (some .boolean)) (by decide +kernel) rfl (Nat.le_of_ble_eq_true rfl) ?_
  intro p e s m args below meth c D ca ad n0 sz hwf hsz X hini
  unfold s_X9_isSort at hs
  refine tt_iload_n X dX9_isSort_0 rfl ?_
  refine tt_iconst (v := 0) X dX9_isSort_1 (by decide) ?_
  refine tt_iconst (v := 2) X dX9_isSort_2 (by decide) ?_
  obtain ⟨w3, e3, hs⟩ := gg_bind hs
  refine zr_callS X (c_X9_inside l e3) (fun hts => va_cwS 3 hts gX9_isSort_X9_inside rfl rfl rfl (by decide +kernel) ⟨by decide, by decide⟩) rfl rfl (Nat.le_of_ble_eq_true rfl) dX9_isSort_3 ⟨Nat.zero_le _, Nat.zero_le _⟩ ?_
  obtain ⟨q6, e6, hs⟩ := gg_bind hs
  obtain rfl := Option.some.inj hs
  exact tt_zret X rfl (gg_b_ok e6) dX9_isSort_6 ⟨rfl, rfl⟩

theorem in_X9_lost_X9 : ∀ w ∈ u_ws RX9 TX9 26, w ∈ wsX9_lost := by decide +kernel
def s_X9_lost (b0 : Nat) (x1 : Int32) (h : tt_H) : Option (Int64 × tt_H) :=
  (gg_put h b0 9 0 (.int x1)).bind fun h2 =>
  some ((-9223372036854775808), h2)
abbrev rm_X9_lost : Room := { frames := 0, cells := 0, slots := 0, locals := 0 }
set_option maxHeartbeats 4000000 in
set_option maxRecDepth 100000 in
theorem c_X9_lost (l : Launch) {b0 : Nat} {x1 : Int32} {h : tt_H} {ρ : Int64 × tt_H} (hs : s_X9_lost b0 x1 h = some ρ) : tt_M tt_cl l yX9_lost wsX9_lost rm_X9_lost 0 0 false [.ref b0, .int x1] h (tt_ret (some (.long ρ.1)) ρ.2) := by
  refine tt_M.of0 (cc := cX9_lost) (maxL := 2) (ret := (some .long)) (by decide +kernel) rfl (Nat.le_of_ble_eq_true rfl) ?_
  intro p e s m args below meth c D ca ad n0 sz hwf hsz X hini
  unfold s_X9_lost at hs
  refine tt_aload_n X dX9_lost_0 rfl ?_
  refine tt_iload_n X dX9_lost_1 rfl ?_
  obtain ⟨h2, e2, hs⟩ := gg_bind hs
  refine zr_put X e2 rfl in_X9_lost_X9 tyX9 tyX9_ok nmX9 (by decide) (by decide +kernel) rfl rfl (fun _ => rfl) (fun _ => rfl) dX9_lost_2 ?_
  refine tt_ldc2 (v := (-9223372036854775808)) X (by decide +kernel) dX9_lost_5 ?_
  obtain rfl := Option.some.inj hs
  exact tt_lret X rfl dX9_lost_8 ⟨rfl, rfl⟩

theorem in_X9_cell_X9 : ∀ w ∈ u_ws RX9 TX9 26, w ∈ wsX9_cell := by decide +kernel
def s_X9_cell_J50 (b0 : Nat) (x1 : Int32) (x2 : Int32) (h : tt_H) : Option (Int64 × tt_H) :=
  (gg_fr h b0 9 2).bind fun o51 =>
  (gg_il h o51 x1).bind fun z55 =>
  if z55 = ((-9)) then
    (gg_obj h b0 9).bind fun _ =>
    (s_X9_lost b0 1 h).bind fun w63 =>
    some (w63.1, w63.2)
  else
  (gg_fr h b0 9 3).bind fun o70 =>
  (gg_il h o70 x1).bind fun z74 =>
  (s_X9_inside x2 0 (z74 - 1) h).bind fun w77 =>
  if w77.1 = 0 then
    (gg_obj w77.2 b0 9).bind fun _ =>
    (s_X9_lost b0 3 w77.2).bind fun w85 =>
    some (w85.1, w85.2)
  else
  (gg_fr w77.2 b0 9 4).bind fun o90 =>
  (gg_il w77.2 o90 ((80 * x1) + x2)).bind fun z99 =>
  some (z99.toInt64, w77.2)
def s_X9_cell (b0 : Nat) (x1 : Int32) (x2 : Int32) (x3 : Int32) (h : tt_H) : Option (Int64 × tt_H) :=
  (gg_put h b0 9 0 (.int 0)).bind fun h2 =>
  (s_X9_isSheet x1 h2).bind fun w6 =>
  if w6.1 = 0 then
    some ((-9223372036854775808), w6.2)
  else
  (s_X9_isSort x3 w6.2).bind fun w13 =>
  if w13.1 = 0 then
    some ((-9223372036854775808), w13.2)
  else
  (gg_fr w13.2 b0 9 2).bind fun o24 =>
  (gg_il w13.2 o24 x1).bind fun z28 =>
  if z28 = ((-9)) then
    s_X9_cell_J50 b0 x1 x2 w13.2
  else
  (gg_fr w13.2 b0 9 2).bind fun o35 =>
  (gg_il w13.2 o35 x1).bind fun z39 =>
  if z39 = x3 then
    s_X9_cell_J50 b0 x1 x2 w13.2
  else
  (gg_obj w13.2 b0 9).bind fun _ =>
  (s_X9_lost b0 2 w13.2).bind fun w46 =>
  some (w46.1, w46.2)
abbrev rm_X9_cell : Room := { frames := 2, cells := 0, slots := 0, locals := 42 }
set_option maxHeartbeats 4000000 in
set_option maxRecDepth 100000 in
theorem c_X9_cell (l : Launch) {b0 : Nat} {x1 : Int32} {x2 : Int32} {x3 : Int32} {h : tt_H} {ρ : Int64 × tt_H} (hs : s_X9_cell b0 x1 x2 x3 h = some ρ) : tt_M tt_cl l yX9_cell wsX9_cell rm_X9_cell 0 0 false [.ref b0, .int x1, .int x2, .int x3] h (tt_ret (some (.long ρ.1)) ρ.2) := by
  refine tt_M.of0 (cc := cX9_cell) (maxL := 4) (ret := (some .long)) (by decide +kernel) rfl (Nat.le_of_ble_eq_true rfl) ?_
  intro p e s m args below meth c D ca ad n0 sz hwf hsz X hini
  unfold s_X9_cell at hs
  have t_50 : ∀ (b0 : Nat) (x1 : Int32) (x2 : Int32) (h : tt_H), s_X9_cell_J50 b0 x1 x2 h = some ρ → tt_T tt_cl (p, l, e, rm_X9_cell, s, m, args, below, meth, c, MQ below (tt_Q tt_cl D ca ad n0 sz false (tt_ret (some (.long ρ.1)) ρ.2)) args s 0 0 (tt_A ad n0 sz), D, ca, tt_A ad n0 sz, 4, some n0) ad 0 0 50 [(0, .ref b0), (1, .int x1), (2, .int x2)] [] h := by
    intro b0 x1 x2 h hs
    unfold s_X9_cell_J50 at hs
    refine tt_aload_n X dX9_cell_50 rfl ?_
    obtain ⟨o51, e51, hs⟩ := gg_bind hs
    refine zr_fr X e51 rfl in_X9_cell_X9 (by decide) (by decide +kernel) rfl dX9_cell_51 ?_
    refine tt_iload_n X dX9_cell_54 rfl ?_
    obtain ⟨z55, e55, hs⟩ := gg_bind hs
    refine zr_il X e55 dX9_cell_55 ?_
    refine tt_bipush (v := (-9)) X dX9_cell_56 (by decide) ?_
    refine tt_icmp_ne (tgt := 67) X dX9_cell_58 (by decide) (fun c58 => ?_) (fun c58 => ?_)
    · rw [if_neg c58] at hs
      refine tt_iload_n X dX9_cell_67 rfl ?_
      refine tt_iconst (v := 0) X dX9_cell_68 (by decide) ?_
      refine tt_aload_n X dX9_cell_69 rfl ?_
      obtain ⟨o70, e70, hs⟩ := gg_bind hs
      refine zr_fr X e70 rfl in_X9_cell_X9 (by decide) (by decide +kernel) rfl dX9_cell_70 ?_
      refine tt_iload_n X dX9_cell_73 rfl ?_
      obtain ⟨z74, e74, hs⟩ := gg_bind hs
      refine zr_il X e74 dX9_cell_74 ?_
      refine tt_iconst (v := 1) X dX9_cell_75 (by decide) ?_
      refine tt_isub X dX9_cell_76 ?_
      obtain ⟨w77, e77, hs⟩ := gg_bind hs
      refine zr_callS X (c_X9_inside l e77) (fun hts => va_cwS 3 hts gX9_cell_X9_inside rfl rfl rfl (by decide +kernel) ⟨by decide, by decide⟩) rfl rfl (Nat.le_of_ble_eq_true rfl) dX9_cell_77 ⟨Nat.zero_le _, Nat.zero_le _⟩ ?_
      refine tt_if_ne (tgt := 89) X dX9_cell_80 (by decide) (fun c80 => ?_) (fun c80 => ?_)
      · rw [if_neg c80] at hs
        refine tt_aload_n X dX9_cell_89 rfl ?_
        obtain ⟨o90, e90, hs⟩ := gg_bind hs
        refine zr_fr X e90 rfl in_X9_cell_X9 (by decide) (by decide +kernel) rfl dX9_cell_90 ?_
        refine tt_bipush (v := 80) X dX9_cell_93 (by decide) ?_
        refine tt_iload_n X dX9_cell_95 rfl ?_
        refine tt_imul X dX9_cell_96 ?_
        refine tt_iload_n X dX9_cell_97 rfl ?_
        refine tt_iadd X dX9_cell_98 ?_
        obtain ⟨z99, e99, hs⟩ := gg_bind hs
        refine zr_il X e99 dX9_cell_99 ?_
        refine tt_i2l X dX9_cell_100 ?_
        obtain rfl := Option.some.inj hs
        exact tt_lret X rfl dX9_cell_101 ⟨rfl, rfl⟩
      · rw [if_pos c80] at hs
        refine tt_aload_n X dX9_cell_83 rfl ?_
        refine tt_iconst (v := 3) X dX9_cell_84 (by decide) ?_
        obtain ⟨o85, f85, hs⟩ := gg_bind hs
        obtain ⟨w85, e85, hs⟩ := gg_bind hs
        refine zr_callV X f85 rfl (c_X9_lost l e85) (fun hts => cwV 1 hts gX9_cell_X9_lost rfl rfl rfl (by decide +kernel) ⟨by decide, by decide⟩) rfl rfl (Nat.le_of_ble_eq_true rfl) dX9_cell_85 ⟨Nat.zero_le _, Nat.zero_le _⟩ ?_
        obtain rfl := Option.some.inj hs
        exact tt_lret X rfl dX9_cell_88 ⟨rfl, rfl⟩
    · rw [if_pos c58] at hs
      refine tt_aload_n X dX9_cell_61 rfl ?_
      refine tt_iconst (v := 1) X dX9_cell_62 (by decide) ?_
      obtain ⟨o63, f63, hs⟩ := gg_bind hs
      obtain ⟨w63, e63, hs⟩ := gg_bind hs
      refine zr_callV X f63 rfl (c_X9_lost l e63) (fun hts => cwV 1 hts gX9_cell_X9_lost rfl rfl rfl (by decide +kernel) ⟨by decide, by decide⟩) rfl rfl (Nat.le_of_ble_eq_true rfl) dX9_cell_63 ⟨Nat.zero_le _, Nat.zero_le _⟩ ?_
      obtain rfl := Option.some.inj hs
      exact tt_lret X rfl dX9_cell_66 ⟨rfl, rfl⟩
  refine tt_aload_n X dX9_cell_0 rfl ?_
  refine tt_iconst (v := 0) X dX9_cell_1 (by decide) ?_
  obtain ⟨h2, e2, hs⟩ := gg_bind hs
  refine zr_put X e2 rfl in_X9_cell_X9 tyX9 tyX9_ok nmX9 (by decide) (by decide +kernel) rfl rfl (fun _ => rfl) (fun _ => rfl) dX9_cell_2 ?_
  refine tt_iload_n X dX9_cell_5 rfl ?_
  obtain ⟨w6, e6, hs⟩ := gg_bind hs
  refine zr_callS X (c_X9_isSheet l e6) (fun hts => va_cwS 1 hts gX9_cell_X9_isSheet rfl rfl rfl (by decide +kernel) ⟨by decide, by decide⟩) rfl rfl (Nat.le_of_ble_eq_true rfl) dX9_cell_6 ⟨Nat.zero_le _, Nat.zero_le _⟩ ?_
  refine tt_if_eq (tgt := 19) X dX9_cell_9 (by decide) (fun c9 => ?_) (fun c9 => ?_)
  · rw [if_pos c9] at hs
    refine tt_ldc2 (v := (-9223372036854775808)) X (by decide +kernel) dX9_cell_19 ?_
    obtain rfl := Option.some.inj hs
    exact tt_lret X rfl dX9_cell_22 ⟨rfl, rfl⟩
  · rw [if_neg c9] at hs
    refine tt_iload_n X dX9_cell_12 rfl ?_
    obtain ⟨w13, e13, hs⟩ := gg_bind hs
    refine zr_callS X (c_X9_isSort l e13) (fun hts => va_cwS 1 hts gX9_cell_X9_isSort rfl rfl rfl (by decide +kernel) ⟨by decide, by decide⟩) rfl rfl (Nat.le_of_ble_eq_true rfl) dX9_cell_13 ⟨Nat.zero_le _, Nat.zero_le _⟩ ?_
    refine tt_if_ne (tgt := 23) X dX9_cell_16 (by decide) (fun c16 => ?_) (fun c16 => ?_)
    · rw [if_neg c16] at hs
      refine tt_aload_n X dX9_cell_23 rfl ?_
      obtain ⟨o24, e24, hs⟩ := gg_bind hs
      refine zr_fr X e24 rfl in_X9_cell_X9 (by decide) (by decide +kernel) rfl dX9_cell_24 ?_
      refine tt_iload_n X dX9_cell_27 rfl ?_
      obtain ⟨z28, e28, hs⟩ := gg_bind hs
      refine zr_il X e28 dX9_cell_28 ?_
      refine tt_bipush (v := (-9)) X dX9_cell_29 (by decide) ?_
      refine tt_icmp_eq (tgt := 50) X dX9_cell_31 (by decide) (fun c31 => ?_) (fun c31 => ?_)
      · rw [if_pos c31] at hs
        refine tt_drop [0, 1, 2] ?_
        exact t_50 b0 x1 x2 w13.2 hs
      · rw [if_neg c31] at hs
        refine tt_aload_n X dX9_cell_34 rfl ?_
        obtain ⟨o35, e35, hs⟩ := gg_bind hs
        refine zr_fr X e35 rfl in_X9_cell_X9 (by decide) (by decide +kernel) rfl dX9_cell_35 ?_
        refine tt_iload_n X dX9_cell_38 rfl ?_
        obtain ⟨z39, e39, hs⟩ := gg_bind hs
        refine zr_il X e39 dX9_cell_39 ?_
        refine tt_iload_n X dX9_cell_40 rfl ?_
        refine tt_icmp_eq (tgt := 50) X dX9_cell_41 (by decide) (fun c41 => ?_) (fun c41 => ?_)
        · rw [if_pos c41] at hs
          refine tt_drop [0, 1, 2] ?_
          exact t_50 b0 x1 x2 w13.2 hs
        · rw [if_neg c41] at hs
          refine tt_aload_n X dX9_cell_44 rfl ?_
          refine tt_iconst (v := 2) X dX9_cell_45 (by decide) ?_
          obtain ⟨o46, f46, hs⟩ := gg_bind hs
          obtain ⟨w46, e46, hs⟩ := gg_bind hs
          refine zr_callV X f46 rfl (c_X9_lost l e46) (fun hts => cwV 1 hts gX9_cell_X9_lost rfl rfl rfl (by decide +kernel) ⟨by decide, by decide⟩) rfl rfl (Nat.le_of_ble_eq_true rfl) dX9_cell_46 ⟨Nat.zero_le _, Nat.zero_le _⟩ ?_
          obtain rfl := Option.some.inj hs
          exact tt_lret X rfl dX9_cell_49 ⟨rfl, rfl⟩
    · rw [if_pos c16] at hs
      refine tt_ldc2 (v := (-9223372036854775808)) X (by decide +kernel) dX9_cell_19 ?_
      obtain rfl := Option.some.inj hs
      exact tt_lret X rfl dX9_cell_22 ⟨rfl, rfl⟩

theorem in_X9_copy_X9 : ∀ w ∈ u_ws RX9 TX9 26, w ∈ wsX9_copy := by decide +kernel
def s_X9_copy_J190 (κ166 : Nat → Int32 → Int32 → Int32 → Int32 → Int32 → Int32 → Int32 → tt_H → Option (Int32 × tt_H)) (b0 : Nat) (x1 : Int32) (x2 : Int32) (x3 : Int32) (x4 : Int32) (x5 : Int32) (x7 : Int32) (x8 : Int32) (ux0 : Int32) (h : tt_H) : Option (Int32 × tt_H) :=
  (gg_fr h b0 9 4).bind fun o193 =>
  (gg_fr h b0 9 4).bind fun o207 =>
  (gg_il h o207 (((80 * x1) + x2) + ux0)).bind fun z219 =>
  (gg_is h o193 (((80 * x3) + x4) + ux0) z219).bind fun h220 =>
  κ166 b0 x1 x2 x3 x4 x5 x7 (x8 + 1) h220
def s_X9_copy_L166 : Nat → Nat → Int32 → Int32 → Int32 → Int32 → Int32 → Int32 → Int32 → tt_H → Option (Int32 × tt_H)
  | 0, _, _, _, _, _, _, _, _, _ => none
  | n + 1, b0, x1, x2, x3, x4, x5, x7, x8, h =>
    if x5 ≤ x8 then
      some (x5, h)
    else
    if x7 = 0 then
      s_X9_copy_J190 (s_X9_copy_L166 n) b0 x1 x2 x3 x4 x5 x7 x8 x8 h
    else
    s_X9_copy_J190 (s_X9_copy_L166 n) b0 x1 x2 x3 x4 x5 x7 x8 ((x5 - 1) - x8) h
def s_X9_copy_J161 (b0 : Nat) (x1 : Int32) (x2 : Int32) (x3 : Int32) (x4 : Int32) (x5 : Int32) (ux0 : Int32) (h : tt_H) : Option (Int32 × tt_H) :=
  s_X9_copy_L166 1000 b0 x1 x2 x3 x4 x5 ux0 0 h
def s_X9_copy_J144 (b0 : Nat) (h : tt_H) : Option (Int32 × tt_H) :=
  (gg_obj h b0 9).bind fun _ =>
  (s_X9_fails b0 3 h).bind fun w146 =>
  some (w146.1, w146.2)
def s_X9_copy_J110 (b0 : Nat) (x1 : Int32) (x2 : Int32) (x3 : Int32) (x4 : Int32) (x5 : Int32) (ux0 : Int32) (h : tt_H) : Option (Int32 × tt_H) :=
  if ux0 = 0 then
    s_X9_copy_J144 b0 h
  else
  (gg_fr h b0 9 3).bind fun o120 =>
  (gg_il h o120 x1).bind fun z124 =>
  if (z124 - x2) < x5 then
    s_X9_copy_J144 b0 h
  else
  (gg_fr h b0 9 3).bind fun o133 =>
  (gg_il h o133 x3).bind fun z137 =>
  if x5 ≤ (z137 - x4) then
    if x4 ≤ x2 then
      s_X9_copy_J161 b0 x1 x2 x3 x4 x5 0 h
    else
    s_X9_copy_J161 b0 x1 x2 x3 x4 x5 1 h
  else
  s_X9_copy_J144 b0 h
def s_X9_copy_J109 (κ110 : Nat → Int32 → Int32 → Int32 → Int32 → Int32 → Int32 → tt_H → Option (Int32 × tt_H)) (b0 : Nat) (x1 : Int32) (x2 : Int32) (x3 : Int32) (x4 : Int32) (x5 : Int32) (h : tt_H) : Option (Int32 × tt_H) :=
  κ110 b0 x1 x2 x3 x4 x5 0 h
def s_X9_copy_J43 (b0 : Nat) (h : tt_H) : Option (Int32 × tt_H) :=
  (gg_obj h b0 9).bind fun _ =>
  (s_X9_fails b0 1 h).bind fun w45 =>
  some (w45.1, w45.2)
def s_X9_copy (b0 : Nat) (x1 : Int32) (x2 : Int32) (x3 : Int32) (x4 : Int32) (x5 : Int32) (h : tt_H) : Option (Int32 × tt_H) :=
  (gg_put h b0 9 0 (.int 0)).bind fun h2 =>
  (s_X9_isSheet x1 h2).bind fun w6 =>
  if w6.1 = 0 then
    some ((-1), w6.2)
  else
  (s_X9_isSheet x3 w6.2).bind fun w13 =>
  if w13.1 = 0 then
    some ((-1), w13.2)
  else
  (gg_fr w13.2 b0 9 2).bind fun o22 =>
  (gg_il w13.2 o22 x1).bind fun z26 =>
  if z26 = ((-9)) then
    s_X9_copy_J43 b0 w13.2
  else
  (gg_fr w13.2 b0 9 2).bind fun o33 =>
  (gg_il w13.2 o33 x3).bind fun z37 =>
  if z37 = ((-9)) then
    s_X9_copy_J43 b0 w13.2
  else
  (gg_fr w13.2 b0 9 2).bind fun o50 =>
  (gg_il w13.2 o50 x1).bind fun z54 =>
  (gg_fr w13.2 b0 9 2).bind fun o56 =>
  (gg_il w13.2 o56 x3).bind fun z60 =>
  if z54 = z60 then
    if x2 < 0 then
      s_X9_copy_J109 s_X9_copy_J110 b0 x1 x2 x3 x4 x5 w13.2
    else
    if x4 < 0 then
      s_X9_copy_J109 s_X9_copy_J110 b0 x1 x2 x3 x4 x5 w13.2
    else
    if x5 < 0 then
      s_X9_copy_J109 s_X9_copy_J110 b0 x1 x2 x3 x4 x5 w13.2
    else
    (gg_fr w13.2 b0 9 3).bind fun o86 =>
    (gg_il w13.2 o86 x1).bind fun z90 =>
    if z90 < x2 then
      s_X9_copy_J109 s_X9_copy_J110 b0 x1 x2 x3 x4 x5 w13.2
    else
    (gg_fr w13.2 b0 9 3).bind fun o97 =>
    (gg_il w13.2 o97 x3).bind fun z101 =>
    if z101 < x4 then
      s_X9_copy_J109 s_X9_copy_J110 b0 x1 x2 x3 x4 x5 w13.2
    else
    s_X9_copy_J110 b0 x1 x2 x3 x4 x5 1 w13.2
  else
  (gg_obj w13.2 b0 9).bind fun _ =>
  (s_X9_fails b0 2 w13.2).bind fun w66 =>
  some (w66.1, w66.2)
abbrev rm_X9_copy : Room := { frames := 2, cells := 0, slots := 0, locals := 42 }
set_option maxHeartbeats 4000000 in
set_option maxRecDepth 100000 in
theorem c_X9_copy (l : Launch) {b0 : Nat} {x1 : Int32} {x2 : Int32} {x3 : Int32} {x4 : Int32} {x5 : Int32} {h : tt_H} {ρ : Int32 × tt_H} (hs : s_X9_copy b0 x1 x2 x3 x4 x5 h = some ρ) : tt_M tt_cl l yX9_copy wsX9_copy rm_X9_copy 0 0 false [.ref b0, .int x1, .int x2, .int x3, .int x4, .int x5] h (tt_ret (some (.int ρ.1)) ρ.2) := by
  refine tt_M.of0 (cc := cX9_copy) (maxL := 10) (ret := (some .int)) (by decide +kernel) rfl (Nat.le_of_ble_eq_true rfl) ?_
  intro p e s m args below meth c D ca ad n0 sz hwf hsz X hini
  unfold s_X9_copy at hs
  have t_110 : ∀ (b0 : Nat) (x1 : Int32) (x2 : Int32) (x3 : Int32) (x4 : Int32) (x5 : Int32) (ux0 : Int32) (h : tt_H), s_X9_copy_J110 b0 x1 x2 x3 x4 x5 ux0 h = some ρ → tt_T tt_cl (p, l, e, rm_X9_copy, s, m, args, below, meth, c, MQ below (tt_Q tt_cl D ca ad n0 sz false (tt_ret (some (.int ρ.1)) ρ.2)) args s 0 0 (tt_A ad n0 sz), D, ca, tt_A ad n0 sz, 10, some n0) ad 0 0 110 [(0, .ref b0), (1, .int x1), (2, .int x2), (3, .int x3), (4, .int x4), (5, .int x5)] [.int ux0] h := by
    intro b0 x1 x2 x3 x4 x5 ux0 h hs
    unfold s_X9_copy_J110 at hs
    have t_161 : ∀ (b0 : Nat) (x1 : Int32) (x2 : Int32) (x3 : Int32) (x4 : Int32) (x5 : Int32) (ux0 : Int32) (h : tt_H), s_X9_copy_J161 b0 x1 x2 x3 x4 x5 ux0 h = some ρ → tt_T tt_cl (p, l, e, rm_X9_copy, s, m, args, below, meth, c, MQ below (tt_Q tt_cl D ca ad n0 sz false (tt_ret (some (.int ρ.1)) ρ.2)) args s 0 0 (tt_A ad n0 sz), D, ca, tt_A ad n0 sz, 10, some n0) ad 0 0 161 [(0, .ref b0), (1, .int x1), (2, .int x2), (3, .int x3), (4, .int x4), (5, .int x5)] [.int ux0] h := by
      intro b0 x1 x2 x3 x4 x5 ux0 h hs
      unfold s_X9_copy_J161 at hs
      have t_166 : ∀ (fu : Nat) (b0 : Nat) (x1 : Int32) (x2 : Int32) (x3 : Int32) (x4 : Int32) (x5 : Int32) (x7 : Int32) (x8 : Int32) (h : tt_H), s_X9_copy_L166 fu b0 x1 x2 x3 x4 x5 x7 x8 h = some ρ → tt_T tt_cl (p, l, e, rm_X9_copy, s, m, args, below, meth, c, MQ below (tt_Q tt_cl D ca ad n0 sz false (tt_ret (some (.int ρ.1)) ρ.2)) args s 0 0 (tt_A ad n0 sz), D, ca, tt_A ad n0 sz, 10, some n0) ad 0 0 166 [(0, .ref b0), (1, .int x1), (2, .int x2), (3, .int x3), (4, .int x4), (5, .int x5), (7, .int x7), (8, .int x8)] [] h := by
        intro fu
        induction fu with
        | zero => intro b0 x1 x2 x3 x4 x5 x7 x8 h hs; exact absurd hs (by rw [s_X9_copy_L166]; exact fun q => by cases q)
        | succ n166 ih =>
          intro b0 x1 x2 x3 x4 x5 x7 x8 h hs
          rw [s_X9_copy_L166] at hs
          have t_166 := ih
          have t_190 : ∀ (b0 : Nat) (x1 : Int32) (x2 : Int32) (x3 : Int32) (x4 : Int32) (x5 : Int32) (x7 : Int32) (x8 : Int32) (ux0 : Int32) (h : tt_H), s_X9_copy_J190 (s_X9_copy_L166 n166) b0 x1 x2 x3 x4 x5 x7 x8 ux0 h = some ρ → tt_T tt_cl (p, l, e, rm_X9_copy, s, m, args, below, meth, c, MQ below (tt_Q tt_cl D ca ad n0 sz false (tt_ret (some (.int ρ.1)) ρ.2)) args s 0 0 (tt_A ad n0 sz), D, ca, tt_A ad n0 sz, 10, some n0) ad 0 0 190 [(0, .ref b0), (1, .int x1), (2, .int x2), (3, .int x3), (4, .int x4), (5, .int x5), (7, .int x7), (8, .int x8)] [.int ux0] h := by
            intro b0 x1 x2 x3 x4 x5 x7 x8 ux0 h hs
            unfold s_X9_copy_J190 at hs
            refine tt_istore X dX9_copy_190 (Nat.le_of_ble_eq_true rfl) ?_
            refine tt_aload_n X dX9_copy_192 rfl ?_
            obtain ⟨o193, e193, hs⟩ := gg_bind hs
            refine zr_fr X e193 rfl in_X9_copy_X9 (by decide) (by decide +kernel) rfl dX9_copy_193 ?_
            refine tt_bipush (v := 80) X dX9_copy_196 (by decide) ?_
            refine tt_iload_n X dX9_copy_198 rfl ?_
            refine tt_imul X dX9_copy_199 ?_
            refine tt_iload X dX9_copy_200 rfl ?_
            refine tt_iadd X dX9_copy_202 ?_
            refine tt_iload X dX9_copy_203 rfl ?_
            refine tt_iadd X dX9_copy_205 ?_
            refine tt_aload_n X dX9_copy_206 rfl ?_
            obtain ⟨o207, e207, hs⟩ := gg_bind hs
            refine zr_fr X e207 rfl in_X9_copy_X9 (by decide) (by decide +kernel) rfl dX9_copy_207 ?_
            refine tt_bipush (v := 80) X dX9_copy_210 (by decide) ?_
            refine tt_iload_n X dX9_copy_212 rfl ?_
            refine tt_imul X dX9_copy_213 ?_
            refine tt_iload_n X dX9_copy_214 rfl ?_
            refine tt_iadd X dX9_copy_215 ?_
            refine tt_iload X dX9_copy_216 rfl ?_
            refine tt_iadd X dX9_copy_218 ?_
            obtain ⟨z219, e219, hs⟩ := gg_bind hs
            refine zr_il X e219 dX9_copy_219 ?_
            obtain ⟨h220, e220, hs⟩ := gg_bind hs
            refine zr_is X e220 dX9_copy_220 ?_
            refine tt_iinc (v := x8 + 1) X dX9_copy_221 rfl rfl (Nat.le_of_ble_eq_true rfl) ?_
            refine tt_goto (tgt := 166) X dX9_copy_224 (by decide) ?_
            refine tt_drop [0, 1, 2, 3, 4, 5, 7, 8] ?_
            exact t_166 b0 x1 x2 x3 x4 x5 x7 (x8 + 1) h220 hs
          refine tt_iload X dX9_copy_166 rfl ?_
          refine tt_iload X dX9_copy_168 rfl ?_
          refine tt_icmp_ge (tgt := 227) X dX9_copy_170 (by decide) (fun c170 => ?_) (fun c170 => ?_)
          · rw [if_pos c170] at hs
            refine tt_iload X dX9_copy_227 rfl ?_
            obtain rfl := Option.some.inj hs
            exact tt_iret X rfl dX9_copy_229 ⟨rfl, rfl⟩
          · rw [if_neg c170] at hs
            refine tt_iload X dX9_copy_173 rfl ?_
            refine tt_if_eq (tgt := 188) X dX9_copy_175 (by decide) (fun c175 => ?_) (fun c175 => ?_)
            · rw [if_pos c175] at hs
              refine tt_iload X dX9_copy_188 rfl ?_
              refine tt_drop [0, 1, 2, 3, 4, 5, 7, 8] ?_
              exact t_190 b0 x1 x2 x3 x4 x5 x7 x8 x8 h hs
            · rw [if_neg c175] at hs
              refine tt_iload X dX9_copy_178 rfl ?_
              refine tt_iconst (v := 1) X dX9_copy_180 (by decide) ?_
              refine tt_isub X dX9_copy_181 ?_
              refine tt_iload X dX9_copy_182 rfl ?_
              refine tt_isub X dX9_copy_184 ?_
              refine tt_goto (tgt := 190) X dX9_copy_185 (by decide) ?_
              refine tt_drop [0, 1, 2, 3, 4, 5, 7, 8] ?_
              exact t_190 b0 x1 x2 x3 x4 x5 x7 x8 ((x5 - 1) - x8) h hs
      refine tt_istore X dX9_copy_161 (Nat.le_of_ble_eq_true rfl) ?_
      refine tt_iconst (v := 0) X dX9_copy_163 (by decide) ?_
      refine tt_istore X dX9_copy_164 (Nat.le_of_ble_eq_true rfl) ?_
      refine tt_drop [0, 1, 2, 3, 4, 5, 7, 8] ?_
      exact t_166 1000 b0 x1 x2 x3 x4 x5 ux0 0 h hs
    have t_144 : ∀ (b0 : Nat) (h : tt_H), s_X9_copy_J144 b0 h = some ρ → tt_T tt_cl (p, l, e, rm_X9_copy, s, m, args, below, meth, c, MQ below (tt_Q tt_cl D ca ad n0 sz false (tt_ret (some (.int ρ.1)) ρ.2)) args s 0 0 (tt_A ad n0 sz), D, ca, tt_A ad n0 sz, 10, some n0) ad 0 0 144 [(0, .ref b0)] [] h := by
      intro b0 h hs
      unfold s_X9_copy_J144 at hs
      refine tt_aload_n X dX9_copy_144 rfl ?_
      refine tt_iconst (v := 3) X dX9_copy_145 (by decide) ?_
      obtain ⟨o146, f146, hs⟩ := gg_bind hs
      obtain ⟨w146, e146, hs⟩ := gg_bind hs
      refine zr_callV X f146 rfl (c_X9_fails l e146) (fun hts => cwV 1 hts gX9_copy_X9_fails rfl rfl rfl (by decide +kernel) ⟨by decide, by decide⟩) rfl rfl (Nat.le_of_ble_eq_true rfl) dX9_copy_146 ⟨Nat.zero_le _, Nat.zero_le _⟩ ?_
      obtain rfl := Option.some.inj hs
      exact tt_iret X rfl dX9_copy_149 ⟨rfl, rfl⟩
    refine tt_istore X dX9_copy_110 (Nat.le_of_ble_eq_true rfl) ?_
    refine tt_iload X dX9_copy_112 rfl ?_
    refine tt_if_eq (tgt := 144) X dX9_copy_114 (by decide) (fun c114 => ?_) (fun c114 => ?_)
    · rw [if_pos c114] at hs
      refine tt_drop [0] ?_
      exact t_144 b0 h hs
    · rw [if_neg c114] at hs
      refine tt_iload X dX9_copy_117 rfl ?_
      refine tt_aload_n X dX9_copy_119 rfl ?_
      obtain ⟨o120, e120, hs⟩ := gg_bind hs
      refine zr_fr X e120 rfl in_X9_copy_X9 (by decide) (by decide +kernel) rfl dX9_copy_120 ?_
      refine tt_iload_n X dX9_copy_123 rfl ?_
      obtain ⟨z124, e124, hs⟩ := gg_bind hs
      refine zr_il X e124 dX9_copy_124 ?_
      refine tt_iload_n X dX9_copy_125 rfl ?_
      refine tt_isub X dX9_copy_126 ?_
      refine tt_icmp_gt (tgt := 144) X dX9_copy_127 (by decide) (fun c127 => ?_) (fun c127 => ?_)
      · rw [if_pos c127] at hs
        refine tt_drop [0] ?_
        exact t_144 b0 h hs
      · rw [if_neg c127] at hs
        refine tt_iload X dX9_copy_130 rfl ?_
        refine tt_aload_n X dX9_copy_132 rfl ?_
        obtain ⟨o133, e133, hs⟩ := gg_bind hs
        refine zr_fr X e133 rfl in_X9_copy_X9 (by decide) (by decide +kernel) rfl dX9_copy_133 ?_
        refine tt_iload_n X dX9_copy_136 rfl ?_
        obtain ⟨z137, e137, hs⟩ := gg_bind hs
        refine zr_il X e137 dX9_copy_137 ?_
        refine tt_iload X dX9_copy_138 rfl ?_
        refine tt_isub X dX9_copy_140 ?_
        refine tt_icmp_le (tgt := 150) X dX9_copy_141 (by decide) (fun c141 => ?_) (fun c141 => ?_)
        · rw [if_pos c141] at hs
          refine tt_iload_n X dX9_copy_150 rfl ?_
          refine tt_iload X dX9_copy_151 rfl ?_
          refine tt_icmp_ge (tgt := 160) X dX9_copy_153 (by decide) (fun c153 => ?_) (fun c153 => ?_)
          · rw [if_pos c153] at hs
            refine tt_iconst (v := 0) X dX9_copy_160 (by decide) ?_
            refine tt_drop [0, 1, 2, 3, 4, 5] ?_
            exact t_161 b0 x1 x2 x3 x4 x5 0 h hs
          · rw [if_neg c153] at hs
            refine tt_iconst (v := 1) X dX9_copy_156 (by decide) ?_
            refine tt_goto (tgt := 161) X dX9_copy_157 (by decide) ?_
            refine tt_drop [0, 1, 2, 3, 4, 5] ?_
            exact t_161 b0 x1 x2 x3 x4 x5 1 h hs
        · rw [if_neg c141] at hs
          refine tt_drop [0] ?_
          exact t_144 b0 h hs
  have t_109 : ∀ (b0 : Nat) (x1 : Int32) (x2 : Int32) (x3 : Int32) (x4 : Int32) (x5 : Int32) (h : tt_H), s_X9_copy_J109 s_X9_copy_J110 b0 x1 x2 x3 x4 x5 h = some ρ → tt_T tt_cl (p, l, e, rm_X9_copy, s, m, args, below, meth, c, MQ below (tt_Q tt_cl D ca ad n0 sz false (tt_ret (some (.int ρ.1)) ρ.2)) args s 0 0 (tt_A ad n0 sz), D, ca, tt_A ad n0 sz, 10, some n0) ad 0 0 109 [(0, .ref b0), (1, .int x1), (2, .int x2), (3, .int x3), (4, .int x4), (5, .int x5)] [] h := by
    intro b0 x1 x2 x3 x4 x5 h hs
    unfold s_X9_copy_J109 at hs
    refine tt_iconst (v := 0) X dX9_copy_109 (by decide) ?_
    refine tt_drop [0, 1, 2, 3, 4, 5] ?_
    exact t_110 b0 x1 x2 x3 x4 x5 0 h hs
  have t_43 : ∀ (b0 : Nat) (h : tt_H), s_X9_copy_J43 b0 h = some ρ → tt_T tt_cl (p, l, e, rm_X9_copy, s, m, args, below, meth, c, MQ below (tt_Q tt_cl D ca ad n0 sz false (tt_ret (some (.int ρ.1)) ρ.2)) args s 0 0 (tt_A ad n0 sz), D, ca, tt_A ad n0 sz, 10, some n0) ad 0 0 43 [(0, .ref b0)] [] h := by
    intro b0 h hs
    unfold s_X9_copy_J43 at hs
    refine tt_aload_n X dX9_copy_43 rfl ?_
    refine tt_iconst (v := 1) X dX9_copy_44 (by decide) ?_
    obtain ⟨o45, f45, hs⟩ := gg_bind hs
    obtain ⟨w45, e45, hs⟩ := gg_bind hs
    refine zr_callV X f45 rfl (c_X9_fails l e45) (fun hts => cwV 1 hts gX9_copy_X9_fails rfl rfl rfl (by decide +kernel) ⟨by decide, by decide⟩) rfl rfl (Nat.le_of_ble_eq_true rfl) dX9_copy_45 ⟨Nat.zero_le _, Nat.zero_le _⟩ ?_
    obtain rfl := Option.some.inj hs
    exact tt_iret X rfl dX9_copy_48 ⟨rfl, rfl⟩
  refine tt_aload_n X dX9_copy_0 rfl ?_
  refine tt_iconst (v := 0) X dX9_copy_1 (by decide) ?_
  obtain ⟨h2, e2, hs⟩ := gg_bind hs
  refine zr_put X e2 rfl in_X9_copy_X9 tyX9 tyX9_ok nmX9 (by decide) (by decide +kernel) rfl rfl (fun _ => rfl) (fun _ => rfl) dX9_copy_2 ?_
  refine tt_iload_n X dX9_copy_5 rfl ?_
  obtain ⟨w6, e6, hs⟩ := gg_bind hs
  refine zr_callS X (c_X9_isSheet l e6) (fun hts => va_cwS 1 hts gX9_copy_X9_isSheet rfl rfl rfl (by decide +kernel) ⟨by decide, by decide⟩) rfl rfl (Nat.le_of_ble_eq_true rfl) dX9_copy_6 ⟨Nat.zero_le _, Nat.zero_le _⟩ ?_
  refine tt_if_eq (tgt := 19) X dX9_copy_9 (by decide) (fun c9 => ?_) (fun c9 => ?_)
  · rw [if_pos c9] at hs
    refine tt_iconst (v := (-1)) X dX9_copy_19 (by decide) ?_
    obtain rfl := Option.some.inj hs
    exact tt_iret X rfl dX9_copy_20 ⟨rfl, rfl⟩
  · rw [if_neg c9] at hs
    refine tt_iload_n X dX9_copy_12 rfl ?_
    obtain ⟨w13, e13, hs⟩ := gg_bind hs
    refine zr_callS X (c_X9_isSheet l e13) (fun hts => va_cwS 1 hts gX9_copy_X9_isSheet rfl rfl rfl (by decide +kernel) ⟨by decide, by decide⟩) rfl rfl (Nat.le_of_ble_eq_true rfl) dX9_copy_13 ⟨Nat.zero_le _, Nat.zero_le _⟩ ?_
    refine tt_if_ne (tgt := 21) X dX9_copy_16 (by decide) (fun c16 => ?_) (fun c16 => ?_)
    · rw [if_neg c16] at hs
      refine tt_aload_n X dX9_copy_21 rfl ?_
      obtain ⟨o22, e22, hs⟩ := gg_bind hs
      refine zr_fr X e22 rfl in_X9_copy_X9 (by decide) (by decide +kernel) rfl dX9_copy_22 ?_
      refine tt_iload_n X dX9_copy_25 rfl ?_
      obtain ⟨z26, e26, hs⟩ := gg_bind hs
      refine zr_il X e26 dX9_copy_26 ?_
      refine tt_bipush (v := (-9)) X dX9_copy_27 (by decide) ?_
      refine tt_icmp_eq (tgt := 43) X dX9_copy_29 (by decide) (fun c29 => ?_) (fun c29 => ?_)
      · rw [if_pos c29] at hs
        refine tt_drop [0] ?_
        exact t_43 b0 w13.2 hs
      · rw [if_neg c29] at hs
        refine tt_aload_n X dX9_copy_32 rfl ?_
        obtain ⟨o33, e33, hs⟩ := gg_bind hs
        refine zr_fr X e33 rfl in_X9_copy_X9 (by decide) (by decide +kernel) rfl dX9_copy_33 ?_
        refine tt_iload_n X dX9_copy_36 rfl ?_
        obtain ⟨z37, e37, hs⟩ := gg_bind hs
        refine zr_il X e37 dX9_copy_37 ?_
        refine tt_bipush (v := (-9)) X dX9_copy_38 (by decide) ?_
        refine tt_icmp_ne (tgt := 49) X dX9_copy_40 (by decide) (fun c40 => ?_) (fun c40 => ?_)
        · rw [if_neg c40] at hs
          refine tt_aload_n X dX9_copy_49 rfl ?_
          obtain ⟨o50, e50, hs⟩ := gg_bind hs
          refine zr_fr X e50 rfl in_X9_copy_X9 (by decide) (by decide +kernel) rfl dX9_copy_50 ?_
          refine tt_iload_n X dX9_copy_53 rfl ?_
          obtain ⟨z54, e54, hs⟩ := gg_bind hs
          refine zr_il X e54 dX9_copy_54 ?_
          refine tt_aload_n X dX9_copy_55 rfl ?_
          obtain ⟨o56, e56, hs⟩ := gg_bind hs
          refine zr_fr X e56 rfl in_X9_copy_X9 (by decide) (by decide +kernel) rfl dX9_copy_56 ?_
          refine tt_iload_n X dX9_copy_59 rfl ?_
          obtain ⟨z60, e60, hs⟩ := gg_bind hs
          refine zr_il X e60 dX9_copy_60 ?_
          refine tt_icmp_eq (tgt := 70) X dX9_copy_61 (by decide) (fun c61 => ?_) (fun c61 => ?_)
          · rw [if_pos c61] at hs
            refine tt_iload_n X dX9_copy_70 rfl ?_
            refine tt_if_lt (tgt := 109) X dX9_copy_71 (by decide) (fun c71 => ?_) (fun c71 => ?_)
            · rw [if_pos c71] at hs
              refine tt_drop [0, 1, 2, 3, 4, 5] ?_
              exact t_109 b0 x1 x2 x3 x4 x5 w13.2 hs
            · rw [if_neg c71] at hs
              refine tt_iload X dX9_copy_74 rfl ?_
              refine tt_if_lt (tgt := 109) X dX9_copy_76 (by decide) (fun c76 => ?_) (fun c76 => ?_)
              · rw [if_pos c76] at hs
                refine tt_drop [0, 1, 2, 3, 4, 5] ?_
                exact t_109 b0 x1 x2 x3 x4 x5 w13.2 hs
              · rw [if_neg c76] at hs
                refine tt_iload X dX9_copy_79 rfl ?_
                refine tt_if_lt (tgt := 109) X dX9_copy_81 (by decide) (fun c81 => ?_) (fun c81 => ?_)
                · rw [if_pos c81] at hs
                  refine tt_drop [0, 1, 2, 3, 4, 5] ?_
                  exact t_109 b0 x1 x2 x3 x4 x5 w13.2 hs
                · rw [if_neg c81] at hs
                  refine tt_iload_n X dX9_copy_84 rfl ?_
                  refine tt_aload_n X dX9_copy_85 rfl ?_
                  obtain ⟨o86, e86, hs⟩ := gg_bind hs
                  refine zr_fr X e86 rfl in_X9_copy_X9 (by decide) (by decide +kernel) rfl dX9_copy_86 ?_
                  refine tt_iload_n X dX9_copy_89 rfl ?_
                  obtain ⟨z90, e90, hs⟩ := gg_bind hs
                  refine zr_il X e90 dX9_copy_90 ?_
                  refine tt_icmp_gt (tgt := 109) X dX9_copy_91 (by decide) (fun c91 => ?_) (fun c91 => ?_)
                  · rw [if_pos c91] at hs
                    refine tt_drop [0, 1, 2, 3, 4, 5] ?_
                    exact t_109 b0 x1 x2 x3 x4 x5 w13.2 hs
                  · rw [if_neg c91] at hs
                    refine tt_iload X dX9_copy_94 rfl ?_
                    refine tt_aload_n X dX9_copy_96 rfl ?_
                    obtain ⟨o97, e97, hs⟩ := gg_bind hs
                    refine zr_fr X e97 rfl in_X9_copy_X9 (by decide) (by decide +kernel) rfl dX9_copy_97 ?_
                    refine tt_iload_n X dX9_copy_100 rfl ?_
                    obtain ⟨z101, e101, hs⟩ := gg_bind hs
                    refine zr_il X e101 dX9_copy_101 ?_
                    refine tt_icmp_gt (tgt := 109) X dX9_copy_102 (by decide) (fun c102 => ?_) (fun c102 => ?_)
                    · rw [if_pos c102] at hs
                      refine tt_drop [0, 1, 2, 3, 4, 5] ?_
                      exact t_109 b0 x1 x2 x3 x4 x5 w13.2 hs
                    · rw [if_neg c102] at hs
                      refine tt_iconst (v := 1) X dX9_copy_105 (by decide) ?_
                      refine tt_goto (tgt := 110) X dX9_copy_106 (by decide) ?_
                      refine tt_drop [0, 1, 2, 3, 4, 5] ?_
                      exact t_110 b0 x1 x2 x3 x4 x5 1 w13.2 hs
          · rw [if_neg c61] at hs
            refine tt_aload_n X dX9_copy_64 rfl ?_
            refine tt_iconst (v := 2) X dX9_copy_65 (by decide) ?_
            obtain ⟨o66, f66, hs⟩ := gg_bind hs
            obtain ⟨w66, e66, hs⟩ := gg_bind hs
            refine zr_callV X f66 rfl (c_X9_fails l e66) (fun hts => cwV 1 hts gX9_copy_X9_fails rfl rfl rfl (by decide +kernel) ⟨by decide, by decide⟩) rfl rfl (Nat.le_of_ble_eq_true rfl) dX9_copy_66 ⟨Nat.zero_le _, Nat.zero_le _⟩ ?_
            obtain rfl := Option.some.inj hs
            exact tt_iret X rfl dX9_copy_69 ⟨rfl, rfl⟩
        · rw [if_pos c40] at hs
          refine tt_drop [0] ?_
          exact t_43 b0 w13.2 hs
    · rw [if_pos c16] at hs
      refine tt_iconst (v := (-1)) X dX9_copy_19 (by decide) ?_
      obtain rfl := Option.some.inj hs
      exact tt_iret X rfl dX9_copy_20 ⟨rfl, rfl⟩

theorem in_X9_readCries_X9 : ∀ w ∈ u_ws RX9 TX9 26, w ∈ wsX9_readCries := by decide +kernel
def s_X9_readCries_J139 (κ5 : Nat → Int32 → tt_H → Option (Int32 × tt_H)) (b0 : Nat) (x1 : Int32) (x2 : Int32) (h : tt_H) : Option (Int32 × tt_H) :=
  if x2 = 0 then
    some (0, h)
  else
  (gg_fr h b0 9 11).bind fun o146 =>
  (gg_fi h b0 9 10).bind fun z150 =>
  (gg_is h o146 z150 x2).bind fun h154 =>
  (gg_fi h154 b0 9 10).bind fun z157 =>
  (gg_put h154 b0 9 10 (.int (z157 + 1))).bind fun h162 =>
  κ5 b0 x1 h162
def s_X9_readCries_L64 (κ5 : Nat → Int32 → tt_H → Option (Int32 × tt_H)) : Nat → Nat → Int32 → Int32 → tt_H → Option (Int32 × tt_H)
  | 0, _, _, _, _ => none
  | n + 1, b0, x1, x2, h =>
    if 12 ≤ x2 then
      s_X9_readCries_J139 κ5 b0 x1 x2 h
    else
    (gg_fi h b0 9 9).bind fun z71 =>
    if x1 ≤ z71 then
      s_X9_readCries_J139 κ5 b0 x1 x2 h
    else
    (gg_fr h b0 9 4).bind fun o79 =>
    (gg_fi h b0 9 9).bind fun z83 =>
    (gg_il h o79 z83).bind fun z86 =>
    (s_X9_inside z86 97 104 h).bind fun w91 =>
    if w91.1 = 0 then
      s_X9_readCries_J139 κ5 b0 x1 x2 w91.2
    else
    (gg_fr w91.2 b0 9 12).bind fun o98 =>
    (gg_fi w91.2 b0 9 10).bind fun z104 =>
    (gg_fr w91.2 b0 9 4).bind fun o111 =>
    (gg_fi w91.2 b0 9 9).bind fun z115 =>
    (gg_il w91.2 o111 z115).bind fun z118 =>
    (gg_is w91.2 o98 ((14 * z104) + x2) (z118 - 97)).bind fun h122 =>
    (gg_fi h122 b0 9 9).bind fun z128 =>
    (gg_put h122 b0 9 9 (.int (z128 + 1))).bind fun h133 =>
    s_X9_readCries_L64 κ5 n b0 x1 (x2 + 1) h133
def s_X9_readCries_J62 (κ5 : Nat → Int32 → tt_H → Option (Int32 × tt_H)) (b0 : Nat) (x1 : Int32) (h : tt_H) : Option (Int32 × tt_H) :=
  s_X9_readCries_L64 κ5 1000 b0 x1 0 h
def s_X9_readCries_J20 (κ5 : Nat → Int32 → tt_H → Option (Int32 × tt_H)) (b0 : Nat) (x1 : Int32) (h : tt_H) : Option (Int32 × tt_H) :=
  (gg_fi h b0 9 10).bind fun z21 =>
  if z21 ≤ 0 then
    s_X9_readCries_J62 κ5 b0 x1 h
  else
  (gg_fi h b0 9 10).bind fun z28 =>
  if z28 = 6 then
    some (0, h)
  else
  (gg_fr h b0 9 4).bind fun o37 =>
  (gg_fi h b0 9 9).bind fun z41 =>
  (gg_il h o37 z41).bind fun z44 =>
  if z44 = 59 then
    (gg_fi h b0 9 9).bind fun z54 =>
    (gg_put h b0 9 9 (.int (z54 + 1))).bind fun h59 =>
    s_X9_readCries_J62 κ5 b0 x1 h59
  else
  some (0, h)
def s_X9_readCries_L5 : Nat → Nat → Int32 → tt_H → Option (Int32 × tt_H)
  | 0, _, _, _ => none
  | n + 1, b0, x1, h =>
    (gg_fi h b0 9 10).bind fun z6 =>
    if z6 = 0 then
      s_X9_readCries_J20 (s_X9_readCries_L5 n) b0 x1 h
    else
    (gg_fi h b0 9 9).bind fun z13 =>
    if x1 ≤ z13 then
      some (1, h)
    else
    s_X9_readCries_J20 (s_X9_readCries_L5 n) b0 x1 h
def s_X9_readCries (b0 : Nat) (x1 : Int32) (h : tt_H) : Option (Int32 × tt_H) :=
  (gg_put h b0 9 10 (.int 0)).bind fun h2 =>
  s_X9_readCries_L5 1000 b0 x1 h2
abbrev rm_X9_readCries : Room := { frames := 1, cells := 0, slots := 0, locals := 22 }
set_option maxHeartbeats 4000000 in
set_option maxRecDepth 100000 in
theorem c_X9_readCries (l : Launch) {b0 : Nat} {x1 : Int32} {h : tt_H} {ρ : Int32 × tt_H} (hs : s_X9_readCries b0 x1 h = some ρ) : tt_M tt_cl l yX9_readCries wsX9_readCries rm_X9_readCries 0 0 false [.ref b0, .int x1] h (tt_ret (some (.int ρ.1)) ρ.2) := by
  refine tt_M.of0 (cc := cX9_readCries) (maxL := 3) (ret := (some .boolean)) (by decide +kernel) rfl (Nat.le_of_ble_eq_true rfl) ?_
  intro p e s m args below meth c D ca ad n0 sz hwf hsz X hini
  unfold s_X9_readCries at hs
  have t_5 : ∀ (fu : Nat) (b0 : Nat) (x1 : Int32) (h : tt_H), s_X9_readCries_L5 fu b0 x1 h = some ρ → tt_T tt_cl (p, l, e, rm_X9_readCries, s, m, args, below, meth, c, MQ below (tt_Q tt_cl D ca ad n0 sz false (tt_ret (some (.int ρ.1)) ρ.2)) args s 0 0 (tt_A ad n0 sz), D, ca, tt_A ad n0 sz, 3, some n0) ad 0 0 5 [(0, .ref b0), (1, .int x1)] [] h := by
    intro fu
    induction fu with
    | zero => intro b0 x1 h hs; exact absurd hs (by rw [s_X9_readCries_L5]; exact fun q => by cases q)
    | succ n5 ih =>
      intro b0 x1 h hs
      rw [s_X9_readCries_L5] at hs
      have t_5 := ih
      have t_20 : ∀ (b0 : Nat) (x1 : Int32) (h : tt_H), s_X9_readCries_J20 (s_X9_readCries_L5 n5) b0 x1 h = some ρ → tt_T tt_cl (p, l, e, rm_X9_readCries, s, m, args, below, meth, c, MQ below (tt_Q tt_cl D ca ad n0 sz false (tt_ret (some (.int ρ.1)) ρ.2)) args s 0 0 (tt_A ad n0 sz), D, ca, tt_A ad n0 sz, 3, some n0) ad 0 0 20 [(0, .ref b0), (1, .int x1)] [] h := by
        intro b0 x1 h hs
        unfold s_X9_readCries_J20 at hs
        have t_62 : ∀ (b0 : Nat) (x1 : Int32) (h : tt_H), s_X9_readCries_J62 (s_X9_readCries_L5 n5) b0 x1 h = some ρ → tt_T tt_cl (p, l, e, rm_X9_readCries, s, m, args, below, meth, c, MQ below (tt_Q tt_cl D ca ad n0 sz false (tt_ret (some (.int ρ.1)) ρ.2)) args s 0 0 (tt_A ad n0 sz), D, ca, tt_A ad n0 sz, 3, some n0) ad 0 0 62 [(0, .ref b0), (1, .int x1)] [] h := by
          intro b0 x1 h hs
          unfold s_X9_readCries_J62 at hs
          have t_64 : ∀ (fu : Nat) (b0 : Nat) (x1 : Int32) (x2 : Int32) (h : tt_H), s_X9_readCries_L64 (s_X9_readCries_L5 n5) fu b0 x1 x2 h = some ρ → tt_T tt_cl (p, l, e, rm_X9_readCries, s, m, args, below, meth, c, MQ below (tt_Q tt_cl D ca ad n0 sz false (tt_ret (some (.int ρ.1)) ρ.2)) args s 0 0 (tt_A ad n0 sz), D, ca, tt_A ad n0 sz, 3, some n0) ad 0 0 64 [(0, .ref b0), (1, .int x1), (2, .int x2)] [] h := by
            intro fu
            induction fu with
            | zero => intro b0 x1 x2 h hs; exact absurd hs (by rw [s_X9_readCries_L64]; exact fun q => by cases q)
            | succ n64 ih =>
              intro b0 x1 x2 h hs
              rw [s_X9_readCries_L64] at hs
              have t_64 := ih
              have t_139 : ∀ (b0 : Nat) (x1 : Int32) (x2 : Int32) (h : tt_H), s_X9_readCries_J139 (s_X9_readCries_L5 n5) b0 x1 x2 h = some ρ → tt_T tt_cl (p, l, e, rm_X9_readCries, s, m, args, below, meth, c, MQ below (tt_Q tt_cl D ca ad n0 sz false (tt_ret (some (.int ρ.1)) ρ.2)) args s 0 0 (tt_A ad n0 sz), D, ca, tt_A ad n0 sz, 3, some n0) ad 0 0 139 [(0, .ref b0), (1, .int x1), (2, .int x2)] [] h := by
                intro b0 x1 x2 h hs
                unfold s_X9_readCries_J139 at hs
                refine tt_iload_n X dX9_readCries_139 rfl ?_
                refine tt_if_ne (tgt := 145) X dX9_readCries_140 (by decide) (fun c140 => ?_) (fun c140 => ?_)
                · rw [if_neg c140] at hs
                  refine tt_aload_n X dX9_readCries_145 rfl ?_
                  obtain ⟨o146, e146, hs⟩ := gg_bind hs
                  refine zr_fr X e146 rfl in_X9_readCries_X9 (by decide) (by decide +kernel) rfl dX9_readCries_146 ?_
                  refine tt_aload_n X dX9_readCries_149 rfl ?_
                  obtain ⟨z150, e150, hs⟩ := gg_bind hs
                  refine zr_fi X e150 rfl in_X9_readCries_X9 (by decide) (by decide +kernel) rfl dX9_readCries_150 ?_
                  refine tt_iload_n X dX9_readCries_153 rfl ?_
                  obtain ⟨h154, e154, hs⟩ := gg_bind hs
                  refine zr_is X e154 dX9_readCries_154 ?_
                  refine tt_aload_n X dX9_readCries_155 rfl ?_
                  refine tt_dup X dX9_readCries_156 rfl ?_
                  obtain ⟨z157, e157, hs⟩ := gg_bind hs
                  refine zr_fi X e157 rfl in_X9_readCries_X9 (by decide) (by decide +kernel) rfl dX9_readCries_157 ?_
                  refine tt_iconst (v := 1) X dX9_readCries_160 (by decide) ?_
                  refine tt_iadd X dX9_readCries_161 ?_
                  obtain ⟨h162, e162, hs⟩ := gg_bind hs
                  refine zr_put X e162 rfl in_X9_readCries_X9 tyX9 tyX9_ok nmX9 (by decide) (by decide +kernel) rfl rfl (fun _ => rfl) (fun _ => rfl) dX9_readCries_162 ?_
                  refine tt_goto (tgt := 5) X dX9_readCries_165 (by decide) ?_
                  refine tt_drop [0, 1] ?_
                  exact t_5 b0 x1 h162 hs
                · rw [if_pos c140] at hs
                  refine tt_iconst (v := 0) X dX9_readCries_143 (by decide) ?_
                  obtain rfl := Option.some.inj hs
                  exact tt_zret X rfl rfl dX9_readCries_144 ⟨rfl, rfl⟩
              refine tt_iload_n X dX9_readCries_64 rfl ?_
              refine tt_bipush (v := 12) X dX9_readCries_65 (by decide) ?_
              refine tt_icmp_ge (tgt := 139) X dX9_readCries_67 (by decide) (fun c67 => ?_) (fun c67 => ?_)
              · rw [if_pos c67] at hs
                refine tt_drop [0, 1, 2] ?_
                exact t_139 b0 x1 x2 h hs
              · rw [if_neg c67] at hs
                refine tt_aload_n X dX9_readCries_70 rfl ?_
                obtain ⟨z71, e71, hs⟩ := gg_bind hs
                refine zr_fi X e71 rfl in_X9_readCries_X9 (by decide) (by decide +kernel) rfl dX9_readCries_71 ?_
                refine tt_iload_n X dX9_readCries_74 rfl ?_
                refine tt_icmp_ge (tgt := 139) X dX9_readCries_75 (by decide) (fun c75 => ?_) (fun c75 => ?_)
                · rw [if_pos c75] at hs
                  refine tt_drop [0, 1, 2] ?_
                  exact t_139 b0 x1 x2 h hs
                · rw [if_neg c75] at hs
                  refine tt_aload_n X dX9_readCries_78 rfl ?_
                  obtain ⟨o79, e79, hs⟩ := gg_bind hs
                  refine zr_fr X e79 rfl in_X9_readCries_X9 (by decide) (by decide +kernel) rfl dX9_readCries_79 ?_
                  refine tt_aload_n X dX9_readCries_82 rfl ?_
                  obtain ⟨z83, e83, hs⟩ := gg_bind hs
                  refine zr_fi X e83 rfl in_X9_readCries_X9 (by decide) (by decide +kernel) rfl dX9_readCries_83 ?_
                  obtain ⟨z86, e86, hs⟩ := gg_bind hs
                  refine zr_il X e86 dX9_readCries_86 ?_
                  refine tt_bipush (v := 97) X dX9_readCries_87 (by decide) ?_
                  refine tt_bipush (v := 104) X dX9_readCries_89 (by decide) ?_
                  obtain ⟨w91, e91, hs⟩ := gg_bind hs
                  refine zr_callS X (c_X9_inside l e91) (fun hts => va_cwS 3 hts gX9_readCries_X9_inside rfl rfl rfl (by decide +kernel) ⟨by decide, by decide⟩) rfl rfl (Nat.le_of_ble_eq_true rfl) dX9_readCries_91 ⟨Nat.zero_le _, Nat.zero_le _⟩ ?_
                  refine tt_if_eq (tgt := 139) X dX9_readCries_94 (by decide) (fun c94 => ?_) (fun c94 => ?_)
                  · rw [if_pos c94] at hs
                    refine tt_drop [0, 1, 2] ?_
                    exact t_139 b0 x1 x2 w91.2 hs
                  · rw [if_neg c94] at hs
                    refine tt_aload_n X dX9_readCries_97 rfl ?_
                    obtain ⟨o98, e98, hs⟩ := gg_bind hs
                    refine zr_fr X e98 rfl in_X9_readCries_X9 (by decide) (by decide +kernel) rfl dX9_readCries_98 ?_
                    refine tt_bipush (v := 14) X dX9_readCries_101 (by decide) ?_
                    refine tt_aload_n X dX9_readCries_103 rfl ?_
                    obtain ⟨z104, e104, hs⟩ := gg_bind hs
                    refine zr_fi X e104 rfl in_X9_readCries_X9 (by decide) (by decide +kernel) rfl dX9_readCries_104 ?_
                    refine tt_imul X dX9_readCries_107 ?_
                    refine tt_iload_n X dX9_readCries_108 rfl ?_
                    refine tt_iadd X dX9_readCries_109 ?_
                    refine tt_aload_n X dX9_readCries_110 rfl ?_
                    obtain ⟨o111, e111, hs⟩ := gg_bind hs
                    refine zr_fr X e111 rfl in_X9_readCries_X9 (by decide) (by decide +kernel) rfl dX9_readCries_111 ?_
                    refine tt_aload_n X dX9_readCries_114 rfl ?_
                    obtain ⟨z115, e115, hs⟩ := gg_bind hs
                    refine zr_fi X e115 rfl in_X9_readCries_X9 (by decide) (by decide +kernel) rfl dX9_readCries_115 ?_
                    obtain ⟨z118, e118, hs⟩ := gg_bind hs
                    refine zr_il X e118 dX9_readCries_118 ?_
                    refine tt_bipush (v := 97) X dX9_readCries_119 (by decide) ?_
                    refine tt_isub X dX9_readCries_121 ?_
                    obtain ⟨h122, e122, hs⟩ := gg_bind hs
                    refine zr_is X e122 dX9_readCries_122 ?_
                    refine tt_iinc (v := x2 + 1) X dX9_readCries_123 rfl rfl (Nat.le_of_ble_eq_true rfl) ?_
                    refine tt_aload_n X dX9_readCries_126 rfl ?_
                    refine tt_dup X dX9_readCries_127 rfl ?_
                    obtain ⟨z128, e128, hs⟩ := gg_bind hs
                    refine zr_fi X e128 rfl in_X9_readCries_X9 (by decide) (by decide +kernel) rfl dX9_readCries_128 ?_
                    refine tt_iconst (v := 1) X dX9_readCries_131 (by decide) ?_
                    refine tt_iadd X dX9_readCries_132 ?_
                    obtain ⟨h133, e133, hs⟩ := gg_bind hs
                    refine zr_put X e133 rfl in_X9_readCries_X9 tyX9 tyX9_ok nmX9 (by decide) (by decide +kernel) rfl rfl (fun _ => rfl) (fun _ => rfl) dX9_readCries_133 ?_
                    refine tt_goto (tgt := 64) X dX9_readCries_136 (by decide) ?_
                    refine tt_drop [0, 1, 2] ?_
                    exact t_64 b0 x1 (x2 + 1) h133 hs
          refine tt_iconst (v := 0) X dX9_readCries_62 (by decide) ?_
          refine tt_istore_n X dX9_readCries_63 (Nat.le_of_ble_eq_true rfl) ?_
          refine tt_drop [0, 1, 2] ?_
          exact t_64 1000 b0 x1 0 h hs
        refine tt_aload_n X dX9_readCries_20 rfl ?_
        obtain ⟨z21, e21, hs⟩ := gg_bind hs
        refine zr_fi X e21 rfl in_X9_readCries_X9 (by decide) (by decide +kernel) rfl dX9_readCries_21 ?_
        refine tt_if_le (tgt := 62) X dX9_readCries_24 (by decide) (fun c24 => ?_) (fun c24 => ?_)
        · rw [if_pos c24] at hs
          refine tt_drop [0, 1] ?_
          exact t_62 b0 x1 h hs
        · rw [if_neg c24] at hs
          refine tt_aload_n X dX9_readCries_27 rfl ?_
          obtain ⟨z28, e28, hs⟩ := gg_bind hs
          refine zr_fi X e28 rfl in_X9_readCries_X9 (by decide) (by decide +kernel) rfl dX9_readCries_28 ?_
          refine tt_bipush (v := 6) X dX9_readCries_31 (by decide) ?_
          refine tt_icmp_eq (tgt := 50) X dX9_readCries_33 (by decide) (fun c33 => ?_) (fun c33 => ?_)
          · rw [if_pos c33] at hs
            refine tt_iconst (v := 0) X dX9_readCries_50 (by decide) ?_
            obtain rfl := Option.some.inj hs
            exact tt_zret X rfl rfl dX9_readCries_51 ⟨rfl, rfl⟩
          · rw [if_neg c33] at hs
            refine tt_aload_n X dX9_readCries_36 rfl ?_
            obtain ⟨o37, e37, hs⟩ := gg_bind hs
            refine zr_fr X e37 rfl in_X9_readCries_X9 (by decide) (by decide +kernel) rfl dX9_readCries_37 ?_
            refine tt_aload_n X dX9_readCries_40 rfl ?_
            obtain ⟨z41, e41, hs⟩ := gg_bind hs
            refine zr_fi X e41 rfl in_X9_readCries_X9 (by decide) (by decide +kernel) rfl dX9_readCries_41 ?_
            obtain ⟨z44, e44, hs⟩ := gg_bind hs
            refine zr_il X e44 dX9_readCries_44 ?_
            refine tt_bipush (v := 59) X dX9_readCries_45 (by decide) ?_
            refine tt_icmp_eq (tgt := 52) X dX9_readCries_47 (by decide) (fun c47 => ?_) (fun c47 => ?_)
            · rw [if_pos c47] at hs
              refine tt_aload_n X dX9_readCries_52 rfl ?_
              refine tt_dup X dX9_readCries_53 rfl ?_
              obtain ⟨z54, e54, hs⟩ := gg_bind hs
              refine zr_fi X e54 rfl in_X9_readCries_X9 (by decide) (by decide +kernel) rfl dX9_readCries_54 ?_
              refine tt_iconst (v := 1) X dX9_readCries_57 (by decide) ?_
              refine tt_iadd X dX9_readCries_58 ?_
              obtain ⟨h59, e59, hs⟩ := gg_bind hs
              refine zr_put X e59 rfl in_X9_readCries_X9 tyX9 tyX9_ok nmX9 (by decide) (by decide +kernel) rfl rfl (fun _ => rfl) (fun _ => rfl) dX9_readCries_59 ?_
              refine tt_drop [0, 1] ?_
              exact t_62 b0 x1 h59 hs
            · rw [if_neg c47] at hs
              refine tt_iconst (v := 0) X dX9_readCries_50 (by decide) ?_
              obtain rfl := Option.some.inj hs
              exact tt_zret X rfl rfl dX9_readCries_51 ⟨rfl, rfl⟩
      refine tt_aload_n X dX9_readCries_5 rfl ?_
      obtain ⟨z6, e6, hs⟩ := gg_bind hs
      refine zr_fi X e6 rfl in_X9_readCries_X9 (by decide) (by decide +kernel) rfl dX9_readCries_6 ?_
      refine tt_if_eq (tgt := 20) X dX9_readCries_9 (by decide) (fun c9 => ?_) (fun c9 => ?_)
      · rw [if_pos c9] at hs
        refine tt_drop [0, 1] ?_
        exact t_20 b0 x1 h hs
      · rw [if_neg c9] at hs
        refine tt_aload_n X dX9_readCries_12 rfl ?_
        obtain ⟨z13, e13, hs⟩ := gg_bind hs
        refine zr_fi X e13 rfl in_X9_readCries_X9 (by decide) (by decide +kernel) rfl dX9_readCries_13 ?_
        refine tt_iload_n X dX9_readCries_16 rfl ?_
        refine tt_icmp_ge (tgt := 168) X dX9_readCries_17 (by decide) (fun c17 => ?_) (fun c17 => ?_)
        · rw [if_pos c17] at hs
          refine tt_iconst (v := 1) X dX9_readCries_168 (by decide) ?_
          obtain rfl := Option.some.inj hs
          exact tt_zret X rfl rfl dX9_readCries_169 ⟨rfl, rfl⟩
        · rw [if_neg c17] at hs
          refine tt_drop [0, 1] ?_
          exact t_20 b0 x1 h hs
  refine tt_aload_n X dX9_readCries_0 rfl ?_
  refine tt_iconst (v := 0) X dX9_readCries_1 (by decide) ?_
  obtain ⟨h2, e2, hs⟩ := gg_bind hs
  refine zr_put X e2 rfl in_X9_readCries_X9 tyX9 tyX9_ok nmX9 (by decide) (by decide +kernel) rfl rfl (fun _ => rfl) (fun _ => rfl) dX9_readCries_2 ?_
  refine tt_drop [0, 1] ?_
  exact t_5 1000 b0 x1 h2 hs

theorem in_X9_cries_X9 : ∀ w ∈ u_ws RX9 TX9 26, w ∈ wsX9_cries := by decide +kernel
def s_X9_cries_L121 (κ95 : Nat → Int32 → tt_H → Option (Int32 × tt_H)) : Nat → Nat → Int32 → Int32 → tt_H → Option (Int32 × tt_H)
  | 0, _, _, _, _ => none
  | n + 1, b0, x7, x8, h =>
    (gg_fr h b0 9 7).bind fun o124 =>
    (gg_il h o124 x7).bind fun z129 =>
    if z129 ≤ x8 then
      κ95 b0 (x7 + 1) h
    else
    (gg_fr h b0 9 8).bind fun o134 =>
    (gg_fr h b0 9 12).bind fun o146 =>
    (gg_il h o146 ((14 * x7) + x8)).bind fun z157 =>
    (gg_is h o134 ((14 * x7) + x8) z157).bind fun h158 =>
    s_X9_cries_L121 κ95 n b0 x7 (x8 + 1) h158
def s_X9_cries_L95 : Nat → Nat → Int32 → tt_H → Option (Int32 × tt_H)
  | 0, _, _, _ => none
  | n + 1, b0, x7, h =>
    (gg_fi h b0 9 6).bind fun z98 =>
    if z98 ≤ x7 then
      (gg_fi h b0 9 6).bind fun z172 =>
      some (z172, h)
    else
    (gg_fr h b0 9 7).bind fun o105 =>
    (gg_fr h b0 9 11).bind fun o111 =>
    (gg_il h o111 x7).bind fun z116 =>
    (gg_is h o105 x7 z116).bind fun h117 =>
    s_X9_cries_L121 (s_X9_cries_L95 n) 1000 b0 x7 0 h117
def s_X9_cries (b0 : Nat) (x1 : Int32) (x2 : Int32) (x3 : Int32) (x4 : Int32) (h : tt_H) : Option (Int32 × tt_H) :=
  (gg_put h b0 9 0 (.int 0)).bind fun h2 =>
  (s_X9_isSheet x1 h2).bind fun w6 =>
  if w6.1 = 0 then
    some ((-1), w6.2)
  else
  (s_X9_isSort x2 w6.2).bind fun w15 =>
  if w15.1 = 0 then
    some ((-2), w15.2)
  else
  (gg_obj w15.2 b0 9).bind fun _ =>
  (s_X9_against b0 x1 x2 x3 x4 w15.2).bind fun w30 =>
  if w30.1 = 0 then
    (gg_put w30.2 b0 9 9 (.int ((80 * x1) + x3))).bind fun h58 =>
    (gg_obj h58 b0 9).bind fun _ =>
    (s_X9_readCries b0 (((80 * x1) + x3) + x4) h58).bind fun w67 =>
    if w67.1 = 0 then
      (gg_fi w67.2 b0 9 9).bind fun z76 =>
      some (((-100)) - (z76 - ((80 * x1) + x3)), w67.2)
    else
    (gg_fi w67.2 b0 9 10).bind fun z86 =>
    (gg_put w67.2 b0 9 6 (.int z86)).bind fun h89 =>
    s_X9_cries_L95 1000 b0 0 h89
  else
  (gg_obj w30.2 b0 9).bind fun _ =>
  (s_X9_fails b0 w30.1 w30.2).bind fun w43 =>
  some (w43.1, w43.2)
abbrev rm_X9_cries : Room := { frames := 2, cells := 0, slots := 0, locals := 44 }
set_option maxHeartbeats 4000000 in
set_option maxRecDepth 100000 in
theorem c_X9_cries (l : Launch) {b0 : Nat} {x1 : Int32} {x2 : Int32} {x3 : Int32} {x4 : Int32} {h : tt_H} {ρ : Int32 × tt_H} (hs : s_X9_cries b0 x1 x2 x3 x4 h = some ρ) : tt_M tt_cl l yX9_cries wsX9_cries rm_X9_cries 0 0 false [.ref b0, .int x1, .int x2, .int x3, .int x4] h (tt_ret (some (.int ρ.1)) ρ.2) := by
  refine tt_M.of0 (cc := cX9_cries) (maxL := 9) (ret := (some .int)) (by decide +kernel) rfl (Nat.le_of_ble_eq_true rfl) ?_
  intro p e s m args below meth c D ca ad n0 sz hwf hsz X hini
  unfold s_X9_cries at hs
  have t_95 : ∀ (fu : Nat) (b0 : Nat) (x7 : Int32) (h : tt_H), s_X9_cries_L95 fu b0 x7 h = some ρ → tt_T tt_cl (p, l, e, rm_X9_cries, s, m, args, below, meth, c, MQ below (tt_Q tt_cl D ca ad n0 sz false (tt_ret (some (.int ρ.1)) ρ.2)) args s 0 0 (tt_A ad n0 sz), D, ca, tt_A ad n0 sz, 9, some n0) ad 0 0 95 [(0, .ref b0), (7, .int x7)] [] h := by
    intro fu
    induction fu with
    | zero => intro b0 x7 h hs; exact absurd hs (by rw [s_X9_cries_L95]; exact fun q => by cases q)
    | succ n95 ih =>
      intro b0 x7 h hs
      rw [s_X9_cries_L95] at hs
      have t_95 := ih
      have t_121 : ∀ (fu : Nat) (b0 : Nat) (x7 : Int32) (x8 : Int32) (h : tt_H), s_X9_cries_L121 (s_X9_cries_L95 n95) fu b0 x7 x8 h = some ρ → tt_T tt_cl (p, l, e, rm_X9_cries, s, m, args, below, meth, c, MQ below (tt_Q tt_cl D ca ad n0 sz false (tt_ret (some (.int ρ.1)) ρ.2)) args s 0 0 (tt_A ad n0 sz), D, ca, tt_A ad n0 sz, 9, some n0) ad 0 0 121 [(0, .ref b0), (7, .int x7), (8, .int x8)] [] h := by
        intro fu
        induction fu with
        | zero => intro b0 x7 x8 h hs; exact absurd hs (by rw [s_X9_cries_L121]; exact fun q => by cases q)
        | succ n121 ih =>
          intro b0 x7 x8 h hs
          rw [s_X9_cries_L121] at hs
          have t_121 := ih
          refine tt_iload X dX9_cries_121 rfl ?_
          refine tt_aload_n X dX9_cries_123 rfl ?_
          obtain ⟨o124, e124, hs⟩ := gg_bind hs
          refine zr_fr X e124 rfl in_X9_cries_X9 (by decide) (by decide +kernel) rfl dX9_cries_124 ?_
          refine tt_iload X dX9_cries_127 rfl ?_
          obtain ⟨z129, e129, hs⟩ := gg_bind hs
          refine zr_il X e129 dX9_cries_129 ?_
          refine tt_icmp_ge (tgt := 165) X dX9_cries_130 (by decide) (fun c130 => ?_) (fun c130 => ?_)
          · rw [if_pos c130] at hs
            refine tt_iinc (v := x7 + 1) X dX9_cries_165 rfl rfl (Nat.le_of_ble_eq_true rfl) ?_
            refine tt_goto (tgt := 95) X dX9_cries_168 (by decide) ?_
            refine tt_drop [0, 7] ?_
            exact t_95 b0 (x7 + 1) h hs
          · rw [if_neg c130] at hs
            refine tt_aload_n X dX9_cries_133 rfl ?_
            obtain ⟨o134, e134, hs⟩ := gg_bind hs
            refine zr_fr X e134 rfl in_X9_cries_X9 (by decide) (by decide +kernel) rfl dX9_cries_134 ?_
            refine tt_bipush (v := 14) X dX9_cries_137 (by decide) ?_
            refine tt_iload X dX9_cries_139 rfl ?_
            refine tt_imul X dX9_cries_141 ?_
            refine tt_iload X dX9_cries_142 rfl ?_
            refine tt_iadd X dX9_cries_144 ?_
            refine tt_aload_n X dX9_cries_145 rfl ?_
            obtain ⟨o146, e146, hs⟩ := gg_bind hs
            refine zr_fr X e146 rfl in_X9_cries_X9 (by decide) (by decide +kernel) rfl dX9_cries_146 ?_
            refine tt_bipush (v := 14) X dX9_cries_149 (by decide) ?_
            refine tt_iload X dX9_cries_151 rfl ?_
            refine tt_imul X dX9_cries_153 ?_
            refine tt_iload X dX9_cries_154 rfl ?_
            refine tt_iadd X dX9_cries_156 ?_
            obtain ⟨z157, e157, hs⟩ := gg_bind hs
            refine zr_il X e157 dX9_cries_157 ?_
            obtain ⟨h158, e158, hs⟩ := gg_bind hs
            refine zr_is X e158 dX9_cries_158 ?_
            refine tt_iinc (v := x8 + 1) X dX9_cries_159 rfl rfl (Nat.le_of_ble_eq_true rfl) ?_
            refine tt_goto (tgt := 121) X dX9_cries_162 (by decide) ?_
            refine tt_drop [0, 7, 8] ?_
            exact t_121 b0 x7 (x8 + 1) h158 hs
      refine tt_iload X dX9_cries_95 rfl ?_
      refine tt_aload_n X dX9_cries_97 rfl ?_
      obtain ⟨z98, e98, hs⟩ := gg_bind hs
      refine zr_fi X e98 rfl in_X9_cries_X9 (by decide) (by decide +kernel) rfl dX9_cries_98 ?_
      refine tt_icmp_ge (tgt := 171) X dX9_cries_101 (by decide) (fun c101 => ?_) (fun c101 => ?_)
      · rw [if_pos c101] at hs
        refine tt_aload_n X dX9_cries_171 rfl ?_
        obtain ⟨z172, e172, hs⟩ := gg_bind hs
        refine zr_fi X e172 rfl in_X9_cries_X9 (by decide) (by decide +kernel) rfl dX9_cries_172 ?_
        obtain rfl := Option.some.inj hs
        exact tt_iret X rfl dX9_cries_175 ⟨rfl, rfl⟩
      · rw [if_neg c101] at hs
        refine tt_aload_n X dX9_cries_104 rfl ?_
        obtain ⟨o105, e105, hs⟩ := gg_bind hs
        refine zr_fr X e105 rfl in_X9_cries_X9 (by decide) (by decide +kernel) rfl dX9_cries_105 ?_
        refine tt_iload X dX9_cries_108 rfl ?_
        refine tt_aload_n X dX9_cries_110 rfl ?_
        obtain ⟨o111, e111, hs⟩ := gg_bind hs
        refine zr_fr X e111 rfl in_X9_cries_X9 (by decide) (by decide +kernel) rfl dX9_cries_111 ?_
        refine tt_iload X dX9_cries_114 rfl ?_
        obtain ⟨z116, e116, hs⟩ := gg_bind hs
        refine zr_il X e116 dX9_cries_116 ?_
        obtain ⟨h117, e117, hs⟩ := gg_bind hs
        refine zr_is X e117 dX9_cries_117 ?_
        refine tt_iconst (v := 0) X dX9_cries_118 (by decide) ?_
        refine tt_istore X dX9_cries_119 (Nat.le_of_ble_eq_true rfl) ?_
        refine tt_drop [0, 7, 8] ?_
        exact t_121 1000 b0 x7 0 h117 hs
  refine tt_aload_n X dX9_cries_0 rfl ?_
  refine tt_iconst (v := 0) X dX9_cries_1 (by decide) ?_
  obtain ⟨h2, e2, hs⟩ := gg_bind hs
  refine zr_put X e2 rfl in_X9_cries_X9 tyX9 tyX9_ok nmX9 (by decide) (by decide +kernel) rfl rfl (fun _ => rfl) (fun _ => rfl) dX9_cries_2 ?_
  refine tt_iload_n X dX9_cries_5 rfl ?_
  obtain ⟨w6, e6, hs⟩ := gg_bind hs
  refine zr_callS X (c_X9_isSheet l e6) (fun hts => va_cwS 1 hts gX9_cries_X9_isSheet rfl rfl rfl (by decide +kernel) ⟨by decide, by decide⟩) rfl rfl (Nat.le_of_ble_eq_true rfl) dX9_cries_6 ⟨Nat.zero_le _, Nat.zero_le _⟩ ?_
  refine tt_if_ne (tgt := 14) X dX9_cries_9 (by decide) (fun c9 => ?_) (fun c9 => ?_)
  · rw [if_neg c9] at hs
    refine tt_iload_n X dX9_cries_14 rfl ?_
    obtain ⟨w15, e15, hs⟩ := gg_bind hs
    refine zr_callS X (c_X9_isSort l e15) (fun hts => va_cwS 1 hts gX9_cries_X9_isSort rfl rfl rfl (by decide +kernel) ⟨by decide, by decide⟩) rfl rfl (Nat.le_of_ble_eq_true rfl) dX9_cries_15 ⟨Nat.zero_le _, Nat.zero_le _⟩ ?_
    refine tt_if_ne (tgt := 24) X dX9_cries_18 (by decide) (fun c18 => ?_) (fun c18 => ?_)
    · rw [if_neg c18] at hs
      refine tt_aload_n X dX9_cries_24 rfl ?_
      refine tt_iload_n X dX9_cries_25 rfl ?_
      refine tt_iload_n X dX9_cries_26 rfl ?_
      refine tt_iload_n X dX9_cries_27 rfl ?_
      refine tt_iload X dX9_cries_28 rfl ?_
      obtain ⟨o30, f30, hs⟩ := gg_bind hs
      obtain ⟨w30, e30, hs⟩ := gg_bind hs
      refine zr_callV X f30 rfl (c_X9_against l e30) (fun hts => cwV 4 hts gX9_cries_X9_against rfl rfl rfl (by decide +kernel) ⟨by decide, by decide⟩) rfl rfl (Nat.le_of_ble_eq_true rfl) dX9_cries_30 ⟨Nat.zero_le _, Nat.zero_le _⟩ ?_
      refine tt_istore X dX9_cries_33 (Nat.le_of_ble_eq_true rfl) ?_
      refine tt_iload X dX9_cries_35 rfl ?_
      refine tt_if_eq (tgt := 47) X dX9_cries_37 (by decide) (fun c37 => ?_) (fun c37 => ?_)
      · rw [if_pos c37] at hs
        refine tt_bipush (v := 80) X dX9_cries_47 (by decide) ?_
        refine tt_iload_n X dX9_cries_49 rfl ?_
        refine tt_imul X dX9_cries_50 ?_
        refine tt_iload_n X dX9_cries_51 rfl ?_
        refine tt_iadd X dX9_cries_52 ?_
        refine tt_istore X dX9_cries_53 (Nat.le_of_ble_eq_true rfl) ?_
        refine tt_aload_n X dX9_cries_55 rfl ?_
        refine tt_iload X dX9_cries_56 rfl ?_
        obtain ⟨h58, e58, hs⟩ := gg_bind hs
        refine zr_put X e58 rfl in_X9_cries_X9 tyX9 tyX9_ok nmX9 (by decide) (by decide +kernel) rfl rfl (fun _ => rfl) (fun _ => rfl) dX9_cries_58 ?_
        refine tt_aload_n X dX9_cries_61 rfl ?_
        refine tt_iload X dX9_cries_62 rfl ?_
        refine tt_iload X dX9_cries_64 rfl ?_
        refine tt_iadd X dX9_cries_66 ?_
        obtain ⟨o67, f67, hs⟩ := gg_bind hs
        obtain ⟨w67, e67, hs⟩ := gg_bind hs
        refine zr_callV X f67 rfl (c_X9_readCries l e67) (fun hts => cwV 1 hts gX9_cries_X9_readCries rfl rfl rfl (by decide +kernel) ⟨by decide, by decide⟩) rfl rfl (Nat.le_of_ble_eq_true rfl) dX9_cries_67 ⟨Nat.zero_le _, Nat.zero_le _⟩ ?_
        refine tt_if_ne (tgt := 84) X dX9_cries_70 (by decide) (fun c70 => ?_) (fun c70 => ?_)
        · rw [if_neg c70] at hs
          refine tt_aload_n X dX9_cries_84 rfl ?_
          refine tt_aload_n X dX9_cries_85 rfl ?_
          obtain ⟨z86, e86, hs⟩ := gg_bind hs
          refine zr_fi X e86 rfl in_X9_cries_X9 (by decide) (by decide +kernel) rfl dX9_cries_86 ?_
          obtain ⟨h89, e89, hs⟩ := gg_bind hs
          refine zr_put X e89 rfl in_X9_cries_X9 tyX9 tyX9_ok nmX9 (by decide) (by decide +kernel) rfl rfl (fun _ => rfl) (fun _ => rfl) dX9_cries_89 ?_
          refine tt_iconst (v := 0) X dX9_cries_92 (by decide) ?_
          refine tt_istore X dX9_cries_93 (Nat.le_of_ble_eq_true rfl) ?_
          refine tt_drop [0, 7] ?_
          exact t_95 1000 b0 0 h89 hs
        · rw [if_pos c70] at hs
          refine tt_bipush (v := (-100)) X dX9_cries_73 (by decide) ?_
          refine tt_aload_n X dX9_cries_75 rfl ?_
          obtain ⟨z76, e76, hs⟩ := gg_bind hs
          refine zr_fi X e76 rfl in_X9_cries_X9 (by decide) (by decide +kernel) rfl dX9_cries_76 ?_
          refine tt_iload X dX9_cries_79 rfl ?_
          refine tt_isub X dX9_cries_81 ?_
          refine tt_isub X dX9_cries_82 ?_
          obtain rfl := Option.some.inj hs
          exact tt_iret X rfl dX9_cries_83 ⟨rfl, rfl⟩
      · rw [if_neg c37] at hs
        refine tt_aload_n X dX9_cries_40 rfl ?_
        refine tt_iload X dX9_cries_41 rfl ?_
        obtain ⟨o43, f43, hs⟩ := gg_bind hs
        obtain ⟨w43, e43, hs⟩ := gg_bind hs
        refine zr_callV X f43 rfl (c_X9_fails l e43) (fun hts => cwV 1 hts gX9_cries_X9_fails rfl rfl rfl (by decide +kernel) ⟨by decide, by decide⟩) rfl rfl (Nat.le_of_ble_eq_true rfl) dX9_cries_43 ⟨Nat.zero_le _, Nat.zero_le _⟩ ?_
        obtain rfl := Option.some.inj hs
        exact tt_iret X rfl dX9_cries_46 ⟨rfl, rfl⟩
    · rw [if_pos c18] at hs
      refine tt_bipush (v := (-2)) X dX9_cries_21 (by decide) ?_
      obtain rfl := Option.some.inj hs
      exact tt_iret X rfl dX9_cries_23 ⟨rfl, rfl⟩
  · rw [if_pos c9] at hs
    refine tt_iconst (v := (-1)) X dX9_cries_12 (by decide) ?_
    obtain rfl := Option.some.inj hs
    exact tt_iret X rfl dX9_cries_13 ⟨rfl, rfl⟩

theorem in_X9_fault_X9 : ∀ w ∈ u_ws RX9 TX9 26, w ∈ wsX9_fault := by decide +kernel
def s_X9_fault (b0 : Nat) (h : tt_H) : Option (Int32 × tt_H) :=
  (gg_fi h b0 9 0).bind fun z1 =>
  some (z1, h)
abbrev rm_X9_fault : Room := { frames := 0, cells := 0, slots := 0, locals := 0 }
set_option maxHeartbeats 4000000 in
set_option maxRecDepth 100000 in
theorem c_X9_fault (l : Launch) {b0 : Nat} {h : tt_H} {ρ : Int32 × tt_H} (hs : s_X9_fault b0 h = some ρ) : tt_M tt_cl l yX9_fault wsX9_fault rm_X9_fault 0 0 false [.ref b0] h (tt_ret (some (.int ρ.1)) ρ.2) := by
  refine tt_M.of0 (cc := cX9_fault) (maxL := 1) (ret := (some .int)) (by decide +kernel) rfl (Nat.le_of_ble_eq_true rfl) ?_
  intro p e s m args below meth c D ca ad n0 sz hwf hsz X hini
  unfold s_X9_fault at hs
  refine tt_aload_n X dX9_fault_0 rfl ?_
  obtain ⟨z1, e1, hs⟩ := gg_bind hs
  refine zr_fi X e1 rfl in_X9_fault_X9 (by decide) (by decide +kernel) rfl dX9_fault_1 ?_
  obtain rfl := Option.some.inj hs
  exact tt_iret X rfl dX9_fault_4 ⟨rfl, rfl⟩

theorem in_X9_saidBy_X9 : ∀ w ∈ u_ws RX9 TX9 26, w ∈ wsX9_saidBy := by decide +kernel
def s_X9_saidBy_J108 (κ11 : Nat → Int32 → Int32 → Int32 → Int32 → Int32 → tt_H → Option (Int32 × tt_H)) (b0 : Nat) (x1 : Int32) (x2 : Int32) (x3 : Int32) (x4 : Int32) (x5 : Int32) (h : tt_H) : Option (Int32 × tt_H) :=
  κ11 b0 x1 x2 x3 x4 (x5 + 1) h
def s_X9_saidBy_J78 (κ108 : Nat → Int32 → Int32 → Int32 → Int32 → Int32 → tt_H → Option (Int32 × tt_H)) (b0 : Nat) (x1 : Int32) (x2 : Int32) (x4 : Int32) (x5 : Int32) (x6 : Int32) (ux0 : Int32) (h : tt_H) : Option (Int32 × tt_H) :=
  (gg_fr h b0 9 5).bind fun o80 =>
  (gg_il h o80 x6).bind fun z85 =>
  if z85 = 2 then
    if x4 = ((-9)) then
      κ108 b0 x1 x2 ux0 x4 x5 h
    else
    κ108 b0 x1 (x2 &&& (255 - ((1 : Int32) <<< (x4 &&& 31)))) ux0 x4 x5 h
  else
  κ108 b0 x1 x2 ux0 x4 x5 h
def s_X9_saidBy_J59 (κ108 : Nat → Int32 → Int32 → Int32 → Int32 → Int32 → tt_H → Option (Int32 × tt_H)) (b0 : Nat) (x1 : Int32) (x5 : Int32) (x6 : Int32) (ux0 : Int32) (h : tt_H) : Option (Int32 × tt_H) :=
  κ108 b0 x1 ux0 0 x6 x5 h
def s_X9_saidBy_L11 : Nat → Nat → Int32 → Int32 → Int32 → Int32 → Int32 → tt_H → Option (Int32 × tt_H)
  | 0, _, _, _, _, _, _, _ => none
  | n + 1, b0, x1, x2, x3, x4, x5, h =>
    if x1 ≤ x5 then
      some (x2, h)
    else
    (gg_fr h b0 9 15).bind fun o18 =>
    (gg_il h o18 x5).bind fun z23 =>
    (gg_fr h b0 9 5).bind fun o27 =>
    (gg_il h o27 z23).bind fun z32 =>
    if z32 = 0 then
      if x3 = 0 then
        s_X9_saidBy_J59 (s_X9_saidBy_J108 (s_X9_saidBy_L11 n)) b0 x1 x5 z23 (x2 ||| ((1 : Int32) <<< (z23 &&& 31))) h
      else
      s_X9_saidBy_J59 (s_X9_saidBy_J108 (s_X9_saidBy_L11 n)) b0 x1 x5 z23 (x2 &&& (255 - ((1 : Int32) <<< (z23 &&& 31)))) h
    else
    if x3 = 0 then
      s_X9_saidBy_J78 (s_X9_saidBy_J108 (s_X9_saidBy_L11 n)) b0 x1 x2 x4 x5 z23 1 h
    else
    s_X9_saidBy_J78 (s_X9_saidBy_J108 (s_X9_saidBy_L11 n)) b0 x1 x2 x4 x5 z23 0 h
def s_X9_saidBy (b0 : Nat) (x1 : Int32) (h : tt_H) : Option (Int32 × tt_H) :=
  s_X9_saidBy_L11 1000 b0 x1 0 0 ((-9)) 0 h
abbrev rm_X9_saidBy : Room := { frames := 0, cells := 0, slots := 0, locals := 0 }
set_option maxHeartbeats 4000000 in
set_option maxRecDepth 100000 in
theorem c_X9_saidBy (l : Launch) {b0 : Nat} {x1 : Int32} {h : tt_H} {ρ : Int32 × tt_H} (hs : s_X9_saidBy b0 x1 h = some ρ) : tt_M tt_cl l yX9_saidBy wsX9_saidBy rm_X9_saidBy 0 0 false [.ref b0, .int x1] h (tt_ret (some (.int ρ.1)) ρ.2) := by
  refine tt_M.of0 (cc := cX9_saidBy) (maxL := 7) (ret := (some .int)) (by decide +kernel) rfl (Nat.le_of_ble_eq_true rfl) ?_
  intro p e s m args below meth c D ca ad n0 sz hwf hsz X hini
  unfold s_X9_saidBy at hs
  have t_11 : ∀ (fu : Nat) (b0 : Nat) (x1 : Int32) (x2 : Int32) (x3 : Int32) (x4 : Int32) (x5 : Int32) (h : tt_H), s_X9_saidBy_L11 fu b0 x1 x2 x3 x4 x5 h = some ρ → tt_T tt_cl (p, l, e, rm_X9_saidBy, s, m, args, below, meth, c, MQ below (tt_Q tt_cl D ca ad n0 sz false (tt_ret (some (.int ρ.1)) ρ.2)) args s 0 0 (tt_A ad n0 sz), D, ca, tt_A ad n0 sz, 7, some n0) ad 0 0 11 [(0, .ref b0), (1, .int x1), (2, .int x2), (3, .int x3), (4, .int x4), (5, .int x5)] [] h := by
    intro fu
    induction fu with
    | zero => intro b0 x1 x2 x3 x4 x5 h hs; exact absurd hs (by rw [s_X9_saidBy_L11]; exact fun q => by cases q)
    | succ n11 ih =>
      intro b0 x1 x2 x3 x4 x5 h hs
      rw [s_X9_saidBy_L11] at hs
      have t_11 := ih
      have t_108 : ∀ (b0 : Nat) (x1 : Int32) (x2 : Int32) (x3 : Int32) (x4 : Int32) (x5 : Int32) (h : tt_H), s_X9_saidBy_J108 (s_X9_saidBy_L11 n11) b0 x1 x2 x3 x4 x5 h = some ρ → tt_T tt_cl (p, l, e, rm_X9_saidBy, s, m, args, below, meth, c, MQ below (tt_Q tt_cl D ca ad n0 sz false (tt_ret (some (.int ρ.1)) ρ.2)) args s 0 0 (tt_A ad n0 sz), D, ca, tt_A ad n0 sz, 7, some n0) ad 0 0 108 [(0, .ref b0), (1, .int x1), (2, .int x2), (3, .int x3), (4, .int x4), (5, .int x5)] [] h := by
        intro b0 x1 x2 x3 x4 x5 h hs
        unfold s_X9_saidBy_J108 at hs
        refine tt_iinc (v := x5 + 1) X dX9_saidBy_108 rfl rfl (Nat.le_of_ble_eq_true rfl) ?_
        refine tt_goto (tgt := 11) X dX9_saidBy_111 (by decide) ?_
        refine tt_drop [0, 1, 2, 3, 4, 5] ?_
        exact t_11 b0 x1 x2 x3 x4 (x5 + 1) h hs
      have t_78 : ∀ (b0 : Nat) (x1 : Int32) (x2 : Int32) (x4 : Int32) (x5 : Int32) (x6 : Int32) (ux0 : Int32) (h : tt_H), s_X9_saidBy_J78 (s_X9_saidBy_J108 (s_X9_saidBy_L11 n11)) b0 x1 x2 x4 x5 x6 ux0 h = some ρ → tt_T tt_cl (p, l, e, rm_X9_saidBy, s, m, args, below, meth, c, MQ below (tt_Q tt_cl D ca ad n0 sz false (tt_ret (some (.int ρ.1)) ρ.2)) args s 0 0 (tt_A ad n0 sz), D, ca, tt_A ad n0 sz, 7, some n0) ad 0 0 78 [(0, .ref b0), (1, .int x1), (2, .int x2), (4, .int x4), (5, .int x5), (6, .int x6)] [.int ux0] h := by
        intro b0 x1 x2 x4 x5 x6 ux0 h hs
        unfold s_X9_saidBy_J78 at hs
        refine tt_istore_n X dX9_saidBy_78 (Nat.le_of_ble_eq_true rfl) ?_
        refine tt_aload_n X dX9_saidBy_79 rfl ?_
        obtain ⟨o80, e80, hs⟩ := gg_bind hs
        refine zr_fr X e80 rfl in_X9_saidBy_X9 (by decide) (by decide +kernel) rfl dX9_saidBy_80 ?_
        refine tt_iload X dX9_saidBy_83 rfl ?_
        obtain ⟨z85, e85, hs⟩ := gg_bind hs
        refine zr_il X e85 dX9_saidBy_85 ?_
        refine tt_iconst (v := 2) X dX9_saidBy_86 (by decide) ?_
        refine tt_icmp_ne (tgt := 108) X dX9_saidBy_87 (by decide) (fun c87 => ?_) (fun c87 => ?_)
        · rw [if_neg c87] at hs
          refine tt_drop [0, 1, 2, 3, 4, 5] ?_
          exact t_108 b0 x1 x2 ux0 x4 x5 h hs
        · rw [if_pos c87] at hs
          refine tt_iload X dX9_saidBy_90 rfl ?_
          refine tt_bipush (v := (-9)) X dX9_saidBy_92 (by decide) ?_
          refine tt_icmp_eq (tgt := 108) X dX9_saidBy_94 (by decide) (fun c94 => ?_) (fun c94 => ?_)
          · rw [if_pos c94] at hs
            refine tt_drop [0, 1, 2, 3, 4, 5] ?_
            exact t_108 b0 x1 x2 ux0 x4 x5 h hs
          · rw [if_neg c94] at hs
            refine tt_iload_n X dX9_saidBy_97 rfl ?_
            refine tt_sipush (v := 255) X dX9_saidBy_98 (by decide) ?_
            refine tt_iconst (v := 1) X dX9_saidBy_101 (by decide) ?_
            refine tt_iload X dX9_saidBy_102 rfl ?_
            refine tt_ishl X dX9_saidBy_104 ?_
            refine tt_isub X dX9_saidBy_105 ?_
            refine tt_iand X dX9_saidBy_106 ?_
            refine tt_istore_n X dX9_saidBy_107 (Nat.le_of_ble_eq_true rfl) ?_
            refine tt_drop [0, 1, 2, 3, 4, 5] ?_
            exact t_108 b0 x1 (x2 &&& (255 - ((1 : Int32) <<< (x4 &&& 31)))) ux0 x4 x5 h hs
      have t_59 : ∀ (b0 : Nat) (x1 : Int32) (x5 : Int32) (x6 : Int32) (ux0 : Int32) (h : tt_H), s_X9_saidBy_J59 (s_X9_saidBy_J108 (s_X9_saidBy_L11 n11)) b0 x1 x5 x6 ux0 h = some ρ → tt_T tt_cl (p, l, e, rm_X9_saidBy, s, m, args, below, meth, c, MQ below (tt_Q tt_cl D ca ad n0 sz false (tt_ret (some (.int ρ.1)) ρ.2)) args s 0 0 (tt_A ad n0 sz), D, ca, tt_A ad n0 sz, 7, some n0) ad 0 0 59 [(0, .ref b0), (1, .int x1), (5, .int x5), (6, .int x6)] [.int ux0] h := by
        intro b0 x1 x5 x6 ux0 h hs
        unfold s_X9_saidBy_J59 at hs
        refine tt_istore_n X dX9_saidBy_59 (Nat.le_of_ble_eq_true rfl) ?_
        refine tt_iconst (v := 0) X dX9_saidBy_60 (by decide) ?_
        refine tt_istore_n X dX9_saidBy_61 (Nat.le_of_ble_eq_true rfl) ?_
        refine tt_iload X dX9_saidBy_62 rfl ?_
        refine tt_istore X dX9_saidBy_64 (Nat.le_of_ble_eq_true rfl) ?_
        refine tt_goto (tgt := 108) X dX9_saidBy_66 (by decide) ?_
        refine tt_drop [0, 1, 2, 3, 4, 5] ?_
        exact t_108 b0 x1 ux0 0 x6 x5 h hs
      refine tt_iload X dX9_saidBy_11 rfl ?_
      refine tt_iload_n X dX9_saidBy_13 rfl ?_
      refine tt_icmp_ge (tgt := 114) X dX9_saidBy_14 (by decide) (fun c14 => ?_) (fun c14 => ?_)
      · rw [if_pos c14] at hs
        refine tt_iload_n X dX9_saidBy_114 rfl ?_
        obtain rfl := Option.some.inj hs
        exact tt_iret X rfl dX9_saidBy_115 ⟨rfl, rfl⟩
      · rw [if_neg c14] at hs
        refine tt_aload_n X dX9_saidBy_17 rfl ?_
        obtain ⟨o18, e18, hs⟩ := gg_bind hs
        refine zr_fr X e18 rfl in_X9_saidBy_X9 (by decide) (by decide +kernel) rfl dX9_saidBy_18 ?_
        refine tt_iload X dX9_saidBy_21 rfl ?_
        obtain ⟨z23, e23, hs⟩ := gg_bind hs
        refine zr_il X e23 dX9_saidBy_23 ?_
        refine tt_istore X dX9_saidBy_24 (Nat.le_of_ble_eq_true rfl) ?_
        refine tt_aload_n X dX9_saidBy_26 rfl ?_
        obtain ⟨o27, e27, hs⟩ := gg_bind hs
        refine zr_fr X e27 rfl in_X9_saidBy_X9 (by decide) (by decide +kernel) rfl dX9_saidBy_27 ?_
        refine tt_iload X dX9_saidBy_30 rfl ?_
        obtain ⟨z32, e32, hs⟩ := gg_bind hs
        refine zr_il X e32 dX9_saidBy_32 ?_
        refine tt_if_ne (tgt := 69) X dX9_saidBy_33 (by decide) (fun c33 => ?_) (fun c33 => ?_)
        · rw [if_neg c33] at hs
          refine tt_iload_n X dX9_saidBy_69 rfl ?_
          refine tt_if_ne (tgt := 77) X dX9_saidBy_70 (by decide) (fun c70 => ?_) (fun c70 => ?_)
          · rw [if_neg c70] at hs
            refine tt_iconst (v := 0) X dX9_saidBy_77 (by decide) ?_
            refine tt_drop [0, 1, 2, 4, 5, 6] ?_
            exact t_78 b0 x1 x2 x4 x5 z23 0 h hs
          · rw [if_pos c70] at hs
            refine tt_iconst (v := 1) X dX9_saidBy_73 (by decide) ?_
            refine tt_goto (tgt := 78) X dX9_saidBy_74 (by decide) ?_
            refine tt_drop [0, 1, 2, 4, 5, 6] ?_
            exact t_78 b0 x1 x2 x4 x5 z23 1 h hs
        · rw [if_pos c33] at hs
          refine tt_iload_n X dX9_saidBy_36 rfl ?_
          refine tt_if_eq (tgt := 53) X dX9_saidBy_37 (by decide) (fun c37 => ?_) (fun c37 => ?_)
          · rw [if_pos c37] at hs
            refine tt_iload_n X dX9_saidBy_53 rfl ?_
            refine tt_iconst (v := 1) X dX9_saidBy_54 (by decide) ?_
            refine tt_iload X dX9_saidBy_55 rfl ?_
            refine tt_ishl X dX9_saidBy_57 ?_
            refine tt_ior X dX9_saidBy_58 ?_
            refine tt_drop [0, 1, 5, 6] ?_
            exact t_59 b0 x1 x5 z23 (x2 ||| ((1 : Int32) <<< (z23 &&& 31))) h hs
          · rw [if_neg c37] at hs
            refine tt_iload_n X dX9_saidBy_40 rfl ?_
            refine tt_sipush (v := 255) X dX9_saidBy_41 (by decide) ?_
            refine tt_iconst (v := 1) X dX9_saidBy_44 (by decide) ?_
            refine tt_iload X dX9_saidBy_45 rfl ?_
            refine tt_ishl X dX9_saidBy_47 ?_
            refine tt_isub X dX9_saidBy_48 ?_
            refine tt_iand X dX9_saidBy_49 ?_
            refine tt_goto (tgt := 59) X dX9_saidBy_50 (by decide) ?_
            refine tt_drop [0, 1, 5, 6] ?_
            exact t_59 b0 x1 x5 z23 (x2 &&& (255 - ((1 : Int32) <<< (z23 &&& 31)))) h hs
  refine tt_iconst (v := 0) X dX9_saidBy_0 (by decide) ?_
  refine tt_istore_n X dX9_saidBy_1 (Nat.le_of_ble_eq_true rfl) ?_
  refine tt_iconst (v := 0) X dX9_saidBy_2 (by decide) ?_
  refine tt_istore_n X dX9_saidBy_3 (Nat.le_of_ble_eq_true rfl) ?_
  refine tt_bipush (v := (-9)) X dX9_saidBy_4 (by decide) ?_
  refine tt_istore X dX9_saidBy_6 (Nat.le_of_ble_eq_true rfl) ?_
  refine tt_iconst (v := 0) X dX9_saidBy_8 (by decide) ?_
  refine tt_istore X dX9_saidBy_9 (Nat.le_of_ble_eq_true rfl) ?_
  refine tt_drop [0, 1, 2, 3, 4, 5] ?_
  exact t_11 1000 b0 x1 0 0 ((-9)) 0 h hs

theorem in_X9_saidWith_X9 : ∀ w ∈ u_ws RX9 TX9 26, w ∈ wsX9_saidWith := by decide +kernel
def s_X9_saidWith_J103 (κ6 : Nat → Int32 → Int32 → Int32 → Int32 → Int32 → tt_H → Option (Int32 × tt_H)) (b0 : Nat) (x1 : Int32) (x2 : Int32) (x3 : Int32) (x4 : Int32) (x5 : Int32) (h : tt_H) : Option (Int32 × tt_H) :=
  κ6 b0 x1 x2 x3 x4 (x5 + 1) h
def s_X9_saidWith_J75 (κ6 : Nat → Int32 → Int32 → Int32 → Int32 → Int32 → tt_H → Option (Int32 × tt_H)) (b0 : Nat) (x1 : Int32) (x2 : Int32) (x3 : Int32) (x4 : Int32) (x5 : Int32) (h : tt_H) : Option (Int32 × tt_H) :=
  (gg_fr h b0 9 7).bind fun o78 =>
  (gg_il h o78 x1).bind fun z82 =>
  if z82 ≤ x5 then
    s_X9_saidWith_J103 κ6 b0 x1 x2 x3 x4 x5 h
  else
  (gg_fr h b0 9 15).bind fun o87 =>
  (gg_obj h b0 9).bind fun _ =>
  (s_X9_wordAt b0 x1 x5 h).bind fun w96 =>
  (gg_is w96.2 o87 x4 w96.1).bind fun h99 =>
  s_X9_saidWith_J103 κ6 b0 x1 x2 x3 (x4 + 1) x5 h99
def s_X9_saidWith_J46 (κ6 : Nat → Int32 → Int32 → Int32 → Int32 → Int32 → tt_H → Option (Int32 × tt_H)) (b0 : Nat) (x1 : Int32) (x2 : Int32) (x3 : Int32) (x4 : Int32) (x5 : Int32) (h : tt_H) : Option (Int32 × tt_H) :=
  if x3 = ((-9)) then
    s_X9_saidWith_J75 κ6 b0 x1 x2 x3 x4 x5 h
  else
  (gg_nz 10).bind fun _ =>
  if (x3 / 10) = x5 then
    (gg_fr h b0 9 15).bind fun o62 =>
    (gg_nz 10).bind fun _ =>
    (gg_is h o62 x4 (x3 - x3 / 10 * 10)).bind fun h71 =>
    s_X9_saidWith_J75 κ6 b0 x1 x2 x3 (x4 + 1) x5 h71
  else
  s_X9_saidWith_J75 κ6 b0 x1 x2 x3 x4 x5 h
def s_X9_saidWith_L6 : Nat → Nat → Int32 → Int32 → Int32 → Int32 → Int32 → tt_H → Option (Int32 × tt_H)
  | 0, _, _, _, _, _, _, _ => none
  | n + 1, b0, x1, x2, x3, x4, x5, h =>
    (gg_fr h b0 9 7).bind fun o9 =>
    (gg_il h o9 x1).bind fun z13 =>
    if z13 < x5 then
      (gg_obj h b0 9).bind fun _ =>
      (s_X9_saidBy b0 x4 h).bind fun w112 =>
      some (w112.1, w112.2)
    else
    if x2 = ((-9)) then
      s_X9_saidWith_J46 (s_X9_saidWith_L6 n) b0 x1 x2 x3 x4 x5 h
    else
    (gg_nz 10).bind fun _ =>
    if (x2 / 10) = x5 then
      (gg_fr h b0 9 15).bind fun o33 =>
      (gg_nz 10).bind fun _ =>
      (gg_is h o33 x4 (x2 - x2 / 10 * 10)).bind fun h42 =>
      s_X9_saidWith_J46 (s_X9_saidWith_L6 n) b0 x1 x2 x3 (x4 + 1) x5 h42
    else
    s_X9_saidWith_J46 (s_X9_saidWith_L6 n) b0 x1 x2 x3 x4 x5 h
def s_X9_saidWith (b0 : Nat) (x1 : Int32) (x2 : Int32) (x3 : Int32) (h : tt_H) : Option (Int32 × tt_H) :=
  s_X9_saidWith_L6 1000 b0 x1 x2 x3 0 0 h
abbrev rm_X9_saidWith : Room := { frames := 1, cells := 0, slots := 0, locals := 26 }
set_option maxHeartbeats 4000000 in
set_option maxRecDepth 100000 in
theorem c_X9_saidWith (l : Launch) {b0 : Nat} {x1 : Int32} {x2 : Int32} {x3 : Int32} {h : tt_H} {ρ : Int32 × tt_H} (hs : s_X9_saidWith b0 x1 x2 x3 h = some ρ) : tt_M tt_cl l yX9_saidWith wsX9_saidWith rm_X9_saidWith 0 0 false [.ref b0, .int x1, .int x2, .int x3] h (tt_ret (some (.int ρ.1)) ρ.2) := by
  refine tt_M.of0 (cc := cX9_saidWith) (maxL := 6) (ret := (some .int)) (by decide +kernel) rfl (Nat.le_of_ble_eq_true rfl) ?_
  intro p e s m args below meth c D ca ad n0 sz hwf hsz X hini
  unfold s_X9_saidWith at hs
  have t_6 : ∀ (fu : Nat) (b0 : Nat) (x1 : Int32) (x2 : Int32) (x3 : Int32) (x4 : Int32) (x5 : Int32) (h : tt_H), s_X9_saidWith_L6 fu b0 x1 x2 x3 x4 x5 h = some ρ → tt_T tt_cl (p, l, e, rm_X9_saidWith, s, m, args, below, meth, c, MQ below (tt_Q tt_cl D ca ad n0 sz false (tt_ret (some (.int ρ.1)) ρ.2)) args s 0 0 (tt_A ad n0 sz), D, ca, tt_A ad n0 sz, 6, some n0) ad 0 0 6 [(0, .ref b0), (1, .int x1), (2, .int x2), (3, .int x3), (4, .int x4), (5, .int x5)] [] h := by
    intro fu
    induction fu with
    | zero => intro b0 x1 x2 x3 x4 x5 h hs; exact absurd hs (by rw [s_X9_saidWith_L6]; exact fun q => by cases q)
    | succ n6 ih =>
      intro b0 x1 x2 x3 x4 x5 h hs
      rw [s_X9_saidWith_L6] at hs
      have t_6 := ih
      have t_46 : ∀ (b0 : Nat) (x1 : Int32) (x2 : Int32) (x3 : Int32) (x4 : Int32) (x5 : Int32) (h : tt_H), s_X9_saidWith_J46 (s_X9_saidWith_L6 n6) b0 x1 x2 x3 x4 x5 h = some ρ → tt_T tt_cl (p, l, e, rm_X9_saidWith, s, m, args, below, meth, c, MQ below (tt_Q tt_cl D ca ad n0 sz false (tt_ret (some (.int ρ.1)) ρ.2)) args s 0 0 (tt_A ad n0 sz), D, ca, tt_A ad n0 sz, 6, some n0) ad 0 0 46 [(0, .ref b0), (1, .int x1), (2, .int x2), (3, .int x3), (4, .int x4), (5, .int x5)] [] h := by
        intro b0 x1 x2 x3 x4 x5 h hs
        unfold s_X9_saidWith_J46 at hs
        have t_75 : ∀ (b0 : Nat) (x1 : Int32) (x2 : Int32) (x3 : Int32) (x4 : Int32) (x5 : Int32) (h : tt_H), s_X9_saidWith_J75 (s_X9_saidWith_L6 n6) b0 x1 x2 x3 x4 x5 h = some ρ → tt_T tt_cl (p, l, e, rm_X9_saidWith, s, m, args, below, meth, c, MQ below (tt_Q tt_cl D ca ad n0 sz false (tt_ret (some (.int ρ.1)) ρ.2)) args s 0 0 (tt_A ad n0 sz), D, ca, tt_A ad n0 sz, 6, some n0) ad 0 0 75 [(0, .ref b0), (1, .int x1), (2, .int x2), (3, .int x3), (4, .int x4), (5, .int x5)] [] h := by
          intro b0 x1 x2 x3 x4 x5 h hs
          unfold s_X9_saidWith_J75 at hs
          have t_103 : ∀ (b0 : Nat) (x1 : Int32) (x2 : Int32) (x3 : Int32) (x4 : Int32) (x5 : Int32) (h : tt_H), s_X9_saidWith_J103 (s_X9_saidWith_L6 n6) b0 x1 x2 x3 x4 x5 h = some ρ → tt_T tt_cl (p, l, e, rm_X9_saidWith, s, m, args, below, meth, c, MQ below (tt_Q tt_cl D ca ad n0 sz false (tt_ret (some (.int ρ.1)) ρ.2)) args s 0 0 (tt_A ad n0 sz), D, ca, tt_A ad n0 sz, 6, some n0) ad 0 0 103 [(0, .ref b0), (1, .int x1), (2, .int x2), (3, .int x3), (4, .int x4), (5, .int x5)] [] h := by
            intro b0 x1 x2 x3 x4 x5 h hs
            unfold s_X9_saidWith_J103 at hs
            refine tt_iinc (v := x5 + 1) X dX9_saidWith_103 rfl rfl (Nat.le_of_ble_eq_true rfl) ?_
            refine tt_goto (tgt := 6) X dX9_saidWith_106 (by decide) ?_
            refine tt_drop [0, 1, 2, 3, 4, 5] ?_
            exact t_6 b0 x1 x2 x3 x4 (x5 + 1) h hs
          refine tt_iload X dX9_saidWith_75 rfl ?_
          refine tt_aload_n X dX9_saidWith_77 rfl ?_
          obtain ⟨o78, e78, hs⟩ := gg_bind hs
          refine zr_fr X e78 rfl in_X9_saidWith_X9 (by decide) (by decide +kernel) rfl dX9_saidWith_78 ?_
          refine tt_iload_n X dX9_saidWith_81 rfl ?_
          obtain ⟨z82, e82, hs⟩ := gg_bind hs
          refine zr_il X e82 dX9_saidWith_82 ?_
          refine tt_icmp_ge (tgt := 103) X dX9_saidWith_83 (by decide) (fun c83 => ?_) (fun c83 => ?_)
          · rw [if_pos c83] at hs
            refine tt_drop [0, 1, 2, 3, 4, 5] ?_
            exact t_103 b0 x1 x2 x3 x4 x5 h hs
          · rw [if_neg c83] at hs
            refine tt_aload_n X dX9_saidWith_86 rfl ?_
            obtain ⟨o87, e87, hs⟩ := gg_bind hs
            refine zr_fr X e87 rfl in_X9_saidWith_X9 (by decide) (by decide +kernel) rfl dX9_saidWith_87 ?_
            refine tt_iload X dX9_saidWith_90 rfl ?_
            refine tt_aload_n X dX9_saidWith_92 rfl ?_
            refine tt_iload_n X dX9_saidWith_93 rfl ?_
            refine tt_iload X dX9_saidWith_94 rfl ?_
            obtain ⟨o96, f96, hs⟩ := gg_bind hs
            obtain ⟨w96, e96, hs⟩ := gg_bind hs
            refine zr_callV X f96 rfl (c_X9_wordAt l e96) (fun hts => cwV 2 hts gX9_saidWith_X9_wordAt rfl rfl rfl (by decide +kernel) ⟨by decide, by decide⟩) rfl rfl (Nat.le_of_ble_eq_true rfl) dX9_saidWith_96 ⟨Nat.zero_le _, Nat.zero_le _⟩ ?_
            obtain ⟨h99, e99, hs⟩ := gg_bind hs
            refine zr_is X e99 dX9_saidWith_99 ?_
            refine tt_iinc (v := x4 + 1) X dX9_saidWith_100 rfl rfl (Nat.le_of_ble_eq_true rfl) ?_
            refine tt_drop [0, 1, 2, 3, 4, 5] ?_
            exact t_103 b0 x1 x2 x3 (x4 + 1) x5 h99 hs
        refine tt_iload_n X dX9_saidWith_46 rfl ?_
        refine tt_bipush (v := (-9)) X dX9_saidWith_47 (by decide) ?_
        refine tt_icmp_eq (tgt := 75) X dX9_saidWith_49 (by decide) (fun c49 => ?_) (fun c49 => ?_)
        · rw [if_pos c49] at hs
          refine tt_drop [0, 1, 2, 3, 4, 5] ?_
          exact t_75 b0 x1 x2 x3 x4 x5 h hs
        · rw [if_neg c49] at hs
          refine tt_iload_n X dX9_saidWith_52 rfl ?_
          refine tt_bipush (v := 10) X dX9_saidWith_53 (by decide) ?_
          obtain ⟨q55, e55, hs⟩ := gg_bind hs
          refine tt_idiv X dX9_saidWith_55 (zr_nz e55) ?_
          refine tt_iload X dX9_saidWith_56 rfl ?_
          refine tt_icmp_ne (tgt := 75) X dX9_saidWith_58 (by decide) (fun c58 => ?_) (fun c58 => ?_)
          · rw [if_neg c58] at hs
            refine tt_drop [0, 1, 2, 3, 4, 5] ?_
            exact t_75 b0 x1 x2 x3 x4 x5 h hs
          · rw [if_pos c58] at hs
            refine tt_aload_n X dX9_saidWith_61 rfl ?_
            obtain ⟨o62, e62, hs⟩ := gg_bind hs
            refine zr_fr X e62 rfl in_X9_saidWith_X9 (by decide) (by decide +kernel) rfl dX9_saidWith_62 ?_
            refine tt_iload X dX9_saidWith_65 rfl ?_
            refine tt_iload_n X dX9_saidWith_67 rfl ?_
            refine tt_bipush (v := 10) X dX9_saidWith_68 (by decide) ?_
            obtain ⟨q70, e70, hs⟩ := gg_bind hs
            refine tt_irem X dX9_saidWith_70 (zr_nz e70) ?_
            obtain ⟨h71, e71, hs⟩ := gg_bind hs
            refine zr_is X e71 dX9_saidWith_71 ?_
            refine tt_iinc (v := x4 + 1) X dX9_saidWith_72 rfl rfl (Nat.le_of_ble_eq_true rfl) ?_
            refine tt_drop [0, 1, 2, 3, 4, 5] ?_
            exact t_75 b0 x1 x2 x3 (x4 + 1) x5 h71 hs
      refine tt_iload X dX9_saidWith_6 rfl ?_
      refine tt_aload_n X dX9_saidWith_8 rfl ?_
      obtain ⟨o9, e9, hs⟩ := gg_bind hs
      refine zr_fr X e9 rfl in_X9_saidWith_X9 (by decide) (by decide +kernel) rfl dX9_saidWith_9 ?_
      refine tt_iload_n X dX9_saidWith_12 rfl ?_
      obtain ⟨z13, e13, hs⟩ := gg_bind hs
      refine zr_il X e13 dX9_saidWith_13 ?_
      refine tt_icmp_gt (tgt := 109) X dX9_saidWith_14 (by decide) (fun c14 => ?_) (fun c14 => ?_)
      · rw [if_pos c14] at hs
        refine tt_aload_n X dX9_saidWith_109 rfl ?_
        refine tt_iload X dX9_saidWith_110 rfl ?_
        obtain ⟨o112, f112, hs⟩ := gg_bind hs
        obtain ⟨w112, e112, hs⟩ := gg_bind hs
        refine zr_callV X f112 rfl (c_X9_saidBy l e112) (fun hts => cwV 1 hts gX9_saidWith_X9_saidBy rfl rfl rfl (by decide +kernel) ⟨by decide, by decide⟩) rfl rfl (Nat.le_of_ble_eq_true rfl) dX9_saidWith_112 ⟨Nat.zero_le _, Nat.zero_le _⟩ ?_
        obtain rfl := Option.some.inj hs
        exact tt_iret X rfl dX9_saidWith_115 ⟨rfl, rfl⟩
      · rw [if_neg c14] at hs
        refine tt_iload_n X dX9_saidWith_17 rfl ?_
        refine tt_bipush (v := (-9)) X dX9_saidWith_18 (by decide) ?_
        refine tt_icmp_eq (tgt := 46) X dX9_saidWith_20 (by decide) (fun c20 => ?_) (fun c20 => ?_)
        · rw [if_pos c20] at hs
          refine tt_drop [0, 1, 2, 3, 4, 5] ?_
          exact t_46 b0 x1 x2 x3 x4 x5 h hs
        · rw [if_neg c20] at hs
          refine tt_iload_n X dX9_saidWith_23 rfl ?_
          refine tt_bipush (v := 10) X dX9_saidWith_24 (by decide) ?_
          obtain ⟨q26, e26, hs⟩ := gg_bind hs
          refine tt_idiv X dX9_saidWith_26 (zr_nz e26) ?_
          refine tt_iload X dX9_saidWith_27 rfl ?_
          refine tt_icmp_ne (tgt := 46) X dX9_saidWith_29 (by decide) (fun c29 => ?_) (fun c29 => ?_)
          · rw [if_neg c29] at hs
            refine tt_drop [0, 1, 2, 3, 4, 5] ?_
            exact t_46 b0 x1 x2 x3 x4 x5 h hs
          · rw [if_pos c29] at hs
            refine tt_aload_n X dX9_saidWith_32 rfl ?_
            obtain ⟨o33, e33, hs⟩ := gg_bind hs
            refine zr_fr X e33 rfl in_X9_saidWith_X9 (by decide) (by decide +kernel) rfl dX9_saidWith_33 ?_
            refine tt_iload X dX9_saidWith_36 rfl ?_
            refine tt_iload_n X dX9_saidWith_38 rfl ?_
            refine tt_bipush (v := 10) X dX9_saidWith_39 (by decide) ?_
            obtain ⟨q41, e41, hs⟩ := gg_bind hs
            refine tt_irem X dX9_saidWith_41 (zr_nz e41) ?_
            obtain ⟨h42, e42, hs⟩ := gg_bind hs
            refine zr_is X e42 dX9_saidWith_42 ?_
            refine tt_iinc (v := x4 + 1) X dX9_saidWith_43 rfl rfl (Nat.le_of_ble_eq_true rfl) ?_
            refine tt_drop [0, 1, 2, 3, 4, 5] ?_
            exact t_46 b0 x1 x2 x3 (x4 + 1) x5 h42 hs
  refine tt_iconst (v := 0) X dX9_saidWith_0 (by decide) ?_
  refine tt_istore X dX9_saidWith_1 (Nat.le_of_ble_eq_true rfl) ?_
  refine tt_iconst (v := 0) X dX9_saidWith_3 (by decide) ?_
  refine tt_istore X dX9_saidWith_4 (Nat.le_of_ble_eq_true rfl) ?_
  refine tt_drop [0, 1, 2, 3, 4, 5] ?_
  exact t_6 1000 b0 x1 x2 x3 0 0 h hs

def s_X9_isSo_J22 (x3 : Int32) (ux0 : Int32) (h : tt_H) : Option (Int32 × tt_H) :=
  if ux0 = x3 then
    some (1, h)
  else
  some (0, h)
def s_X9_isSo (b0 : Nat) (x1 : Int32) (x2 : Int32) (x3 : Int32) (x4 : Int32) (x5 : Int32) (h : tt_H) : Option (Int32 × tt_H) :=
  (gg_obj h b0 9).bind fun _ =>
  (s_X9_saidWith b0 x1 x4 x5 h).bind fun w6 =>
  if ((w6.1 >>> (x2 &&& 31)) &&& 1) = 1 then
    s_X9_isSo_J22 x3 1 w6.2
  else
  s_X9_isSo_J22 x3 0 w6.2
abbrev rm_X9_isSo : Room := { frames := 2, cells := 0, slots := 0, locals := 51 }
set_option maxHeartbeats 4000000 in
set_option maxRecDepth 100000 in
theorem c_X9_isSo (l : Launch) {b0 : Nat} {x1 : Int32} {x2 : Int32} {x3 : Int32} {x4 : Int32} {x5 : Int32} {h : tt_H} {ρ : Int32 × tt_H} (hs : s_X9_isSo b0 x1 x2 x3 x4 x5 h = some ρ) : tt_M tt_cl l yX9_isSo wsX9_isSo rm_X9_isSo 0 0 false [.ref b0, .int x1, .int x2, .int x3, .int x4, .int x5] h (tt_ret (some (.int ρ.1)) ρ.2) := by
  refine tt_M.of0 (cc := cX9_isSo) (maxL := 6) (ret := (some .boolean)) (by decide +kernel) rfl (Nat.le_of_ble_eq_true rfl) ?_
  intro p e s m args below meth c D ca ad n0 sz hwf hsz X hini
  unfold s_X9_isSo at hs
  have t_22 : ∀ (x3 : Int32) (ux0 : Int32) (h : tt_H), s_X9_isSo_J22 x3 ux0 h = some ρ → tt_T tt_cl (p, l, e, rm_X9_isSo, s, m, args, below, meth, c, MQ below (tt_Q tt_cl D ca ad n0 sz false (tt_ret (some (.int ρ.1)) ρ.2)) args s 0 0 (tt_A ad n0 sz), D, ca, tt_A ad n0 sz, 6, some n0) ad 0 0 22 [(3, .int x3)] [.int ux0] h := by
    intro x3 ux0 h hs
    unfold s_X9_isSo_J22 at hs
    refine tt_iload_n X dX9_isSo_22 rfl ?_
    refine tt_icmp_ne (tgt := 30) X dX9_isSo_23 (by decide) (fun c23 => ?_) (fun c23 => ?_)
    · rw [if_neg c23] at hs
      refine tt_iconst (v := 0) X dX9_isSo_30 (by decide) ?_
      obtain rfl := Option.some.inj hs
      exact tt_zret X rfl rfl dX9_isSo_31 ⟨rfl, rfl⟩
    · rw [if_pos c23] at hs
      refine tt_iconst (v := 1) X dX9_isSo_26 (by decide) ?_
      refine tt_goto (tgt := 31) X dX9_isSo_27 (by decide) ?_
      obtain rfl := Option.some.inj hs
      exact tt_zret X rfl rfl dX9_isSo_31 ⟨rfl, rfl⟩
  refine tt_aload_n X dX9_isSo_0 rfl ?_
  refine tt_iload_n X dX9_isSo_1 rfl ?_
  refine tt_iload X dX9_isSo_2 rfl ?_
  refine tt_iload X dX9_isSo_4 rfl ?_
  obtain ⟨o6, f6, hs⟩ := gg_bind hs
  obtain ⟨w6, e6, hs⟩ := gg_bind hs
  refine zr_callV X f6 rfl (c_X9_saidWith l e6) (fun hts => cwV 3 hts gX9_isSo_X9_saidWith rfl rfl rfl (by decide +kernel) ⟨by decide, by decide⟩) rfl rfl (Nat.le_of_ble_eq_true rfl) dX9_isSo_6 ⟨Nat.zero_le _, Nat.zero_le _⟩ ?_
  refine tt_iload_n X dX9_isSo_9 rfl ?_
  refine tt_ishr X dX9_isSo_10 ?_
  refine tt_iconst (v := 1) X dX9_isSo_11 (by decide) ?_
  refine tt_iand X dX9_isSo_12 ?_
  refine tt_iconst (v := 1) X dX9_isSo_13 (by decide) ?_
  refine tt_icmp_ne (tgt := 21) X dX9_isSo_14 (by decide) (fun c14 => ?_) (fun c14 => ?_)
  · rw [if_neg c14] at hs
    refine tt_iconst (v := 0) X dX9_isSo_21 (by decide) ?_
    refine tt_drop [3] ?_
    exact t_22 x3 0 w6.2 hs
  · rw [if_pos c14] at hs
    refine tt_iconst (v := 1) X dX9_isSo_17 (by decide) ?_
    refine tt_goto (tgt := 22) X dX9_isSo_18 (by decide) ?_
    refine tt_drop [3] ?_
    exact t_22 x3 1 w6.2 hs
