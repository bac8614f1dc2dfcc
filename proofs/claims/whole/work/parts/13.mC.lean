theorem in_X3_make_X3 : ∀ w ∈ u_ws RX3 TX3 3, w ∈ wsX3_make := by decide +kernel
def s_X3_make_J116 (κ78 : Nat → Nat → Nat → Int32 → Int32 → tt_H → Option (Int32 × tt_H)) (b0 : Nat) (b1 : Nat) (b2 : Nat) (x3 : Int32) (x4 : Int32) (h : tt_H) : Option (Int32 × tt_H) :=
  κ78 b0 b1 b2 x3 (x4 + (-1)) h
def s_X3_make_L78 : Nat → Nat → Nat → Nat → Int32 → Int32 → tt_H → Option (Int32 × tt_H)
  | 0, _, _, _, _, _, _ => none
  | n + 1, b0, b1, b2, x3, x4, h =>
    if x4 < 0 then
      some (1, h)
    else
    (gg_obj h b1 2).bind fun _ =>
    (s_X2_has b1 x3 h).bind fun w85 =>
    if w85.1 = 0 then
      s_X3_make_J116 (s_X3_make_L78 n) b0 b1 b2 x3 x4 w85.2
    else
    (gg_obj w85.2 b1 2).bind fun _ =>
    (s_X2_at b1 x3 w85.2).bind fun w93 =>
    (gg_obj w93.2 b2 2).bind fun _ =>
    (s_X2_at b2 x4 w93.2).bind fun w99 =>
    if w93.1 = w99.1 then
      (gg_fr w99.2 b0 3 1).bind fun o106 =>
      (gg_is w99.2 o106 x3 x4).bind fun h112 =>
      s_X3_make_J116 (s_X3_make_L78 n) b0 b1 b2 (x3 + (-1)) x4 h112
    else
    s_X3_make_J116 (s_X3_make_L78 n) b0 b1 b2 x3 x4 w99.2
def s_X3_make_J47 (κ5 : Nat → Nat → Nat → Int32 → Int32 → tt_H → Option (Int32 × tt_H)) (b0 : Nat) (b1 : Nat) (b2 : Nat) (x3 : Int32) (x4 : Int32) (h : tt_H) : Option (Int32 × tt_H) :=
  κ5 b0 b1 b2 x3 (x4 + 1) h
def s_X3_make_L5 : Nat → Nat → Nat → Nat → Int32 → Int32 → tt_H → Option (Int32 × tt_H)
  | 0, _, _, _, _, _, _ => none
  | n + 1, b0, b1, b2, x3, x4, h =>
    (gg_obj h b2 2).bind fun _ =>
    (s_X2_size b2 h).bind fun w8 =>
    if w8.1 ≤ x4 then
      (gg_obj w8.2 b1 2).bind fun _ =>
      (s_X2_size b1 w8.2).bind fun w55 =>
      if w55.1 ≤ x3 then
        (gg_obj w55.2 b1 2).bind fun _ =>
        (s_X2_size b1 w55.2).bind fun w64 =>
        (gg_obj w64.2 b2 2).bind fun _ =>
        (s_X2_size b2 w64.2).bind fun w71 =>
        s_X3_make_L78 1000 b0 b1 b2 (w64.1 - 1) (w71.1 - 1) w71.2
      else
      some (0, w55.2)
    else
    (gg_obj w8.2 b1 2).bind fun _ =>
    (s_X2_has b1 x3 w8.2).bind fun w16 =>
    if w16.1 = 0 then
      s_X3_make_J47 (s_X3_make_L5 n) b0 b1 b2 x3 x4 w16.2
    else
    (gg_obj w16.2 b1 2).bind fun _ =>
    (s_X2_at b1 x3 w16.2).bind fun w24 =>
    (gg_obj w24.2 b2 2).bind fun _ =>
    (s_X2_at b2 x4 w24.2).bind fun w30 =>
    if w24.1 = w30.1 then
      (gg_fr w30.2 b0 3 0).bind fun o37 =>
      (gg_is w30.2 o37 x3 x4).bind fun h43 =>
      s_X3_make_J47 (s_X3_make_L5 n) b0 b1 b2 (x3 + 1) x4 h43
    else
    s_X3_make_J47 (s_X3_make_L5 n) b0 b1 b2 x3 x4 w30.2
def s_X3_make (b0 : Nat) (b1 : Nat) (b2 : Nat) (h : tt_H) : Option (Int32 × tt_H) :=
  s_X3_make_L5 1000 b0 b1 b2 0 0 h
abbrev rm_X3_make : Room := { frames := 2, cells := 0, slots := 0, locals := 42 }
set_option maxHeartbeats 4000000 in
set_option maxRecDepth 100000 in
theorem c_X3_make (l : Launch) {b0 : Nat} {b1 : Nat} {b2 : Nat} {h : tt_H} {ρ : Int32 × tt_H} (hs : s_X3_make b0 b1 b2 h = some ρ) : tt_M tt_cl l yX3_make wsX3_make rm_X3_make 0 0 false [.ref b0, .ref b1, .ref b2] h (tt_ret (some (.int ρ.1)) ρ.2) := by
  refine tt_M.of0 (cc := cX3_make) (maxL := 5) (ret := (some .boolean)) (by decide +kernel) rfl (Nat.le_of_ble_eq_true rfl) ?_
  intro p e s m args below meth c D ca ad n0 sz hwf hsz X hini
  unfold s_X3_make at hs
  have t_5 : ∀ (fu : Nat) (b0 : Nat) (b1 : Nat) (b2 : Nat) (x3 : Int32) (x4 : Int32) (h : tt_H), s_X3_make_L5 fu b0 b1 b2 x3 x4 h = some ρ → tt_T tt_cl (p, l, e, rm_X3_make, s, m, args, below, meth, c, MQ below (tt_Q tt_cl D ca ad n0 sz false (tt_ret (some (.int ρ.1)) ρ.2)) args s 0 0 (tt_A ad n0 sz), D, ca, tt_A ad n0 sz, 5, some n0) ad 0 0 5 [(0, .ref b0), (1, .ref b1), (2, .ref b2), (3, .int x3), (4, .int x4)] [] h := by
    intro fu
    induction fu with
    | zero => intro b0 b1 b2 x3 x4 h hs; exact absurd hs (by rw [s_X3_make_L5]; exact fun q => by cases q)
    | succ n5 ih =>
      intro b0 b1 b2 x3 x4 h hs
      rw [s_X3_make_L5] at hs
      have t_5 := ih
      have t_78 : ∀ (fu : Nat) (b0 : Nat) (b1 : Nat) (b2 : Nat) (x3 : Int32) (x4 : Int32) (h : tt_H), s_X3_make_L78 fu b0 b1 b2 x3 x4 h = some ρ → tt_T tt_cl (p, l, e, rm_X3_make, s, m, args, below, meth, c, MQ below (tt_Q tt_cl D ca ad n0 sz false (tt_ret (some (.int ρ.1)) ρ.2)) args s 0 0 (tt_A ad n0 sz), D, ca, tt_A ad n0 sz, 5, some n0) ad 0 0 78 [(0, .ref b0), (1, .ref b1), (2, .ref b2), (3, .int x3), (4, .int x4)] [] h := by
        intro fu
        induction fu with
        | zero => intro b0 b1 b2 x3 x4 h hs; exact absurd hs (by rw [s_X3_make_L78]; exact fun q => by cases q)
        | succ n78 ih =>
          intro b0 b1 b2 x3 x4 h hs
          rw [s_X3_make_L78] at hs
          have t_78 := ih
          have t_116 : ∀ (b0 : Nat) (b1 : Nat) (b2 : Nat) (x3 : Int32) (x4 : Int32) (h : tt_H), s_X3_make_J116 (s_X3_make_L78 n78) b0 b1 b2 x3 x4 h = some ρ → tt_T tt_cl (p, l, e, rm_X3_make, s, m, args, below, meth, c, MQ below (tt_Q tt_cl D ca ad n0 sz false (tt_ret (some (.int ρ.1)) ρ.2)) args s 0 0 (tt_A ad n0 sz), D, ca, tt_A ad n0 sz, 5, some n0) ad 0 0 116 [(0, .ref b0), (1, .ref b1), (2, .ref b2), (3, .int x3), (4, .int x4)] [] h := by
            intro b0 b1 b2 x3 x4 h hs
            unfold s_X3_make_J116 at hs
            refine tt_iinc (v := x4 + (-1)) X dX3_make_116 rfl rfl (Nat.le_of_ble_eq_true rfl) ?_
            refine tt_goto (tgt := 78) X dX3_make_119 (by decide) ?_
            refine tt_drop [0, 1, 2, 3, 4] ?_
            exact t_78 b0 b1 b2 x3 (x4 + (-1)) h hs
          refine tt_iload X dX3_make_78 rfl ?_
          refine tt_if_lt (tgt := 122) X dX3_make_80 (by decide) (fun c80 => ?_) (fun c80 => ?_)
          · rw [if_pos c80] at hs
            refine tt_iconst (v := 1) X dX3_make_122 (by decide) ?_
            obtain rfl := Option.some.inj hs
            exact tt_zret X rfl rfl dX3_make_123 ⟨rfl, rfl⟩
          · rw [if_neg c80] at hs
            refine tt_aload_n X dX3_make_83 rfl ?_
            refine tt_iload_n X dX3_make_84 rfl ?_
            obtain ⟨o85, f85, hs⟩ := gg_bind hs
            obtain ⟨w85, e85, hs⟩ := gg_bind hs
            refine zr_callV X f85 rfl (c_X2_has l e85) (fun hts => cwV 1 hts gX3_make_X2_has rfl rfl rfl (by decide +kernel) ⟨by decide, by decide⟩) rfl rfl (Nat.le_of_ble_eq_true rfl) dX3_make_85 ⟨Nat.zero_le _, Nat.zero_le _⟩ ?_
            refine tt_if_eq (tgt := 116) X dX3_make_88 (by decide) (fun c88 => ?_) (fun c88 => ?_)
            · rw [if_pos c88] at hs
              refine tt_drop [0, 1, 2, 3, 4] ?_
              exact t_116 b0 b1 b2 x3 x4 w85.2 hs
            · rw [if_neg c88] at hs
              refine tt_aload_n X dX3_make_91 rfl ?_
              refine tt_iload_n X dX3_make_92 rfl ?_
              obtain ⟨o93, f93, hs⟩ := gg_bind hs
              obtain ⟨w93, e93, hs⟩ := gg_bind hs
              refine zr_callV X f93 rfl (c_X2_at l e93) (fun hts => cwV 1 hts gX3_make_X2_at rfl rfl rfl (by decide +kernel) ⟨by decide, by decide⟩) rfl rfl (Nat.le_of_ble_eq_true rfl) dX3_make_93 ⟨Nat.zero_le _, Nat.zero_le _⟩ ?_
              refine tt_aload_n X dX3_make_96 rfl ?_
              refine tt_iload X dX3_make_97 rfl ?_
              obtain ⟨o99, f99, hs⟩ := gg_bind hs
              obtain ⟨w99, e99, hs⟩ := gg_bind hs
              refine zr_callV X f99 rfl (c_X2_at l e99) (fun hts => cwV 1 hts gX3_make_X2_at rfl rfl rfl (by decide +kernel) ⟨by decide, by decide⟩) rfl rfl (Nat.le_of_ble_eq_true rfl) dX3_make_99 ⟨Nat.zero_le _, Nat.zero_le _⟩ ?_
              refine tt_icmp_ne (tgt := 116) X dX3_make_102 (by decide) (fun c102 => ?_) (fun c102 => ?_)
              · rw [if_neg c102] at hs
                refine tt_drop [0, 1, 2, 3, 4] ?_
                exact t_116 b0 b1 b2 x3 x4 w99.2 hs
              · rw [if_pos c102] at hs
                refine tt_aload_n X dX3_make_105 rfl ?_
                obtain ⟨o106, e106, hs⟩ := gg_bind hs
                refine zr_fr X e106 rfl in_X3_make_X3 (by decide) (by decide +kernel) rfl dX3_make_106 ?_
                refine tt_iload_n X dX3_make_109 rfl ?_
                refine tt_iload X dX3_make_110 rfl ?_
                obtain ⟨h112, e112, hs⟩ := gg_bind hs
                refine zr_is X e112 dX3_make_112 ?_
                refine tt_iinc (v := x3 + (-1)) X dX3_make_113 rfl rfl (Nat.le_of_ble_eq_true rfl) ?_
                refine tt_drop [0, 1, 2, 3, 4] ?_
                exact t_116 b0 b1 b2 (x3 + (-1)) x4 h112 hs
      have t_47 : ∀ (b0 : Nat) (b1 : Nat) (b2 : Nat) (x3 : Int32) (x4 : Int32) (h : tt_H), s_X3_make_J47 (s_X3_make_L5 n5) b0 b1 b2 x3 x4 h = some ρ → tt_T tt_cl (p, l, e, rm_X3_make, s, m, args, below, meth, c, MQ below (tt_Q tt_cl D ca ad n0 sz false (tt_ret (some (.int ρ.1)) ρ.2)) args s 0 0 (tt_A ad n0 sz), D, ca, tt_A ad n0 sz, 5, some n0) ad 0 0 47 [(0, .ref b0), (1, .ref b1), (2, .ref b2), (3, .int x3), (4, .int x4)] [] h := by
        intro b0 b1 b2 x3 x4 h hs
        unfold s_X3_make_J47 at hs
        refine tt_iinc (v := x4 + 1) X dX3_make_47 rfl rfl (Nat.le_of_ble_eq_true rfl) ?_
        refine tt_goto (tgt := 5) X dX3_make_50 (by decide) ?_
        refine tt_drop [0, 1, 2, 3, 4] ?_
        exact t_5 b0 b1 b2 x3 (x4 + 1) h hs
      refine tt_iload X dX3_make_5 rfl ?_
      refine tt_aload_n X dX3_make_7 rfl ?_
      obtain ⟨o8, f8, hs⟩ := gg_bind hs
      obtain ⟨w8, e8, hs⟩ := gg_bind hs
      refine zr_callV X f8 rfl (c_X2_size l e8) (fun hts => cwV 0 hts gX3_make_X2_size rfl rfl rfl (by decide +kernel) ⟨by decide, by decide⟩) rfl rfl (Nat.le_of_ble_eq_true rfl) dX3_make_8 ⟨Nat.zero_le _, Nat.zero_le _⟩ ?_
      refine tt_icmp_ge (tgt := 53) X dX3_make_11 (by decide) (fun c11 => ?_) (fun c11 => ?_)
      · rw [if_pos c11] at hs
        refine tt_iload_n X dX3_make_53 rfl ?_
        refine tt_aload_n X dX3_make_54 rfl ?_
        obtain ⟨o55, f55, hs⟩ := gg_bind hs
        obtain ⟨w55, e55, hs⟩ := gg_bind hs
        refine zr_callV X f55 rfl (c_X2_size l e55) (fun hts => cwV 0 hts gX3_make_X2_size rfl rfl rfl (by decide +kernel) ⟨by decide, by decide⟩) rfl rfl (Nat.le_of_ble_eq_true rfl) dX3_make_55 ⟨Nat.zero_le _, Nat.zero_le _⟩ ?_
        refine tt_icmp_ge (tgt := 63) X dX3_make_58 (by decide) (fun c58 => ?_) (fun c58 => ?_)
        · rw [if_pos c58] at hs
          refine tt_aload_n X dX3_make_63 rfl ?_
          obtain ⟨o64, f64, hs⟩ := gg_bind hs
          obtain ⟨w64, e64, hs⟩ := gg_bind hs
          refine zr_callV X f64 rfl (c_X2_size l e64) (fun hts => cwV 0 hts gX3_make_X2_size rfl rfl rfl (by decide +kernel) ⟨by decide, by decide⟩) rfl rfl (Nat.le_of_ble_eq_true rfl) dX3_make_64 ⟨Nat.zero_le _, Nat.zero_le _⟩ ?_
          refine tt_iconst (v := 1) X dX3_make_67 (by decide) ?_
          refine tt_isub X dX3_make_68 ?_
          refine tt_istore_n X dX3_make_69 (Nat.le_of_ble_eq_true rfl) ?_
          refine tt_aload_n X dX3_make_70 rfl ?_
          obtain ⟨o71, f71, hs⟩ := gg_bind hs
          obtain ⟨w71, e71, hs⟩ := gg_bind hs
          refine zr_callV X f71 rfl (c_X2_size l e71) (fun hts => cwV 0 hts gX3_make_X2_size rfl rfl rfl (by decide +kernel) ⟨by decide, by decide⟩) rfl rfl (Nat.le_of_ble_eq_true rfl) dX3_make_71 ⟨Nat.zero_le _, Nat.zero_le _⟩ ?_
          refine tt_iconst (v := 1) X dX3_make_74 (by decide) ?_
          refine tt_isub X dX3_make_75 ?_
          refine tt_istore X dX3_make_76 (Nat.le_of_ble_eq_true rfl) ?_
          refine tt_drop [0, 1, 2, 3, 4] ?_
          exact t_78 1000 b0 b1 b2 (w64.1 - 1) (w71.1 - 1) w71.2 hs
        · rw [if_neg c58] at hs
          refine tt_iconst (v := 0) X dX3_make_61 (by decide) ?_
          obtain rfl := Option.some.inj hs
          exact tt_zret X rfl rfl dX3_make_62 ⟨rfl, rfl⟩
      · rw [if_neg c11] at hs
        refine tt_aload_n X dX3_make_14 rfl ?_
        refine tt_iload_n X dX3_make_15 rfl ?_
        obtain ⟨o16, f16, hs⟩ := gg_bind hs
        obtain ⟨w16, e16, hs⟩ := gg_bind hs
        refine zr_callV X f16 rfl (c_X2_has l e16) (fun hts => cwV 1 hts gX3_make_X2_has rfl rfl rfl (by decide +kernel) ⟨by decide, by decide⟩) rfl rfl (Nat.le_of_ble_eq_true rfl) dX3_make_16 ⟨Nat.zero_le _, Nat.zero_le _⟩ ?_
        refine tt_if_eq (tgt := 47) X dX3_make_19 (by decide) (fun c19 => ?_) (fun c19 => ?_)
        · rw [if_pos c19] at hs
          refine tt_drop [0, 1, 2, 3, 4] ?_
          exact t_47 b0 b1 b2 x3 x4 w16.2 hs
        · rw [if_neg c19] at hs
          refine tt_aload_n X dX3_make_22 rfl ?_
          refine tt_iload_n X dX3_make_23 rfl ?_
          obtain ⟨o24, f24, hs⟩ := gg_bind hs
          obtain ⟨w24, e24, hs⟩ := gg_bind hs
          refine zr_callV X f24 rfl (c_X2_at l e24) (fun hts => cwV 1 hts gX3_make_X2_at rfl rfl rfl (by decide +kernel) ⟨by decide, by decide⟩) rfl rfl (Nat.le_of_ble_eq_true rfl) dX3_make_24 ⟨Nat.zero_le _, Nat.zero_le _⟩ ?_
          refine tt_aload_n X dX3_make_27 rfl ?_
          refine tt_iload X dX3_make_28 rfl ?_
          obtain ⟨o30, f30, hs⟩ := gg_bind hs
          obtain ⟨w30, e30, hs⟩ := gg_bind hs
          refine zr_callV X f30 rfl (c_X2_at l e30) (fun hts => cwV 1 hts gX3_make_X2_at rfl rfl rfl (by decide +kernel) ⟨by decide, by decide⟩) rfl rfl (Nat.le_of_ble_eq_true rfl) dX3_make_30 ⟨Nat.zero_le _, Nat.zero_le _⟩ ?_
          refine tt_icmp_ne (tgt := 47) X dX3_make_33 (by decide) (fun c33 => ?_) (fun c33 => ?_)
          · rw [if_neg c33] at hs
            refine tt_drop [0, 1, 2, 3, 4] ?_
            exact t_47 b0 b1 b2 x3 x4 w30.2 hs
          · rw [if_pos c33] at hs
            refine tt_aload_n X dX3_make_36 rfl ?_
            obtain ⟨o37, e37, hs⟩ := gg_bind hs
            refine zr_fr X e37 rfl in_X3_make_X3 (by decide) (by decide +kernel) rfl dX3_make_37 ?_
            refine tt_iload_n X dX3_make_40 rfl ?_
            refine tt_iload X dX3_make_41 rfl ?_
            obtain ⟨h43, e43, hs⟩ := gg_bind hs
            refine zr_is X e43 dX3_make_43 ?_
            refine tt_iinc (v := x3 + 1) X dX3_make_44 rfl rfl (Nat.le_of_ble_eq_true rfl) ?_
            refine tt_drop [0, 1, 2, 3, 4] ?_
            exact t_47 b0 b1 b2 (x3 + 1) x4 h43 hs
  refine tt_iconst (v := 0) X dX3_make_0 (by decide) ?_
  refine tt_istore_n X dX3_make_1 (Nat.le_of_ble_eq_true rfl) ?_
  refine tt_iconst (v := 0) X dX3_make_2 (by decide) ?_
  refine tt_istore X dX3_make_3 (Nat.le_of_ble_eq_true rfl) ?_
  refine tt_drop [0, 1, 2, 3, 4] ?_
  exact t_5 1000 b0 b1 b2 0 0 h hs

theorem in_X3_first_X3 : ∀ w ∈ u_ws RX3 TX3 3, w ∈ wsX3_first := by decide +kernel
def s_X3_first (b0 : Nat) (x1 : Int32) (h : tt_H) : Option (Int32 × tt_H) :=
  if x1 < 0 then
    some ((-9), h)
  else
  if 12 ≤ x1 then
    some ((-9), h)
  else
  (gg_fr h b0 3 0).bind fun o11 =>
  (gg_il h o11 x1).bind fun z15 =>
  some (z15, h)
abbrev rm_X3_first : Room := { frames := 0, cells := 0, slots := 0, locals := 0 }
set_option maxHeartbeats 4000000 in
set_option maxRecDepth 100000 in
theorem c_X3_first (l : Launch) {b0 : Nat} {x1 : Int32} {h : tt_H} {ρ : Int32 × tt_H} (hs : s_X3_first b0 x1 h = some ρ) : tt_M tt_cl l yX3_first wsX3_first rm_X3_first 0 0 false [.ref b0, .int x1] h (tt_ret (some (.int ρ.1)) ρ.2) := by
  refine tt_M.of0 (cc := cX3_first) (maxL := 2) (ret := (some .int)) (by decide +kernel) rfl (Nat.le_of_ble_eq_true rfl) ?_
  intro p e s m args below meth c D ca ad n0 sz hwf hsz X hini
  unfold s_X3_first at hs
  refine tt_iload_n X dX3_first_0 rfl ?_
  refine tt_if_lt (tgt := 19) X dX3_first_1 (by decide) (fun c1 => ?_) (fun c1 => ?_)
  · rw [if_pos c1] at hs
    refine tt_bipush (v := (-9)) X dX3_first_19 (by decide) ?_
    obtain rfl := Option.some.inj hs
    exact tt_iret X rfl dX3_first_21 ⟨rfl, rfl⟩
  · rw [if_neg c1] at hs
    refine tt_iload_n X dX3_first_4 rfl ?_
    refine tt_bipush (v := 12) X dX3_first_5 (by decide) ?_
    refine tt_icmp_ge (tgt := 19) X dX3_first_7 (by decide) (fun c7 => ?_) (fun c7 => ?_)
    · rw [if_pos c7] at hs
      refine tt_bipush (v := (-9)) X dX3_first_19 (by decide) ?_
      obtain rfl := Option.some.inj hs
      exact tt_iret X rfl dX3_first_21 ⟨rfl, rfl⟩
    · rw [if_neg c7] at hs
      refine tt_aload_n X dX3_first_10 rfl ?_
      obtain ⟨o11, e11, hs⟩ := gg_bind hs
      refine zr_fr X e11 rfl in_X3_first_X3 (by decide) (by decide +kernel) rfl dX3_first_11 ?_
      refine tt_iload_n X dX3_first_14 rfl ?_
      obtain ⟨z15, e15, hs⟩ := gg_bind hs
      refine zr_il X e15 dX3_first_15 ?_
      refine tt_goto (tgt := 21) X dX3_first_16 (by decide) ?_
      obtain rfl := Option.some.inj hs
      exact tt_iret X rfl dX3_first_21 ⟨rfl, rfl⟩

theorem in_X3_last_X3 : ∀ w ∈ u_ws RX3 TX3 3, w ∈ wsX3_last := by decide +kernel
def s_X3_last (b0 : Nat) (x1 : Int32) (h : tt_H) : Option (Int32 × tt_H) :=
  if x1 < 0 then
    some ((-9), h)
  else
  if 12 ≤ x1 then
    some ((-9), h)
  else
  (gg_fr h b0 3 1).bind fun o11 =>
  (gg_il h o11 x1).bind fun z15 =>
  some (z15, h)
abbrev rm_X3_last : Room := { frames := 0, cells := 0, slots := 0, locals := 0 }
set_option maxHeartbeats 4000000 in
set_option maxRecDepth 100000 in
theorem c_X3_last (l : Launch) {b0 : Nat} {x1 : Int32} {h : tt_H} {ρ : Int32 × tt_H} (hs : s_X3_last b0 x1 h = some ρ) : tt_M tt_cl l yX3_last wsX3_last rm_X3_last 0 0 false [.ref b0, .int x1] h (tt_ret (some (.int ρ.1)) ρ.2) := by
  refine tt_M.of0 (cc := cX3_last) (maxL := 2) (ret := (some .int)) (by decide +kernel) rfl (Nat.le_of_ble_eq_true rfl) ?_
  intro p e s m args below meth c D ca ad n0 sz hwf hsz X hini
  unfold s_X3_last at hs
  refine tt_iload_n X dX3_last_0 rfl ?_
  refine tt_if_lt (tgt := 19) X dX3_last_1 (by decide) (fun c1 => ?_) (fun c1 => ?_)
  · rw [if_pos c1] at hs
    refine tt_bipush (v := (-9)) X dX3_last_19 (by decide) ?_
    obtain rfl := Option.some.inj hs
    exact tt_iret X rfl dX3_last_21 ⟨rfl, rfl⟩
  · rw [if_neg c1] at hs
    refine tt_iload_n X dX3_last_4 rfl ?_
    refine tt_bipush (v := 12) X dX3_last_5 (by decide) ?_
    refine tt_icmp_ge (tgt := 19) X dX3_last_7 (by decide) (fun c7 => ?_) (fun c7 => ?_)
    · rw [if_pos c7] at hs
      refine tt_bipush (v := (-9)) X dX3_last_19 (by decide) ?_
      obtain rfl := Option.some.inj hs
      exact tt_iret X rfl dX3_last_21 ⟨rfl, rfl⟩
    · rw [if_neg c7] at hs
      refine tt_aload_n X dX3_last_10 rfl ?_
      obtain ⟨o11, e11, hs⟩ := gg_bind hs
      refine zr_fr X e11 rfl in_X3_last_X3 (by decide) (by decide +kernel) rfl dX3_last_11 ?_
      refine tt_iload_n X dX3_last_14 rfl ?_
      obtain ⟨z15, e15, hs⟩ := gg_bind hs
      refine zr_il X e15 dX3_last_15 ?_
      refine tt_goto (tgt := 21) X dX3_last_16 (by decide) ?_
      obtain rfl := Option.some.inj hs
      exact tt_iret X rfl dX3_last_21 ⟨rfl, rfl⟩

def s_X3_canStand_J59 (κ14 : Nat → Nat → Nat → Int32 → Int32 → tt_H → Option (Int32 × tt_H)) (b0 : Nat) (b1 : Nat) (b2 : Nat) (x3 : Int32) (x4 : Int32) (h : tt_H) : Option (Int32 × tt_H) :=
  κ14 b0 b1 b2 x3 (x4 + 1) h
def s_X3_canStand_L14 : Nat → Nat → Nat → Nat → Int32 → Int32 → tt_H → Option (Int32 × tt_H)
  | 0, _, _, _, _, _, _ => none
  | n + 1, b0, b1, b2, x3, x4, h =>
    (gg_obj h b1 2).bind fun _ =>
    (s_X2_size b1 h).bind fun w17 =>
    if w17.1 ≤ x4 then
      some (0, w17.2)
    else
    (gg_obj w17.2 b1 2).bind fun _ =>
    (s_X2_at b1 x4 w17.2).bind fun w26 =>
    (gg_obj w26.2 b2 2).bind fun _ =>
    (s_X2_at b2 x3 w26.2).bind fun w31 =>
    if w26.1 = w31.1 then
      (gg_obj w31.2 b0 3).bind fun _ =>
      (s_X3_first b0 x4 w31.2).bind fun w40 =>
      if x3 < w40.1 then
        s_X3_canStand_J59 (s_X3_canStand_L14 n) b0 b1 b2 x3 x4 w40.2
      else
      (gg_obj w40.2 b0 3).bind fun _ =>
      (s_X3_last b0 x4 w40.2).bind fun w51 =>
      if w51.1 < x3 then
        s_X3_canStand_J59 (s_X3_canStand_L14 n) b0 b1 b2 x3 x4 w51.2
      else
      some (1, w51.2)
    else
    s_X3_canStand_J59 (s_X3_canStand_L14 n) b0 b1 b2 x3 x4 w31.2
def s_X3_canStand (b0 : Nat) (b1 : Nat) (b2 : Nat) (x3 : Int32) (h : tt_H) : Option (Int32 × tt_H) :=
  (gg_obj h b0 3).bind fun _ =>
  (s_X3_make b0 b1 b2 h).bind fun w3 =>
  if w3.1 = 0 then
    some (0, w3.2)
  else
  s_X3_canStand_L14 1000 b0 b1 b2 x3 0 w3.2
abbrev rm_X3_canStand : Room := { frames := 3, cells := 0, slots := 0, locals := 66 }
set_option maxHeartbeats 4000000 in
set_option maxRecDepth 100000 in
theorem c_X3_canStand (l : Launch) {b0 : Nat} {b1 : Nat} {b2 : Nat} {x3 : Int32} {h : tt_H} {ρ : Int32 × tt_H} (hs : s_X3_canStand b0 b1 b2 x3 h = some ρ) : tt_M tt_cl l yX3_canStand wsX3_canStand rm_X3_canStand 0 0 false [.ref b0, .ref b1, .ref b2, .int x3] h (tt_ret (some (.int ρ.1)) ρ.2) := by
  refine tt_M.of0 (cc := cX3_canStand) (maxL := 5) (ret := (some .boolean)) (by decide +kernel) rfl (Nat.le_of_ble_eq_true rfl) ?_
  intro p e s m args below meth c D ca ad n0 sz hwf hsz X hini
  unfold s_X3_canStand at hs
  have t_14 : ∀ (fu : Nat) (b0 : Nat) (b1 : Nat) (b2 : Nat) (x3 : Int32) (x4 : Int32) (h : tt_H), s_X3_canStand_L14 fu b0 b1 b2 x3 x4 h = some ρ → tt_T tt_cl (p, l, e, rm_X3_canStand, s, m, args, below, meth, c, MQ below (tt_Q tt_cl D ca ad n0 sz false (tt_ret (some (.int ρ.1)) ρ.2)) args s 0 0 (tt_A ad n0 sz), D, ca, tt_A ad n0 sz, 5, some n0) ad 0 0 14 [(0, .ref b0), (1, .ref b1), (2, .ref b2), (3, .int x3), (4, .int x4)] [] h := by
    intro fu
    induction fu with
    | zero => intro b0 b1 b2 x3 x4 h hs; exact absurd hs (by rw [s_X3_canStand_L14]; exact fun q => by cases q)
    | succ n14 ih =>
      intro b0 b1 b2 x3 x4 h hs
      rw [s_X3_canStand_L14] at hs
      have t_14 := ih
      have t_59 : ∀ (b0 : Nat) (b1 : Nat) (b2 : Nat) (x3 : Int32) (x4 : Int32) (h : tt_H), s_X3_canStand_J59 (s_X3_canStand_L14 n14) b0 b1 b2 x3 x4 h = some ρ → tt_T tt_cl (p, l, e, rm_X3_canStand, s, m, args, below, meth, c, MQ below (tt_Q tt_cl D ca ad n0 sz false (tt_ret (some (.int ρ.1)) ρ.2)) args s 0 0 (tt_A ad n0 sz), D, ca, tt_A ad n0 sz, 5, some n0) ad 0 0 59 [(0, .ref b0), (1, .ref b1), (2, .ref b2), (3, .int x3), (4, .int x4)] [] h := by
        intro b0 b1 b2 x3 x4 h hs
        unfold s_X3_canStand_J59 at hs
        refine tt_iinc (v := x4 + 1) X dX3_canStand_59 rfl rfl (Nat.le_of_ble_eq_true rfl) ?_
        refine tt_goto (tgt := 14) X dX3_canStand_62 (by decide) ?_
        refine tt_drop [0, 1, 2, 3, 4] ?_
        exact t_14 b0 b1 b2 x3 (x4 + 1) h hs
      refine tt_iload X dX3_canStand_14 rfl ?_
      refine tt_aload_n X dX3_canStand_16 rfl ?_
      obtain ⟨o17, f17, hs⟩ := gg_bind hs
      obtain ⟨w17, e17, hs⟩ := gg_bind hs
      refine zr_callV X f17 rfl (c_X2_size l e17) (fun hts => cwV 0 hts gX3_canStand_X2_size rfl rfl rfl (by decide +kernel) ⟨by decide, by decide⟩) rfl rfl (Nat.le_of_ble_eq_true rfl) dX3_canStand_17 ⟨Nat.zero_le _, Nat.zero_le _⟩ ?_
      refine tt_icmp_ge (tgt := 65) X dX3_canStand_20 (by decide) (fun c20 => ?_) (fun c20 => ?_)
      · rw [if_pos c20] at hs
        refine tt_iconst (v := 0) X dX3_canStand_65 (by decide) ?_
        obtain rfl := Option.some.inj hs
        exact tt_zret X rfl rfl dX3_canStand_66 ⟨rfl, rfl⟩
      · rw [if_neg c20] at hs
        refine tt_aload_n X dX3_canStand_23 rfl ?_
        refine tt_iload X dX3_canStand_24 rfl ?_
        obtain ⟨o26, f26, hs⟩ := gg_bind hs
        obtain ⟨w26, e26, hs⟩ := gg_bind hs
        refine zr_callV X f26 rfl (c_X2_at l e26) (fun hts => cwV 1 hts gX3_canStand_X2_at rfl rfl rfl (by decide +kernel) ⟨by decide, by decide⟩) rfl rfl (Nat.le_of_ble_eq_true rfl) dX3_canStand_26 ⟨Nat.zero_le _, Nat.zero_le _⟩ ?_
        refine tt_aload_n X dX3_canStand_29 rfl ?_
        refine tt_iload_n X dX3_canStand_30 rfl ?_
        obtain ⟨o31, f31, hs⟩ := gg_bind hs
        obtain ⟨w31, e31, hs⟩ := gg_bind hs
        refine zr_callV X f31 rfl (c_X2_at l e31) (fun hts => cwV 1 hts gX3_canStand_X2_at rfl rfl rfl (by decide +kernel) ⟨by decide, by decide⟩) rfl rfl (Nat.le_of_ble_eq_true rfl) dX3_canStand_31 ⟨Nat.zero_le _, Nat.zero_le _⟩ ?_
        refine tt_icmp_ne (tgt := 59) X dX3_canStand_34 (by decide) (fun c34 => ?_) (fun c34 => ?_)
        · rw [if_neg c34] at hs
          refine tt_drop [0, 1, 2, 3, 4] ?_
          exact t_59 b0 b1 b2 x3 x4 w31.2 hs
        · rw [if_pos c34] at hs
          refine tt_aload_n X dX3_canStand_37 rfl ?_
          refine tt_iload X dX3_canStand_38 rfl ?_
          obtain ⟨o40, f40, hs⟩ := gg_bind hs
          obtain ⟨w40, e40, hs⟩ := gg_bind hs
          refine zr_callV X f40 rfl (c_X3_first l e40) (fun hts => cwV 1 hts gX3_canStand_X3_first rfl rfl rfl (by decide +kernel) ⟨by decide, by decide⟩) rfl rfl (Nat.le_of_ble_eq_true rfl) dX3_canStand_40 ⟨Nat.zero_le _, Nat.zero_le _⟩ ?_
          refine tt_iload_n X dX3_canStand_43 rfl ?_
          refine tt_icmp_gt (tgt := 59) X dX3_canStand_44 (by decide) (fun c44 => ?_) (fun c44 => ?_)
          · rw [if_pos c44] at hs
            refine tt_drop [0, 1, 2, 3, 4] ?_
            exact t_59 b0 b1 b2 x3 x4 w40.2 hs
          · rw [if_neg c44] at hs
            refine tt_iload_n X dX3_canStand_47 rfl ?_
            refine tt_aload_n X dX3_canStand_48 rfl ?_
            refine tt_iload X dX3_canStand_49 rfl ?_
            obtain ⟨o51, f51, hs⟩ := gg_bind hs
            obtain ⟨w51, e51, hs⟩ := gg_bind hs
            refine zr_callV X f51 rfl (c_X3_last l e51) (fun hts => cwV 1 hts gX3_canStand_X3_last rfl rfl rfl (by decide +kernel) ⟨by decide, by decide⟩) rfl rfl (Nat.le_of_ble_eq_true rfl) dX3_canStand_51 ⟨Nat.zero_le _, Nat.zero_le _⟩ ?_
            refine tt_icmp_gt (tgt := 59) X dX3_canStand_54 (by decide) (fun c54 => ?_) (fun c54 => ?_)
            · rw [if_pos c54] at hs
              refine tt_drop [0, 1, 2, 3, 4] ?_
              exact t_59 b0 b1 b2 x3 x4 w51.2 hs
            · rw [if_neg c54] at hs
              refine tt_iconst (v := 1) X dX3_canStand_57 (by decide) ?_
              obtain rfl := Option.some.inj hs
              exact tt_zret X rfl rfl dX3_canStand_58 ⟨rfl, rfl⟩
  refine tt_aload_n X dX3_canStand_0 rfl ?_
  refine tt_aload_n X dX3_canStand_1 rfl ?_
  refine tt_aload_n X dX3_canStand_2 rfl ?_
  obtain ⟨o3, f3, hs⟩ := gg_bind hs
  obtain ⟨w3, e3, hs⟩ := gg_bind hs
  refine zr_callV X f3 rfl (c_X3_make l e3) (fun hts => cwV 2 hts gX3_canStand_X3_make rfl rfl rfl (by decide +kernel) ⟨by decide, by decide⟩) rfl rfl (Nat.le_of_ble_eq_true rfl) dX3_canStand_3 ⟨Nat.zero_le _, Nat.zero_le _⟩ ?_
  refine tt_if_ne (tgt := 11) X dX3_canStand_6 (by decide) (fun c6 => ?_) (fun c6 => ?_)
  · rw [if_neg c6] at hs
    refine tt_iconst (v := 0) X dX3_canStand_11 (by decide) ?_
    refine tt_istore X dX3_canStand_12 (Nat.le_of_ble_eq_true rfl) ?_
    refine tt_drop [0, 1, 2, 3, 4] ?_
    exact t_14 1000 b0 b1 b2 x3 0 w3.2 hs
  · rw [if_pos c6] at hs
    refine tt_iconst (v := 0) X dX3_canStand_9 (by decide) ?_
    obtain rfl := Option.some.inj hs
    exact tt_zret X rfl rfl dX3_canStand_10 ⟨rfl, rfl⟩

theorem in_X3_choices_X3 : ∀ w ∈ u_ws RX3 TX3 3, w ∈ wsX3_choices := by decide +kernel
def s_X3_choices_J81 (κ40 : Nat → Nat → Nat → Int32 → Int32 → Int32 → tt_H → Option (Int64 × tt_H)) (b0 : Nat) (b1 : Nat) (b2 : Nat) (x3 : Int32) (x4 : Int32) (x5 : Int32) (h : tt_H) : Option (Int64 × tt_H) :=
  κ40 b0 b1 b2 x3 x4 (x5 + (-1)) h
def s_X3_choices_L40 (κ28 : Nat → Nat → Nat → Int32 → Int32 → tt_H → Option (Int64 × tt_H)) : Nat → Nat → Nat → Nat → Int32 → Int32 → Int32 → tt_H → Option (Int64 × tt_H)
  | 0, _, _, _, _, _, _, _ => none
  | n + 1, b0, b1, b2, x3, x4, x5, h =>
    if x5 ≤ 0 then
      κ28 b0 b1 b2 x3 (x4 + 1) h
    else
    (gg_obj h b1 2).bind fun _ =>
    (s_X2_at b1 (x5 - 1) h).bind fun w50 =>
    (gg_obj w50.2 b2 2).bind fun _ =>
    (s_X2_at b2 x4 w50.2).bind fun w56 =>
    if w50.1 = w56.1 then
      (gg_fr w56.2 b0 3 2).bind fun o63 =>
      (gg_jl w56.2 o63 x5).bind fun z69 =>
      (gg_fr w56.2 b0 3 2).bind fun o71 =>
      (gg_jl w56.2 o71 (x5 - 1)).bind fun z78 =>
      (gg_js w56.2 o63 x5 (z69 + z78)).bind fun h80 =>
      s_X3_choices_J81 (s_X3_choices_L40 κ28 n) b0 b1 b2 x3 x4 x5 h80
    else
    s_X3_choices_J81 (s_X3_choices_L40 κ28 n) b0 b1 b2 x3 x4 x5 w56.2
def s_X3_choices_L28 : Nat → Nat → Nat → Nat → Int32 → Int32 → tt_H → Option (Int64 × tt_H)
  | 0, _, _, _, _, _, _ => none
  | n + 1, b0, b1, b2, x3, x4, h =>
    (gg_obj h b2 2).bind fun _ =>
    (s_X2_size b2 h).bind fun w31 =>
    if w31.1 ≤ x4 then
      (gg_fr w31.2 b0 3 2).bind fun o94 =>
      (gg_jl w31.2 o94 x3).bind fun z98 =>
      some (z98, w31.2)
    else
    s_X3_choices_L40 (s_X3_choices_L28 n) 1000 b0 b1 b2 x3 x4 x3 w31.2
def s_X3_choices (b0 : Nat) (b1 : Nat) (b2 : Nat) (h : tt_H) : Option (Int64 × tt_H) :=
  (gg_obj h b1 2).bind fun _ =>
  (s_X2_size b1 h).bind fun w1 =>
  (gg_fr w1.2 b0 3 2).bind fun o11 =>
  (s_J7_fill_d0a16 o11 0 w1.2).bind fun w15 =>
  (gg_fr w15.2 b0 3 2).bind fun o19 =>
  (gg_js w15.2 o19 0 1).bind fun h24 =>
  s_X3_choices_L28 1000 b0 b1 b2 (if 12 < w1.1 then 12 else w1.1) 0 h24
abbrev rm_X3_choices : Room := { frames := 2, cells := 0, slots := 0, locals := 42 }
set_option maxHeartbeats 4000000 in
set_option maxRecDepth 100000 in
theorem c_X3_choices (l : Launch) {b0 : Nat} {b1 : Nat} {b2 : Nat} {h : tt_H} {ρ : Int64 × tt_H} (hs : s_X3_choices b0 b1 b2 h = some ρ) : tt_M tt_cl l yX3_choices wsX3_choices rm_X3_choices 0 0 false [.ref b0, .ref b1, .ref b2] h (tt_ret (some (.long ρ.1)) ρ.2) := by
  refine tt_M.of0 (cc := cX3_choices) (maxL := 6) (ret := (some .long)) (by decide +kernel) rfl (Nat.le_of_ble_eq_true rfl) ?_
  intro p e s m args below meth c D ca ad n0 sz hwf hsz X hini
  unfold s_X3_choices at hs
  have t_28 : ∀ (fu : Nat) (b0 : Nat) (b1 : Nat) (b2 : Nat) (x3 : Int32) (x4 : Int32) (h : tt_H), s_X3_choices_L28 fu b0 b1 b2 x3 x4 h = some ρ → tt_T tt_cl (p, l, e, rm_X3_choices, s, m, args, below, meth, c, MQ below (tt_Q tt_cl D ca ad n0 sz false (tt_ret (some (.long ρ.1)) ρ.2)) args s 0 0 (tt_A ad n0 sz), D, ca, tt_A ad n0 sz, 6, some n0) ad 0 0 28 [(0, .ref b0), (1, .ref b1), (2, .ref b2), (3, .int x3), (4, .int x4)] [] h := by
    intro fu
    induction fu with
    | zero => intro b0 b1 b2 x3 x4 h hs; exact absurd hs (by rw [s_X3_choices_L28]; exact fun q => by cases q)
    | succ n28 ih =>
      intro b0 b1 b2 x3 x4 h hs
      rw [s_X3_choices_L28] at hs
      have t_28 := ih
      have t_40 : ∀ (fu : Nat) (b0 : Nat) (b1 : Nat) (b2 : Nat) (x3 : Int32) (x4 : Int32) (x5 : Int32) (h : tt_H), s_X3_choices_L40 (s_X3_choices_L28 n28) fu b0 b1 b2 x3 x4 x5 h = some ρ → tt_T tt_cl (p, l, e, rm_X3_choices, s, m, args, below, meth, c, MQ below (tt_Q tt_cl D ca ad n0 sz false (tt_ret (some (.long ρ.1)) ρ.2)) args s 0 0 (tt_A ad n0 sz), D, ca, tt_A ad n0 sz, 6, some n0) ad 0 0 40 [(0, .ref b0), (1, .ref b1), (2, .ref b2), (3, .int x3), (4, .int x4), (5, .int x5)] [] h := by
        intro fu
        induction fu with
        | zero => intro b0 b1 b2 x3 x4 x5 h hs; exact absurd hs (by rw [s_X3_choices_L40]; exact fun q => by cases q)
        | succ n40 ih =>
          intro b0 b1 b2 x3 x4 x5 h hs
          rw [s_X3_choices_L40] at hs
          have t_40 := ih
          have t_81 : ∀ (b0 : Nat) (b1 : Nat) (b2 : Nat) (x3 : Int32) (x4 : Int32) (x5 : Int32) (h : tt_H), s_X3_choices_J81 (s_X3_choices_L40 (s_X3_choices_L28 n28) n40) b0 b1 b2 x3 x4 x5 h = some ρ → tt_T tt_cl (p, l, e, rm_X3_choices, s, m, args, below, meth, c, MQ below (tt_Q tt_cl D ca ad n0 sz false (tt_ret (some (.long ρ.1)) ρ.2)) args s 0 0 (tt_A ad n0 sz), D, ca, tt_A ad n0 sz, 6, some n0) ad 0 0 81 [(0, .ref b0), (1, .ref b1), (2, .ref b2), (3, .int x3), (4, .int x4), (5, .int x5)] [] h := by
            intro b0 b1 b2 x3 x4 x5 h hs
            unfold s_X3_choices_J81 at hs
            refine tt_iinc (v := x5 + (-1)) X dX3_choices_81 rfl rfl (Nat.le_of_ble_eq_true rfl) ?_
            refine tt_goto (tgt := 40) X dX3_choices_84 (by decide) ?_
            refine tt_drop [0, 1, 2, 3, 4, 5] ?_
            exact t_40 b0 b1 b2 x3 x4 (x5 + (-1)) h hs
          refine tt_iload X dX3_choices_40 rfl ?_
          refine tt_if_le (tgt := 87) X dX3_choices_42 (by decide) (fun c42 => ?_) (fun c42 => ?_)
          · rw [if_pos c42] at hs
            refine tt_iinc (v := x4 + 1) X dX3_choices_87 rfl rfl (Nat.le_of_ble_eq_true rfl) ?_
            refine tt_goto (tgt := 28) X dX3_choices_90 (by decide) ?_
            refine tt_drop [0, 1, 2, 3, 4] ?_
            exact t_28 b0 b1 b2 x3 (x4 + 1) h hs
          · rw [if_neg c42] at hs
            refine tt_aload_n X dX3_choices_45 rfl ?_
            refine tt_iload X dX3_choices_46 rfl ?_
            refine tt_iconst (v := 1) X dX3_choices_48 (by decide) ?_
            refine tt_isub X dX3_choices_49 ?_
            obtain ⟨o50, f50, hs⟩ := gg_bind hs
            obtain ⟨w50, e50, hs⟩ := gg_bind hs
            refine zr_callV X f50 rfl (c_X2_at l e50) (fun hts => cwV 1 hts gX3_choices_X2_at rfl rfl rfl (by decide +kernel) ⟨by decide, by decide⟩) rfl rfl (Nat.le_of_ble_eq_true rfl) dX3_choices_50 ⟨Nat.zero_le _, Nat.zero_le _⟩ ?_
            refine tt_aload_n X dX3_choices_53 rfl ?_
            refine tt_iload X dX3_choices_54 rfl ?_
            obtain ⟨o56, f56, hs⟩ := gg_bind hs
            obtain ⟨w56, e56, hs⟩ := gg_bind hs
            refine zr_callV X f56 rfl (c_X2_at l e56) (fun hts => cwV 1 hts gX3_choices_X2_at rfl rfl rfl (by decide +kernel) ⟨by decide, by decide⟩) rfl rfl (Nat.le_of_ble_eq_true rfl) dX3_choices_56 ⟨Nat.zero_le _, Nat.zero_le _⟩ ?_
            refine tt_icmp_ne (tgt := 81) X dX3_choices_59 (by decide) (fun c59 => ?_) (fun c59 => ?_)
            · rw [if_neg c59] at hs
              refine tt_drop [0, 1, 2, 3, 4, 5] ?_
              exact t_81 b0 b1 b2 x3 x4 x5 w56.2 hs
            · rw [if_pos c59] at hs
              refine tt_aload_n X dX3_choices_62 rfl ?_
              obtain ⟨o63, e63, hs⟩ := gg_bind hs
              refine zr_fr X e63 rfl in_X3_choices_X3 (by decide) (by decide +kernel) rfl dX3_choices_63 ?_
              refine tt_iload X dX3_choices_66 rfl ?_
              refine tt_dup2 X dX3_choices_68 rfl rfl ?_
              obtain ⟨z69, e69, hs⟩ := gg_bind hs
              refine zr_jl X e69 dX3_choices_69 ?_
              refine tt_aload_n X dX3_choices_70 rfl ?_
              obtain ⟨o71, e71, hs⟩ := gg_bind hs
              refine zr_fr X e71 rfl in_X3_choices_X3 (by decide) (by decide +kernel) rfl dX3_choices_71 ?_
              refine tt_iload X dX3_choices_74 rfl ?_
              refine tt_iconst (v := 1) X dX3_choices_76 (by decide) ?_
              refine tt_isub X dX3_choices_77 ?_
              obtain ⟨z78, e78, hs⟩ := gg_bind hs
              refine zr_jl X e78 dX3_choices_78 ?_
              refine tt_ladd X dX3_choices_79 ?_
              obtain ⟨h80, e80, hs⟩ := gg_bind hs
              refine zr_js X e80 dX3_choices_80 ?_
              refine tt_drop [0, 1, 2, 3, 4, 5] ?_
              exact t_81 b0 b1 b2 x3 x4 x5 h80 hs
      refine tt_iload X dX3_choices_28 rfl ?_
      refine tt_aload_n X dX3_choices_30 rfl ?_
      obtain ⟨o31, f31, hs⟩ := gg_bind hs
      obtain ⟨w31, e31, hs⟩ := gg_bind hs
      refine zr_callV X f31 rfl (c_X2_size l e31) (fun hts => cwV 0 hts gX3_choices_X2_size rfl rfl rfl (by decide +kernel) ⟨by decide, by decide⟩) rfl rfl (Nat.le_of_ble_eq_true rfl) dX3_choices_31 ⟨Nat.zero_le _, Nat.zero_le _⟩ ?_
      refine tt_icmp_ge (tgt := 93) X dX3_choices_34 (by decide) (fun c34 => ?_) (fun c34 => ?_)
      · rw [if_pos c34] at hs
        refine tt_aload_n X dX3_choices_93 rfl ?_
        obtain ⟨o94, e94, hs⟩ := gg_bind hs
        refine zr_fr X e94 rfl in_X3_choices_X3 (by decide) (by decide +kernel) rfl dX3_choices_94 ?_
        refine tt_iload_n X dX3_choices_97 rfl ?_
        obtain ⟨z98, e98, hs⟩ := gg_bind hs
        refine zr_jl X e98 dX3_choices_98 ?_
        obtain rfl := Option.some.inj hs
        exact tt_lret X rfl dX3_choices_99 ⟨rfl, rfl⟩
      · rw [if_neg c34] at hs
        refine tt_iload_n X dX3_choices_37 rfl ?_
        refine tt_istore X dX3_choices_38 (Nat.le_of_ble_eq_true rfl) ?_
        refine tt_drop [0, 1, 2, 3, 4, 5] ?_
        exact t_40 1000 b0 b1 b2 x3 x4 x3 w31.2 hs
  refine tt_aload_n X dX3_choices_0 rfl ?_
  obtain ⟨o1, f1, hs⟩ := gg_bind hs
  obtain ⟨w1, e1, hs⟩ := gg_bind hs
  refine zr_callV X f1 rfl (c_X2_size l e1) (fun hts => cwV 0 hts gX3_choices_X2_size rfl rfl rfl (by decide +kernel) ⟨by decide, by decide⟩) rfl rfl (Nat.le_of_ble_eq_true rfl) dX3_choices_1 ⟨Nat.zero_le _, Nat.zero_le _⟩ ?_
  refine tt_bipush (v := 12) X dX3_choices_4 (by decide) ?_
  refine zr_mmin X (by decide +kernel) (by decide +kernel) (by decide +kernel) (by decide +kernel) (by decide) (Nat.le_of_ble_eq_true rfl) (Nat.zero_le _) (Nat.zero_le _) dX3_choices_6 ?_
  refine tt_istore_n X dX3_choices_9 (Nat.le_of_ble_eq_true rfl) ?_
  refine tt_aload_n X dX3_choices_10 rfl ?_
  obtain ⟨o11, e11, hs⟩ := gg_bind hs
  refine zr_fr X e11 rfl in_X3_choices_X3 (by decide) (by decide +kernel) rfl dX3_choices_11 ?_
  refine tt_lconst (v := 0) X dX3_choices_14 (by decide) ?_
  obtain ⟨w15, e15, hs⟩ := gg_bind hs
  refine zr_callS X (c_J7_fill_d0a16 l e15) (fun hts => va_cwS 2 hts gX3_choices_J7_fill_d0a16 rfl rfl rfl (by decide +kernel) ⟨by decide, by decide⟩) rfl rfl (Nat.le_of_ble_eq_true rfl) dX3_choices_15 ⟨Nat.zero_le _, Nat.zero_le _⟩ ?_
  refine tt_aload_n X dX3_choices_18 rfl ?_
  obtain ⟨o19, e19, hs⟩ := gg_bind hs
  refine zr_fr X e19 rfl in_X3_choices_X3 (by decide) (by decide +kernel) rfl dX3_choices_19 ?_
  refine tt_iconst (v := 0) X dX3_choices_22 (by decide) ?_
  refine tt_lconst (v := 1) X dX3_choices_23 (by decide) ?_
  obtain ⟨h24, e24, hs⟩ := gg_bind hs
  refine zr_js X e24 dX3_choices_24 ?_
  refine tt_iconst (v := 0) X dX3_choices_25 (by decide) ?_
  refine tt_istore X dX3_choices_26 (Nat.le_of_ble_eq_true rfl) ?_
  refine tt_drop [0, 1, 2, 3, 4] ?_
  exact t_28 1000 b0 b1 b2 (if 12 < w1.1 then 12 else w1.1) 0 h24 hs

def s_X5_after_J69 (x0 : Int32) (ux0 : Int32) (h : tt_H) : Option (Int32 × tt_H) :=
  if ux0 = 0 then
    some (x0 ^^^ 2, h)
  else
  some ((x0 &&& ((-2))) ^^^ 2, h)
def s_X5_after_J68 (κ69 : Int32 → Int32 → tt_H → Option (Int32 × tt_H)) (x0 : Int32) (h : tt_H) : Option (Int32 × tt_H) :=
  κ69 x0 0 h
def s_X5_after_J29 (x0 : Int32) (x1 : Int32) (x3 : Int32) (ux0 : Int32) (h : tt_H) : Option (Int32 × tt_H) :=
  if x1 = x3 then
    if ux0 = 0 then
      some (5, h)
    else
    some (4, h)
  else
  some (x0 &&& 1, h)
def s_X5_after (x0 : Int32) (x1 : Int32) (b2 : Nat) (x3 : Int32) (h : tt_H) : Option (Int32 × tt_H) :=
  if x1 < 0 then
    some (x0, h)
  else
  (gg_len h b2).bind fun z6 =>
  if x1 < z6 then
    (gg_il h b2 x1).bind fun z14 =>
    if z14 = 0 then
      if (x0 &&& 2) = 0 then
        s_X5_after_J29 x0 x1 x3 0 h
      else
      s_X5_after_J29 x0 x1 x3 1 h
    else
    (gg_il h b2 x1).bind fun z53 =>
    if z53 = 2 then
      if (x0 &&& 4) = 0 then
        s_X5_after_J68 s_X5_after_J69 x0 h
      else
      s_X5_after_J69 x0 1 h
    else
    s_X5_after_J68 s_X5_after_J69 x0 h
  else
  some (x0, h)
abbrev rm_X5_after : Room := { frames := 0, cells := 0, slots := 0, locals := 0 }
set_option maxHeartbeats 4000000 in
set_option maxRecDepth 100000 in
theorem c_X5_after (l : Launch) {x0 : Int32} {x1 : Int32} {b2 : Nat} {x3 : Int32} {h : tt_H} {ρ : Int32 × tt_H} (hs : s_X5_after x0 x1 b2 x3 h = some ρ) : tt_M tt_cl l yX5_after wsX5_after rm_X5_after 0 0 false [.int x0, .int x1, .ref b2, .int x3] h (tt_ret (some (.int ρ.1)) ρ.2) := by
  refine tt_M.of0 (cc := cX5_after) (maxL := 5) (ret := (some .int)) (by decide +kernel) rfl (Nat.le_of_ble_eq_true rfl) ?_
  intro p e s m args below meth c D ca ad n0 sz hwf hsz X hini
  unfold s_X5_after at hs
  have t_69 : ∀ (x0 : Int32) (ux0 : Int32) (h : tt_H), s_X5_after_J69 x0 ux0 h = some ρ → tt_T tt_cl (p, l, e, rm_X5_after, s, m, args, below, meth, c, MQ below (tt_Q tt_cl D ca ad n0 sz false (tt_ret (some (.int ρ.1)) ρ.2)) args s 0 0 (tt_A ad n0 sz), D, ca, tt_A ad n0 sz, 5, some n0) ad 0 0 69 [(0, .int x0)] [.int ux0] h := by
    intro x0 ux0 h hs
    unfold s_X5_after_J69 at hs
    refine tt_istore X dX5_after_69 (Nat.le_of_ble_eq_true rfl) ?_
    refine tt_iload X dX5_after_71 rfl ?_
    refine tt_if_eq (tgt := 83) X dX5_after_73 (by decide) (fun c73 => ?_) (fun c73 => ?_)
    · rw [if_pos c73] at hs
      refine tt_iload_n X dX5_after_83 rfl ?_
      refine tt_iconst (v := 2) X dX5_after_84 (by decide) ?_
      refine tt_ixor X dX5_after_85 ?_
      obtain rfl := Option.some.inj hs
      exact tt_iret X rfl dX5_after_86 ⟨rfl, rfl⟩
    · rw [if_neg c73] at hs
      refine tt_iload_n X dX5_after_76 rfl ?_
      refine tt_bipush (v := (-2)) X dX5_after_77 (by decide) ?_
      refine tt_iand X dX5_after_79 ?_
      refine tt_goto (tgt := 84) X dX5_after_80 (by decide) ?_
      refine tt_iconst (v := 2) X dX5_after_84 (by decide) ?_
      refine tt_ixor X dX5_after_85 ?_
      obtain rfl := Option.some.inj hs
      exact tt_iret X rfl dX5_after_86 ⟨rfl, rfl⟩
  have t_68 : ∀ (x0 : Int32) (h : tt_H), s_X5_after_J68 s_X5_after_J69 x0 h = some ρ → tt_T tt_cl (p, l, e, rm_X5_after, s, m, args, below, meth, c, MQ below (tt_Q tt_cl D ca ad n0 sz false (tt_ret (some (.int ρ.1)) ρ.2)) args s 0 0 (tt_A ad n0 sz), D, ca, tt_A ad n0 sz, 5, some n0) ad 0 0 68 [(0, .int x0)] [] h := by
    intro x0 h hs
    unfold s_X5_after_J68 at hs
    refine tt_iconst (v := 0) X dX5_after_68 (by decide) ?_
    refine tt_drop [0] ?_
    exact t_69 x0 0 h hs
  have t_29 : ∀ (x0 : Int32) (x1 : Int32) (x3 : Int32) (ux0 : Int32) (h : tt_H), s_X5_after_J29 x0 x1 x3 ux0 h = some ρ → tt_T tt_cl (p, l, e, rm_X5_after, s, m, args, below, meth, c, MQ below (tt_Q tt_cl D ca ad n0 sz false (tt_ret (some (.int ρ.1)) ρ.2)) args s 0 0 (tt_A ad n0 sz), D, ca, tt_A ad n0 sz, 5, some n0) ad 0 0 29 [(0, .int x0), (1, .int x1), (3, .int x3)] [.int ux0] h := by
    intro x0 x1 x3 ux0 h hs
    unfold s_X5_after_J29 at hs
    refine tt_istore X dX5_after_29 (Nat.le_of_ble_eq_true rfl) ?_
    refine tt_iload_n X dX5_after_31 rfl ?_
    refine tt_iload_n X dX5_after_32 rfl ?_
    refine tt_icmp_ne (tgt := 47) X dX5_after_33 (by decide) (fun c33 => ?_) (fun c33 => ?_)
    · rw [if_neg c33] at hs
      refine tt_iload_n X dX5_after_47 rfl ?_
      refine tt_iconst (v := 1) X dX5_after_48 (by decide) ?_
      refine tt_iand X dX5_after_49 ?_
      obtain rfl := Option.some.inj hs
      exact tt_iret X rfl dX5_after_50 ⟨rfl, rfl⟩
    · rw [if_pos c33] at hs
      refine tt_iload X dX5_after_36 rfl ?_
      refine tt_if_eq (tgt := 45) X dX5_after_38 (by decide) (fun c38 => ?_) (fun c38 => ?_)
      · rw [if_pos c38] at hs
        refine tt_iconst (v := 5) X dX5_after_45 (by decide) ?_
        obtain rfl := Option.some.inj hs
        exact tt_iret X rfl dX5_after_46 ⟨rfl, rfl⟩
      · rw [if_neg c38] at hs
        refine tt_iconst (v := 4) X dX5_after_41 (by decide) ?_
        refine tt_goto (tgt := 46) X dX5_after_42 (by decide) ?_
        obtain rfl := Option.some.inj hs
        exact tt_iret X rfl dX5_after_46 ⟨rfl, rfl⟩
  refine tt_iload_n X dX5_after_0 rfl ?_
  refine tt_if_lt (tgt := 10) X dX5_after_1 (by decide) (fun c1 => ?_) (fun c1 => ?_)
  · rw [if_pos c1] at hs
    refine tt_iload_n X dX5_after_10 rfl ?_
    obtain rfl := Option.some.inj hs
    exact tt_iret X rfl dX5_after_11 ⟨rfl, rfl⟩
  · rw [if_neg c1] at hs
    refine tt_iload_n X dX5_after_4 rfl ?_
    refine tt_aload_n X dX5_after_5 rfl ?_
    obtain ⟨z6, e6, hs⟩ := gg_bind hs
    refine zr_len X e6 dX5_after_6 ?_
    refine tt_icmp_lt (tgt := 12) X dX5_after_7 (by decide) (fun c7 => ?_) (fun c7 => ?_)
    · rw [if_pos c7] at hs
      refine tt_aload_n X dX5_after_12 rfl ?_
      refine tt_iload_n X dX5_after_13 rfl ?_
      obtain ⟨z14, e14, hs⟩ := gg_bind hs
      refine zr_il X e14 dX5_after_14 ?_
      refine tt_if_ne (tgt := 51) X dX5_after_15 (by decide) (fun c15 => ?_) (fun c15 => ?_)
      · rw [if_neg c15] at hs
        refine tt_aload_n X dX5_after_51 rfl ?_
        refine tt_iload_n X dX5_after_52 rfl ?_
        obtain ⟨z53, e53, hs⟩ := gg_bind hs
        refine zr_il X e53 dX5_after_53 ?_
        refine tt_iconst (v := 2) X dX5_after_54 (by decide) ?_
        refine tt_icmp_ne (tgt := 68) X dX5_after_55 (by decide) (fun c55 => ?_) (fun c55 => ?_)
        · rw [if_neg c55] at hs
          refine tt_drop [0] ?_
          exact t_68 x0 h hs
        · rw [if_pos c55] at hs
          refine tt_iload_n X dX5_after_58 rfl ?_
          refine tt_iconst (v := 4) X dX5_after_59 (by decide) ?_
          refine tt_iand X dX5_after_60 ?_
          refine tt_if_eq (tgt := 68) X dX5_after_61 (by decide) (fun c61 => ?_) (fun c61 => ?_)
          · rw [if_pos c61] at hs
            refine tt_drop [0] ?_
            exact t_68 x0 h hs
          · rw [if_neg c61] at hs
            refine tt_iconst (v := 1) X dX5_after_64 (by decide) ?_
            refine tt_goto (tgt := 69) X dX5_after_65 (by decide) ?_
            refine tt_drop [0] ?_
            exact t_69 x0 1 h hs
      · rw [if_pos c15] at hs
        refine tt_iload_n X dX5_after_18 rfl ?_
        refine tt_iconst (v := 2) X dX5_after_19 (by decide) ?_
        refine tt_iand X dX5_after_20 ?_
        refine tt_if_eq (tgt := 28) X dX5_after_21 (by decide) (fun c21 => ?_) (fun c21 => ?_)
        · rw [if_pos c21] at hs
          refine tt_iconst (v := 0) X dX5_after_28 (by decide) ?_
          refine tt_drop [0, 1, 3] ?_
          exact t_29 x0 x1 x3 0 h hs
        · rw [if_neg c21] at hs
          refine tt_iconst (v := 1) X dX5_after_24 (by decide) ?_
          refine tt_goto (tgt := 29) X dX5_after_25 (by decide) ?_
          refine tt_drop [0, 1, 3] ?_
          exact t_29 x0 x1 x3 1 h hs
    · rw [if_neg c7] at hs
      refine tt_iload_n X dX5_after_10 rfl ?_
      obtain rfl := Option.some.inj hs
      exact tt_iret X rfl dX5_after_11 ⟨rfl, rfl⟩

theorem in_X5_endsSaid_X5 : ∀ w ∈ u_ws RX5 TX5 2, w ∈ wsX5_endsSaid := by decide +kernel
def s_X5_endsSaid (b0 : Nat) (x1 : Int32) (x2 : Int32) (h : tt_H) : Option (Int32 × tt_H) :=
  if x1 < 0 then
    some (0, h)
  else
  if 13 ≤ x1 then
    some (0, h)
  else
  if x2 < 0 then
    some (0, h)
  else
  if 8 ≤ x2 then
    some (0, h)
  else
  (gg_fr h b0 5 0).bind fun o21 =>
  (gg_zl h o21 ((x1 * 8) + x2)).bind fun z30 =>
  if z30 = 0 then
    some (0, h)
  else
  some (1, h)
abbrev rm_X5_endsSaid : Room := { frames := 0, cells := 0, slots := 0, locals := 0 }
set_option maxHeartbeats 4000000 in
set_option maxRecDepth 100000 in
theorem c_X5_endsSaid (l : Launch) {b0 : Nat} {x1 : Int32} {x2 : Int32} {h : tt_H} {ρ : Int32 × tt_H} (hs : s_X5_endsSaid b0 x1 x2 h = some ρ) : tt_M tt_cl l yX5_endsSaid wsX5_endsSaid rm_X5_endsSaid 0 0 false [.ref b0, .int x1, .int x2] h (tt_ret (some (.int ρ.1)) ρ.2) := by
  refine tt_M.of0 (cc := cX5_endsSaid) (maxL := 3) (ret := (some .boolean)) (by decide +kernel) rfl (Nat.le_of_ble_eq_true rfl) ?_
  intro p e s m args below meth c D ca ad n0 sz hwf hsz X hini
  unfold s_X5_endsSaid at hs
  refine tt_iload_n X dX5_endsSaid_0 rfl ?_
  refine tt_if_lt (tgt := 38) X dX5_endsSaid_1 (by decide) (fun c1 => ?_) (fun c1 => ?_)
  · rw [if_pos c1] at hs
    refine tt_iconst (v := 0) X dX5_endsSaid_38 (by decide) ?_
    obtain rfl := Option.some.inj hs
    exact tt_zret X rfl rfl dX5_endsSaid_39 ⟨rfl, rfl⟩
  · rw [if_neg c1] at hs
    refine tt_iload_n X dX5_endsSaid_4 rfl ?_
    refine tt_bipush (v := 13) X dX5_endsSaid_5 (by decide) ?_
    refine tt_icmp_ge (tgt := 38) X dX5_endsSaid_7 (by decide) (fun c7 => ?_) (fun c7 => ?_)
    · rw [if_pos c7] at hs
      refine tt_iconst (v := 0) X dX5_endsSaid_38 (by decide) ?_
      obtain rfl := Option.some.inj hs
      exact tt_zret X rfl rfl dX5_endsSaid_39 ⟨rfl, rfl⟩
    · rw [if_neg c7] at hs
      refine tt_iload_n X dX5_endsSaid_10 rfl ?_
      refine tt_if_lt (tgt := 38) X dX5_endsSaid_11 (by decide) (fun c11 => ?_) (fun c11 => ?_)
      · rw [if_pos c11] at hs
        refine tt_iconst (v := 0) X dX5_endsSaid_38 (by decide) ?_
        obtain rfl := Option.some.inj hs
        exact tt_zret X rfl rfl dX5_endsSaid_39 ⟨rfl, rfl⟩
      · rw [if_neg c11] at hs
        refine tt_iload_n X dX5_endsSaid_14 rfl ?_
        refine tt_bipush (v := 8) X dX5_endsSaid_15 (by decide) ?_
        refine tt_icmp_ge (tgt := 38) X dX5_endsSaid_17 (by decide) (fun c17 => ?_) (fun c17 => ?_)
        · rw [if_pos c17] at hs
          refine tt_iconst (v := 0) X dX5_endsSaid_38 (by decide) ?_
          obtain rfl := Option.some.inj hs
          exact tt_zret X rfl rfl dX5_endsSaid_39 ⟨rfl, rfl⟩
        · rw [if_neg c17] at hs
          refine tt_aload_n X dX5_endsSaid_20 rfl ?_
          obtain ⟨o21, e21, hs⟩ := gg_bind hs
          refine zr_fr X e21 rfl in_X5_endsSaid_X5 (by decide) (by decide +kernel) rfl dX5_endsSaid_21 ?_
          refine tt_iload_n X dX5_endsSaid_24 rfl ?_
          refine tt_bipush (v := 8) X dX5_endsSaid_25 (by decide) ?_
          refine tt_imul X dX5_endsSaid_27 ?_
          refine tt_iload_n X dX5_endsSaid_28 rfl ?_
          refine tt_iadd X dX5_endsSaid_29 ?_
          obtain ⟨z30, e30, hs⟩ := gg_bind hs
          refine zr_zl X e30 dX5_endsSaid_30 ?_
          refine tt_if_eq (tgt := 38) X dX5_endsSaid_31 (by decide) (fun c31 => ?_) (fun c31 => ?_)
          · rw [if_pos c31] at hs
            refine tt_iconst (v := 0) X dX5_endsSaid_38 (by decide) ?_
            obtain rfl := Option.some.inj hs
            exact tt_zret X rfl rfl dX5_endsSaid_39 ⟨rfl, rfl⟩
          · rw [if_neg c31] at hs
            refine tt_iconst (v := 1) X dX5_endsSaid_34 (by decide) ?_
            refine tt_goto (tgt := 39) X dX5_endsSaid_35 (by decide) ?_
            obtain rfl := Option.some.inj hs
            exact tt_zret X rfl rfl dX5_endsSaid_39 ⟨rfl, rfl⟩

theorem in_X5_keepEnds_X5 : ∀ w ∈ u_ws RX5 TX5 2, w ∈ wsX5_keepEnds := by decide +kernel
def s_X5_keepEnds_L66 (κ58 : Nat → Nat → Nat → Int32 → Int32 → tt_H → Option (Unit × tt_H)) : Nat → Nat → Nat → Nat → Int32 → Int32 → Int32 → tt_H → Option (Unit × tt_H)
  | 0, _, _, _, _, _, _, _ => none
  | n + 1, b0, b1, b2, x3, x5, x6, h =>
    if 8 ≤ x6 then
      κ58 b0 b1 b2 x3 (x5 + (-1)) h
    else
    (gg_fr h b0 5 0).bind fun o74 =>
    (gg_obj h b1 2).bind fun _ =>
    (s_X2_at b1 x5 h).bind fun w95 =>
    (s_X5_after x6 w95.1 b2 x3 w95.2).bind fun w100 =>
    (gg_obj w100.2 b0 5).bind fun _ =>
    (s_X5_endsSaid b0 (x5 + 1) w100.1 w100.2).bind fun w103 =>
    (gg_zs w103.2 o74 ((x5 * 8) + x6) w103.1).bind fun h106 =>
    s_X5_keepEnds_L66 κ58 n b0 b1 b2 x3 x5 (x6 + 1) h106
def s_X5_keepEnds_L58 : Nat → Nat → Nat → Nat → Int32 → Int32 → tt_H → Option (Unit × tt_H)
  | 0, _, _, _, _, _, _ => none
  | n + 1, b0, b1, b2, x3, x5, h =>
    if x5 < 0 then
      some ((), h)
    else
    s_X5_keepEnds_L66 (s_X5_keepEnds_L58 n) 1000 b0 b1 b2 x3 x5 0 h
def s_X5_keepEnds_J45 (κ14 : Nat → Nat → Nat → Int32 → Int32 → Int32 → tt_H → Option (Unit × tt_H)) (b0 : Nat) (b1 : Nat) (b2 : Nat) (x3 : Int32) (x4 : Int32) (x5 : Int32) (ub0 : Nat) (ux1 : Int32) (ux2 : Int32) (h : tt_H) : Option (Unit × tt_H) :=
  (gg_zs h ub0 ux1 ux2).bind fun h45 =>
  κ14 b0 b1 b2 x3 x4 (x5 + 1) h45
def s_X5_keepEnds_L14 : Nat → Nat → Nat → Nat → Int32 → Int32 → Int32 → tt_H → Option (Unit × tt_H)
  | 0, _, _, _, _, _, _, _ => none
  | n + 1, b0, b1, b2, x3, x4, x5, h =>
    if 8 ≤ x5 then
      s_X5_keepEnds_L58 1000 b0 b1 b2 x3 (x4 - 1) h
    else
    (gg_fr h b0 5 0).bind fun o22 =>
    if (x5 &&& 1) = 0 then
      s_X5_keepEnds_J45 (s_X5_keepEnds_L14 n) b0 b1 b2 x3 x4 x5 o22 ((x4 * 8) + x5) 0 h
    else
    s_X5_keepEnds_J45 (s_X5_keepEnds_L14 n) b0 b1 b2 x3 x4 x5 o22 ((x4 * 8) + x5) 1 h
def s_X5_keepEnds (b0 : Nat) (b1 : Nat) (b2 : Nat) (x3 : Int32) (h : tt_H) : Option (Unit × tt_H) :=
  (gg_obj h b1 2).bind fun _ =>
  (s_X2_size b1 h).bind fun w1 =>
  s_X5_keepEnds_L14 1000 b0 b1 b2 x3 (if 12 < w1.1 then 12 else w1.1) 0 w1.2
abbrev rm_X5_keepEnds : Room := { frames := 2, cells := 0, slots := 0, locals := 42 }
set_option maxHeartbeats 4000000 in
set_option maxRecDepth 100000 in
theorem c_X5_keepEnds (l : Launch) {b0 : Nat} {b1 : Nat} {b2 : Nat} {x3 : Int32} {h : tt_H} {ρ : Unit × tt_H} (hs : s_X5_keepEnds b0 b1 b2 x3 h = some ρ) : tt_M tt_cl l yX5_keepEnds wsX5_keepEnds rm_X5_keepEnds 0 0 false [.ref b0, .ref b1, .ref b2, .int x3] h (tt_ret (none) ρ.2) := by
  refine tt_M.of0 (cc := cX5_keepEnds) (maxL := 7) (ret := none) (by decide +kernel) rfl (Nat.le_of_ble_eq_true rfl) ?_
  intro p e s m args below meth c D ca ad n0 sz hwf hsz X hini
  unfold s_X5_keepEnds at hs
  have t_14 : ∀ (fu : Nat) (b0 : Nat) (b1 : Nat) (b2 : Nat) (x3 : Int32) (x4 : Int32) (x5 : Int32) (h : tt_H), s_X5_keepEnds_L14 fu b0 b1 b2 x3 x4 x5 h = some ρ → tt_T tt_cl (p, l, e, rm_X5_keepEnds, s, m, args, below, meth, c, MQ below (tt_Q tt_cl D ca ad n0 sz false (tt_ret (none) ρ.2)) args s 0 0 (tt_A ad n0 sz), D, ca, tt_A ad n0 sz, 7, some n0) ad 0 0 14 [(0, .ref b0), (1, .ref b1), (2, .ref b2), (3, .int x3), (4, .int x4), (5, .int x5)] [] h := by
    intro fu
    induction fu with
    | zero => intro b0 b1 b2 x3 x4 x5 h hs; exact absurd hs (by rw [s_X5_keepEnds_L14]; exact fun q => by cases q)
    | succ n14 ih =>
      intro b0 b1 b2 x3 x4 x5 h hs
      rw [s_X5_keepEnds_L14] at hs
      have t_14 := ih
      have t_58 : ∀ (fu : Nat) (b0 : Nat) (b1 : Nat) (b2 : Nat) (x3 : Int32) (x5 : Int32) (h : tt_H), s_X5_keepEnds_L58 fu b0 b1 b2 x3 x5 h = some ρ → tt_T tt_cl (p, l, e, rm_X5_keepEnds, s, m, args, below, meth, c, MQ below (tt_Q tt_cl D ca ad n0 sz false (tt_ret (none) ρ.2)) args s 0 0 (tt_A ad n0 sz), D, ca, tt_A ad n0 sz, 7, some n0) ad 0 0 58 [(0, .ref b0), (1, .ref b1), (2, .ref b2), (3, .int x3), (5, .int x5)] [] h := by
        intro fu
        induction fu with
        | zero => intro b0 b1 b2 x3 x5 h hs; exact absurd hs (by rw [s_X5_keepEnds_L58]; exact fun q => by cases q)
        | succ n58 ih =>
          intro b0 b1 b2 x3 x5 h hs
          rw [s_X5_keepEnds_L58] at hs
          have t_58 := ih
          have t_66 : ∀ (fu : Nat) (b0 : Nat) (b1 : Nat) (b2 : Nat) (x3 : Int32) (x5 : Int32) (x6 : Int32) (h : tt_H), s_X5_keepEnds_L66 (s_X5_keepEnds_L58 n58) fu b0 b1 b2 x3 x5 x6 h = some ρ → tt_T tt_cl (p, l, e, rm_X5_keepEnds, s, m, args, below, meth, c, MQ below (tt_Q tt_cl D ca ad n0 sz false (tt_ret (none) ρ.2)) args s 0 0 (tt_A ad n0 sz), D, ca, tt_A ad n0 sz, 7, some n0) ad 0 0 66 [(0, .ref b0), (1, .ref b1), (2, .ref b2), (3, .int x3), (5, .int x5), (6, .int x6)] [] h := by
            intro fu
            induction fu with
            | zero => intro b0 b1 b2 x3 x5 x6 h hs; exact absurd hs (by rw [s_X5_keepEnds_L66]; exact fun q => by cases q)
            | succ n66 ih =>
              intro b0 b1 b2 x3 x5 x6 h hs
              rw [s_X5_keepEnds_L66] at hs
              have t_66 := ih
              refine tt_iload X dX5_keepEnds_66 rfl ?_
              refine tt_bipush (v := 8) X dX5_keepEnds_68 (by decide) ?_
              refine tt_icmp_ge (tgt := 113) X dX5_keepEnds_70 (by decide) (fun c70 => ?_) (fun c70 => ?_)
              · rw [if_pos c70] at hs
                refine tt_iinc (v := x5 + (-1)) X dX5_keepEnds_113 rfl rfl (Nat.le_of_ble_eq_true rfl) ?_
                refine tt_goto (tgt := 58) X dX5_keepEnds_116 (by decide) ?_
                refine tt_drop [0, 1, 2, 3, 5] ?_
                exact t_58 b0 b1 b2 x3 (x5 + (-1)) h hs
              · rw [if_neg c70] at hs
                refine tt_aload_n X dX5_keepEnds_73 rfl ?_
                obtain ⟨o74, e74, hs⟩ := gg_bind hs
                refine zr_fr X e74 rfl in_X5_keepEnds_X5 (by decide) (by decide +kernel) rfl dX5_keepEnds_74 ?_
                refine tt_iload X dX5_keepEnds_77 rfl ?_
                refine tt_bipush (v := 8) X dX5_keepEnds_79 (by decide) ?_
                refine tt_imul X dX5_keepEnds_81 ?_
                refine tt_iload X dX5_keepEnds_82 rfl ?_
                refine tt_iadd X dX5_keepEnds_84 ?_
                refine tt_aload_n X dX5_keepEnds_85 rfl ?_
                refine tt_iload X dX5_keepEnds_86 rfl ?_
                refine tt_iconst (v := 1) X dX5_keepEnds_88 (by decide) ?_
                refine tt_iadd X dX5_keepEnds_89 ?_
                refine tt_iload X dX5_keepEnds_90 rfl ?_
                refine tt_aload_n X dX5_keepEnds_92 rfl ?_
                refine tt_iload X dX5_keepEnds_93 rfl ?_
                obtain ⟨o95, f95, hs⟩ := gg_bind hs
                obtain ⟨w95, e95, hs⟩ := gg_bind hs
                refine zr_callV X f95 rfl (c_X2_at l e95) (fun hts => cwV 1 hts gX5_keepEnds_X2_at rfl rfl rfl (by decide +kernel) ⟨by decide, by decide⟩) rfl rfl (Nat.le_of_ble_eq_true rfl) dX5_keepEnds_95 ⟨Nat.zero_le _, Nat.zero_le _⟩ ?_
                refine tt_aload_n X dX5_keepEnds_98 rfl ?_
                refine tt_iload_n X dX5_keepEnds_99 rfl ?_
                obtain ⟨w100, e100, hs⟩ := gg_bind hs
                refine zr_callS X (c_X5_after l e100) (fun hts => va_cwS 4 hts gX5_keepEnds_X5_after rfl rfl rfl (by decide +kernel) ⟨by decide, by decide⟩) rfl rfl (Nat.le_of_ble_eq_true rfl) dX5_keepEnds_100 ⟨Nat.zero_le _, Nat.zero_le _⟩ ?_
                obtain ⟨o103, f103, hs⟩ := gg_bind hs
                obtain ⟨w103, e103, hs⟩ := gg_bind hs
                refine zr_callV X f103 rfl (c_X5_endsSaid l e103) (fun hts => cwV 2 hts gX5_keepEnds_X5_endsSaid rfl rfl rfl (by decide +kernel) ⟨by decide, by decide⟩) rfl rfl (Nat.le_of_ble_eq_true rfl) dX5_keepEnds_103 ⟨Nat.zero_le _, Nat.zero_le _⟩ ?_
                obtain ⟨h106, e106, hs⟩ := gg_bind hs
                refine zr_zs X e106 dX5_keepEnds_106 ?_
                refine tt_iinc (v := x6 + 1) X dX5_keepEnds_107 rfl rfl (Nat.le_of_ble_eq_true rfl) ?_
                refine tt_goto (tgt := 66) X dX5_keepEnds_110 (by decide) ?_
                refine tt_drop [0, 1, 2, 3, 5, 6] ?_
                exact t_66 b0 b1 b2 x3 x5 (x6 + 1) h106 hs
          refine tt_iload X dX5_keepEnds_58 rfl ?_
          refine tt_if_lt (tgt := 119) X dX5_keepEnds_60 (by decide) (fun c60 => ?_) (fun c60 => ?_)
          · rw [if_pos c60] at hs
            obtain rfl := Option.some.inj hs
            exact tt_vret X rfl dX5_keepEnds_119 ⟨rfl, rfl⟩
          · rw [if_neg c60] at hs
            refine tt_iconst (v := 0) X dX5_keepEnds_63 (by decide) ?_
            refine tt_istore X dX5_keepEnds_64 (Nat.le_of_ble_eq_true rfl) ?_
            refine tt_drop [0, 1, 2, 3, 5, 6] ?_
            exact t_66 1000 b0 b1 b2 x3 x5 0 h hs
      have t_45 : ∀ (b0 : Nat) (b1 : Nat) (b2 : Nat) (x3 : Int32) (x4 : Int32) (x5 : Int32) (ub0 : Nat) (ux1 : Int32) (ux2 : Int32) (h : tt_H), s_X5_keepEnds_J45 (s_X5_keepEnds_L14 n14) b0 b1 b2 x3 x4 x5 ub0 ux1 ux2 h = some ρ → tt_T tt_cl (p, l, e, rm_X5_keepEnds, s, m, args, below, meth, c, MQ below (tt_Q tt_cl D ca ad n0 sz false (tt_ret (none) ρ.2)) args s 0 0 (tt_A ad n0 sz), D, ca, tt_A ad n0 sz, 7, some n0) ad 0 0 45 [(0, .ref b0), (1, .ref b1), (2, .ref b2), (3, .int x3), (4, .int x4), (5, .int x5)] [.int ux2, .int ux1, .ref ub0] h := by
        intro b0 b1 b2 x3 x4 x5 ub0 ux1 ux2 h hs
        unfold s_X5_keepEnds_J45 at hs
        obtain ⟨h45, e45, hs⟩ := gg_bind hs
        refine zr_zs X e45 dX5_keepEnds_45 ?_
        refine tt_iinc (v := x5 + 1) X dX5_keepEnds_46 rfl rfl (Nat.le_of_ble_eq_true rfl) ?_
        refine tt_goto (tgt := 14) X dX5_keepEnds_49 (by decide) ?_
        refine tt_drop [0, 1, 2, 3, 4, 5] ?_
        exact t_14 b0 b1 b2 x3 x4 (x5 + 1) h45 hs
      refine tt_iload X dX5_keepEnds_14 rfl ?_
      refine tt_bipush (v := 8) X dX5_keepEnds_16 (by decide) ?_
      refine tt_icmp_ge (tgt := 52) X dX5_keepEnds_18 (by decide) (fun c18 => ?_) (fun c18 => ?_)
      · rw [if_pos c18] at hs
        refine tt_iload X dX5_keepEnds_52 rfl ?_
        refine tt_iconst (v := 1) X dX5_keepEnds_54 (by decide) ?_
        refine tt_isub X dX5_keepEnds_55 ?_
        refine tt_istore X dX5_keepEnds_56 (Nat.le_of_ble_eq_true rfl) ?_
        refine tt_drop [0, 1, 2, 3, 5] ?_
        exact t_58 1000 b0 b1 b2 x3 (x4 - 1) h hs
      · rw [if_neg c18] at hs
        refine tt_aload_n X dX5_keepEnds_21 rfl ?_
        obtain ⟨o22, e22, hs⟩ := gg_bind hs
        refine zr_fr X e22 rfl in_X5_keepEnds_X5 (by decide) (by decide +kernel) rfl dX5_keepEnds_22 ?_
        refine tt_iload X dX5_keepEnds_25 rfl ?_
        refine tt_bipush (v := 8) X dX5_keepEnds_27 (by decide) ?_
        refine tt_imul X dX5_keepEnds_29 ?_
        refine tt_iload X dX5_keepEnds_30 rfl ?_
        refine tt_iadd X dX5_keepEnds_32 ?_
        refine tt_iload X dX5_keepEnds_33 rfl ?_
        refine tt_iconst (v := 1) X dX5_keepEnds_35 (by decide) ?_
        refine tt_iand X dX5_keepEnds_36 ?_
        refine tt_if_eq (tgt := 44) X dX5_keepEnds_37 (by decide) (fun c37 => ?_) (fun c37 => ?_)
        · rw [if_pos c37] at hs
          refine tt_iconst (v := 0) X dX5_keepEnds_44 (by decide) ?_
          refine tt_drop [0, 1, 2, 3, 4, 5] ?_
          exact t_45 b0 b1 b2 x3 x4 x5 o22 ((x4 * 8) + x5) 0 h hs
        · rw [if_neg c37] at hs
          refine tt_iconst (v := 1) X dX5_keepEnds_40 (by decide) ?_
          refine tt_goto (tgt := 45) X dX5_keepEnds_41 (by decide) ?_
          refine tt_drop [0, 1, 2, 3, 4, 5] ?_
          exact t_45 b0 b1 b2 x3 x4 x5 o22 ((x4 * 8) + x5) 1 h hs
  refine tt_aload_n X dX5_keepEnds_0 rfl ?_
  obtain ⟨o1, f1, hs⟩ := gg_bind hs
  obtain ⟨w1, e1, hs⟩ := gg_bind hs
  refine zr_callV X f1 rfl (c_X2_size l e1) (fun hts => cwV 0 hts gX5_keepEnds_X2_size rfl rfl rfl (by decide +kernel) ⟨by decide, by decide⟩) rfl rfl (Nat.le_of_ble_eq_true rfl) dX5_keepEnds_1 ⟨Nat.zero_le _, Nat.zero_le _⟩ ?_
  refine tt_bipush (v := 12) X dX5_keepEnds_4 (by decide) ?_
  refine zr_mmin X (by decide +kernel) (by decide +kernel) (by decide +kernel) (by decide +kernel) (by decide) (Nat.le_of_ble_eq_true rfl) (Nat.zero_le _) (Nat.zero_le _) dX5_keepEnds_6 ?_
  refine tt_istore X dX5_keepEnds_9 (Nat.le_of_ble_eq_true rfl) ?_
  refine tt_iconst (v := 0) X dX5_keepEnds_11 (by decide) ?_
  refine tt_istore X dX5_keepEnds_12 (Nat.le_of_ble_eq_true rfl) ?_
  refine tt_drop [0, 1, 2, 3, 4, 5] ?_
  exact t_14 1000 b0 b1 b2 x3 (if 12 < w1.1 then 12 else w1.1) 0 w1.2 hs

theorem in_X5_keep_X5 : ∀ w ∈ u_ws RX5 TX5 2, w ∈ wsX5_keep := by decide +kernel
def s_X5_keep (b0 : Nat) (x1 : Int32) (x2 : Int32) (x3 : Int32) (h : tt_H) : Option (Unit × tt_H) :=
  if x1 < 0 then
    some ((), h)
  else
  if 2 ≤ x1 then
    some ((), h)
  else
  (gg_fr h b0 5 1).bind fun o10 =>
  (gg_is h o10 x1 ((10 * x2) + x3)).bind fun h20 =>
  some ((), h20)
abbrev rm_X5_keep : Room := { frames := 0, cells := 0, slots := 0, locals := 0 }
set_option maxHeartbeats 4000000 in
set_option maxRecDepth 100000 in
theorem c_X5_keep (l : Launch) {b0 : Nat} {x1 : Int32} {x2 : Int32} {x3 : Int32} {h : tt_H} {ρ : Unit × tt_H} (hs : s_X5_keep b0 x1 x2 x3 h = some ρ) : tt_M tt_cl l yX5_keep wsX5_keep rm_X5_keep 0 0 false [.ref b0, .int x1, .int x2, .int x3] h (tt_ret (none) ρ.2) := by
  refine tt_M.of0 (cc := cX5_keep) (maxL := 4) (ret := none) (by decide +kernel) rfl (Nat.le_of_ble_eq_true rfl) ?_
  intro p e s m args below meth c D ca ad n0 sz hwf hsz X hini
  unfold s_X5_keep at hs
  refine tt_iload_n X dX5_keep_0 rfl ?_
  refine tt_if_lt (tgt := 21) X dX5_keep_1 (by decide) (fun c1 => ?_) (fun c1 => ?_)
  · rw [if_pos c1] at hs
    obtain rfl := Option.some.inj hs
    exact tt_vret X rfl dX5_keep_21 ⟨rfl, rfl⟩
  · rw [if_neg c1] at hs
    refine tt_iload_n X dX5_keep_4 rfl ?_
    refine tt_iconst (v := 2) X dX5_keep_5 (by decide) ?_
    refine tt_icmp_ge (tgt := 21) X dX5_keep_6 (by decide) (fun c6 => ?_) (fun c6 => ?_)
    · rw [if_pos c6] at hs
      obtain rfl := Option.some.inj hs
      exact tt_vret X rfl dX5_keep_21 ⟨rfl, rfl⟩
    · rw [if_neg c6] at hs
      refine tt_aload_n X dX5_keep_9 rfl ?_
      obtain ⟨o10, e10, hs⟩ := gg_bind hs
      refine zr_fr X e10 rfl in_X5_keep_X5 (by decide) (by decide +kernel) rfl dX5_keep_10 ?_
      refine tt_iload_n X dX5_keep_13 rfl ?_
      refine tt_bipush (v := 10) X dX5_keep_14 (by decide) ?_
      refine tt_iload_n X dX5_keep_16 rfl ?_
      refine tt_imul X dX5_keep_17 ?_
      refine tt_iload_n X dX5_keep_18 rfl ?_
      refine tt_iadd X dX5_keep_19 ?_
      obtain ⟨h20, e20, hs⟩ := gg_bind hs
      refine zr_is X e20 dX5_keep_20 ?_
      obtain rfl := Option.some.inj hs
      exact tt_vret X rfl dX5_keep_21 ⟨rfl, rfl⟩

def s_X5_findOne_L20 (κ8 : Nat → Nat → Nat → Int32 → Int32 → Int32 → Int32 → Int32 → tt_H → Option (Int32 × tt_H)) : Nat → Nat → Nat → Nat → Int32 → Int32 → Int32 → Int32 → Int32 → Int32 → tt_H → Option (Int32 × tt_H)
  | 0, _, _, _, _, _, _, _, _, _, _ => none
  | n + 1, b0, b1, b2, x3, x4, x7, x8, x9, x10, h =>
    if 8 ≤ x10 then
      (gg_obj h b1 2).bind fun _ =>
      (s_X2_at b1 x9 h).bind fun w70 =>
      (s_X5_after x8 w70.1 b2 x3 w70.2).bind fun w75 =>
      κ8 b0 b1 b2 x3 x4 x7 w75.1 (x9 + 1) w75.2
    else
    (s_X5_after x8 x10 b2 x3 h).bind fun w36 =>
    (gg_obj w36.2 b0 5).bind fun _ =>
    (s_X5_endsSaid b0 x9 w36.1 w36.2).bind fun w39 =>
    if w39.1 = x4 then
      (gg_obj w39.2 b0 5).bind fun _ =>
      (s_X5_keep b0 x7 x9 x10 w39.2).bind fun w54 =>
      some (1, w54.2)
    else
    s_X5_findOne_L20 κ8 n b0 b1 b2 x3 x4 x7 x8 x9 (x10 + 1) w39.2
def s_X5_findOne_L8 : Nat → Nat → Nat → Nat → Int32 → Int32 → Int32 → Int32 → Int32 → tt_H → Option (Int32 × tt_H)
  | 0, _, _, _, _, _, _, _, _, _ => none
  | n + 1, b0, b1, b2, x3, x4, x7, x8, x9, h =>
    (gg_obj h b1 2).bind fun _ =>
    (s_X2_size b1 h).bind fun w11 =>
    if w11.1 < x9 then
      some (0, w11.2)
    else
    s_X5_findOne_L20 (s_X5_findOne_L8 n) 1000 b0 b1 b2 x3 x4 x7 x8 x9 0 w11.2
def s_X5_findOne (b0 : Nat) (b1 : Nat) (b2 : Nat) (x3 : Int32) (x4 : Int32) (x5 : Int32) (x6 : Int32) (x7 : Int32) (h : tt_H) : Option (Int32 × tt_H) :=
  s_X5_findOne_L8 1000 b0 b1 b2 x3 x4 x7 x6 x5 h
abbrev rm_X5_findOne : Room := { frames := 2, cells := 0, slots := 0, locals := 42 }
set_option maxHeartbeats 4000000 in
set_option maxRecDepth 100000 in
theorem c_X5_findOne (l : Launch) {b0 : Nat} {b1 : Nat} {b2 : Nat} {x3 : Int32} {x4 : Int32} {x5 : Int32} {x6 : Int32} {x7 : Int32} {h : tt_H} {ρ : Int32 × tt_H} (hs : s_X5_findOne b0 b1 b2 x3 x4 x5 x6 x7 h = some ρ) : tt_M tt_cl l yX5_findOne wsX5_findOne rm_X5_findOne 0 0 false [.ref b0, .ref b1, .ref b2, .int x3, .int x4, .int x5, .int x6, .int x7] h (tt_ret (some (.int ρ.1)) ρ.2) := by
  refine tt_M.of0 (cc := cX5_findOne) (maxL := 11) (ret := (some .boolean)) (by decide +kernel) rfl (Nat.le_of_ble_eq_true rfl) ?_
  intro p e s m args below meth c D ca ad n0 sz hwf hsz X hini
  unfold s_X5_findOne at hs
  have t_8 : ∀ (fu : Nat) (b0 : Nat) (b1 : Nat) (b2 : Nat) (x3 : Int32) (x4 : Int32) (x7 : Int32) (x8 : Int32) (x9 : Int32) (h : tt_H), s_X5_findOne_L8 fu b0 b1 b2 x3 x4 x7 x8 x9 h = some ρ → tt_T tt_cl (p, l, e, rm_X5_findOne, s, m, args, below, meth, c, MQ below (tt_Q tt_cl D ca ad n0 sz false (tt_ret (some (.int ρ.1)) ρ.2)) args s 0 0 (tt_A ad n0 sz), D, ca, tt_A ad n0 sz, 11, some n0) ad 0 0 8 [(0, .ref b0), (1, .ref b1), (2, .ref b2), (3, .int x3), (4, .int x4), (7, .int x7), (8, .int x8), (9, .int x9)] [] h := by
    intro fu
    induction fu with
    | zero => intro b0 b1 b2 x3 x4 x7 x8 x9 h hs; exact absurd hs (by rw [s_X5_findOne_L8]; exact fun q => by cases q)
    | succ n8 ih =>
      intro b0 b1 b2 x3 x4 x7 x8 x9 h hs
      rw [s_X5_findOne_L8] at hs
      have t_8 := ih
      have t_20 : ∀ (fu : Nat) (b0 : Nat) (b1 : Nat) (b2 : Nat) (x3 : Int32) (x4 : Int32) (x7 : Int32) (x8 : Int32) (x9 : Int32) (x10 : Int32) (h : tt_H), s_X5_findOne_L20 (s_X5_findOne_L8 n8) fu b0 b1 b2 x3 x4 x7 x8 x9 x10 h = some ρ → tt_T tt_cl (p, l, e, rm_X5_findOne, s, m, args, below, meth, c, MQ below (tt_Q tt_cl D ca ad n0 sz false (tt_ret (some (.int ρ.1)) ρ.2)) args s 0 0 (tt_A ad n0 sz), D, ca, tt_A ad n0 sz, 11, some n0) ad 0 0 20 [(0, .ref b0), (1, .ref b1), (2, .ref b2), (3, .int x3), (4, .int x4), (7, .int x7), (8, .int x8), (9, .int x9), (10, .int x10)] [] h := by
        intro fu
        induction fu with
        | zero => intro b0 b1 b2 x3 x4 x7 x8 x9 x10 h hs; exact absurd hs (by rw [s_X5_findOne_L20]; exact fun q => by cases q)
        | succ n20 ih =>
          intro b0 b1 b2 x3 x4 x7 x8 x9 x10 h hs
          rw [s_X5_findOne_L20] at hs
          have t_20 := ih
          refine tt_iload X dX5_findOne_20 rfl ?_
          refine tt_bipush (v := 8) X dX5_findOne_22 (by decide) ?_
          refine tt_icmp_ge (tgt := 65) X dX5_findOne_24 (by decide) (fun c24 => ?_) (fun c24 => ?_)
          · rw [if_pos c24] at hs
            refine tt_iload X dX5_findOne_65 rfl ?_
            refine tt_aload_n X dX5_findOne_67 rfl ?_
            refine tt_iload X dX5_findOne_68 rfl ?_
            obtain ⟨o70, f70, hs⟩ := gg_bind hs
            obtain ⟨w70, e70, hs⟩ := gg_bind hs
            refine zr_callV X f70 rfl (c_X2_at l e70) (fun hts => cwV 1 hts gX5_findOne_X2_at rfl rfl rfl (by decide +kernel) ⟨by decide, by decide⟩) rfl rfl (Nat.le_of_ble_eq_true rfl) dX5_findOne_70 ⟨Nat.zero_le _, Nat.zero_le _⟩ ?_
            refine tt_aload_n X dX5_findOne_73 rfl ?_
            refine tt_iload_n X dX5_findOne_74 rfl ?_
            obtain ⟨w75, e75, hs⟩ := gg_bind hs
            refine zr_callS X (c_X5_after l e75) (fun hts => va_cwS 4 hts gX5_findOne_X5_after rfl rfl rfl (by decide +kernel) ⟨by decide, by decide⟩) rfl rfl (Nat.le_of_ble_eq_true rfl) dX5_findOne_75 ⟨Nat.zero_le _, Nat.zero_le _⟩ ?_
            refine tt_istore X dX5_findOne_78 (Nat.le_of_ble_eq_true rfl) ?_
            refine tt_iinc (v := x9 + 1) X dX5_findOne_80 rfl rfl (Nat.le_of_ble_eq_true rfl) ?_
            refine tt_goto (tgt := 8) X dX5_findOne_83 (by decide) ?_
            refine tt_drop [0, 1, 2, 3, 4, 7, 8, 9] ?_
            exact t_8 b0 b1 b2 x3 x4 x7 w75.1 (x9 + 1) w75.2 hs
          · rw [if_neg c24] at hs
            refine tt_aload_n X dX5_findOne_27 rfl ?_
            refine tt_iload X dX5_findOne_28 rfl ?_
            refine tt_iload X dX5_findOne_30 rfl ?_
            refine tt_iload X dX5_findOne_32 rfl ?_
            refine tt_aload_n X dX5_findOne_34 rfl ?_
            refine tt_iload_n X dX5_findOne_35 rfl ?_
            obtain ⟨w36, e36, hs⟩ := gg_bind hs
            refine zr_callS X (c_X5_after l e36) (fun hts => va_cwS 4 hts gX5_findOne_X5_after rfl rfl rfl (by decide +kernel) ⟨by decide, by decide⟩) rfl rfl (Nat.le_of_ble_eq_true rfl) dX5_findOne_36 ⟨Nat.zero_le _, Nat.zero_le _⟩ ?_
            obtain ⟨o39, f39, hs⟩ := gg_bind hs
            obtain ⟨w39, e39, hs⟩ := gg_bind hs
            refine zr_callV X f39 rfl (c_X5_endsSaid l e39) (fun hts => cwV 2 hts gX5_findOne_X5_endsSaid rfl rfl rfl (by decide +kernel) ⟨by decide, by decide⟩) rfl rfl (Nat.le_of_ble_eq_true rfl) dX5_findOne_39 ⟨Nat.zero_le _, Nat.zero_le _⟩ ?_
            refine tt_iload X dX5_findOne_42 rfl ?_
            refine tt_icmp_ne (tgt := 59) X dX5_findOne_44 (by decide) (fun c44 => ?_) (fun c44 => ?_)
            · rw [if_neg c44] at hs
              refine tt_iinc (v := x10 + 1) X dX5_findOne_59 rfl rfl (Nat.le_of_ble_eq_true rfl) ?_
              refine tt_goto (tgt := 20) X dX5_findOne_62 (by decide) ?_
              refine tt_drop [0, 1, 2, 3, 4, 7, 8, 9, 10] ?_
              exact t_20 b0 b1 b2 x3 x4 x7 x8 x9 (x10 + 1) w39.2 hs
            · rw [if_pos c44] at hs
              refine tt_aload_n X dX5_findOne_47 rfl ?_
              refine tt_iload X dX5_findOne_48 rfl ?_
              refine tt_iload X dX5_findOne_50 rfl ?_
              refine tt_iload X dX5_findOne_52 rfl ?_
              obtain ⟨o54, f54, hs⟩ := gg_bind hs
              obtain ⟨w54, e54, hs⟩ := gg_bind hs
              refine zr_callV X f54 rfl (c_X5_keep l e54) (fun hts => cwV 3 hts gX5_findOne_X5_keep rfl rfl rfl (by decide +kernel) ⟨by decide, by decide⟩) rfl rfl (Nat.le_of_ble_eq_true rfl) dX5_findOne_54 ⟨Nat.zero_le _, Nat.zero_le _⟩ ?_
              refine tt_iconst (v := 1) X dX5_findOne_57 (by decide) ?_
              obtain rfl := Option.some.inj hs
              exact tt_zret X rfl rfl dX5_findOne_58 ⟨rfl, rfl⟩
      refine tt_iload X dX5_findOne_8 rfl ?_
      refine tt_aload_n X dX5_findOne_10 rfl ?_
      obtain ⟨o11, f11, hs⟩ := gg_bind hs
      obtain ⟨w11, e11, hs⟩ := gg_bind hs
      refine zr_callV X f11 rfl (c_X2_size l e11) (fun hts => cwV 0 hts gX5_findOne_X2_size rfl rfl rfl (by decide +kernel) ⟨by decide, by decide⟩) rfl rfl (Nat.le_of_ble_eq_true rfl) dX5_findOne_11 ⟨Nat.zero_le _, Nat.zero_le _⟩ ?_
      refine tt_icmp_gt (tgt := 86) X dX5_findOne_14 (by decide) (fun c14 => ?_) (fun c14 => ?_)
      · rw [if_pos c14] at hs
        refine tt_iconst (v := 0) X dX5_findOne_86 (by decide) ?_
        obtain rfl := Option.some.inj hs
        exact tt_zret X rfl rfl dX5_findOne_87 ⟨rfl, rfl⟩
      · rw [if_neg c14] at hs
        refine tt_iconst (v := 0) X dX5_findOne_17 (by decide) ?_
        refine tt_istore X dX5_findOne_18 (Nat.le_of_ble_eq_true rfl) ?_
        refine tt_drop [0, 1, 2, 3, 4, 7, 8, 9, 10] ?_
        exact t_20 1000 b0 b1 b2 x3 x4 x7 x8 x9 0 w11.2 hs
  refine tt_iload X dX5_findOne_0 rfl ?_
  refine tt_istore X dX5_findOne_2 (Nat.le_of_ble_eq_true rfl) ?_
  refine tt_iload X dX5_findOne_4 rfl ?_
  refine tt_istore X dX5_findOne_6 (Nat.le_of_ble_eq_true rfl) ?_
  refine tt_drop [0, 1, 2, 3, 4, 7, 8, 9] ?_
  exact t_8 1000 b0 b1 b2 x3 x4 x7 x6 x5 h hs

def s_X5_findTwo_L18 (κ6 : Nat → Nat → Nat → Int32 → Int32 → Int32 → Int32 → tt_H → Option (Int32 × tt_H)) : Nat → Nat → Nat → Nat → Int32 → Int32 → Int32 → Int32 → Int32 → tt_H → Option (Int32 × tt_H)
  | 0, _, _, _, _, _, _, _, _, _ => none
  | n + 1, b0, b1, b2, x3, x4, x5, x6, x7, h =>
    if 8 ≤ x7 then
      (gg_obj h b1 2).bind fun _ =>
      (s_X2_at b1 x6 h).bind fun w71 =>
      (s_X5_after x5 w71.1 b2 x3 w71.2).bind fun w76 =>
      κ6 b0 b1 b2 x3 x4 w76.1 (x6 + 1) w76.2
    else
    (s_X5_after x5 x7 b2 x3 h).bind fun w39 =>
    (gg_obj w39.2 b0 5).bind fun _ =>
    (s_X5_findOne b0 b1 b2 x3 x4 x6 w39.1 1 w39.2).bind fun w43 =>
    if w43.1 = 0 then
      s_X5_findTwo_L18 κ6 n b0 b1 b2 x3 x4 x5 x6 (x7 + 1) w43.2
    else
    (gg_obj w43.2 b0 5).bind fun _ =>
    (s_X5_keep b0 0 x6 x7 w43.2).bind fun w55 =>
    some (1, w55.2)
def s_X5_findTwo_L6 : Nat → Nat → Nat → Nat → Int32 → Int32 → Int32 → Int32 → tt_H → Option (Int32 × tt_H)
  | 0, _, _, _, _, _, _, _, _ => none
  | n + 1, b0, b1, b2, x3, x4, x5, x6, h =>
    (gg_obj h b1 2).bind fun _ =>
    (s_X2_size b1 h).bind fun w9 =>
    if w9.1 < x6 then
      some (0, w9.2)
    else
    s_X5_findTwo_L18 (s_X5_findTwo_L6 n) 1000 b0 b1 b2 x3 x4 x5 x6 0 w9.2
def s_X5_findTwo (b0 : Nat) (b1 : Nat) (b2 : Nat) (x3 : Int32) (x4 : Int32) (h : tt_H) : Option (Int32 × tt_H) :=
  s_X5_findTwo_L6 1000 b0 b1 b2 x3 x4 0 0 h
abbrev rm_X5_findTwo : Room := { frames := 3, cells := 0, slots := 0, locals := 72 }
set_option maxHeartbeats 4000000 in
set_option maxRecDepth 100000 in
theorem c_X5_findTwo (l : Launch) {b0 : Nat} {b1 : Nat} {b2 : Nat} {x3 : Int32} {x4 : Int32} {h : tt_H} {ρ : Int32 × tt_H} (hs : s_X5_findTwo b0 b1 b2 x3 x4 h = some ρ) : tt_M tt_cl l yX5_findTwo wsX5_findTwo rm_X5_findTwo 0 0 false [.ref b0, .ref b1, .ref b2, .int x3, .int x4] h (tt_ret (some (.int ρ.1)) ρ.2) := by
  refine tt_M.of0 (cc := cX5_findTwo) (maxL := 8) (ret := (some .boolean)) (by decide +kernel) rfl (Nat.le_of_ble_eq_true rfl) ?_
  intro p e s m args below meth c D ca ad n0 sz hwf hsz X hini
  unfold s_X5_findTwo at hs
  have t_6 : ∀ (fu : Nat) (b0 : Nat) (b1 : Nat) (b2 : Nat) (x3 : Int32) (x4 : Int32) (x5 : Int32) (x6 : Int32) (h : tt_H), s_X5_findTwo_L6 fu b0 b1 b2 x3 x4 x5 x6 h = some ρ → tt_T tt_cl (p, l, e, rm_X5_findTwo, s, m, args, below, meth, c, MQ below (tt_Q tt_cl D ca ad n0 sz false (tt_ret (some (.int ρ.1)) ρ.2)) args s 0 0 (tt_A ad n0 sz), D, ca, tt_A ad n0 sz, 8, some n0) ad 0 0 6 [(0, .ref b0), (1, .ref b1), (2, .ref b2), (3, .int x3), (4, .int x4), (5, .int x5), (6, .int x6)] [] h := by
    intro fu
    induction fu with
    | zero => intro b0 b1 b2 x3 x4 x5 x6 h hs; exact absurd hs (by rw [s_X5_findTwo_L6]; exact fun q => by cases q)
    | succ n6 ih =>
      intro b0 b1 b2 x3 x4 x5 x6 h hs
      rw [s_X5_findTwo_L6] at hs
      have t_6 := ih
      have t_18 : ∀ (fu : Nat) (b0 : Nat) (b1 : Nat) (b2 : Nat) (x3 : Int32) (x4 : Int32) (x5 : Int32) (x6 : Int32) (x7 : Int32) (h : tt_H), s_X5_findTwo_L18 (s_X5_findTwo_L6 n6) fu b0 b1 b2 x3 x4 x5 x6 x7 h = some ρ → tt_T tt_cl (p, l, e, rm_X5_findTwo, s, m, args, below, meth, c, MQ below (tt_Q tt_cl D ca ad n0 sz false (tt_ret (some (.int ρ.1)) ρ.2)) args s 0 0 (tt_A ad n0 sz), D, ca, tt_A ad n0 sz, 8, some n0) ad 0 0 18 [(0, .ref b0), (1, .ref b1), (2, .ref b2), (3, .int x3), (4, .int x4), (5, .int x5), (6, .int x6), (7, .int x7)] [] h := by
        intro fu
        induction fu with
        | zero => intro b0 b1 b2 x3 x4 x5 x6 x7 h hs; exact absurd hs (by rw [s_X5_findTwo_L18]; exact fun q => by cases q)
        | succ n18 ih =>
          intro b0 b1 b2 x3 x4 x5 x6 x7 h hs
          rw [s_X5_findTwo_L18] at hs
          have t_18 := ih
          refine tt_iload X dX5_findTwo_18 rfl ?_
          refine tt_bipush (v := 8) X dX5_findTwo_20 (by decide) ?_
          refine tt_icmp_ge (tgt := 66) X dX5_findTwo_22 (by decide) (fun c22 => ?_) (fun c22 => ?_)
          · rw [if_pos c22] at hs
            refine tt_iload X dX5_findTwo_66 rfl ?_
            refine tt_aload_n X dX5_findTwo_68 rfl ?_
            refine tt_iload X dX5_findTwo_69 rfl ?_
            obtain ⟨o71, f71, hs⟩ := gg_bind hs
            obtain ⟨w71, e71, hs⟩ := gg_bind hs
            refine zr_callV X f71 rfl (c_X2_at l e71) (fun hts => cwV 1 hts gX5_findTwo_X2_at rfl rfl rfl (by decide +kernel) ⟨by decide, by decide⟩) rfl rfl (Nat.le_of_ble_eq_true rfl) dX5_findTwo_71 ⟨Nat.zero_le _, Nat.zero_le _⟩ ?_
            refine tt_aload_n X dX5_findTwo_74 rfl ?_
            refine tt_iload_n X dX5_findTwo_75 rfl ?_
            obtain ⟨w76, e76, hs⟩ := gg_bind hs
            refine zr_callS X (c_X5_after l e76) (fun hts => va_cwS 4 hts gX5_findTwo_X5_after rfl rfl rfl (by decide +kernel) ⟨by decide, by decide⟩) rfl rfl (Nat.le_of_ble_eq_true rfl) dX5_findTwo_76 ⟨Nat.zero_le _, Nat.zero_le _⟩ ?_
            refine tt_istore X dX5_findTwo_79 (Nat.le_of_ble_eq_true rfl) ?_
            refine tt_iinc (v := x6 + 1) X dX5_findTwo_81 rfl rfl (Nat.le_of_ble_eq_true rfl) ?_
            refine tt_goto (tgt := 6) X dX5_findTwo_84 (by decide) ?_
            refine tt_drop [0, 1, 2, 3, 4, 5, 6] ?_
            exact t_6 b0 b1 b2 x3 x4 w76.1 (x6 + 1) w76.2 hs
          · rw [if_neg c22] at hs
            refine tt_aload_n X dX5_findTwo_25 rfl ?_
            refine tt_aload_n X dX5_findTwo_26 rfl ?_
            refine tt_aload_n X dX5_findTwo_27 rfl ?_
            refine tt_iload_n X dX5_findTwo_28 rfl ?_
            refine tt_iload X dX5_findTwo_29 rfl ?_
            refine tt_iload X dX5_findTwo_31 rfl ?_
            refine tt_iload X dX5_findTwo_33 rfl ?_
            refine tt_iload X dX5_findTwo_35 rfl ?_
            refine tt_aload_n X dX5_findTwo_37 rfl ?_
            refine tt_iload_n X dX5_findTwo_38 rfl ?_
            obtain ⟨w39, e39, hs⟩ := gg_bind hs
            refine zr_callS X (c_X5_after l e39) (fun hts => va_cwS 4 hts gX5_findTwo_X5_after rfl rfl rfl (by decide +kernel) ⟨by decide, by decide⟩) rfl rfl (Nat.le_of_ble_eq_true rfl) dX5_findTwo_39 ⟨Nat.zero_le _, Nat.zero_le _⟩ ?_
            refine tt_iconst (v := 1) X dX5_findTwo_42 (by decide) ?_
            obtain ⟨o43, f43, hs⟩ := gg_bind hs
            obtain ⟨w43, e43, hs⟩ := gg_bind hs
            refine zr_callV X f43 rfl (c_X5_findOne l e43) (fun hts => cwV 7 hts gX5_findTwo_X5_findOne rfl rfl rfl (by decide +kernel) ⟨by decide, by decide⟩) rfl rfl (Nat.le_of_ble_eq_true rfl) dX5_findTwo_43 ⟨Nat.zero_le _, Nat.zero_le _⟩ ?_
            refine tt_if_eq (tgt := 60) X dX5_findTwo_46 (by decide) (fun c46 => ?_) (fun c46 => ?_)
            · rw [if_pos c46] at hs
              refine tt_iinc (v := x7 + 1) X dX5_findTwo_60 rfl rfl (Nat.le_of_ble_eq_true rfl) ?_
              refine tt_goto (tgt := 18) X dX5_findTwo_63 (by decide) ?_
              refine tt_drop [0, 1, 2, 3, 4, 5, 6, 7] ?_
              exact t_18 b0 b1 b2 x3 x4 x5 x6 (x7 + 1) w43.2 hs
            · rw [if_neg c46] at hs
              refine tt_aload_n X dX5_findTwo_49 rfl ?_
              refine tt_iconst (v := 0) X dX5_findTwo_50 (by decide) ?_
              refine tt_iload X dX5_findTwo_51 rfl ?_
              refine tt_iload X dX5_findTwo_53 rfl ?_
              obtain ⟨o55, f55, hs⟩ := gg_bind hs
              obtain ⟨w55, e55, hs⟩ := gg_bind hs
              refine zr_callV X f55 rfl (c_X5_keep l e55) (fun hts => cwV 3 hts gX5_findTwo_X5_keep rfl rfl rfl (by decide +kernel) ⟨by decide, by decide⟩) rfl rfl (Nat.le_of_ble_eq_true rfl) dX5_findTwo_55 ⟨Nat.zero_le _, Nat.zero_le _⟩ ?_
              refine tt_iconst (v := 1) X dX5_findTwo_58 (by decide) ?_
              obtain rfl := Option.some.inj hs
              exact tt_zret X rfl rfl dX5_findTwo_59 ⟨rfl, rfl⟩
      refine tt_iload X dX5_findTwo_6 rfl ?_
      refine tt_aload_n X dX5_findTwo_8 rfl ?_
      obtain ⟨o9, f9, hs⟩ := gg_bind hs
      obtain ⟨w9, e9, hs⟩ := gg_bind hs
      refine zr_callV X f9 rfl (c_X2_size l e9) (fun hts => cwV 0 hts gX5_findTwo_X2_size rfl rfl rfl (by decide +kernel) ⟨by decide, by decide⟩) rfl rfl (Nat.le_of_ble_eq_true rfl) dX5_findTwo_9 ⟨Nat.zero_le _, Nat.zero_le _⟩ ?_
      refine tt_icmp_gt (tgt := 87) X dX5_findTwo_12 (by decide) (fun c12 => ?_) (fun c12 => ?_)
      · rw [if_pos c12] at hs
        refine tt_iconst (v := 0) X dX5_findTwo_87 (by decide) ?_
        obtain rfl := Option.some.inj hs
        exact tt_zret X rfl rfl dX5_findTwo_88 ⟨rfl, rfl⟩
      · rw [if_neg c12] at hs
        refine tt_iconst (v := 0) X dX5_findTwo_15 (by decide) ?_
        refine tt_istore X dX5_findTwo_16 (Nat.le_of_ble_eq_true rfl) ?_
        refine tt_drop [0, 1, 2, 3, 4, 5, 6, 7] ?_
        exact t_18 1000 b0 b1 b2 x3 x4 x5 x6 0 w9.2 hs
  refine tt_iconst (v := 0) X dX5_findTwo_0 (by decide) ?_
  refine tt_istore X dX5_findTwo_1 (Nat.le_of_ble_eq_true rfl) ?_
  refine tt_iconst (v := 0) X dX5_findTwo_3 (by decide) ?_
  refine tt_istore X dX5_findTwo_4 (Nat.le_of_ble_eq_true rfl) ?_
  refine tt_drop [0, 1, 2, 3, 4, 5, 6] ?_
  exact t_6 1000 b0 b1 b2 x3 x4 0 0 h hs

def s_X5_fewest (b0 : Nat) (b1 : Nat) (b2 : Nat) (x3 : Int32) (x4 : Int32) (h : tt_H) : Option (Int32 × tt_H) :=
  (gg_obj h b0 5).bind fun _ =>
  (s_X5_keepEnds b0 b1 b2 x3 h).bind fun w4 =>
  (gg_obj w4.2 b0 5).bind fun _ =>
  (s_X5_endsSaid b0 0 0 w4.2).bind fun w10 =>
  if w10.1 = x4 then
    some (0, w10.2)
  else
  (gg_obj w10.2 b0 5).bind fun _ =>
  (s_X5_findOne b0 b1 b2 x3 x4 0 0 0 w10.2).bind fun w29 =>
  if w29.1 = 0 then
    (gg_obj w29.2 b0 5).bind fun _ =>
    (s_X5_findTwo b0 b1 b2 x3 x4 w29.2).bind fun w43 =>
    if w43.1 = 0 then
      some ((-9), w43.2)
    else
    some (2, w43.2)
  else
  some (1, w29.2)
abbrev rm_X5_fewest : Room := { frames := 4, cells := 0, slots := 0, locals := 99 }
set_option maxHeartbeats 4000000 in
set_option maxRecDepth 100000 in
theorem c_X5_fewest (l : Launch) {b0 : Nat} {b1 : Nat} {b2 : Nat} {x3 : Int32} {x4 : Int32} {h : tt_H} {ρ : Int32 × tt_H} (hs : s_X5_fewest b0 b1 b2 x3 x4 h = some ρ) : tt_M tt_cl l yX5_fewest wsX5_fewest rm_X5_fewest 0 0 false [.ref b0, .ref b1, .ref b2, .int x3, .int x4] h (tt_ret (some (.int ρ.1)) ρ.2) := by
  refine tt_M.of0 (cc := cX5_fewest) (maxL := 5) (ret := (some .int)) (by decide +kernel) rfl (Nat.le_of_ble_eq_true rfl) ?_
  intro p e s m args below meth c D ca ad n0 sz hwf hsz X hini
  unfold s_X5_fewest at hs
  refine tt_aload_n X dX5_fewest_0 rfl ?_
  refine tt_aload_n X dX5_fewest_1 rfl ?_
  refine tt_aload_n X dX5_fewest_2 rfl ?_
  refine tt_iload_n X dX5_fewest_3 rfl ?_
  obtain ⟨o4, f4, hs⟩ := gg_bind hs
  obtain ⟨w4, e4, hs⟩ := gg_bind hs
  refine zr_callV X f4 rfl (c_X5_keepEnds l e4) (fun hts => cwV 3 hts gX5_fewest_X5_keepEnds rfl rfl rfl (by decide +kernel) ⟨by decide, by decide⟩) rfl rfl (Nat.le_of_ble_eq_true rfl) dX5_fewest_4 ⟨Nat.zero_le _, Nat.zero_le _⟩ ?_
  refine tt_aload_n X dX5_fewest_7 rfl ?_
  refine tt_iconst (v := 0) X dX5_fewest_8 (by decide) ?_
  refine tt_iconst (v := 0) X dX5_fewest_9 (by decide) ?_
  obtain ⟨o10, f10, hs⟩ := gg_bind hs
  obtain ⟨w10, e10, hs⟩ := gg_bind hs
  refine zr_callV X f10 rfl (c_X5_endsSaid l e10) (fun hts => cwV 2 hts gX5_fewest_X5_endsSaid rfl rfl rfl (by decide +kernel) ⟨by decide, by decide⟩) rfl rfl (Nat.le_of_ble_eq_true rfl) dX5_fewest_10 ⟨Nat.zero_le _, Nat.zero_le _⟩ ?_
  refine tt_iload X dX5_fewest_13 rfl ?_
  refine tt_icmp_ne (tgt := 20) X dX5_fewest_15 (by decide) (fun c15 => ?_) (fun c15 => ?_)
  · rw [if_neg c15] at hs
    refine tt_aload_n X dX5_fewest_20 rfl ?_
    refine tt_aload_n X dX5_fewest_21 rfl ?_
    refine tt_aload_n X dX5_fewest_22 rfl ?_
    refine tt_iload_n X dX5_fewest_23 rfl ?_
    refine tt_iload X dX5_fewest_24 rfl ?_
    refine tt_iconst (v := 0) X dX5_fewest_26 (by decide) ?_
    refine tt_iconst (v := 0) X dX5_fewest_27 (by decide) ?_
    refine tt_iconst (v := 0) X dX5_fewest_28 (by decide) ?_
    obtain ⟨o29, f29, hs⟩ := gg_bind hs
    obtain ⟨w29, e29, hs⟩ := gg_bind hs
    refine zr_callV X f29 rfl (c_X5_findOne l e29) (fun hts => cwV 7 hts gX5_fewest_X5_findOne rfl rfl rfl (by decide +kernel) ⟨by decide, by decide⟩) rfl rfl (Nat.le_of_ble_eq_true rfl) dX5_fewest_29 ⟨Nat.zero_le _, Nat.zero_le _⟩ ?_
    refine tt_if_eq (tgt := 37) X dX5_fewest_32 (by decide) (fun c32 => ?_) (fun c32 => ?_)
    · rw [if_pos c32] at hs
      refine tt_aload_n X dX5_fewest_37 rfl ?_
      refine tt_aload_n X dX5_fewest_38 rfl ?_
      refine tt_aload_n X dX5_fewest_39 rfl ?_
      refine tt_iload_n X dX5_fewest_40 rfl ?_
      refine tt_iload X dX5_fewest_41 rfl ?_
      obtain ⟨o43, f43, hs⟩ := gg_bind hs
      obtain ⟨w43, e43, hs⟩ := gg_bind hs
      refine zr_callV X f43 rfl (c_X5_findTwo l e43) (fun hts => cwV 4 hts gX5_fewest_X5_findTwo rfl rfl rfl (by decide +kernel) ⟨by decide, by decide⟩) rfl rfl (Nat.le_of_ble_eq_true rfl) dX5_fewest_43 ⟨Nat.zero_le _, Nat.zero_le _⟩ ?_
      refine tt_if_eq (tgt := 53) X dX5_fewest_46 (by decide) (fun c46 => ?_) (fun c46 => ?_)
      · rw [if_pos c46] at hs
        refine tt_bipush (v := (-9)) X dX5_fewest_53 (by decide) ?_
        obtain rfl := Option.some.inj hs
        exact tt_iret X rfl dX5_fewest_55 ⟨rfl, rfl⟩
      · rw [if_neg c46] at hs
        refine tt_iconst (v := 2) X dX5_fewest_49 (by decide) ?_
        refine tt_goto (tgt := 55) X dX5_fewest_50 (by decide) ?_
        obtain rfl := Option.some.inj hs
        exact tt_iret X rfl dX5_fewest_55 ⟨rfl, rfl⟩
    · rw [if_neg c32] at hs
      refine tt_iconst (v := 1) X dX5_fewest_35 (by decide) ?_
      obtain rfl := Option.some.inj hs
      exact tt_iret X rfl dX5_fewest_36 ⟨rfl, rfl⟩
  · rw [if_pos c15] at hs
    refine tt_iconst (v := 0) X dX5_fewest_18 (by decide) ?_
    obtain rfl := Option.some.inj hs
    exact tt_iret X rfl dX5_fewest_19 ⟨rfl, rfl⟩

theorem in_X5_found_X5 : ∀ w ∈ u_ws RX5 TX5 2, w ∈ wsX5_found := by decide +kernel
def s_X5_found (b0 : Nat) (x1 : Int32) (h : tt_H) : Option (Int32 × tt_H) :=
  if x1 < 0 then
    some ((-9), h)
  else
  if 2 ≤ x1 then
    some ((-9), h)
  else
  (gg_fr h b0 5 1).bind fun o10 =>
  (gg_il h o10 x1).bind fun z14 =>
  some (z14, h)
abbrev rm_X5_found : Room := { frames := 0, cells := 0, slots := 0, locals := 0 }
set_option maxHeartbeats 4000000 in
set_option maxRecDepth 100000 in
theorem c_X5_found (l : Launch) {b0 : Nat} {x1 : Int32} {h : tt_H} {ρ : Int32 × tt_H} (hs : s_X5_found b0 x1 h = some ρ) : tt_M tt_cl l yX5_found wsX5_found rm_X5_found 0 0 false [.ref b0, .int x1] h (tt_ret (some (.int ρ.1)) ρ.2) := by
  refine tt_M.of0 (cc := cX5_found) (maxL := 2) (ret := (some .int)) (by decide +kernel) rfl (Nat.le_of_ble_eq_true rfl) ?_
  intro p e s m args below meth c D ca ad n0 sz hwf hsz X hini
  unfold s_X5_found at hs
  refine tt_iload_n X dX5_found_0 rfl ?_
  refine tt_if_lt (tgt := 18) X dX5_found_1 (by decide) (fun c1 => ?_) (fun c1 => ?_)
  · rw [if_pos c1] at hs
    refine tt_bipush (v := (-9)) X dX5_found_18 (by decide) ?_
    obtain rfl := Option.some.inj hs
    exact tt_iret X rfl dX5_found_20 ⟨rfl, rfl⟩
  · rw [if_neg c1] at hs
    refine tt_iload_n X dX5_found_4 rfl ?_
    refine tt_iconst (v := 2) X dX5_found_5 (by decide) ?_
    refine tt_icmp_ge (tgt := 18) X dX5_found_6 (by decide) (fun c6 => ?_) (fun c6 => ?_)
    · rw [if_pos c6] at hs
      refine tt_bipush (v := (-9)) X dX5_found_18 (by decide) ?_
      obtain rfl := Option.some.inj hs
      exact tt_iret X rfl dX5_found_20 ⟨rfl, rfl⟩
    · rw [if_neg c6] at hs
      refine tt_aload_n X dX5_found_9 rfl ?_
      obtain ⟨o10, e10, hs⟩ := gg_bind hs
      refine zr_fr X e10 rfl in_X5_found_X5 (by decide) (by decide +kernel) rfl dX5_found_10 ?_
      refine tt_iload_n X dX5_found_13 rfl ?_
      obtain ⟨z14, e14, hs⟩ := gg_bind hs
      refine zr_il X e14 dX5_found_14 ?_
      refine tt_goto (tgt := 20) X dX5_found_15 (by decide) ?_
      obtain rfl := Option.some.inj hs
      exact tt_iret X rfl dX5_found_20 ⟨rfl, rfl⟩

def s_X5_isSaid_L5 : Nat → Nat → Nat → Int32 → Int32 → Int32 → tt_H → Option (Int32 × tt_H)
  | 0, _, _, _, _, _, _ => none
  | n + 1, b0, b1, x2, x3, x4, h =>
    (gg_obj h b0 2).bind fun _ =>
    (s_X2_size b0 h).bind fun w8 =>
    if w8.1 ≤ x4 then
      if (x3 &&& 1) = 0 then
        some (0, w8.2)
      else
      some (1, w8.2)
    else
    (gg_obj w8.2 b0 2).bind fun _ =>
    (s_X2_at b0 x4 w8.2).bind fun w18 =>
    (s_X5_after x3 w18.1 b1 x2 w18.2).bind fun w23 =>
    s_X5_isSaid_L5 n b0 b1 x2 w23.1 (x4 + 1) w23.2
def s_X5_isSaid (b0 : Nat) (b1 : Nat) (x2 : Int32) (h : tt_H) : Option (Int32 × tt_H) :=
  s_X5_isSaid_L5 1000 b0 b1 x2 0 0 h
abbrev rm_X5_isSaid : Room := { frames := 2, cells := 0, slots := 0, locals := 42 }
set_option maxHeartbeats 4000000 in
set_option maxRecDepth 100000 in
theorem c_X5_isSaid (l : Launch) {b0 : Nat} {b1 : Nat} {x2 : Int32} {h : tt_H} {ρ : Int32 × tt_H} (hs : s_X5_isSaid b0 b1 x2 h = some ρ) : tt_M tt_cl l yX5_isSaid wsX5_isSaid rm_X5_isSaid 0 0 false [.ref b0, .ref b1, .int x2] h (tt_ret (some (.int ρ.1)) ρ.2) := by
  refine tt_M.of0 (cc := cX5_isSaid) (maxL := 5) (ret := (some .boolean)) (by decide +kernel) rfl (Nat.le_of_ble_eq_true rfl) ?_
  intro p e s m args below meth c D ca ad n0 sz hwf hsz X hini
  unfold s_X5_isSaid at hs
  have t_5 : ∀ (fu : Nat) (b0 : Nat) (b1 : Nat) (x2 : Int32) (x3 : Int32) (x4 : Int32) (h : tt_H), s_X5_isSaid_L5 fu b0 b1 x2 x3 x4 h = some ρ → tt_T tt_cl (p, l, e, rm_X5_isSaid, s, m, args, below, meth, c, MQ below (tt_Q tt_cl D ca ad n0 sz false (tt_ret (some (.int ρ.1)) ρ.2)) args s 0 0 (tt_A ad n0 sz), D, ca, tt_A ad n0 sz, 5, some n0) ad 0 0 5 [(0, .ref b0), (1, .ref b1), (2, .int x2), (3, .int x3), (4, .int x4)] [] h := by
    intro fu
    induction fu with
    | zero => intro b0 b1 x2 x3 x4 h hs; exact absurd hs (by rw [s_X5_isSaid_L5]; exact fun q => by cases q)
    | succ n5 ih =>
      intro b0 b1 x2 x3 x4 h hs
      rw [s_X5_isSaid_L5] at hs
      have t_5 := ih
      refine tt_iload X dX5_isSaid_5 rfl ?_
      refine tt_aload_n X dX5_isSaid_7 rfl ?_
      obtain ⟨o8, f8, hs⟩ := gg_bind hs
      obtain ⟨w8, e8, hs⟩ := gg_bind hs
      refine zr_callV X f8 rfl (c_X2_size l e8) (fun hts => cwV 0 hts gX5_isSaid_X2_size rfl rfl rfl (by decide +kernel) ⟨by decide, by decide⟩) rfl rfl (Nat.le_of_ble_eq_true rfl) dX5_isSaid_8 ⟨Nat.zero_le _, Nat.zero_le _⟩ ?_
      refine tt_icmp_ge (tgt := 33) X dX5_isSaid_11 (by decide) (fun c11 => ?_) (fun c11 => ?_)
      · rw [if_pos c11] at hs
        refine tt_iload_n X dX5_isSaid_33 rfl ?_
        refine tt_iconst (v := 1) X dX5_isSaid_34 (by decide) ?_
        refine tt_iand X dX5_isSaid_35 ?_
        refine tt_if_eq (tgt := 43) X dX5_isSaid_36 (by decide) (fun c36 => ?_) (fun c36 => ?_)
        · rw [if_pos c36] at hs
          refine tt_iconst (v := 0) X dX5_isSaid_43 (by decide) ?_
          obtain rfl := Option.some.inj hs
          exact tt_zret X rfl rfl dX5_isSaid_44 ⟨rfl, rfl⟩
        · rw [if_neg c36] at hs
          refine tt_iconst (v := 1) X dX5_isSaid_39 (by decide) ?_
          refine tt_goto (tgt := 44) X dX5_isSaid_40 (by decide) ?_
          obtain rfl := Option.some.inj hs
          exact tt_zret X rfl rfl dX5_isSaid_44 ⟨rfl, rfl⟩
      · rw [if_neg c11] at hs
        refine tt_iload_n X dX5_isSaid_14 rfl ?_
        refine tt_aload_n X dX5_isSaid_15 rfl ?_
        refine tt_iload X dX5_isSaid_16 rfl ?_
        obtain ⟨o18, f18, hs⟩ := gg_bind hs
        obtain ⟨w18, e18, hs⟩ := gg_bind hs
        refine zr_callV X f18 rfl (c_X2_at l e18) (fun hts => cwV 1 hts gX5_isSaid_X2_at rfl rfl rfl (by decide +kernel) ⟨by decide, by decide⟩) rfl rfl (Nat.le_of_ble_eq_true rfl) dX5_isSaid_18 ⟨Nat.zero_le _, Nat.zero_le _⟩ ?_
        refine tt_aload_n X dX5_isSaid_21 rfl ?_
        refine tt_iload_n X dX5_isSaid_22 rfl ?_
        obtain ⟨w23, e23, hs⟩ := gg_bind hs
        refine zr_callS X (c_X5_after l e23) (fun hts => va_cwS 4 hts gX5_isSaid_X5_after rfl rfl rfl (by decide +kernel) ⟨by decide, by decide⟩) rfl rfl (Nat.le_of_ble_eq_true rfl) dX5_isSaid_23 ⟨Nat.zero_le _, Nat.zero_le _⟩ ?_
        refine tt_istore_n X dX5_isSaid_26 (Nat.le_of_ble_eq_true rfl) ?_
        refine tt_iinc (v := x4 + 1) X dX5_isSaid_27 rfl rfl (Nat.le_of_ble_eq_true rfl) ?_
        refine tt_goto (tgt := 5) X dX5_isSaid_30 (by decide) ?_
        refine tt_drop [0, 1, 2, 3, 4] ?_
        exact t_5 b0 b1 x2 w23.1 (x4 + 1) w23.2 hs
  refine tt_iconst (v := 0) X dX5_isSaid_0 (by decide) ?_
  refine tt_istore_n X dX5_isSaid_1 (Nat.le_of_ble_eq_true rfl) ?_
  refine tt_iconst (v := 0) X dX5_isSaid_2 (by decide) ?_
  refine tt_istore X dX5_isSaid_3 (Nat.le_of_ble_eq_true rfl) ?_
  refine tt_drop [0, 1, 2, 3, 4] ?_
  exact t_5 1000 b0 b1 x2 0 0 h hs
