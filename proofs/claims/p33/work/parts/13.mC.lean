theorem in_X3_make_X3 : ∀ w ∈ u_ws RX3 TX3 3, w ∈ wsX3_make := by decide +kernel
def s_X3_make_J116 (κ78 : Nat → Nat → Nat → Int32 → Int32 → tt_H → Option (Int32 × tt_H)) (b0 : Nat) (b1 : Nat) (b2 : Nat) (x3 : Int32) (x4 : Int32) (h : tt_H) : Option (Int32 × tt_H) :=
  κ78 b0 b1 b2 x3 (x4 + (-1)) h
def s_X3_make_L78 : Nat → Nat → Nat → Nat → Int32 → Int32 → tt_H → Option (Int32 × tt_H)
  | 0, _, _, _, _, _, _ => none
  | n + 1, b0, b1, b2, x3, x4, h =>
    if x4 < 0 then
      some (1, h)
    else
    (gg_obj h b1 2).bind fun _ =>
    (s_X2_has b1 x3 h).bind fun w85 =>
    if w85.1 = 0 then
      s_X3_make_J116 (s_X3_make_L78 n) b0 b1 b2 x3 x4 w85.2
    else
    (gg_obj w85.2 b1 2).bind fun _ =>
    (s_X2_at b1 x3 w85.2).bind fun w93 =>
    (gg_obj w93.2 b2 2).bind fun _ =>
    (s_X2_at b2 x4 w93.2).bind fun w99 =>
    if w93.1 = w99.1 then
      (gg_fr w99.2 b0 3 1).bind fun o106 =>
      (gg_is w99.2 o106 x3 x4).bind fun h112 =>
      s_X3_make_J116 (s_X3_make_L78 n) b0 b1 b2 (x3 + (-1)) x4 h112
    else
    s_X3_make_J116 (s_X3_make_L78 n) b0 b1 b2 x3 x4 w99.2
def s_X3_make_J47 (κ5 : Nat → Nat → Nat → Int32 → Int32 → tt_H → Option (Int32 × tt_H)) (b0 : Nat) (b1 : Nat) (b2 : Nat) (x3 : Int32) (x4 : Int32) (h : tt_H) : Option (Int32 × tt_H) :=
  κ5 b0 b1 b2 x3 (x4 + 1) h
def s_X3_make_L5 : Nat → Nat → Nat → Nat → Int32 → Int32 → tt_H → Option (Int32 × tt_H)
  | 0, _, _, _, _, _, _ => none
  | n + 1, b0, b1, b2, x3, x4, h =>
    (gg_obj h b2 2).bind fun _ =>
    (s_X2_size b2 h).bind fun w8 =>
    if w8.1 ≤ x4 then
      (gg_obj w8.2 b1 2).bind fun _ =>
      (s_X2_size b1 w8.2).bind fun w55 =>
      if w55.1 ≤ x3 then
        (gg_obj w55.2 b1 2).bind fun _ =>
        (s_X2_size b1 w55.2).bind fun w64 =>
        (gg_obj w64.2 b2 2).bind fun _ =>
        (s_X2_size b2 w64.2).bind fun w71 =>
        s_X3_make_L78 1000 b0 b1 b2 (w64.1 - 1) (w71.1 - 1) w71.2
      else
      some (0, w55.2)
    else
    (gg_obj w8.2 b1 2).bind fun _ =>
    (s_X2_has b1 x3 w8.2).bind fun w16 =>
    if w16.1 = 0 then
      s_X3_make_J47 (s_X3_make_L5 n) b0 b1 b2 x3 x4 w16.2
    else
    (gg_obj w16.2 b1 2).bind fun _ =>
    (s_X2_at b1 x3 w16.2).bind fun w24 =>
    (gg_obj w24.2 b2 2).bind fun _ =>
    (s_X2_at b2 x4 w24.2).bind fun w30 =>
    if w24.1 = w30.1 then
      (gg_fr w30.2 b0 3 0).bind fun o37 =>
      (gg_is w30.2 o37 x3 x4).bind fun h43 =>
      s_X3_make_J47 (s_X3_make_L5 n) b0 b1 b2 (x3 + 1) x4 h43
    else
    s_X3_make_J47 (s_X3_make_L5 n) b0 b1 b2 x3 x4 w30.2
def s_X3_make (b0 : Nat) (b1 : Nat) (b2 : Nat) (h : tt_H) : Option (Int32 × tt_H) :=
  s_X3_make_L5 1000 b0 b1 b2 0 0 h
abbrev rm_X3_make : Room := { frames := 2, cells := 0, slots := 0, locals := 42 }
set_option maxHeartbeats 4000000 in
set_option maxRecDepth 100000 in
theorem c_X3_make (l : Launch) {b0 : Nat} {b1 : Nat} {b2 : Nat} {h : tt_H} {ρ : Int32 × tt_H} (hs : s_X3_make b0 b1 b2 h = some ρ) : tt_M tt_cl l yX3_make wsX3_make rm_X3_make 0 0 false [.ref b0, .ref b1, .ref b2] h (tt_ret (some (.int ρ.1)) ρ.2) := by
  refine tt_M.of0 (cc := cX3_make) (maxL := 5) (ret := (some .boolean)) (by decide +kernel) rfl (Nat.le_of_ble_eq_true rfl) ?_
  intro p e s m args below meth c D ca ad n0 sz hwf hsz X hini
  unfold s_X3_make at hs
  have t_5 : ∀ (fu : Nat) (b0 : Nat) (b1 : Nat) (b2 : Nat) (x3 : Int32) (x4 : Int32) (h : tt_H), s_X3_make_L5 fu b0 b1 b2 x3 x4 h = some ρ → tt_T tt_cl (p, l, e, rm_X3_make, s, m, args, below, meth, c, MQ below (tt_Q tt_cl D ca ad n0 sz false (tt_ret (some (.int ρ.1)) ρ.2)) args s 0 0 (tt_A ad n0 sz), D, ca, tt_A ad n0 sz, 5, some n0) ad 0 0 5 [(0, .ref b0), (1, .ref b1), (2, .ref b2), (3, .int x3), (4, .int x4)] [] h := by
    intro fu
    induction fu with
    | zero => intro b0 b1 b2 x3 x4 h hs; exact absurd hs (by rw [s_X3_make_L5]; exact fun q => by cases q)
    | succ n5 ih =>
      intro b0 b1 b2 x3 x4 h hs
      rw [s_X3_make_L5] at hs
      have t_5 := ih
      have t_78 : ∀ (fu : Nat) (b0 : Nat) (b1 : Nat) (b2 : Nat) (x3 : Int32) (x4 : Int32) (h : tt_H), s_X3_make_L78 fu b0 b1 b2 x3 x4 h = some ρ → tt_T tt_cl (p, l, e, rm_X3_make, s, m, args, below, meth, c, MQ below (tt_Q tt_cl D ca ad n0 sz false (tt_ret (some (.int ρ.1)) ρ.2)) args s 0 0 (tt_A ad n0 sz), D, ca, tt_A ad n0 sz, 5, some n0) ad 0 0 78 [(0, .ref b0), (1, .ref b1), (2, .ref b2), (3, .int x3), (4, .int x4)] [] h := by
        intro fu
        induction fu with
        | zero => intro b0 b1 b2 x3 x4 h hs; exact absurd hs (by rw [s_X3_make_L78]; exact fun q => by cases q)
        | succ n78 ih =>
          intro b0 b1 b2 x3 x4 h hs
          rw [s_X3_make_L78] at hs
          have t_78 := ih
          have t_116 : ∀ (b0 : Nat) (b1 : Nat) (b2 : Nat) (x3 : Int32) (x4 : Int32) (h : tt_H), s_X3_make_J116 (s_X3_make_L78 n78) b0 b1 b2 x3 x4 h = some ρ → tt_T tt_cl (p, l, e, rm_X3_make, s, m, args, below, meth, c, MQ below (tt_Q tt_cl D ca ad n0 sz false (tt_ret (some (.int ρ.1)) ρ.2)) args s 0 0 (tt_A ad n0 sz), D, ca, tt_A ad n0 sz, 5, some n0) ad 0 0 116 [(0, .ref b0), (1, .ref b1), (2, .ref b2), (3, .int x3), (4, .int x4)] [] h := by
            intro b0 b1 b2 x3 x4 h hs
            unfold s_X3_make_J116 at hs
            refine tt_iinc (v := x4 + (-1)) X dX3_make_116 rfl rfl (Nat.le_of_ble_eq_true rfl) ?_
            refine tt_goto (tgt := 78) X dX3_make_119 (by decide) ?_
            refine tt_drop [0, 1, 2, 3, 4] ?_
            exact t_78 b0 b1 b2 x3 (x4 + (-1)) h hs
          refine tt_iload X dX3_make_78 rfl ?_
          refine tt_if_lt (tgt := 122) X dX3_make_80 (by decide) (fun c80 => ?_) (fun c80 => ?_)
          · rw [if_pos c80] at hs
            refine tt_iconst (v := 1) X dX3_make_122 (by decide) ?_
            obtain rfl := Option.some.inj hs
            exact tt_zret X rfl rfl dX3_make_123 ⟨rfl, rfl⟩
          · rw [if_neg c80] at hs
            refine tt_aload_n X dX3_make_83 rfl ?_
            refine tt_iload_n X dX3_make_84 rfl ?_
            obtain ⟨o85, f85, hs⟩ := gg_bind hs
            obtain ⟨w85, e85, hs⟩ := gg_bind hs
            refine zr_callV X f85 rfl (c_X2_has l e85) (fun hts => cwV 1 hts gX3_make_X2_has rfl rfl rfl (by decide +kernel) ⟨by decide, by decide⟩) rfl rfl (Nat.le_of_ble_eq_true rfl) dX3_make_85 ⟨Nat.zero_le _, Nat.zero_le _⟩ ?_
            refine tt_if_eq (tgt := 116) X dX3_make_88 (by decide) (fun c88 => ?_) (fun c88 => ?_)
            · rw [if_pos c88] at hs
              refine tt_drop [0, 1, 2, 3, 4] ?_
              exact t_116 b0 b1 b2 x3 x4 w85.2 hs
            · rw [if_neg c88] at hs
              refine tt_aload_n X dX3_make_91 rfl ?_
              refine tt_iload_n X dX3_make_92 rfl ?_
              obtain ⟨o93, f93, hs⟩ := gg_bind hs
              obtain ⟨w93, e93, hs⟩ := gg_bind hs
              refine zr_callV X f93 rfl (c_X2_at l e93) (fun hts => cwV 1 hts gX3_make_X2_at rfl rfl rfl (by decide +kernel) ⟨by decide, by decide⟩) rfl rfl (Nat.le_of_ble_eq_true rfl) dX3_make_93 ⟨Nat.zero_le _, Nat.zero_le _⟩ ?_
              refine tt_aload_n X dX3_make_96 rfl ?_
              refine tt_iload X dX3_make_97 rfl ?_
              obtain ⟨o99, f99, hs⟩ := gg_bind hs
              obtain ⟨w99, e99, hs⟩ := gg_bind hs
              refine zr_callV X f99 rfl (c_X2_at l e99) (fun hts => cwV 1 hts gX3_make_X2_at rfl rfl rfl (by decide +kernel) ⟨by decide, by decide⟩) rfl rfl (Nat.le_of_ble_eq_true rfl) dX3_make_99 ⟨Nat.zero_le _, Nat.zero_le _⟩ ?_
              refine tt_icmp_ne (tgt := 116) X dX3_make_102 (by decide) (fun c102 => ?_) (fun c102 => ?_)
              · rw [if_neg c102] at hs
                refine tt_drop [0, 1, 2, 3, 4] ?_
                exact t_116 b0 b1 b2 x3 x4 w99.2 hs
              · rw [if_pos c102] at hs
                refine tt_aload_n X dX3_make_105 rfl ?_
                obtain ⟨o106, e106, hs⟩ := gg_bind hs
                refine zr_fr X e106 rfl in_X3_make_X3 (by decide) (by decide +kernel) rfl dX3_make_106 ?_
                refine tt_iload_n X dX3_make_109 rfl ?_
                refine tt_iload X dX3_make_110 rfl ?_
                obtain ⟨h112, e112, hs⟩ := gg_bind hs
                refine zr_is X e112 dX3_make_112 ?_
                refine tt_iinc (v := x3 + (-1)) X dX3_make_113 rfl rfl (Nat.le_of_ble_eq_true rfl) ?_
                refine tt_drop [0, 1, 2, 3, 4] ?_
                exact t_116 b0 b1 b2 (x3 + (-1)) x4 h112 hs
      have t_47 : ∀ (b0 : Nat) (b1 : Nat) (b2 : Nat) (x3 : Int32) (x4 : Int32) (h : tt_H), s_X3_make_J47 (s_X3_make_L5 n5) b0 b1 b2 x3 x4 h = some ρ → tt_T tt_cl (p, l, e, rm_X3_make, s, m, args, below, meth, c, MQ below (tt_Q tt_cl D ca ad n0 sz false (tt_ret (some (.int ρ.1)) ρ.2)) args s 0 0 (tt_A ad n0 sz), D, ca, tt_A ad n0 sz, 5, some n0) ad 0 0 47 [(0, .ref b0), (1, .ref b1), (2, .ref b2), (3, .int x3), (4, .int x4)] [] h := by
        intro b0 b1 b2 x3 x4 h hs
        unfold s_X3_make_J47 at hs
        refine tt_iinc (v := x4 + 1) X dX3_make_47 rfl rfl (Nat.le_of_ble_eq_true rfl) ?_
        refine tt_goto (tgt := 5) X dX3_make_50 (by decide) ?_
        refine tt_drop [0, 1, 2, 3, 4] ?_
        exact t_5 b0 b1 b2 x3 (x4 + 1) h hs
      refine tt_iload X dX3_make_5 rfl ?_
      refine tt_aload_n X dX3_make_7 rfl ?_
      obtain ⟨o8, f8, hs⟩ := gg_bind hs
      obtain ⟨w8, e8, hs⟩ := gg_bind hs
      refine zr_callV X f8 rfl (c_X2_size l e8) (fun hts => cwV 0 hts gX3_make_X2_size rfl rfl rfl (by decide +kernel) ⟨by decide, by decide⟩) rfl rfl (Nat.le_of_ble_eq_true rfl) dX3_make_8 ⟨Nat.zero_le _, Nat.zero_le _⟩ ?_
      refine tt_icmp_ge (tgt := 53) X dX3_make_11 (by decide) (fun c11 => ?_) (fun c11 => ?_)
      · rw [if_pos c11] at hs
        refine tt_iload_n X dX3_make_53 rfl ?_
        refine tt_aload_n X dX3_make_54 rfl ?_
        obtain ⟨o55, f55, hs⟩ := gg_bind hs
        obtain ⟨w55, e55, hs⟩ := gg_bind hs
        refine zr_callV X f55 rfl (c_X2_size l e55) (fun hts => cwV 0 hts gX3_make_X2_size rfl rfl rfl (by decide +kernel) ⟨by decide, by decide⟩) rfl rfl (Nat.le_of_ble_eq_true rfl) dX3_make_55 ⟨Nat.zero_le _, Nat.zero_le _⟩ ?_
        refine tt_icmp_ge (tgt := 63) X dX3_make_58 (by decide) (fun c58 => ?_) (fun c58 => ?_)
        · rw [if_pos c58] at hs
          refine tt_aload_n X dX3_make_63 rfl ?_
          obtain ⟨o64, f64, hs⟩ := gg_bind hs
          obtain ⟨w64, e64, hs⟩ := gg_bind hs
          refine zr_callV X f64 rfl (c_X2_size l e64) (fun hts => cwV 0 hts gX3_make_X2_size rfl rfl rfl (by decide +kernel) ⟨by decide, by decide⟩) rfl rfl (Nat.le_of_ble_eq_true rfl) dX3_make_64 ⟨Nat.zero_le _, Nat.zero_le _⟩ ?_
          refine tt_iconst (v := 1) X dX3_make_67 (by decide) ?_
          refine tt_isub X dX3_make_68 ?_
          refine tt_istore_n X dX3_make_69 (Nat.le_of_ble_eq_true rfl) ?_
          refine tt_aload_n X dX3_make_70 rfl ?_
          obtain ⟨o71, f71, hs⟩ := gg_bind hs
          obtain ⟨w71, e71, hs⟩ := gg_bind hs
          refine zr_callV X f71 rfl (c_X2_size l e71) (fun hts => cwV 0 hts gX3_make_X2_size rfl rfl rfl (by decide +kernel) ⟨by decide, by decide⟩) rfl rfl (Nat.le_of_ble_eq_true rfl) dX3_make_71 ⟨Nat.zero_le _, Nat.zero_le _⟩ ?_
          refine tt_iconst (v := 1) X dX3_make_74 (by decide) ?_
          refine tt_isub X dX3_make_75 ?_
          refine tt_istore X dX3_make_76 (Nat.le_of_ble_eq_true rfl) ?_
          refine tt_drop [0, 1, 2, 3, 4] ?_
          exact t_78 1000 b0 b1 b2 (w64.1 - 1) (w71.1 - 1) w71.2 hs
        · rw [if_neg c58] at hs
          refine tt_iconst (v := 0) X dX3_make_61 (by decide) ?_
          obtain rfl := Option.some.inj hs
          exact tt_zret X rfl rfl dX3_make_62 ⟨rfl, rfl⟩
      · rw [if_neg c11] at hs
        refine tt_aload_n X dX3_make_14 rfl ?_
        refine tt_iload_n X dX3_make_15 rfl ?_
        obtain ⟨o16, f16, hs⟩ := gg_bind hs
        obtain ⟨w16, e16, hs⟩ := gg_bind hs
        refine zr_callV X f16 rfl (c_X2_has l e16) (fun hts => cwV 1 hts gX3_make_X2_has rfl rfl rfl (by decide +kernel) ⟨by decide, by decide⟩) rfl rfl (Nat.le_of_ble_eq_true rfl) dX3_make_16 ⟨Nat.zero_le _, Nat.zero_le _⟩ ?_
        refine tt_if_eq (tgt := 47) X dX3_make_19 (by decide) (fun c19 => ?_) (fun c19 => ?_)
        · rw [if_pos c19] at hs
          refine tt_drop [0, 1, 2, 3, 4] ?_
          exact t_47 b0 b1 b2 x3 x4 w16.2 hs
        · rw [if_neg c19] at hs
          refine tt_aload_n X dX3_make_22 rfl ?_
          refine tt_iload_n X dX3_make_23 rfl ?_
          obtain ⟨o24, f24, hs⟩ := gg_bind hs
          obtain ⟨w24, e24, hs⟩ := gg_bind hs
          refine zr_callV X f24 rfl (c_X2_at l e24) (fun hts => cwV 1 hts gX3_make_X2_at rfl rfl rfl (by decide +kernel) ⟨by decide, by decide⟩) rfl rfl (Nat.le_of_ble_eq_true rfl) dX3_make_24 ⟨Nat.zero_le _, Nat.zero_le _⟩ ?_
          refine tt_aload_n X dX3_make_27 rfl ?_
          refine tt_iload X dX3_make_28 rfl ?_
          obtain ⟨o30, f30, hs⟩ := gg_bind hs
          obtain ⟨w30, e30, hs⟩ := gg_bind hs
          refine zr_callV X f30 rfl (c_X2_at l e30) (fun hts => cwV 1 hts gX3_make_X2_at rfl rfl rfl (by decide +kernel) ⟨by decide, by decide⟩) rfl rfl (Nat.le_of_ble_eq_true rfl) dX3_make_30 ⟨Nat.zero_le _, Nat.zero_le _⟩ ?_
          refine tt_icmp_ne (tgt := 47) X dX3_make_33 (by decide) (fun c33 => ?_) (fun c33 => ?_)
          · rw [if_neg c33] at hs
            refine tt_drop [0, 1, 2, 3, 4] ?_
            exact t_47 b0 b1 b2 x3 x4 w30.2 hs
          · rw [if_pos c33] at hs
            refine tt_aload_n X dX3_make_36 rfl ?_
            obtain ⟨o37, e37, hs⟩ := gg_bind hs
            refine zr_fr X e37 rfl in_X3_make_X3 (by decide) (by decide +kernel) rfl dX3_make_37 ?_
            refine tt_iload_n X dX3_make_40 rfl ?_
            refine tt_iload X dX3_make_41 rfl ?_
            obtain ⟨h43, e43, hs⟩ := gg_bind hs
            refine zr_is X e43 dX3_make_43 ?_
            refine tt_iinc (v := x3 + 1) X dX3_make_44 rfl rfl (Nat.le_of_ble_eq_true rfl) ?_
            refine tt_drop [0, 1, 2, 3, 4] ?_
            exact t_47 b0 b1 b2 (x3 + 1) x4 h43 hs
  refine tt_iconst (v := 0) X dX3_make_0 (by decide) ?_
  refine tt_istore_n X dX3_make_1 (Nat.le_of_ble_eq_true rfl) ?_
  refine tt_iconst (v := 0) X dX3_make_2 (by decide) ?_
  refine tt_istore X dX3_make_3 (Nat.le_of_ble_eq_true rfl) ?_
  refine tt_drop [0, 1, 2, 3, 4] ?_
  exact t_5 1000 b0 b1 b2 0 0 h hs

theorem in_X3_choices_X3 : ∀ w ∈ u_ws RX3 TX3 3, w ∈ wsX3_choices := by decide +kernel
def s_X3_choices_J81 (κ40 : Nat → Nat → Nat → Int32 → Int32 → Int32 → tt_H → Option (Int64 × tt_H)) (b0 : Nat) (b1 : Nat) (b2 : Nat) (x3 : Int32) (x4 : Int32) (x5 : Int32) (h : tt_H) : Option (Int64 × tt_H) :=
  κ40 b0 b1 b2 x3 x4 (x5 + (-1)) h
def s_X3_choices_L40 (κ28 : Nat → Nat → Nat → Int32 → Int32 → tt_H → Option (Int64 × tt_H)) : Nat → Nat → Nat → Nat → Int32 → Int32 → Int32 → tt_H → Option (Int64 × tt_H)
  | 0, _, _, _, _, _, _, _ => none
  | n + 1, b0, b1, b2, x3, x4, x5, h =>
    if x5 ≤ 0 then
      κ28 b0 b1 b2 x3 (x4 + 1) h
    else
    (gg_obj h b1 2).bind fun _ =>
    (s_X2_at b1 (x5 - 1) h).bind fun w50 =>
    (gg_obj w50.2 b2 2).bind fun _ =>
    (s_X2_at b2 x4 w50.2).bind fun w56 =>
    if w50.1 = w56.1 then
      (gg_fr w56.2 b0 3 2).bind fun o63 =>
      (gg_jl w56.2 o63 x5).bind fun z69 =>
      (gg_fr w56.2 b0 3 2).bind fun o71 =>
      (gg_jl w56.2 o71 (x5 - 1)).bind fun z78 =>
      (gg_js w56.2 o63 x5 (z69 + z78)).bind fun h80 =>
      s_X3_choices_J81 (s_X3_choices_L40 κ28 n) b0 b1 b2 x3 x4 x5 h80
    else
    s_X3_choices_J81 (s_X3_choices_L40 κ28 n) b0 b1 b2 x3 x4 x5 w56.2
def s_X3_choices_L28 : Nat → Nat → Nat → Nat → Int32 → Int32 → tt_H → Option (Int64 × tt_H)
  | 0, _, _, _, _, _, _ => none
  | n + 1, b0, b1, b2, x3, x4, h =>
    (gg_obj h b2 2).bind fun _ =>
    (s_X2_size b2 h).bind fun w31 =>
    if w31.1 ≤ x4 then
      (gg_fr w31.2 b0 3 2).bind fun o94 =>
      (gg_jl w31.2 o94 x3).bind fun z98 =>
      some (z98, w31.2)
    else
    s_X3_choices_L40 (s_X3_choices_L28 n) 1000 b0 b1 b2 x3 x4 x3 w31.2
def s_X3_choices (b0 : Nat) (b1 : Nat) (b2 : Nat) (h : tt_H) : Option (Int64 × tt_H) :=
  (gg_obj h b1 2).bind fun _ =>
  (s_X2_size b1 h).bind fun w1 =>
  (gg_fr w1.2 b0 3 2).bind fun o11 =>
  (s_J7_fill_d0a16 o11 0 w1.2).bind fun w15 =>
  (gg_fr w15.2 b0 3 2).bind fun o19 =>
  (gg_js w15.2 o19 0 1).bind fun h24 =>
  s_X3_choices_L28 1000 b0 b1 b2 (if 12 < w1.1 then 12 else w1.1) 0 h24
abbrev rm_X3_choices : Room := { frames := 2, cells := 0, slots := 0, locals := 42 }
set_option maxHeartbeats 4000000 in
set_option maxRecDepth 100000 in
theorem c_X3_choices (l : Launch) {b0 : Nat} {b1 : Nat} {b2 : Nat} {h : tt_H} {ρ : Int64 × tt_H} (hs : s_X3_choices b0 b1 b2 h = some ρ) : tt_M tt_cl l yX3_choices wsX3_choices rm_X3_choices 0 0 false [.ref b0, .ref b1, .ref b2] h (tt_ret (some (.long ρ.1)) ρ.2) := by
  refine tt_M.of0 (cc := cX3_choices) (maxL := 6) (ret := (some .long)) (by decide +kernel) rfl (Nat.le_of_ble_eq_true rfl) ?_
  intro p e s m args below meth c D ca ad n0 sz hwf hsz X hini
  unfold s_X3_choices at hs
  have t_28 : ∀ (fu : Nat) (b0 : Nat) (b1 : Nat) (b2 : Nat) (x3 : Int32) (x4 : Int32) (h : tt_H), s_X3_choices_L28 fu b0 b1 b2 x3 x4 h = some ρ → tt_T tt_cl (p, l, e, rm_X3_choices, s, m, args, below, meth, c, MQ below (tt_Q tt_cl D ca ad n0 sz false (tt_ret (some (.long ρ.1)) ρ.2)) args s 0 0 (tt_A ad n0 sz), D, ca, tt_A ad n0 sz, 6, some n0) ad 0 0 28 [(0, .ref b0), (1, .ref b1), (2, .ref b2), (3, .int x3), (4, .int x4)] [] h := by
    intro fu
    induction fu with
    | zero => intro b0 b1 b2 x3 x4 h hs; exact absurd hs (by rw [s_X3_choices_L28]; exact fun q => by cases q)
    | succ n28 ih =>
      intro b0 b1 b2 x3 x4 h hs
      rw [s_X3_choices_L28] at hs
      have t_28 := ih
      have t_40 : ∀ (fu : Nat) (b0 : Nat) (b1 : Nat) (b2 : Nat) (x3 : Int32) (x4 : Int32) (x5 : Int32) (h : tt_H), s_X3_choices_L40 (s_X3_choices_L28 n28) fu b0 b1 b2 x3 x4 x5 h = some ρ → tt_T tt_cl (p, l, e, rm_X3_choices, s, m, args, below, meth, c, MQ below (tt_Q tt_cl D ca ad n0 sz false (tt_ret (some (.long ρ.1)) ρ.2)) args s 0 0 (tt_A ad n0 sz), D, ca, tt_A ad n0 sz, 6, some n0) ad 0 0 40 [(0, .ref b0), (1, .ref b1), (2, .ref b2), (3, .int x3), (4, .int x4), (5, .int x5)] [] h := by
        intro fu
        induction fu with
        | zero => intro b0 b1 b2 x3 x4 x5 h hs; exact absurd hs (by rw [s_X3_choices_L40]; exact fun q => by cases q)
        | succ n40 ih =>
          intro b0 b1 b2 x3 x4 x5 h hs
          rw [s_X3_choices_L40] at hs
          have t_40 := ih
          have t_81 : ∀ (b0 : Nat) (b1 : Nat) (b2 : Nat) (x3 : Int32) (x4 : Int32) (x5 : Int32) (h : tt_H), s_X3_choices_J81 (s_X3_choices_L40 (s_X3_choices_L28 n28) n40) b0 b1 b2 x3 x4 x5 h = some ρ → tt_T tt_cl (p, l, e, rm_X3_choices, s, m, args, below, meth, c, MQ below (tt_Q tt_cl D ca ad n0 sz false (tt_ret (some (.long ρ.1)) ρ.2)) args s 0 0 (tt_A ad n0 sz), D, ca, tt_A ad n0 sz, 6, some n0) ad 0 0 81 [(0, .ref b0), (1, .ref b1), (2, .ref b2), (3, .int x3), (4, .int x4), (5, .int x5)] [] h := by
            intro b0 b1 b2 x3 x4 x5 h hs
            unfold s_X3_choices_J81 at hs
            refine tt_iinc (v := x5 + (-1)) X dX3_choices_81 rfl rfl (Nat.le_of_ble_eq_true rfl) ?_
            refine tt_goto (tgt := 40) X dX3_choices_84 (by decide) ?_
            refine tt_drop [0, 1, 2, 3, 4, 5] ?_
            exact t_40 b0 b1 b2 x3 x4 (x5 + (-1)) h hs
          refine tt_iload X dX3_choices_40 rfl ?_
          refine tt_if_le (tgt := 87) X dX3_choices_42 (by decide) (fun c42 => ?_) (fun c42 => ?_)
          · rw [if_pos c42] at hs
            refine tt_iinc (v := x4 + 1) X dX3_choices_87 rfl rfl (Nat.le_of_ble_eq_true rfl) ?_
            refine tt_goto (tgt := 28) X dX3_choices_90 (by decide) ?_
            refine tt_drop [0, 1, 2, 3, 4] ?_
            exact t_28 b0 b1 b2 x3 (x4 + 1) h hs
          · rw [if_neg c42] at hs
            refine tt_aload_n X dX3_choices_45 rfl ?_
            refine tt_iload X dX3_choices_46 rfl ?_
            refine tt_iconst (v := 1) X dX3_choices_48 (by decide) ?_
            refine tt_isub X dX3_choices_49 ?_
            obtain ⟨o50, f50, hs⟩ := gg_bind hs
            obtain ⟨w50, e50, hs⟩ := gg_bind hs
            refine zr_callV X f50 rfl (c_X2_at l e50) (fun hts => cwV 1 hts gX3_choices_X2_at rfl rfl rfl (by decide +kernel) ⟨by decide, by decide⟩) rfl rfl (Nat.le_of_ble_eq_true rfl) dX3_choices_50 ⟨Nat.zero_le _, Nat.zero_le _⟩ ?_
            refine tt_aload_n X dX3_choices_53 rfl ?_
            refine tt_iload X dX3_choices_54 rfl ?_
            obtain ⟨o56, f56, hs⟩ := gg_bind hs
            obtain ⟨w56, e56, hs⟩ := gg_bind hs
            refine zr_callV X f56 rfl (c_X2_at l e56) (fun hts => cwV 1 hts gX3_choices_X2_at rfl rfl rfl (by decide +kernel) ⟨by decide, by decide⟩) rfl rfl (Nat.le_of_ble_eq_true rfl) dX3_choices_56 ⟨Nat.zero_le _, Nat.zero_le _⟩ ?_
            refine tt_icmp_ne (tgt := 81) X dX3_choices_59 (by decide) (fun c59 => ?_) (fun c59 => ?_)
            · rw [if_neg c59] at hs
              refine tt_drop [0, 1, 2, 3, 4, 5] ?_
              exact t_81 b0 b1 b2 x3 x4 x5 w56.2 hs
            · rw [if_pos c59] at hs
              refine tt_aload_n X dX3_choices_62 rfl ?_
              obtain ⟨o63, e63, hs⟩ := gg_bind hs
              refine zr_fr X e63 rfl in_X3_choices_X3 (by decide) (by decide +kernel) rfl dX3_choices_63 ?_
              refine tt_iload X dX3_choices_66 rfl ?_
              refine tt_dup2 X dX3_choices_68 rfl rfl ?_
              obtain ⟨z69, e69, hs⟩ := gg_bind hs
              refine zr_jl X e69 dX3_choices_69 ?_
              refine tt_aload_n X dX3_choices_70 rfl ?_
              obtain ⟨o71, e71, hs⟩ := gg_bind hs
              refine zr_fr X e71 rfl in_X3_choices_X3 (by decide) (by decide +kernel) rfl dX3_choices_71 ?_
              refine tt_iload X dX3_choices_74 rfl ?_
              refine tt_iconst (v := 1) X dX3_choices_76 (by decide) ?_
              refine tt_isub X dX3_choices_77 ?_
              obtain ⟨z78, e78, hs⟩ := gg_bind hs
              refine zr_jl X e78 dX3_choices_78 ?_
              refine tt_ladd X dX3_choices_79 ?_
              obtain ⟨h80, e80, hs⟩ := gg_bind hs
              refine zr_js X e80 dX3_choices_80 ?_
              refine tt_drop [0, 1, 2, 3, 4, 5] ?_
              exact t_81 b0 b1 b2 x3 x4 x5 h80 hs
      refine tt_iload X dX3_choices_28 rfl ?_
      refine tt_aload_n X dX3_choices_30 rfl ?_
      obtain ⟨o31, f31, hs⟩ := gg_bind hs
      obtain ⟨w31, e31, hs⟩ := gg_bind hs
      refine zr_callV X f31 rfl (c_X2_size l e31) (fun hts => cwV 0 hts gX3_choices_X2_size rfl rfl rfl (by decide +kernel) ⟨by decide, by decide⟩) rfl rfl (Nat.le_of_ble_eq_true rfl) dX3_choices_31 ⟨Nat.zero_le _, Nat.zero_le _⟩ ?_
      refine tt_icmp_ge (tgt := 93) X dX3_choices_34 (by decide) (fun c34 => ?_) (fun c34 => ?_)
      · rw [if_pos c34] at hs
        refine tt_aload_n X dX3_choices_93 rfl ?_
        obtain ⟨o94, e94, hs⟩ := gg_bind hs
        refine zr_fr X e94 rfl in_X3_choices_X3 (by decide) (by decide +kernel) rfl dX3_choices_94 ?_
        refine tt_iload_n X dX3_choices_97 rfl ?_
        obtain ⟨z98, e98, hs⟩ := gg_bind hs
        refine zr_jl X e98 dX3_choices_98 ?_
        obtain rfl := Option.some.inj hs
        exact tt_lret X rfl dX3_choices_99 ⟨rfl, rfl⟩
      · rw [if_neg c34] at hs
        refine tt_iload_n X dX3_choices_37 rfl ?_
        refine tt_istore X dX3_choices_38 (Nat.le_of_ble_eq_true rfl) ?_
        refine tt_drop [0, 1, 2, 3, 4, 5] ?_
        exact t_40 1000 b0 b1 b2 x3 x4 x3 w31.2 hs
  refine tt_aload_n X dX3_choices_0 rfl ?_
  obtain ⟨o1, f1, hs⟩ := gg_bind hs
  obtain ⟨w1, e1, hs⟩ := gg_bind hs
  refine zr_callV X f1 rfl (c_X2_size l e1) (fun hts => cwV 0 hts gX3_choices_X2_size rfl rfl rfl (by decide +kernel) ⟨by decide, by decide⟩) rfl rfl (Nat.le_of_ble_eq_true rfl) dX3_choices_1 ⟨Nat.zero_le _, Nat.zero_le _⟩ ?_
  refine tt_bipush (v := 12) X dX3_choices_4 (by decide) ?_
  refine zr_mmin X (by decide +kernel) (by decide +kernel) (by decide +kernel) (by decide +kernel) (by decide) (Nat.le_of_ble_eq_true rfl) (Nat.zero_le _) (Nat.zero_le _) dX3_choices_6 ?_
  refine tt_istore_n X dX3_choices_9 (Nat.le_of_ble_eq_true rfl) ?_
  refine tt_aload_n X dX3_choices_10 rfl ?_
  obtain ⟨o11, e11, hs⟩ := gg_bind hs
  refine zr_fr X e11 rfl in_X3_choices_X3 (by decide) (by decide +kernel) rfl dX3_choices_11 ?_
  refine tt_lconst (v := 0) X dX3_choices_14 (by decide) ?_
  obtain ⟨w15, e15, hs⟩ := gg_bind hs
  refine zr_callS X (c_J7_fill_d0a16 l e15) (fun hts => va_cwS 2 hts gX3_choices_J7_fill_d0a16 rfl rfl rfl (by decide +kernel) ⟨by decide, by decide⟩) rfl rfl (Nat.le_of_ble_eq_true rfl) dX3_choices_15 ⟨Nat.zero_le _, Nat.zero_le _⟩ ?_
  refine tt_aload_n X dX3_choices_18 rfl ?_
  obtain ⟨o19, e19, hs⟩ := gg_bind hs
  refine zr_fr X e19 rfl in_X3_choices_X3 (by decide) (by decide +kernel) rfl dX3_choices_19 ?_
  refine tt_iconst (v := 0) X dX3_choices_22 (by decide) ?_
  refine tt_lconst (v := 1) X dX3_choices_23 (by decide) ?_
  obtain ⟨h24, e24, hs⟩ := gg_bind hs
  refine zr_js X e24 dX3_choices_24 ?_
  refine tt_iconst (v := 0) X dX3_choices_25 (by decide) ?_
  refine tt_istore X dX3_choices_26 (Nat.le_of_ble_eq_true rfl) ?_
  refine tt_drop [0, 1, 2, 3, 4] ?_
  exact t_28 1000 b0 b1 b2 (if 12 < w1.1 then 12 else w1.1) 0 h24 hs

theorem in_X3_first_X3 : ∀ w ∈ u_ws RX3 TX3 3, w ∈ wsX3_first := by decide +kernel
def s_X3_first (b0 : Nat) (x1 : Int32) (h : tt_H) : Option (Int32 × tt_H) :=
  if x1 < 0 then
    some ((-9), h)
  else
  if 12 ≤ x1 then
    some ((-9), h)
  else
  (gg_fr h b0 3 0).bind fun o11 =>
  (gg_il h o11 x1).bind fun z15 =>
  some (z15, h)
abbrev rm_X3_first : Room := { frames := 0, cells := 0, slots := 0, locals := 0 }
set_option maxHeartbeats 4000000 in
set_option maxRecDepth 100000 in
theorem c_X3_first (l : Launch) {b0 : Nat} {x1 : Int32} {h : tt_H} {ρ : Int32 × tt_H} (hs : s_X3_first b0 x1 h = some ρ) : tt_M tt_cl l yX3_first wsX3_first rm_X3_first 0 0 false [.ref b0, .int x1] h (tt_ret (some (.int ρ.1)) ρ.2) := by
  refine tt_M.of0 (cc := cX3_first) (maxL := 2) (ret := (some .int)) (by decide +kernel) rfl (Nat.le_of_ble_eq_true rfl) ?_
  intro p e s m args below meth c D ca ad n0 sz hwf hsz X hini
  unfold s_X3_first at hs
  refine tt_iload_n X dX3_first_0 rfl ?_
  refine tt_if_lt (tgt := 19) X dX3_first_1 (by decide) (fun c1 => ?_) (fun c1 => ?_)
  · rw [if_pos c1] at hs
    refine tt_bipush (v := (-9)) X dX3_first_19 (by decide) ?_
    obtain rfl := Option.some.inj hs
    exact tt_iret X rfl dX3_first_21 ⟨rfl, rfl⟩
  · rw [if_neg c1] at hs
    refine tt_iload_n X dX3_first_4 rfl ?_
    refine tt_bipush (v := 12) X dX3_first_5 (by decide) ?_
    refine tt_icmp_ge (tgt := 19) X dX3_first_7 (by decide) (fun c7 => ?_) (fun c7 => ?_)
    · rw [if_pos c7] at hs
      refine tt_bipush (v := (-9)) X dX3_first_19 (by decide) ?_
      obtain rfl := Option.some.inj hs
      exact tt_iret X rfl dX3_first_21 ⟨rfl, rfl⟩
    · rw [if_neg c7] at hs
      refine tt_aload_n X dX3_first_10 rfl ?_
      obtain ⟨o11, e11, hs⟩ := gg_bind hs
      refine zr_fr X e11 rfl in_X3_first_X3 (by decide) (by decide +kernel) rfl dX3_first_11 ?_
      refine tt_iload_n X dX3_first_14 rfl ?_
      obtain ⟨z15, e15, hs⟩ := gg_bind hs
      refine zr_il X e15 dX3_first_15 ?_
      refine tt_goto (tgt := 21) X dX3_first_16 (by decide) ?_
      obtain rfl := Option.some.inj hs
      exact tt_iret X rfl dX3_first_21 ⟨rfl, rfl⟩

theorem in_X3_last_X3 : ∀ w ∈ u_ws RX3 TX3 3, w ∈ wsX3_last := by decide +kernel
def s_X3_last (b0 : Nat) (x1 : Int32) (h : tt_H) : Option (Int32 × tt_H) :=
  if x1 < 0 then
    some ((-9), h)
  else
  if 12 ≤ x1 then
    some ((-9), h)
  else
  (gg_fr h b0 3 1).bind fun o11 =>
  (gg_il h o11 x1).bind fun z15 =>
  some (z15, h)
abbrev rm_X3_last : Room := { frames := 0, cells := 0, slots := 0, locals := 0 }
set_option maxHeartbeats 4000000 in
set_option maxRecDepth 100000 in
theorem c_X3_last (l : Launch) {b0 : Nat} {x1 : Int32} {h : tt_H} {ρ : Int32 × tt_H} (hs : s_X3_last b0 x1 h = some ρ) : tt_M tt_cl l yX3_last wsX3_last rm_X3_last 0 0 false [.ref b0, .int x1] h (tt_ret (some (.int ρ.1)) ρ.2) := by
  refine tt_M.of0 (cc := cX3_last) (maxL := 2) (ret := (some .int)) (by decide +kernel) rfl (Nat.le_of_ble_eq_true rfl) ?_
  intro p e s m args below meth c D ca ad n0 sz hwf hsz X hini
  unfold s_X3_last at hs
  refine tt_iload_n X dX3_last_0 rfl ?_
  refine tt_if_lt (tgt := 19) X dX3_last_1 (by decide) (fun c1 => ?_) (fun c1 => ?_)
  · rw [if_pos c1] at hs
    refine tt_bipush (v := (-9)) X dX3_last_19 (by decide) ?_
    obtain rfl := Option.some.inj hs
    exact tt_iret X rfl dX3_last_21 ⟨rfl, rfl⟩
  · rw [if_neg c1] at hs
    refine tt_iload_n X dX3_last_4 rfl ?_
    refine tt_bipush (v := 12) X dX3_last_5 (by decide) ?_
    refine tt_icmp_ge (tgt := 19) X dX3_last_7 (by decide) (fun c7 => ?_) (fun c7 => ?_)
    · rw [if_pos c7] at hs
      refine tt_bipush (v := (-9)) X dX3_last_19 (by decide) ?_
      obtain rfl := Option.some.inj hs
      exact tt_iret X rfl dX3_last_21 ⟨rfl, rfl⟩
    · rw [if_neg c7] at hs
      refine tt_aload_n X dX3_last_10 rfl ?_
      obtain ⟨o11, e11, hs⟩ := gg_bind hs
      refine zr_fr X e11 rfl in_X3_last_X3 (by decide) (by decide +kernel) rfl dX3_last_11 ?_
      refine tt_iload_n X dX3_last_14 rfl ?_
      obtain ⟨z15, e15, hs⟩ := gg_bind hs
      refine zr_il X e15 dX3_last_15 ?_
      refine tt_goto (tgt := 21) X dX3_last_16 (by decide) ?_
      obtain rfl := Option.some.inj hs
      exact tt_iret X rfl dX3_last_21 ⟨rfl, rfl⟩

def s_X3_canStand_J59 (κ14 : Nat → Nat → Nat → Int32 → Int32 → tt_H → Option (Int32 × tt_H)) (b0 : Nat) (b1 : Nat) (b2 : Nat) (x3 : Int32) (x4 : Int32) (h : tt_H) : Option (Int32 × tt_H) :=
  κ14 b0 b1 b2 x3 (x4 + 1) h
def s_X3_canStand_L14 : Nat → Nat → Nat → Nat → Int32 → Int32 → tt_H → Option (Int32 × tt_H)
  | 0, _, _, _, _, _, _ => none
  | n + 1, b0, b1, b2, x3, x4, h =>
    (gg_obj h b1 2).bind fun _ =>
    (s_X2_size b1 h).bind fun w17 =>
    if w17.1 ≤ x4 then
      some (0, w17.2)
    else
    (gg_obj w17.2 b1 2).bind fun _ =>
    (s_X2_at b1 x4 w17.2).bind fun w26 =>
    (gg_obj w26.2 b2 2).bind fun _ =>
    (s_X2_at b2 x3 w26.2).bind fun w31 =>
    if w26.1 = w31.1 then
      (gg_obj w31.2 b0 3).bind fun _ =>
      (s_X3_first b0 x4 w31.2).bind fun w40 =>
      if x3 < w40.1 then
        s_X3_canStand_J59 (s_X3_canStand_L14 n) b0 b1 b2 x3 x4 w40.2
      else
      (gg_obj w40.2 b0 3).bind fun _ =>
      (s_X3_last b0 x4 w40.2).bind fun w51 =>
      if w51.1 < x3 then
        s_X3_canStand_J59 (s_X3_canStand_L14 n) b0 b1 b2 x3 x4 w51.2
      else
      some (1, w51.2)
    else
    s_X3_canStand_J59 (s_X3_canStand_L14 n) b0 b1 b2 x3 x4 w31.2
def s_X3_canStand (b0 : Nat) (b1 : Nat) (b2 : Nat) (x3 : Int32) (h : tt_H) : Option (Int32 × tt_H) :=
  (gg_obj h b0 3).bind fun _ =>
  (s_X3_make b0 b1 b2 h).bind fun w3 =>
  if w3.1 = 0 then
    some (0, w3.2)
  else
  s_X3_canStand_L14 1000 b0 b1 b2 x3 0 w3.2
abbrev rm_X3_canStand : Room := { frames := 3, cells := 0, slots := 0, locals := 66 }
set_option maxHeartbeats 4000000 in
set_option maxRecDepth 100000 in
theorem c_X3_canStand (l : Launch) {b0 : Nat} {b1 : Nat} {b2 : Nat} {x3 : Int32} {h : tt_H} {ρ : Int32 × tt_H} (hs : s_X3_canStand b0 b1 b2 x3 h = some ρ) : tt_M tt_cl l yX3_canStand wsX3_canStand rm_X3_canStand 0 0 false [.ref b0, .ref b1, .ref b2, .int x3] h (tt_ret (some (.int ρ.1)) ρ.2) := by
  refine tt_M.of0 (cc := cX3_canStand) (maxL := 5) (ret := (some .boolean)) (by decide +kernel) rfl (Nat.le_of_ble_eq_true rfl) ?_
  intro p e s m args below meth c D ca ad n0 sz hwf hsz X hini
  unfold s_X3_canStand at hs
  have t_14 : ∀ (fu : Nat) (b0 : Nat) (b1 : Nat) (b2 : Nat) (x3 : Int32) (x4 : Int32) (h : tt_H), s_X3_canStand_L14 fu b0 b1 b2 x3 x4 h = some ρ → tt_T tt_cl (p, l, e, rm_X3_canStand, s, m, args, below, meth, c, MQ below (tt_Q tt_cl D ca ad n0 sz false (tt_ret (some (.int ρ.1)) ρ.2)) args s 0 0 (tt_A ad n0 sz), D, ca, tt_A ad n0 sz, 5, some n0) ad 0 0 14 [(0, .ref b0), (1, .ref b1), (2, .ref b2), (3, .int x3), (4, .int x4)] [] h := by
    intro fu
    induction fu with
    | zero => intro b0 b1 b2 x3 x4 h hs; exact absurd hs (by rw [s_X3_canStand_L14]; exact fun q => by cases q)
    | succ n14 ih =>
      intro b0 b1 b2 x3 x4 h hs
      rw [s_X3_canStand_L14] at hs
      have t_14 := ih
      have t_59 : ∀ (b0 : Nat) (b1 : Nat) (b2 : Nat) (x3 : Int32) (x4 : Int32) (h : tt_H), s_X3_canStand_J59 (s_X3_canStand_L14 n14) b0 b1 b2 x3 x4 h = some ρ → tt_T tt_cl (p, l, e, rm_X3_canStand, s, m, args, below, meth, c, MQ below (tt_Q tt_cl D ca ad n0 sz false (tt_ret (some (.int ρ.1)) ρ.2)) args s 0 0 (tt_A ad n0 sz), D, ca, tt_A ad n0 sz, 5, some n0) ad 0 0 59 [(0, .ref b0), (1, .ref b1), (2, .ref b2), (3, .int x3), (4, .int x4)] [] h := by
        intro b0 b1 b2 x3 x4 h hs
        unfold s_X3_canStand_J59 at hs
        refine tt_iinc (v := x4 + 1) X dX3_canStand_59 rfl rfl (Nat.le_of_ble_eq_true rfl) ?_
        refine tt_goto (tgt := 14) X dX3_canStand_62 (by decide) ?_
        refine tt_drop [0, 1, 2, 3, 4] ?_
        exact t_14 b0 b1 b2 x3 (x4 + 1) h hs
      refine tt_iload X dX3_canStand_14 rfl ?_
      refine tt_aload_n X dX3_canStand_16 rfl ?_
      obtain ⟨o17, f17, hs⟩ := gg_bind hs
      obtain ⟨w17, e17, hs⟩ := gg_bind hs
      refine zr_callV X f17 rfl (c_X2_size l e17) (fun hts => cwV 0 hts gX3_canStand_X2_size rfl rfl rfl (by decide +kernel) ⟨by decide, by decide⟩) rfl rfl (Nat.le_of_ble_eq_true rfl) dX3_canStand_17 ⟨Nat.zero_le _, Nat.zero_le _⟩ ?_
      refine tt_icmp_ge (tgt := 65) X dX3_canStand_20 (by decide) (fun c20 => ?_) (fun c20 => ?_)
      · rw [if_pos c20] at hs
        refine tt_iconst (v := 0) X dX3_canStand_65 (by decide) ?_
        obtain rfl := Option.some.inj hs
        exact tt_zret X rfl rfl dX3_canStand_66 ⟨rfl, rfl⟩
      · rw [if_neg c20] at hs
        refine tt_aload_n X dX3_canStand_23 rfl ?_
        refine tt_iload X dX3_canStand_24 rfl ?_
        obtain ⟨o26, f26, hs⟩ := gg_bind hs
        obtain ⟨w26, e26, hs⟩ := gg_bind hs
        refine zr_callV X f26 rfl (c_X2_at l e26) (fun hts => cwV 1 hts gX3_canStand_X2_at rfl rfl rfl (by decide +kernel) ⟨by decide, by decide⟩) rfl rfl (Nat.le_of_ble_eq_true rfl) dX3_canStand_26 ⟨Nat.zero_le _, Nat.zero_le _⟩ ?_
        refine tt_aload_n X dX3_canStand_29 rfl ?_
        refine tt_iload_n X dX3_canStand_30 rfl ?_
        obtain ⟨o31, f31, hs⟩ := gg_bind hs
        obtain ⟨w31, e31, hs⟩ := gg_bind hs
        refine zr_callV X f31 rfl (c_X2_at l e31) (fun hts => cwV 1 hts gX3_canStand_X2_at rfl rfl rfl (by decide +kernel) ⟨by decide, by decide⟩) rfl rfl (Nat.le_of_ble_eq_true rfl) dX3_canStand_31 ⟨Nat.zero_le _, Nat.zero_le _⟩ ?_
        refine tt_icmp_ne (tgt := 59) X dX3_canStand_34 (by decide) (fun c34 => ?_) (fun c34 => ?_)
        · rw [if_neg c34] at hs
          refine tt_drop [0, 1, 2, 3, 4] ?_
          exact t_59 b0 b1 b2 x3 x4 w31.2 hs
        · rw [if_pos c34] at hs
          refine tt_aload_n X dX3_canStand_37 rfl ?_
          refine tt_iload X dX3_canStand_38 rfl ?_
          obtain ⟨o40, f40, hs⟩ := gg_bind hs
          obtain ⟨w40, e40, hs⟩ := gg_bind hs
          refine zr_callV X f40 rfl (c_X3_first l e40) (fun hts => cwV 1 hts gX3_canStand_X3_first rfl rfl rfl (by decide +kernel) ⟨by decide, by decide⟩) rfl rfl (Nat.le_of_ble_eq_true rfl) dX3_canStand_40 ⟨Nat.zero_le _, Nat.zero_le _⟩ ?_
          refine tt_iload_n X dX3_canStand_43 rfl ?_
          refine tt_icmp_gt (tgt := 59) X dX3_canStand_44 (by decide) (fun c44 => ?_) (fun c44 => ?_)
          · rw [if_pos c44] at hs
            refine tt_drop [0, 1, 2, 3, 4] ?_
            exact t_59 b0 b1 b2 x3 x4 w40.2 hs
          · rw [if_neg c44] at hs
            refine tt_iload_n X dX3_canStand_47 rfl ?_
            refine tt_aload_n X dX3_canStand_48 rfl ?_
            refine tt_iload X dX3_canStand_49 rfl ?_
            obtain ⟨o51, f51, hs⟩ := gg_bind hs
            obtain ⟨w51, e51, hs⟩ := gg_bind hs
            refine zr_callV X f51 rfl (c_X3_last l e51) (fun hts => cwV 1 hts gX3_canStand_X3_last rfl rfl rfl (by decide +kernel) ⟨by decide, by decide⟩) rfl rfl (Nat.le_of_ble_eq_true rfl) dX3_canStand_51 ⟨Nat.zero_le _, Nat.zero_le _⟩ ?_
            refine tt_icmp_gt (tgt := 59) X dX3_canStand_54 (by decide) (fun c54 => ?_) (fun c54 => ?_)
            · rw [if_pos c54] at hs
              refine tt_drop [0, 1, 2, 3, 4] ?_
              exact t_59 b0 b1 b2 x3 x4 w51.2 hs
            · rw [if_neg c54] at hs
              refine tt_iconst (v := 1) X dX3_canStand_57 (by decide) ?_
              obtain rfl := Option.some.inj hs
              exact tt_zret X rfl rfl dX3_canStand_58 ⟨rfl, rfl⟩
  refine tt_aload_n X dX3_canStand_0 rfl ?_
  refine tt_aload_n X dX3_canStand_1 rfl ?_
  refine tt_aload_n X dX3_canStand_2 rfl ?_
  obtain ⟨o3, f3, hs⟩ := gg_bind hs
  obtain ⟨w3, e3, hs⟩ := gg_bind hs
  refine zr_callV X f3 rfl (c_X3_make l e3) (fun hts => cwV 2 hts gX3_canStand_X3_make rfl rfl rfl (by decide +kernel) ⟨by decide, by decide⟩) rfl rfl (Nat.le_of_ble_eq_true rfl) dX3_canStand_3 ⟨Nat.zero_le _, Nat.zero_le _⟩ ?_
  refine tt_if_ne (tgt := 11) X dX3_canStand_6 (by decide) (fun c6 => ?_) (fun c6 => ?_)
  · rw [if_neg c6] at hs
    refine tt_iconst (v := 0) X dX3_canStand_11 (by decide) ?_
    refine tt_istore X dX3_canStand_12 (Nat.le_of_ble_eq_true rfl) ?_
    refine tt_drop [0, 1, 2, 3, 4] ?_
    exact t_14 1000 b0 b1 b2 x3 0 w3.2 hs
  · rw [if_pos c6] at hs
    refine tt_iconst (v := 0) X dX3_canStand_9 (by decide) ?_
    obtain rfl := Option.some.inj hs
    exact tt_zret X rfl rfl dX3_canStand_10 ⟨rfl, rfl⟩

def s_X5_after_J69 (x0 : Int32) (ux0 : Int32) (h : tt_H) : Option (Int32 × tt_H) :=
  if ux0 = 0 then
    some (x0 ^^^ 2, h)
  else
  some ((x0 &&& ((-2))) ^^^ 2, h)
def s_X5_after_J68 (κ69 : Int32 → Int32 → tt_H → Option (Int32 × tt_H)) (x0 : Int32) (h : tt_H) : Option (Int32 × tt_H) :=
  κ69 x0 0 h
def s_X5_after_J29 (x0 : Int32) (x1 : Int32) (x3 : Int32) (ux0 : Int32) (h : tt_H) : Option (Int32 × tt_H) :=
  if x1 = x3 then
    if ux0 = 0 then
      some (5, h)
    else
    some (4, h)
  else
  some (x0 &&& 1, h)
def s_X5_after (x0 : Int32) (x1 : Int32) (b2 : Nat) (x3 : Int32) (h : tt_H) : Option (Int32 × tt_H) :=
  if x1 < 0 then
    some (x0, h)
  else
  (gg_len h b2).bind fun z6 =>
  if x1 < z6 then
    (gg_il h b2 x1).bind fun z14 =>
    if z14 = 0 then
      if (x0 &&& 2) = 0 then
        s_X5_after_J29 x0 x1 x3 0 h
      else
      s_X5_after_J29 x0 x1 x3 1 h
    else
    (gg_il h b2 x1).bind fun z53 =>
    if z53 = 2 then
      if (x0 &&& 4) = 0 then
        s_X5_after_J68 s_X5_after_J69 x0 h
      else
      s_X5_after_J69 x0 1 h
    else
    s_X5_after_J68 s_X5_after_J69 x0 h
  else
  some (x0, h)
abbrev rm_X5_after : Room := { frames := 0, cells := 0, slots := 0, locals := 0 }
set_option maxHeartbeats 4000000 in
set_option maxRecDepth 100000 in
theorem c_X5_after (l : Launch) {x0 : Int32} {x1 : Int32} {b2 : Nat} {x3 : Int32} {h : tt_H} {ρ : Int32 × tt_H} (hs : s_X5_after x0 x1 b2 x3 h = some ρ) : tt_M tt_cl l yX5_after wsX5_after rm_X5_after 0 0 false [.int x0, .int x1, .ref b2, .int x3] h (tt_ret (some (.int ρ.1)) ρ.2) := by
  refine tt_M.of0 (cc := cX5_after) (maxL := 5) (ret := (some .int)) (by decide +kernel) rfl (Nat.le_of_ble_eq_true rfl) ?_
  intro p e s m args below meth c D ca ad n0 sz hwf hsz X hini
  unfold s_X5_after at hs
  have t_69 : ∀ (x0 : Int32) (ux0 : Int32) (h : tt_H), s_X5_after_J69 x0 ux0 h = some ρ → tt_T tt_cl (p, l, e, rm_X5_after, s, m, args, below, meth, c, MQ below (tt_Q tt_cl D ca ad n0 sz false (tt_ret (some (.int ρ.1)) ρ.2)) args s 0 0 (tt_A ad n0 sz), D, ca, tt_A ad n0 sz, 5, some n0) ad 0 0 69 [(0, .int x0)] [.int ux0] h := by
    intro x0 ux0 h hs
    unfold s_X5_after_J69 at hs
    refine tt_istore X dX5_after_69 (Nat.le_of_ble_eq_true rfl) ?_
    refine tt_iload X dX5_after_71 rfl ?_
    refine tt_if_eq (tgt := 83) X dX5_after_73 (by decide) (fun c73 => ?_) (fun c73 => ?_)
    · rw [if_pos c73] at hs
      refine tt_iload_n X dX5_after_83 rfl ?_
      refine tt_iconst (v := 2) X dX5_after_84 (by decide) ?_
      refine tt_ixor X dX5_after_85 ?_
      obtain rfl := Option.some.inj hs
      exact tt_iret X rfl dX5_after_86 ⟨rfl, rfl⟩
    · rw [if_neg c73] at hs
      refine tt_iload_n X dX5_after_76 rfl ?_
      refine tt_bipush (v := (-2)) X dX5_after_77 (by decide) ?_
      refine tt_iand X dX5_after_79 ?_
      refine tt_goto (tgt := 84) X dX5_after_80 (by decide) ?_
      refine tt_iconst (v := 2) X dX5_after_84 (by decide) ?_
      refine tt_ixor X dX5_after_85 ?_
      obtain rfl := Option.some.inj hs
      exact tt_iret X rfl dX5_after_86 ⟨rfl, rfl⟩
  have t_68 : ∀ (x0 : Int32) (h : tt_H), s_X5_after_J68 s_X5_after_J69 x0 h = some ρ → tt_T tt_cl (p, l, e, rm_X5_after, s, m, args, below, meth, c, MQ below (tt_Q tt_cl D ca ad n0 sz false (tt_ret (some (.int ρ.1)) ρ.2)) args s 0 0 (tt_A ad n0 sz), D, ca, tt_A ad n0 sz, 5, some n0) ad 0 0 68 [(0, .int x0)] [] h := by
    intro x0 h hs
    unfold s_X5_after_J68 at hs
    refine tt_iconst (v := 0) X dX5_after_68 (by decide) ?_
    refine tt_drop [0] ?_
    exact t_69 x0 0 h hs
  have t_29 : ∀ (x0 : Int32) (x1 : Int32) (x3 : Int32) (ux0 : Int32) (h : tt_H), s_X5_after_J29 x0 x1 x3 ux0 h = some ρ → tt_T tt_cl (p, l, e, rm_X5_after, s, m, args, below, meth, c, MQ below (tt_Q tt_cl D ca ad n0 sz false (tt_ret (some (.int ρ.1)) ρ.2)) args s 0 0 (tt_A ad n0 sz), D, ca, tt_A ad n0 sz, 5, some n0) ad 0 0 29 [(0, .int x0), (1, .int x1), (3, .int x3)] [.int ux0] h := by
    intro x0 x1 x3 ux0 h hs
    unfold s_X5_after_J29 at hs
    refine tt_istore X dX5_after_29 (Nat.le_of_ble_eq_true rfl) ?_
    refine tt_iload_n X dX5_after_31 rfl ?_
    refine tt_iload_n X dX5_after_32 rfl ?_
    refine tt_icmp_ne (tgt := 47) X dX5_after_33 (by decide) (fun c33 => ?_) (fun c33 => ?_)
    · rw [if_neg c33] at hs
      refine tt_iload_n X dX5_after_47 rfl ?_
      refine tt_iconst (v := 1) X dX5_after_48 (by decide) ?_
      refine tt_iand X dX5_after_49 ?_
      obtain rfl := Option.some.inj hs
      exact tt_iret X rfl dX5_after_50 ⟨rfl, rfl⟩
    · rw [if_pos c33] at hs
      refine tt_iload X dX5_after_36 rfl ?_
      refine tt_if_eq (tgt := 45) X dX5_after_38 (by decide) (fun c38 => ?_) (fun c38 => ?_)
      · rw [if_pos c38] at hs
        refine tt_iconst (v := 5) X dX5_after_45 (by decide) ?_
        obtain rfl := Option.some.inj hs
        exact tt_iret X rfl dX5_after_46 ⟨rfl, rfl⟩
      · rw [if_neg c38] at hs
        refine tt_iconst (v := 4) X dX5_after_41 (by decide) ?_
        refine tt_goto (tgt := 46) X dX5_after_42 (by decide) ?_
        obtain rfl := Option.some.inj hs
        exact tt_iret X rfl dX5_after_46 ⟨rfl, rfl⟩
  refine tt_iload_n X dX5_after_0 rfl ?_
  refine tt_if_lt (tgt := 10) X dX5_after_1 (by decide) (fun c1 => ?_) (fun c1 => ?_)
  · rw [if_pos c1] at hs
    refine tt_iload_n X dX5_after_10 rfl ?_
    obtain rfl := Option.some.inj hs
    exact tt_iret X rfl dX5_after_11 ⟨rfl, rfl⟩
  · rw [if_neg c1] at hs
    refine tt_iload_n X dX5_after_4 rfl ?_
    refine tt_aload_n X dX5_after_5 rfl ?_
    obtain ⟨z6, e6, hs⟩ := gg_bind hs
    refine zr_len X e6 dX5_after_6 ?_
    refine tt_icmp_lt (tgt := 12) X dX5_after_7 (by decide) (fun c7 => ?_) (fun c7 => ?_)
    · rw [if_pos c7] at hs
      refine tt_aload_n X dX5_after_12 rfl ?_
      refine tt_iload_n X dX5_after_13 rfl ?_
      obtain ⟨z14, e14, hs⟩ := gg_bind hs
      refine zr_il X e14 dX5_after_14 ?_
      refine tt_if_ne (tgt := 51) X dX5_after_15 (by decide) (fun c15 => ?_) (fun c15 => ?_)
      · rw [if_neg c15] at hs
        refine tt_aload_n X dX5_after_51 rfl ?_
        refine tt_iload_n X dX5_after_52 rfl ?_
        obtain ⟨z53, e53, hs⟩ := gg_bind hs
        refine zr_il X e53 dX5_after_53 ?_
        refine tt_iconst (v := 2) X dX5_after_54 (by decide) ?_
        refine tt_icmp_ne (tgt := 68) X dX5_after_55 (by decide) (fun c55 => ?_) (fun c55 => ?_)
        · rw [if_neg c55] at hs
          refine tt_drop [0] ?_
          exact t_68 x0 h hs
        · rw [if_pos c55] at hs
          refine tt_iload_n X dX5_after_58 rfl ?_
          refine tt_iconst (v := 4) X dX5_after_59 (by decide) ?_
          refine tt_iand X dX5_after_60 ?_
          refine tt_if_eq (tgt := 68) X dX5_after_61 (by decide) (fun c61 => ?_) (fun c61 => ?_)
          · rw [if_pos c61] at hs
            refine tt_drop [0] ?_
            exact t_68 x0 h hs
          · rw [if_neg c61] at hs
            refine tt_iconst (v := 1) X dX5_after_64 (by decide) ?_
            refine tt_goto (tgt := 69) X dX5_after_65 (by decide) ?_
            refine tt_drop [0] ?_
            exact t_69 x0 1 h hs
      · rw [if_pos c15] at hs
        refine tt_iload_n X dX5_after_18 rfl ?_
        refine tt_iconst (v := 2) X dX5_after_19 (by decide) ?_
        refine tt_iand X dX5_after_20 ?_
        refine tt_if_eq (tgt := 28) X dX5_after_21 (by decide) (fun c21 => ?_) (fun c21 => ?_)
        · rw [if_pos c21] at hs
          refine tt_iconst (v := 0) X dX5_after_28 (by decide) ?_
          refine tt_drop [0, 1, 3] ?_
          exact t_29 x0 x1 x3 0 h hs
        · rw [if_neg c21] at hs
          refine tt_iconst (v := 1) X dX5_after_24 (by decide) ?_
          refine tt_goto (tgt := 29) X dX5_after_25 (by decide) ?_
          refine tt_drop [0, 1, 3] ?_
          exact t_29 x0 x1 x3 1 h hs
    · rw [if_neg c7] at hs
      refine tt_iload_n X dX5_after_10 rfl ?_
      obtain rfl := Option.some.inj hs
      exact tt_iret X rfl dX5_after_11 ⟨rfl, rfl⟩

def s_X5_isSaid_L5 : Nat → Nat → Nat → Int32 → Int32 → Int32 → tt_H → Option (Int32 × tt_H)
  | 0, _, _, _, _, _, _ => none
  | n + 1, b0, b1, x2, x3, x4, h =>
    (gg_obj h b0 2).bind fun _ =>
    (s_X2_size b0 h).bind fun w8 =>
    if w8.1 ≤ x4 then
      if (x3 &&& 1) = 0 then
        some (0, w8.2)
      else
      some (1, w8.2)
    else
    (gg_obj w8.2 b0 2).bind fun _ =>
    (s_X2_at b0 x4 w8.2).bind fun w18 =>
    (s_X5_after x3 w18.1 b1 x2 w18.2).bind fun w23 =>
    s_X5_isSaid_L5 n b0 b1 x2 w23.1 (x4 + 1) w23.2
def s_X5_isSaid (b0 : Nat) (b1 : Nat) (x2 : Int32) (h : tt_H) : Option (Int32 × tt_H) :=
  s_X5_isSaid_L5 1000 b0 b1 x2 0 0 h
abbrev rm_X5_isSaid : Room := { frames := 2, cells := 0, slots := 0, locals := 42 }
set_option maxHeartbeats 4000000 in
set_option maxRecDepth 100000 in
theorem c_X5_isSaid (l : Launch) {b0 : Nat} {b1 : Nat} {x2 : Int32} {h : tt_H} {ρ : Int32 × tt_H} (hs : s_X5_isSaid b0 b1 x2 h = some ρ) : tt_M tt_cl l yX5_isSaid wsX5_isSaid rm_X5_isSaid 0 0 false [.ref b0, .ref b1, .int x2] h (tt_ret (some (.int ρ.1)) ρ.2) := by
  refine tt_M.of0 (cc := cX5_isSaid) (maxL := 5) (ret := (some .boolean)) (by decide +kernel) rfl (Nat.le_of_ble_eq_true rfl) ?_
  intro p e s m args below meth c D ca ad n0 sz hwf hsz X hini
  unfold s_X5_isSaid at hs
  have t_5 : ∀ (fu : Nat) (b0 : Nat) (b1 : Nat) (x2 : Int32) (x3 : Int32) (x4 : Int32) (h : tt_H), s_X5_isSaid_L5 fu b0 b1 x2 x3 x4 h = some ρ → tt_T tt_cl (p, l, e, rm_X5_isSaid, s, m, args, below, meth, c, MQ below (tt_Q tt_cl D ca ad n0 sz false (tt_ret (some (.int ρ.1)) ρ.2)) args s 0 0 (tt_A ad n0 sz), D, ca, tt_A ad n0 sz, 5, some n0) ad 0 0 5 [(0, .ref b0), (1, .ref b1), (2, .int x2), (3, .int x3), (4, .int x4)] [] h := by
    intro fu
    induction fu with
    | zero => intro b0 b1 x2 x3 x4 h hs; exact absurd hs (by rw [s_X5_isSaid_L5]; exact fun q => by cases q)
    | succ n5 ih =>
      intro b0 b1 x2 x3 x4 h hs
      rw [s_X5_isSaid_L5] at hs
      have t_5 := ih
      refine tt_iload X dX5_isSaid_5 rfl ?_
      refine tt_aload_n X dX5_isSaid_7 rfl ?_
      obtain ⟨o8, f8, hs⟩ := gg_bind hs
      obtain ⟨w8, e8, hs⟩ := gg_bind hs
      refine zr_callV X f8 rfl (c_X2_size l e8) (fun hts => cwV 0 hts gX5_isSaid_X2_size rfl rfl rfl (by decide +kernel) ⟨by decide, by decide⟩) rfl rfl (Nat.le_of_ble_eq_true rfl) dX5_isSaid_8 ⟨Nat.zero_le _, Nat.zero_le _⟩ ?_
      refine tt_icmp_ge (tgt := 33) X dX5_isSaid_11 (by decide) (fun c11 => ?_) (fun c11 => ?_)
      · rw [if_pos c11] at hs
        refine tt_iload_n X dX5_isSaid_33 rfl ?_
        refine tt_iconst (v := 1) X dX5_isSaid_34 (by decide) ?_
        refine tt_iand X dX5_isSaid_35 ?_
        refine tt_if_eq (tgt := 43) X dX5_isSaid_36 (by decide) (fun c36 => ?_) (fun c36 => ?_)
        · rw [if_pos c36] at hs
          refine tt_iconst (v := 0) X dX5_isSaid_43 (by decide) ?_
          obtain rfl := Option.some.inj hs
          exact tt_zret X rfl rfl dX5_isSaid_44 ⟨rfl, rfl⟩
        · rw [if_neg c36] at hs
          refine tt_iconst (v := 1) X dX5_isSaid_39 (by decide) ?_
          refine tt_goto (tgt := 44) X dX5_isSaid_40 (by decide) ?_
          obtain rfl := Option.some.inj hs
          exact tt_zret X rfl rfl dX5_isSaid_44 ⟨rfl, rfl⟩
      · rw [if_neg c11] at hs
        refine tt_iload_n X dX5_isSaid_14 rfl ?_
        refine tt_aload_n X dX5_isSaid_15 rfl ?_
        refine tt_iload X dX5_isSaid_16 rfl ?_
        obtain ⟨o18, f18, hs⟩ := gg_bind hs
        obtain ⟨w18, e18, hs⟩ := gg_bind hs
        refine zr_callV X f18 rfl (c_X2_at l e18) (fun hts => cwV 1 hts gX5_isSaid_X2_at rfl rfl rfl (by decide +kernel) ⟨by decide, by decide⟩) rfl rfl (Nat.le_of_ble_eq_true rfl) dX5_isSaid_18 ⟨Nat.zero_le _, Nat.zero_le _⟩ ?_
        refine tt_aload_n X dX5_isSaid_21 rfl ?_
        refine tt_iload_n X dX5_isSaid_22 rfl ?_
        obtain ⟨w23, e23, hs⟩ := gg_bind hs
        refine zr_callS X (c_X5_after l e23) (fun hts => va_cwS 4 hts gX5_isSaid_X5_after rfl rfl rfl (by decide +kernel) ⟨by decide, by decide⟩) rfl rfl (Nat.le_of_ble_eq_true rfl) dX5_isSaid_23 ⟨Nat.zero_le _, Nat.zero_le _⟩ ?_
        refine tt_istore_n X dX5_isSaid_26 (Nat.le_of_ble_eq_true rfl) ?_
        refine tt_iinc (v := x4 + 1) X dX5_isSaid_27 rfl rfl (Nat.le_of_ble_eq_true rfl) ?_
        refine tt_goto (tgt := 5) X dX5_isSaid_30 (by decide) ?_
        refine tt_drop [0, 1, 2, 3, 4] ?_
        exact t_5 b0 b1 x2 w23.1 (x4 + 1) w23.2 hs
  refine tt_iconst (v := 0) X dX5_isSaid_0 (by decide) ?_
  refine tt_istore_n X dX5_isSaid_1 (Nat.le_of_ble_eq_true rfl) ?_
  refine tt_iconst (v := 0) X dX5_isSaid_2 (by decide) ?_
  refine tt_istore X dX5_isSaid_3 (Nat.le_of_ble_eq_true rfl) ?_
  refine tt_drop [0, 1, 2, 3, 4] ?_
  exact t_5 1000 b0 b1 x2 0 0 h hs
