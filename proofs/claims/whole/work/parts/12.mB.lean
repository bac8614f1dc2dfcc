theorem in_X0_goOnFrom_X0 : ∀ w ∈ u_ws RX0 TX0 2, w ∈ wsX0_goOnFrom := by decide +kernel
def s_X0_goOnFrom_J75 (κ7 : Nat → Nat → Int32 → Nat → Int64 → Int32 → Int32 → tt_H → Option (Unit × tt_H)) (b0 : Nat) (b1 : Nat) (x2 : Int32) (b3 : Nat) (y5 : Int64) (x7 : Int32) (x8 : Int32) (h : tt_H) : Option (Unit × tt_H) :=
  κ7 b0 b1 x2 b3 y5 x7 (x8 + 1) h
def s_X0_goOnFrom_J66 (κ75 : Nat → Nat → Int32 → Nat → Int64 → Int32 → Int32 → tt_H → Option (Unit × tt_H)) (b0 : Nat) (b1 : Nat) (x2 : Int32) (b3 : Nat) (y5 : Int64) (x7 : Int32) (x8 : Int32) (ub0 : Nat) (ux1 : Int32) (h : tt_H) : Option (Unit × tt_H) :=
  (gg_obj h ub0 4).bind fun _ =>
  (s_X4_more ub0 ux1 (x8 + 1) y5 h).bind fun w72 =>
  κ75 b0 b1 x2 b3 y5 x7 x8 w72.2
def s_X0_goOnFrom_L7 : Nat → Nat → Nat → Int32 → Nat → Int64 → Int32 → Int32 → tt_H → Option (Unit × tt_H)
  | 0, _, _, _, _, _, _, _, _ => none
  | n + 1, b0, b1, x2, b3, y5, x7, x8, h =>
    (gg_obj h b3 2).bind fun _ =>
    (s_X2_size b3 h).bind fun w10 =>
    if w10.1 ≤ x8 then
      some ((), w10.2)
    else
    (gg_obj w10.2 b3 2).bind fun _ =>
    (s_X2_at b3 x8 w10.2).bind fun w19 =>
    if (x7 &&& ((1 : Int32) <<< (w19.1 &&& 31))) = 0 then
      (gg_fr w19.2 b0 0 1).bind fun o46 =>
      (gg_obj w19.2 b1 2).bind fun _ =>
      (s_X2_at b1 x2 w19.2).bind fun w51 =>
      if w51.1 = w19.1 then
        s_X0_goOnFrom_J66 (s_X0_goOnFrom_J75 (s_X0_goOnFrom_L7 n)) b0 b1 x2 b3 y5 (x7 ||| ((1 : Int32) <<< (w19.1 &&& 31))) x8 o46 (x2 + 1) w51.2
      else
      s_X0_goOnFrom_J66 (s_X0_goOnFrom_J75 (s_X0_goOnFrom_L7 n)) b0 b1 x2 b3 y5 (x7 ||| ((1 : Int32) <<< (w19.1 &&& 31))) x8 o46 x2 w51.2
    else
    s_X0_goOnFrom_J75 (s_X0_goOnFrom_L7 n) b0 b1 x2 b3 y5 x7 x8 w19.2
def s_X0_goOnFrom (b0 : Nat) (b1 : Nat) (x2 : Int32) (b3 : Nat) (x4 : Int32) (y5 : Int64) (h : tt_H) : Option (Unit × tt_H) :=
  s_X0_goOnFrom_L7 1000 b0 b1 x2 b3 y5 0 x4 h
abbrev rm_X0_goOnFrom : Room := { frames := 3, cells := 0, slots := 0, locals := 69 }
set_option maxHeartbeats 4000000 in
set_option maxRecDepth 100000 in
theorem c_X0_goOnFrom (l : Launch) {b0 : Nat} {b1 : Nat} {x2 : Int32} {b3 : Nat} {x4 : Int32} {y5 : Int64} {h : tt_H} {ρ : Unit × tt_H} (hs : s_X0_goOnFrom b0 b1 x2 b3 x4 y5 h = some ρ) : tt_M tt_cl l yX0_goOnFrom wsX0_goOnFrom rm_X0_goOnFrom 0 0 false [.ref b0, .ref b1, .int x2, .ref b3, .int x4, .long y5] h (tt_ret (none) ρ.2) := by
  refine tt_M.of0 (cc := cX0_goOnFrom) (maxL := 11) (ret := none) (by decide +kernel) rfl (Nat.le_of_ble_eq_true rfl) ?_
  intro p e s m args below meth c D ca ad n0 sz hwf hsz X hini
  unfold s_X0_goOnFrom at hs
  have t_7 : ∀ (fu : Nat) (b0 : Nat) (b1 : Nat) (x2 : Int32) (b3 : Nat) (y5 : Int64) (x7 : Int32) (x8 : Int32) (h : tt_H), s_X0_goOnFrom_L7 fu b0 b1 x2 b3 y5 x7 x8 h = some ρ → tt_T tt_cl (p, l, e, rm_X0_goOnFrom, s, m, args, below, meth, c, MQ below (tt_Q tt_cl D ca ad n0 sz false (tt_ret (none) ρ.2)) args s 0 0 (tt_A ad n0 sz), D, ca, tt_A ad n0 sz, 11, some n0) ad 0 0 7 [(0, .ref b0), (1, .ref b1), (2, .int x2), (3, .ref b3), (5, .long y5), (7, .int x7), (8, .int x8)] [] h := by
    intro fu
    induction fu with
    | zero => intro b0 b1 x2 b3 y5 x7 x8 h hs; exact absurd hs (by rw [s_X0_goOnFrom_L7]; exact fun q => by cases q)
    | succ n7 ih =>
      intro b0 b1 x2 b3 y5 x7 x8 h hs
      rw [s_X0_goOnFrom_L7] at hs
      have t_7 := ih
      have t_75 : ∀ (b0 : Nat) (b1 : Nat) (x2 : Int32) (b3 : Nat) (y5 : Int64) (x7 : Int32) (x8 : Int32) (h : tt_H), s_X0_goOnFrom_J75 (s_X0_goOnFrom_L7 n7) b0 b1 x2 b3 y5 x7 x8 h = some ρ → tt_T tt_cl (p, l, e, rm_X0_goOnFrom, s, m, args, below, meth, c, MQ below (tt_Q tt_cl D ca ad n0 sz false (tt_ret (none) ρ.2)) args s 0 0 (tt_A ad n0 sz), D, ca, tt_A ad n0 sz, 11, some n0) ad 0 0 75 [(0, .ref b0), (1, .ref b1), (2, .int x2), (3, .ref b3), (5, .long y5), (7, .int x7), (8, .int x8)] [] h := by
        intro b0 b1 x2 b3 y5 x7 x8 h hs
        unfold s_X0_goOnFrom_J75 at hs
        refine tt_iinc (v := x8 + 1) X dX0_goOnFrom_75 rfl rfl (Nat.le_of_ble_eq_true rfl) ?_
        refine tt_goto (tgt := 7) X dX0_goOnFrom_78 (by decide) ?_
        refine tt_drop [0, 1, 2, 3, 5, 7, 8] ?_
        exact t_7 b0 b1 x2 b3 y5 x7 (x8 + 1) h hs
      have t_66 : ∀ (b0 : Nat) (b1 : Nat) (x2 : Int32) (b3 : Nat) (y5 : Int64) (x7 : Int32) (x8 : Int32) (ub0 : Nat) (ux1 : Int32) (h : tt_H), s_X0_goOnFrom_J66 (s_X0_goOnFrom_J75 (s_X0_goOnFrom_L7 n7)) b0 b1 x2 b3 y5 x7 x8 ub0 ux1 h = some ρ → tt_T tt_cl (p, l, e, rm_X0_goOnFrom, s, m, args, below, meth, c, MQ below (tt_Q tt_cl D ca ad n0 sz false (tt_ret (none) ρ.2)) args s 0 0 (tt_A ad n0 sz), D, ca, tt_A ad n0 sz, 11, some n0) ad 0 0 66 [(0, .ref b0), (1, .ref b1), (2, .int x2), (3, .ref b3), (5, .long y5), (7, .int x7), (8, .int x8)] [.int ux1, .ref ub0] h := by
        intro b0 b1 x2 b3 y5 x7 x8 ub0 ux1 h hs
        unfold s_X0_goOnFrom_J66 at hs
        refine tt_iload X dX0_goOnFrom_66 rfl ?_
        refine tt_iconst (v := 1) X dX0_goOnFrom_68 (by decide) ?_
        refine tt_iadd X dX0_goOnFrom_69 ?_
        refine tt_lload X dX0_goOnFrom_70 rfl ?_
        obtain ⟨o72, f72, hs⟩ := gg_bind hs
        obtain ⟨w72, e72, hs⟩ := gg_bind hs
        refine zr_callV X f72 rfl (c_X4_more l e72) (fun hts => cwV 3 hts gX0_goOnFrom_X4_more rfl rfl rfl (by decide +kernel) ⟨by decide, by decide⟩) rfl rfl (Nat.le_of_ble_eq_true rfl) dX0_goOnFrom_72 ⟨Nat.zero_le _, Nat.zero_le _⟩ ?_
        refine tt_drop [0, 1, 2, 3, 5, 7, 8] ?_
        exact t_75 b0 b1 x2 b3 y5 x7 x8 w72.2 hs
      refine tt_iload X dX0_goOnFrom_7 rfl ?_
      refine tt_aload_n X dX0_goOnFrom_9 rfl ?_
      obtain ⟨o10, f10, hs⟩ := gg_bind hs
      obtain ⟨w10, e10, hs⟩ := gg_bind hs
      refine zr_callV X f10 rfl (c_X2_size l e10) (fun hts => cwV 0 hts gX0_goOnFrom_X2_size rfl rfl rfl (by decide +kernel) ⟨by decide, by decide⟩) rfl rfl (Nat.le_of_ble_eq_true rfl) dX0_goOnFrom_10 ⟨Nat.zero_le _, Nat.zero_le _⟩ ?_
      refine tt_icmp_ge (tgt := 81) X dX0_goOnFrom_13 (by decide) (fun c13 => ?_) (fun c13 => ?_)
      · rw [if_pos c13] at hs
        obtain rfl := Option.some.inj hs
        exact tt_vret X rfl dX0_goOnFrom_81 ⟨rfl, rfl⟩
      · rw [if_neg c13] at hs
        refine tt_aload_n X dX0_goOnFrom_16 rfl ?_
        refine tt_iload X dX0_goOnFrom_17 rfl ?_
        obtain ⟨o19, f19, hs⟩ := gg_bind hs
        obtain ⟨w19, e19, hs⟩ := gg_bind hs
        refine zr_callV X f19 rfl (c_X2_at l e19) (fun hts => cwV 1 hts gX0_goOnFrom_X2_at rfl rfl rfl (by decide +kernel) ⟨by decide, by decide⟩) rfl rfl (Nat.le_of_ble_eq_true rfl) dX0_goOnFrom_19 ⟨Nat.zero_le _, Nat.zero_le _⟩ ?_
        refine tt_istore X dX0_goOnFrom_22 (Nat.le_of_ble_eq_true rfl) ?_
        refine tt_iconst (v := 1) X dX0_goOnFrom_24 (by decide) ?_
        refine tt_iload X dX0_goOnFrom_25 rfl ?_
        refine tt_ishl X dX0_goOnFrom_27 ?_
        refine tt_istore X dX0_goOnFrom_28 (Nat.le_of_ble_eq_true rfl) ?_
        refine tt_iload X dX0_goOnFrom_30 rfl ?_
        refine tt_iload X dX0_goOnFrom_32 rfl ?_
        refine tt_iand X dX0_goOnFrom_34 ?_
        refine tt_if_ne (tgt := 75) X dX0_goOnFrom_35 (by decide) (fun c35 => ?_) (fun c35 => ?_)
        · rw [if_neg c35] at hs
          refine tt_drop [0, 1, 2, 3, 5, 7, 8] ?_
          exact t_75 b0 b1 x2 b3 y5 x7 x8 w19.2 hs
        · rw [if_pos c35] at hs
          refine tt_iload X dX0_goOnFrom_38 rfl ?_
          refine tt_iload X dX0_goOnFrom_40 rfl ?_
          refine tt_ior X dX0_goOnFrom_42 ?_
          refine tt_istore X dX0_goOnFrom_43 (Nat.le_of_ble_eq_true rfl) ?_
          refine tt_aload_n X dX0_goOnFrom_45 rfl ?_
          obtain ⟨o46, e46, hs⟩ := gg_bind hs
          refine zr_fr X e46 rfl in_X0_goOnFrom_X0 (by decide) (by decide +kernel) rfl dX0_goOnFrom_46 ?_
          refine tt_aload_n X dX0_goOnFrom_49 rfl ?_
          refine tt_iload_n X dX0_goOnFrom_50 rfl ?_
          obtain ⟨o51, f51, hs⟩ := gg_bind hs
          obtain ⟨w51, e51, hs⟩ := gg_bind hs
          refine zr_callV X f51 rfl (c_X2_at l e51) (fun hts => cwV 1 hts gX0_goOnFrom_X2_at rfl rfl rfl (by decide +kernel) ⟨by decide, by decide⟩) rfl rfl (Nat.le_of_ble_eq_true rfl) dX0_goOnFrom_51 ⟨Nat.zero_le _, Nat.zero_le _⟩ ?_
          refine tt_iload X dX0_goOnFrom_54 rfl ?_
          refine tt_icmp_ne (tgt := 65) X dX0_goOnFrom_56 (by decide) (fun c56 => ?_) (fun c56 => ?_)
          · rw [if_neg c56] at hs
            refine tt_iload_n X dX0_goOnFrom_65 rfl ?_
            refine tt_drop [0, 1, 2, 3, 5, 7, 8] ?_
            exact t_66 b0 b1 x2 b3 y5 (x7 ||| ((1 : Int32) <<< (w19.1 &&& 31))) x8 o46 x2 w51.2 hs
          · rw [if_pos c56] at hs
            refine tt_iload_n X dX0_goOnFrom_59 rfl ?_
            refine tt_iconst (v := 1) X dX0_goOnFrom_60 (by decide) ?_
            refine tt_iadd X dX0_goOnFrom_61 ?_
            refine tt_goto (tgt := 66) X dX0_goOnFrom_62 (by decide) ?_
            refine tt_drop [0, 1, 2, 3, 5, 7, 8] ?_
            exact t_66 b0 b1 x2 b3 y5 (x7 ||| ((1 : Int32) <<< (w19.1 &&& 31))) x8 o46 (x2 + 1) w51.2 hs
  refine tt_iconst (v := 0) X dX0_goOnFrom_0 (by decide) ?_
  refine tt_istore X dX0_goOnFrom_1 (Nat.le_of_ble_eq_true rfl) ?_
  refine tt_iload X dX0_goOnFrom_3 rfl ?_
  refine tt_istore X dX0_goOnFrom_5 (Nat.le_of_ble_eq_true rfl) ?_
  refine tt_drop [0, 1, 2, 3, 5, 7, 8] ?_
  exact t_7 1000 b0 b1 x2 b3 y5 0 x4 h hs

theorem in_X0_goOn_X0 : ∀ w ∈ u_ws RX0 TX0 2, w ∈ wsX0_goOn := by decide +kernel
def s_X0_goOn_J59 (κ20 : Nat → Nat → Nat → Int32 → Int32 → tt_H → Option (Unit × tt_H)) (b0 : Nat) (b1 : Nat) (b2 : Nat) (x3 : Int32) (x4 : Int32) (h : tt_H) : Option (Unit × tt_H) :=
  κ20 b0 b1 b2 x3 (x4 + 1) h
def s_X0_goOn_L20 (κ9 : Nat → Nat → Nat → Int32 → tt_H → Option (Unit × tt_H)) : Nat → Nat → Nat → Nat → Int32 → Int32 → tt_H → Option (Unit × tt_H)
  | 0, _, _, _, _, _, _ => none
  | n + 1, b0, b1, b2, x3, x4, h =>
    (gg_obj h b2 2).bind fun _ =>
    (s_X2_size b2 h).bind fun w23 =>
    if w23.1 ≤ x4 then
      κ9 b0 b1 b2 (x3 + 1) w23.2
    else
    (gg_fr w23.2 b0 0 0).bind fun o30 =>
    (gg_obj w23.2 o30 4).bind fun _ =>
    (s_X4_at o30 x3 x4 w23.2).bind fun w36 =>
    if (lg_cmp w36.1 0) = 0 then
      s_X0_goOn_J59 (s_X0_goOn_L20 κ9 n) b0 b1 b2 x3 x4 w36.2
    else
    (gg_obj w36.2 b0 0).bind fun _ =>
    (s_X0_goOnFrom b0 b1 x3 b2 x4 w36.1 w36.2).bind fun w56 =>
    s_X0_goOn_J59 (s_X0_goOn_L20 κ9 n) b0 b1 b2 x3 x4 w56.2
def s_X0_goOn_L9 : Nat → Nat → Nat → Nat → Int32 → tt_H → Option (Unit × tt_H)
  | 0, _, _, _, _, _ => none
  | n + 1, b0, b1, b2, x3, h =>
    (gg_obj h b1 2).bind fun _ =>
    (s_X2_size b1 h).bind fun w11 =>
    if w11.1 < x3 then
      (gg_fr w11.2 b0 0 0).bind fun o72 =>
      (gg_fr w11.2 b0 0 1).bind fun o78 =>
      (gg_put w11.2 b0 0 0 (.ref o78)).bind fun h81 =>
      (gg_put h81 b0 0 1 (.ref o72)).bind fun h86 =>
      some ((), h86)
    else
    s_X0_goOn_L20 (s_X0_goOn_L9 n) 1000 b0 b1 b2 x3 0 w11.2
def s_X0_goOn (b0 : Nat) (b1 : Nat) (b2 : Nat) (h : tt_H) : Option (Unit × tt_H) :=
  (gg_fr h b0 0 1).bind fun o1 =>
  (gg_obj h o1 4).bind fun _ =>
  (s_X4_clear o1 h).bind fun w4 =>
  s_X0_goOn_L9 1000 b0 b1 b2 0 w4.2
abbrev rm_X0_goOn : Room := { frames := 4, cells := 0, slots := 0, locals := 99 }
set_option maxHeartbeats 4000000 in
set_option maxRecDepth 100000 in
theorem c_X0_goOn (l : Launch) {b0 : Nat} {b1 : Nat} {b2 : Nat} {h : tt_H} {ρ : Unit × tt_H} (hs : s_X0_goOn b0 b1 b2 h = some ρ) : tt_M tt_cl l yX0_goOn wsX0_goOn rm_X0_goOn 0 0 false [.ref b0, .ref b1, .ref b2] h (tt_ret (none) ρ.2) := by
  refine tt_M.of0 (cc := cX0_goOn) (maxL := 7) (ret := none) (by decide +kernel) rfl (Nat.le_of_ble_eq_true rfl) ?_
  intro p e s m args below meth c D ca ad n0 sz hwf hsz X hini
  unfold s_X0_goOn at hs
  have t_9 : ∀ (fu : Nat) (b0 : Nat) (b1 : Nat) (b2 : Nat) (x3 : Int32) (h : tt_H), s_X0_goOn_L9 fu b0 b1 b2 x3 h = some ρ → tt_T tt_cl (p, l, e, rm_X0_goOn, s, m, args, below, meth, c, MQ below (tt_Q tt_cl D ca ad n0 sz false (tt_ret (none) ρ.2)) args s 0 0 (tt_A ad n0 sz), D, ca, tt_A ad n0 sz, 7, some n0) ad 0 0 9 [(0, .ref b0), (1, .ref b1), (2, .ref b2), (3, .int x3)] [] h := by
    intro fu
    induction fu with
    | zero => intro b0 b1 b2 x3 h hs; exact absurd hs (by rw [s_X0_goOn_L9]; exact fun q => by cases q)
    | succ n9 ih =>
      intro b0 b1 b2 x3 h hs
      rw [s_X0_goOn_L9] at hs
      have t_9 := ih
      have t_20 : ∀ (fu : Nat) (b0 : Nat) (b1 : Nat) (b2 : Nat) (x3 : Int32) (x4 : Int32) (h : tt_H), s_X0_goOn_L20 (s_X0_goOn_L9 n9) fu b0 b1 b2 x3 x4 h = some ρ → tt_T tt_cl (p, l, e, rm_X0_goOn, s, m, args, below, meth, c, MQ below (tt_Q tt_cl D ca ad n0 sz false (tt_ret (none) ρ.2)) args s 0 0 (tt_A ad n0 sz), D, ca, tt_A ad n0 sz, 7, some n0) ad 0 0 20 [(0, .ref b0), (1, .ref b1), (2, .ref b2), (3, .int x3), (4, .int x4)] [] h := by
        intro fu
        induction fu with
        | zero => intro b0 b1 b2 x3 x4 h hs; exact absurd hs (by rw [s_X0_goOn_L20]; exact fun q => by cases q)
        | succ n20 ih =>
          intro b0 b1 b2 x3 x4 h hs
          rw [s_X0_goOn_L20] at hs
          have t_20 := ih
          have t_59 : ∀ (b0 : Nat) (b1 : Nat) (b2 : Nat) (x3 : Int32) (x4 : Int32) (h : tt_H), s_X0_goOn_J59 (s_X0_goOn_L20 (s_X0_goOn_L9 n9) n20) b0 b1 b2 x3 x4 h = some ρ → tt_T tt_cl (p, l, e, rm_X0_goOn, s, m, args, below, meth, c, MQ below (tt_Q tt_cl D ca ad n0 sz false (tt_ret (none) ρ.2)) args s 0 0 (tt_A ad n0 sz), D, ca, tt_A ad n0 sz, 7, some n0) ad 0 0 59 [(0, .ref b0), (1, .ref b1), (2, .ref b2), (3, .int x3), (4, .int x4)] [] h := by
            intro b0 b1 b2 x3 x4 h hs
            unfold s_X0_goOn_J59 at hs
            refine tt_iinc (v := x4 + 1) X dX0_goOn_59 rfl rfl (Nat.le_of_ble_eq_true rfl) ?_
            refine tt_goto (tgt := 20) X dX0_goOn_62 (by decide) ?_
            refine tt_drop [0, 1, 2, 3, 4] ?_
            exact t_20 b0 b1 b2 x3 (x4 + 1) h hs
          refine tt_iload X dX0_goOn_20 rfl ?_
          refine tt_aload_n X dX0_goOn_22 rfl ?_
          obtain ⟨o23, f23, hs⟩ := gg_bind hs
          obtain ⟨w23, e23, hs⟩ := gg_bind hs
          refine zr_callV X f23 rfl (c_X2_size l e23) (fun hts => cwV 0 hts gX0_goOn_X2_size rfl rfl rfl (by decide +kernel) ⟨by decide, by decide⟩) rfl rfl (Nat.le_of_ble_eq_true rfl) dX0_goOn_23 ⟨Nat.zero_le _, Nat.zero_le _⟩ ?_
          refine tt_icmp_ge (tgt := 65) X dX0_goOn_26 (by decide) (fun c26 => ?_) (fun c26 => ?_)
          · rw [if_pos c26] at hs
            refine tt_iinc (v := x3 + 1) X dX0_goOn_65 rfl rfl (Nat.le_of_ble_eq_true rfl) ?_
            refine tt_goto (tgt := 9) X dX0_goOn_68 (by decide) ?_
            refine tt_drop [0, 1, 2, 3] ?_
            exact t_9 b0 b1 b2 (x3 + 1) w23.2 hs
          · rw [if_neg c26] at hs
            refine tt_aload_n X dX0_goOn_29 rfl ?_
            obtain ⟨o30, e30, hs⟩ := gg_bind hs
            refine zr_fr X e30 rfl in_X0_goOn_X0 (by decide) (by decide +kernel) rfl dX0_goOn_30 ?_
            refine tt_iload_n X dX0_goOn_33 rfl ?_
            refine tt_iload X dX0_goOn_34 rfl ?_
            obtain ⟨o36, f36, hs⟩ := gg_bind hs
            obtain ⟨w36, e36, hs⟩ := gg_bind hs
            refine zr_callV X f36 rfl (c_X4_at l e36) (fun hts => cwV 2 hts gX0_goOn_X4_at rfl rfl rfl (by decide +kernel) ⟨by decide, by decide⟩) rfl rfl (Nat.le_of_ble_eq_true rfl) dX0_goOn_36 ⟨Nat.zero_le _, Nat.zero_le _⟩ ?_
            refine tt_lstore X dX0_goOn_39 (Nat.le_of_ble_eq_true rfl) ?_
            refine tt_lload X dX0_goOn_41 rfl ?_
            refine tt_lconst (v := 0) X dX0_goOn_43 (by decide) ?_
            refine tt_lcmp X dX0_goOn_44 ?_
            refine tt_if_eq (tgt := 59) X dX0_goOn_45 (by decide) (fun c45 => ?_) (fun c45 => ?_)
            · rw [if_pos c45] at hs
              refine tt_drop [0, 1, 2, 3, 4] ?_
              exact t_59 b0 b1 b2 x3 x4 w36.2 hs
            · rw [if_neg c45] at hs
              refine tt_aload_n X dX0_goOn_48 rfl ?_
              refine tt_aload_n X dX0_goOn_49 rfl ?_
              refine tt_iload_n X dX0_goOn_50 rfl ?_
              refine tt_aload_n X dX0_goOn_51 rfl ?_
              refine tt_iload X dX0_goOn_52 rfl ?_
              refine tt_lload X dX0_goOn_54 rfl ?_
              obtain ⟨o56, f56, hs⟩ := gg_bind hs
              obtain ⟨w56, e56, hs⟩ := gg_bind hs
              refine zr_callV X f56 rfl (c_X0_goOnFrom l e56) (fun hts => cwV 5 hts gX0_goOn_X0_goOnFrom rfl rfl rfl (by decide +kernel) ⟨by decide, by decide⟩) rfl rfl (Nat.le_of_ble_eq_true rfl) dX0_goOn_56 ⟨Nat.zero_le _, Nat.zero_le _⟩ ?_
              refine tt_drop [0, 1, 2, 3, 4] ?_
              exact t_59 b0 b1 b2 x3 x4 w56.2 hs
      refine tt_iload_n X dX0_goOn_9 rfl ?_
      refine tt_aload_n X dX0_goOn_10 rfl ?_
      obtain ⟨o11, f11, hs⟩ := gg_bind hs
      obtain ⟨w11, e11, hs⟩ := gg_bind hs
      refine zr_callV X f11 rfl (c_X2_size l e11) (fun hts => cwV 0 hts gX0_goOn_X2_size rfl rfl rfl (by decide +kernel) ⟨by decide, by decide⟩) rfl rfl (Nat.le_of_ble_eq_true rfl) dX0_goOn_11 ⟨Nat.zero_le _, Nat.zero_le _⟩ ?_
      refine tt_icmp_gt (tgt := 71) X dX0_goOn_14 (by decide) (fun c14 => ?_) (fun c14 => ?_)
      · rw [if_pos c14] at hs
        refine tt_aload_n X dX0_goOn_71 rfl ?_
        obtain ⟨o72, e72, hs⟩ := gg_bind hs
        refine zr_fr X e72 rfl in_X0_goOn_X0 (by decide) (by decide +kernel) rfl dX0_goOn_72 ?_
        refine tt_astore_n X dX0_goOn_75 (Nat.le_of_ble_eq_true rfl) ?_
        refine tt_aload_n X dX0_goOn_76 rfl ?_
        refine tt_aload_n X dX0_goOn_77 rfl ?_
        obtain ⟨o78, e78, hs⟩ := gg_bind hs
        refine zr_fr X e78 rfl in_X0_goOn_X0 (by decide) (by decide +kernel) rfl dX0_goOn_78 ?_
        obtain ⟨h81, e81, hs⟩ := gg_bind hs
        refine zr_put X e81 rfl in_X0_goOn_X0 tyX0 tyX0_ok nmX0 (by decide) (by decide +kernel) rfl rfl (fun _ => rfl) (fun _ => rfl) dX0_goOn_81 ?_
        refine tt_aload_n X dX0_goOn_84 rfl ?_
        refine tt_aload_n X dX0_goOn_85 rfl ?_
        obtain ⟨h86, e86, hs⟩ := gg_bind hs
        refine zr_put X e86 rfl in_X0_goOn_X0 tyX0 tyX0_ok nmX0 (by decide) (by decide +kernel) rfl rfl (fun _ => rfl) (fun _ => rfl) dX0_goOn_86 ?_
        obtain rfl := Option.some.inj hs
        exact tt_vret X rfl dX0_goOn_89 ⟨rfl, rfl⟩
      · rw [if_neg c14] at hs
        refine tt_iconst (v := 0) X dX0_goOn_17 (by decide) ?_
        refine tt_istore X dX0_goOn_18 (Nat.le_of_ble_eq_true rfl) ?_
        refine tt_drop [0, 1, 2, 3, 4] ?_
        exact t_20 1000 b0 b1 b2 x3 0 w11.2 hs
  refine tt_aload_n X dX0_goOn_0 rfl ?_
  obtain ⟨o1, e1, hs⟩ := gg_bind hs
  refine zr_fr X e1 rfl in_X0_goOn_X0 (by decide) (by decide +kernel) rfl dX0_goOn_1 ?_
  obtain ⟨o4, f4, hs⟩ := gg_bind hs
  obtain ⟨w4, e4, hs⟩ := gg_bind hs
  refine zr_callV X f4 rfl (c_X4_clear l e4) (fun hts => cwV 0 hts gX0_goOn_X4_clear rfl rfl rfl (by decide +kernel) ⟨by decide, by decide⟩) rfl rfl (Nat.le_of_ble_eq_true rfl) dX0_goOn_4 ⟨Nat.zero_le _, Nat.zero_le _⟩ ?_
  refine tt_iconst (v := 0) X dX0_goOn_7 (by decide) ?_
  refine tt_istore_n X dX0_goOn_8 (Nat.le_of_ble_eq_true rfl) ?_
  refine tt_drop [0, 1, 2, 3] ?_
  exact t_9 1000 b0 b1 b2 0 w4.2 hs

theorem in_X0_count_X0 : ∀ w ∈ u_ws RX0 TX0 2, w ∈ wsX0_count := by decide +kernel
def s_X0_count_L44 : Nat → Nat → Nat → Nat → Int64 → Int32 → tt_H → Option (Int64 × tt_H)
  | 0, _, _, _, _, _, _ => none
  | n + 1, b0, b1, b2, y4, x6, h =>
    (gg_obj h b2 2).bind fun _ =>
    (s_X2_size b2 h).bind fun w47 =>
    if w47.1 < x6 then
      some (y4, w47.2)
    else
    (gg_fr w47.2 b0 0 0).bind fun o56 =>
    (gg_obj w47.2 b1 2).bind fun _ =>
    (s_X2_size b1 w47.2).bind fun w60 =>
    (gg_obj w60.2 o56 4).bind fun _ =>
    (s_X4_at o56 w60.1 x6 w60.2).bind fun w65 =>
    s_X0_count_L44 n b0 b1 b2 (y4 + w65.1) (x6 + 1) w65.2
def s_X0_count_L20 : Nat → Nat → Nat → Nat → Int32 → Int32 → tt_H → Option (Int64 × tt_H)
  | 0, _, _, _, _, _, _ => none
  | n + 1, b0, b1, b2, x3, x4, h =>
    if x3 ≤ x4 then
      s_X0_count_L44 1000 b0 b1 b2 0 0 h
    else
    (gg_obj h b0 0).bind fun _ =>
    (s_X0_goOn b0 b1 b2 h).bind fun w29 =>
    s_X0_count_L20 n b0 b1 b2 x3 (x4 + 1) w29.2
def s_X0_count (b0 : Nat) (b1 : Nat) (b2 : Nat) (x3 : Int32) (h : tt_H) : Option (Int64 × tt_H) :=
  (gg_fr h b0 0 0).bind fun o1 =>
  (gg_obj h o1 4).bind fun _ =>
  (s_X4_clear o1 h).bind fun w4 =>
  (gg_fr w4.2 b0 0 0).bind fun o8 =>
  (gg_obj w4.2 o8 4).bind fun _ =>
  (s_X4_write o8 0 0 1 w4.2).bind fun w14 =>
  s_X0_count_L20 1000 b0 b1 b2 x3 0 w14.2
abbrev rm_X0_count : Room := { frames := 5, cells := 0, slots := 0, locals := 125 }
set_option maxHeartbeats 4000000 in
set_option maxRecDepth 100000 in
theorem c_X0_count (l : Launch) {b0 : Nat} {b1 : Nat} {b2 : Nat} {x3 : Int32} {h : tt_H} {ρ : Int64 × tt_H} (hs : s_X0_count b0 b1 b2 x3 h = some ρ) : tt_M tt_cl l yX0_count wsX0_count rm_X0_count 0 0 false [.ref b0, .ref b1, .ref b2, .int x3] h (tt_ret (some (.long ρ.1)) ρ.2) := by
  refine tt_M.of0 (cc := cX0_count) (maxL := 7) (ret := (some .long)) (by decide +kernel) rfl (Nat.le_of_ble_eq_true rfl) ?_
  intro p e s m args below meth c D ca ad n0 sz hwf hsz X hini
  unfold s_X0_count at hs
  have t_20 : ∀ (fu : Nat) (b0 : Nat) (b1 : Nat) (b2 : Nat) (x3 : Int32) (x4 : Int32) (h : tt_H), s_X0_count_L20 fu b0 b1 b2 x3 x4 h = some ρ → tt_T tt_cl (p, l, e, rm_X0_count, s, m, args, below, meth, c, MQ below (tt_Q tt_cl D ca ad n0 sz false (tt_ret (some (.long ρ.1)) ρ.2)) args s 0 0 (tt_A ad n0 sz), D, ca, tt_A ad n0 sz, 7, some n0) ad 0 0 20 [(0, .ref b0), (1, .ref b1), (2, .ref b2), (3, .int x3), (4, .int x4)] [] h := by
    intro fu
    induction fu with
    | zero => intro b0 b1 b2 x3 x4 h hs; exact absurd hs (by rw [s_X0_count_L20]; exact fun q => by cases q)
    | succ n20 ih =>
      intro b0 b1 b2 x3 x4 h hs
      rw [s_X0_count_L20] at hs
      have t_20 := ih
      have t_44 : ∀ (fu : Nat) (b0 : Nat) (b1 : Nat) (b2 : Nat) (y4 : Int64) (x6 : Int32) (h : tt_H), s_X0_count_L44 fu b0 b1 b2 y4 x6 h = some ρ → tt_T tt_cl (p, l, e, rm_X0_count, s, m, args, below, meth, c, MQ below (tt_Q tt_cl D ca ad n0 sz false (tt_ret (some (.long ρ.1)) ρ.2)) args s 0 0 (tt_A ad n0 sz), D, ca, tt_A ad n0 sz, 7, some n0) ad 0 0 44 [(0, .ref b0), (1, .ref b1), (2, .ref b2), (4, .long y4), (6, .int x6)] [] h := by
        intro fu
        induction fu with
        | zero => intro b0 b1 b2 y4 x6 h hs; exact absurd hs (by rw [s_X0_count_L44]; exact fun q => by cases q)
        | succ n44 ih =>
          intro b0 b1 b2 y4 x6 h hs
          rw [s_X0_count_L44] at hs
          have t_44 := ih
          refine tt_iload X dX0_count_44 rfl ?_
          refine tt_aload_n X dX0_count_46 rfl ?_
          obtain ⟨o47, f47, hs⟩ := gg_bind hs
          obtain ⟨w47, e47, hs⟩ := gg_bind hs
          refine zr_callV X f47 rfl (c_X2_size l e47) (fun hts => cwV 0 hts gX0_count_X2_size rfl rfl rfl (by decide +kernel) ⟨by decide, by decide⟩) rfl rfl (Nat.le_of_ble_eq_true rfl) dX0_count_47 ⟨Nat.zero_le _, Nat.zero_le _⟩ ?_
          refine tt_icmp_gt (tgt := 77) X dX0_count_50 (by decide) (fun c50 => ?_) (fun c50 => ?_)
          · rw [if_pos c50] at hs
            refine tt_lload X dX0_count_77 rfl ?_
            obtain rfl := Option.some.inj hs
            exact tt_lret X rfl dX0_count_79 ⟨rfl, rfl⟩
          · rw [if_neg c50] at hs
            refine tt_lload X dX0_count_53 rfl ?_
            refine tt_aload_n X dX0_count_55 rfl ?_
            obtain ⟨o56, e56, hs⟩ := gg_bind hs
            refine zr_fr X e56 rfl in_X0_count_X0 (by decide) (by decide +kernel) rfl dX0_count_56 ?_
            refine tt_aload_n X dX0_count_59 rfl ?_
            obtain ⟨o60, f60, hs⟩ := gg_bind hs
            obtain ⟨w60, e60, hs⟩ := gg_bind hs
            refine zr_callV X f60 rfl (c_X2_size l e60) (fun hts => cwV 0 hts gX0_count_X2_size rfl rfl rfl (by decide +kernel) ⟨by decide, by decide⟩) rfl rfl (Nat.le_of_ble_eq_true rfl) dX0_count_60 ⟨Nat.zero_le _, Nat.zero_le _⟩ ?_
            refine tt_iload X dX0_count_63 rfl ?_
            obtain ⟨o65, f65, hs⟩ := gg_bind hs
            obtain ⟨w65, e65, hs⟩ := gg_bind hs
            refine zr_callV X f65 rfl (c_X4_at l e65) (fun hts => cwV 2 hts gX0_count_X4_at rfl rfl rfl (by decide +kernel) ⟨by decide, by decide⟩) rfl rfl (Nat.le_of_ble_eq_true rfl) dX0_count_65 ⟨Nat.zero_le _, Nat.zero_le _⟩ ?_
            refine tt_ladd X dX0_count_68 ?_
            refine tt_lstore X dX0_count_69 (Nat.le_of_ble_eq_true rfl) ?_
            refine tt_iinc (v := x6 + 1) X dX0_count_71 rfl rfl (Nat.le_of_ble_eq_true rfl) ?_
            refine tt_goto (tgt := 44) X dX0_count_74 (by decide) ?_
            refine tt_drop [0, 1, 2, 4, 6] ?_
            exact t_44 b0 b1 b2 (y4 + w65.1) (x6 + 1) w65.2 hs
      refine tt_iload X dX0_count_20 rfl ?_
      refine tt_iload_n X dX0_count_22 rfl ?_
      refine tt_icmp_ge (tgt := 38) X dX0_count_23 (by decide) (fun c23 => ?_) (fun c23 => ?_)
      · rw [if_pos c23] at hs
        refine tt_lconst (v := 0) X dX0_count_38 (by decide) ?_
        refine tt_lstore X dX0_count_39 (Nat.le_of_ble_eq_true rfl) ?_
        refine tt_iconst (v := 0) X dX0_count_41 (by decide) ?_
        refine tt_istore X dX0_count_42 (Nat.le_of_ble_eq_true rfl) ?_
        refine tt_drop [0, 1, 2, 4, 6] ?_
        exact t_44 1000 b0 b1 b2 0 0 h hs
      · rw [if_neg c23] at hs
        refine tt_aload_n X dX0_count_26 rfl ?_
        refine tt_aload_n X dX0_count_27 rfl ?_
        refine tt_aload_n X dX0_count_28 rfl ?_
        obtain ⟨o29, f29, hs⟩ := gg_bind hs
        obtain ⟨w29, e29, hs⟩ := gg_bind hs
        refine zr_callV X f29 rfl (c_X0_goOn l e29) (fun hts => cwV 2 hts gX0_count_X0_goOn rfl rfl rfl (by decide +kernel) ⟨by decide, by decide⟩) rfl rfl (Nat.le_of_ble_eq_true rfl) dX0_count_29 ⟨Nat.zero_le _, Nat.zero_le _⟩ ?_
        refine tt_iinc (v := x4 + 1) X dX0_count_32 rfl rfl (Nat.le_of_ble_eq_true rfl) ?_
        refine tt_goto (tgt := 20) X dX0_count_35 (by decide) ?_
        refine tt_drop [0, 1, 2, 3, 4] ?_
        exact t_20 b0 b1 b2 x3 (x4 + 1) w29.2 hs
  refine tt_aload_n X dX0_count_0 rfl ?_
  obtain ⟨o1, e1, hs⟩ := gg_bind hs
  refine zr_fr X e1 rfl in_X0_count_X0 (by decide) (by decide +kernel) rfl dX0_count_1 ?_
  obtain ⟨o4, f4, hs⟩ := gg_bind hs
  obtain ⟨w4, e4, hs⟩ := gg_bind hs
  refine zr_callV X f4 rfl (c_X4_clear l e4) (fun hts => cwV 0 hts gX0_count_X4_clear rfl rfl rfl (by decide +kernel) ⟨by decide, by decide⟩) rfl rfl (Nat.le_of_ble_eq_true rfl) dX0_count_4 ⟨Nat.zero_le _, Nat.zero_le _⟩ ?_
  refine tt_aload_n X dX0_count_7 rfl ?_
  obtain ⟨o8, e8, hs⟩ := gg_bind hs
  refine zr_fr X e8 rfl in_X0_count_X0 (by decide) (by decide +kernel) rfl dX0_count_8 ?_
  refine tt_iconst (v := 0) X dX0_count_11 (by decide) ?_
  refine tt_iconst (v := 0) X dX0_count_12 (by decide) ?_
  refine tt_lconst (v := 1) X dX0_count_13 (by decide) ?_
  obtain ⟨o14, f14, hs⟩ := gg_bind hs
  obtain ⟨w14, e14, hs⟩ := gg_bind hs
  refine zr_callV X f14 rfl (c_X4_write l e14) (fun hts => cwV 3 hts gX0_count_X4_write rfl rfl rfl (by decide +kernel) ⟨by decide, by decide⟩) rfl rfl (Nat.le_of_ble_eq_true rfl) dX0_count_14 ⟨Nat.zero_le _, Nat.zero_le _⟩ ?_
  refine tt_iconst (v := 0) X dX0_count_17 (by decide) ?_
  refine tt_istore X dX0_count_18 (Nat.le_of_ble_eq_true rfl) ?_
  refine tt_drop [0, 1, 2, 3, 4] ?_
  exact t_20 1000 b0 b1 b2 x3 0 w14.2 hs

theorem in_X1_by_X1 : ∀ w ∈ u_ws RX1 TX1 2, w ∈ wsX1_by := by decide +kernel
def s_X1_by_J41 (b0 : Nat) (x1 : Int32) (x2 : Int32) (x7 : Int32) (ux0 : Int32) (h : tt_H) : Option (Int64 × tt_H) :=
  if x2 = x1 then
    (gg_fr h b0 1 1).bind fun o50 =>
    (gg_obj h o50 4).bind fun _ =>
    (s_X4_at o50 x7 ux0 h).bind fun w57 =>
    some (1 + w57.1, w57.2)
  else
  (gg_fr h b0 1 0).bind fun o64 =>
  (gg_obj h o64 4).bind fun _ =>
  (s_X4_at o64 x7 ux0 h).bind fun w71 =>
  some (1 + w71.1, w71.2)
def s_X1_by_J24 (b0 : Nat) (x1 : Int32) (x2 : Int32) (x5 : Int32) (x6 : Int32) (ux0 : Int32) (h : tt_H) : Option (Int64 × tt_H) :=
  if x5 = x1 then
    s_X1_by_J41 b0 x1 x2 ux0 (x6 + 1) h
  else
  s_X1_by_J41 b0 x1 x2 ux0 x6 h
def s_X1_by (b0 : Nat) (x1 : Int32) (x2 : Int32) (x3 : Int32) (x4 : Int32) (x5 : Int32) (x6 : Int32) (h : tt_H) : Option (Int64 × tt_H) :=
  if x1 = ((-9)) then
    some ((-9), h)
  else
  if x3 = x1 then
    s_X1_by_J24 b0 x1 x2 x5 x6 (x4 + 1) h
  else
  s_X1_by_J24 b0 x1 x2 x5 x6 x4 h
abbrev rm_X1_by : Room := { frames := 2, cells := 0, slots := 0, locals := 43 }
set_option maxHeartbeats 4000000 in
set_option maxRecDepth 100000 in
theorem c_X1_by (l : Launch) {b0 : Nat} {x1 : Int32} {x2 : Int32} {x3 : Int32} {x4 : Int32} {x5 : Int32} {x6 : Int32} {h : tt_H} {ρ : Int64 × tt_H} (hs : s_X1_by b0 x1 x2 x3 x4 x5 x6 h = some ρ) : tt_M tt_cl l yX1_by wsX1_by rm_X1_by 0 0 false [.ref b0, .int x1, .int x2, .int x3, .int x4, .int x5, .int x6] h (tt_ret (some (.long ρ.1)) ρ.2) := by
  refine tt_M.of0 (cc := cX1_by) (maxL := 9) (ret := (some .long)) (by decide +kernel) rfl (Nat.le_of_ble_eq_true rfl) ?_
  intro p e s m args below meth c D ca ad n0 sz hwf hsz X hini
  unfold s_X1_by at hs
  have t_24 : ∀ (b0 : Nat) (x1 : Int32) (x2 : Int32) (x5 : Int32) (x6 : Int32) (ux0 : Int32) (h : tt_H), s_X1_by_J24 b0 x1 x2 x5 x6 ux0 h = some ρ → tt_T tt_cl (p, l, e, rm_X1_by, s, m, args, below, meth, c, MQ below (tt_Q tt_cl D ca ad n0 sz false (tt_ret (some (.long ρ.1)) ρ.2)) args s 0 0 (tt_A ad n0 sz), D, ca, tt_A ad n0 sz, 9, some n0) ad 0 0 24 [(0, .ref b0), (1, .int x1), (2, .int x2), (5, .int x5), (6, .int x6)] [.int ux0] h := by
    intro b0 x1 x2 x5 x6 ux0 h hs
    unfold s_X1_by_J24 at hs
    have t_41 : ∀ (b0 : Nat) (x1 : Int32) (x2 : Int32) (x7 : Int32) (ux0 : Int32) (h : tt_H), s_X1_by_J41 b0 x1 x2 x7 ux0 h = some ρ → tt_T tt_cl (p, l, e, rm_X1_by, s, m, args, below, meth, c, MQ below (tt_Q tt_cl D ca ad n0 sz false (tt_ret (some (.long ρ.1)) ρ.2)) args s 0 0 (tt_A ad n0 sz), D, ca, tt_A ad n0 sz, 9, some n0) ad 0 0 41 [(0, .ref b0), (1, .int x1), (2, .int x2), (7, .int x7)] [.int ux0] h := by
      intro b0 x1 x2 x7 ux0 h hs
      unfold s_X1_by_J41 at hs
      refine tt_istore X dX1_by_41 (Nat.le_of_ble_eq_true rfl) ?_
      refine tt_lconst (v := 1) X dX1_by_43 (by decide) ?_
      refine tt_iload_n X dX1_by_44 rfl ?_
      refine tt_iload_n X dX1_by_45 rfl ?_
      refine tt_icmp_ne (tgt := 63) X dX1_by_46 (by decide) (fun c46 => ?_) (fun c46 => ?_)
      · rw [if_neg c46] at hs
        refine tt_aload_n X dX1_by_63 rfl ?_
        obtain ⟨o64, e64, hs⟩ := gg_bind hs
        refine zr_fr X e64 rfl in_X1_by_X1 (by decide) (by decide +kernel) rfl dX1_by_64 ?_
        refine tt_iload X dX1_by_67 rfl ?_
        refine tt_iload X dX1_by_69 rfl ?_
        obtain ⟨o71, f71, hs⟩ := gg_bind hs
        obtain ⟨w71, e71, hs⟩ := gg_bind hs
        refine zr_callV X f71 rfl (c_X4_at l e71) (fun hts => cwV 2 hts gX1_by_X4_at rfl rfl rfl (by decide +kernel) ⟨by decide, by decide⟩) rfl rfl (Nat.le_of_ble_eq_true rfl) dX1_by_71 ⟨Nat.zero_le _, Nat.zero_le _⟩ ?_
        refine tt_ladd X dX1_by_74 ?_
        obtain rfl := Option.some.inj hs
        exact tt_lret X rfl dX1_by_75 ⟨rfl, rfl⟩
      · rw [if_pos c46] at hs
        refine tt_aload_n X dX1_by_49 rfl ?_
        obtain ⟨o50, e50, hs⟩ := gg_bind hs
        refine zr_fr X e50 rfl in_X1_by_X1 (by decide) (by decide +kernel) rfl dX1_by_50 ?_
        refine tt_iload X dX1_by_53 rfl ?_
        refine tt_iload X dX1_by_55 rfl ?_
        obtain ⟨o57, f57, hs⟩ := gg_bind hs
        obtain ⟨w57, e57, hs⟩ := gg_bind hs
        refine zr_callV X f57 rfl (c_X4_at l e57) (fun hts => cwV 2 hts gX1_by_X4_at rfl rfl rfl (by decide +kernel) ⟨by decide, by decide⟩) rfl rfl (Nat.le_of_ble_eq_true rfl) dX1_by_57 ⟨Nat.zero_le _, Nat.zero_le _⟩ ?_
        refine tt_goto (tgt := 74) X dX1_by_60 (by decide) ?_
        refine tt_ladd X dX1_by_74 ?_
        obtain rfl := Option.some.inj hs
        exact tt_lret X rfl dX1_by_75 ⟨rfl, rfl⟩
    refine tt_istore X dX1_by_24 (Nat.le_of_ble_eq_true rfl) ?_
    refine tt_iload X dX1_by_26 rfl ?_
    refine tt_iload_n X dX1_by_28 rfl ?_
    refine tt_icmp_ne (tgt := 39) X dX1_by_29 (by decide) (fun c29 => ?_) (fun c29 => ?_)
    · rw [if_neg c29] at hs
      refine tt_iload X dX1_by_39 rfl ?_
      refine tt_drop [0, 1, 2, 7] ?_
      exact t_41 b0 x1 x2 ux0 x6 h hs
    · rw [if_pos c29] at hs
      refine tt_iload X dX1_by_32 rfl ?_
      refine tt_iconst (v := 1) X dX1_by_34 (by decide) ?_
      refine tt_iadd X dX1_by_35 ?_
      refine tt_goto (tgt := 41) X dX1_by_36 (by decide) ?_
      refine tt_drop [0, 1, 2, 7] ?_
      exact t_41 b0 x1 x2 ux0 (x6 + 1) h hs
  refine tt_iload_n X dX1_by_0 rfl ?_
  refine tt_bipush (v := (-9)) X dX1_by_1 (by decide) ?_
  refine tt_icmp_ne (tgt := 10) X dX1_by_3 (by decide) (fun c3 => ?_) (fun c3 => ?_)
  · rw [if_neg c3] at hs
    refine tt_iload_n X dX1_by_10 rfl ?_
    refine tt_iload_n X dX1_by_11 rfl ?_
    refine tt_icmp_ne (tgt := 22) X dX1_by_12 (by decide) (fun c12 => ?_) (fun c12 => ?_)
    · rw [if_neg c12] at hs
      refine tt_iload X dX1_by_22 rfl ?_
      refine tt_drop [0, 1, 2, 5, 6] ?_
      exact t_24 b0 x1 x2 x5 x6 x4 h hs
    · rw [if_pos c12] at hs
      refine tt_iload X dX1_by_15 rfl ?_
      refine tt_iconst (v := 1) X dX1_by_17 (by decide) ?_
      refine tt_iadd X dX1_by_18 ?_
      refine tt_goto (tgt := 24) X dX1_by_19 (by decide) ?_
      refine tt_drop [0, 1, 2, 5, 6] ?_
      exact t_24 b0 x1 x2 x5 x6 (x4 + 1) h hs
  · rw [if_pos c3] at hs
    refine tt_ldc2 (v := (-9)) X (by decide +kernel) dX1_by_6 ?_
    obtain rfl := Option.some.inj hs
    exact tt_lret X rfl dX1_by_9 ⟨rfl, rfl⟩

def s_X1_shorter_J16 (y0 : Int64) (y2 : Int64) (h : tt_H) : Option (Int64 × tt_H) :=
  some (if y2 < y0 then y0 else y2, h)
def s_X1_shorter (y0 : Int64) (y2 : Int64) (h : tt_H) : Option (Int64 × tt_H) :=
  if (lg_cmp y0 ((-9))) = 0 then
    s_X1_shorter_J16 y0 y2 h
  else
  if (lg_cmp y2 ((-9))) = 0 then
    s_X1_shorter_J16 y0 y2 h
  else
  some (if y2 < y0 then y2 else y0, h)
abbrev rm_X1_shorter : Room := { frames := 1, cells := 0, slots := 0, locals := 23 }
set_option maxHeartbeats 4000000 in
set_option maxRecDepth 100000 in
theorem c_X1_shorter (l : Launch) {y0 : Int64} {y2 : Int64} {h : tt_H} {ρ : Int64 × tt_H} (hs : s_X1_shorter y0 y2 h = some ρ) : tt_M tt_cl l yX1_shorter wsX1_shorter rm_X1_shorter 0 0 false [.long y0, .long y2] h (tt_ret (some (.long ρ.1)) ρ.2) := by
  refine tt_M.of0 (cc := cX1_shorter) (maxL := 4) (ret := (some .long)) (by decide +kernel) rfl (Nat.le_of_ble_eq_true rfl) ?_
  intro p e s m args below meth c D ca ad n0 sz hwf hsz X hini
  unfold s_X1_shorter at hs
  have t_16 : ∀ (y0 : Int64) (y2 : Int64) (h : tt_H), s_X1_shorter_J16 y0 y2 h = some ρ → tt_T tt_cl (p, l, e, rm_X1_shorter, s, m, args, below, meth, c, MQ below (tt_Q tt_cl D ca ad n0 sz false (tt_ret (some (.long ρ.1)) ρ.2)) args s 0 0 (tt_A ad n0 sz), D, ca, tt_A ad n0 sz, 4, some n0) ad 0 0 16 [(0, .long y0), (2, .long y2)] [] h := by
    intro y0 y2 h hs
    unfold s_X1_shorter_J16 at hs
    refine tt_lload_n X dX1_shorter_16 rfl ?_
    refine tt_lload_n X dX1_shorter_17 rfl ?_
    refine zr_lmax X (by decide +kernel) (by decide +kernel) (by decide +kernel) (by decide +kernel) (by decide) (Nat.le_of_ble_eq_true rfl) (Nat.zero_le _) (Nat.zero_le _) dX1_shorter_18 ?_
    obtain rfl := Option.some.inj hs
    exact tt_lret X rfl dX1_shorter_21 ⟨rfl, rfl⟩
  refine tt_lload_n X dX1_shorter_0 rfl ?_
  refine tt_ldc2 (v := (-9)) X (by decide +kernel) dX1_shorter_1 ?_
  refine tt_lcmp X dX1_shorter_4 ?_
  refine tt_if_eq (tgt := 16) X dX1_shorter_5 (by decide) (fun c5 => ?_) (fun c5 => ?_)
  · rw [if_pos c5] at hs
    refine tt_drop [0, 2] ?_
    exact t_16 y0 y2 h hs
  · rw [if_neg c5] at hs
    refine tt_lload_n X dX1_shorter_8 rfl ?_
    refine tt_ldc2 (v := (-9)) X (by decide +kernel) dX1_shorter_9 ?_
    refine tt_lcmp X dX1_shorter_12 ?_
    refine tt_if_ne (tgt := 22) X dX1_shorter_13 (by decide) (fun c13 => ?_) (fun c13 => ?_)
    · rw [if_neg c13] at hs
      refine tt_lload_n X dX1_shorter_22 rfl ?_
      refine tt_lload_n X dX1_shorter_23 rfl ?_
      refine zr_lmin X (by decide +kernel) (by decide +kernel) (by decide +kernel) (by decide +kernel) (by decide) (Nat.le_of_ble_eq_true rfl) (Nat.zero_le _) (Nat.zero_le _) dX1_shorter_24 ?_
      obtain rfl := Option.some.inj hs
      exact tt_lret X rfl dX1_shorter_27 ⟨rfl, rfl⟩
    · rw [if_pos c13] at hs
      refine tt_drop [0, 2] ?_
      exact t_16 y0 y2 h hs

def s_X1_lengthAt (b0 : Nat) (x1 : Int32) (x2 : Int32) (x3 : Int32) (x4 : Int32) (x5 : Int32) (h : tt_H) : Option (Int64 × tt_H) :=
  (gg_obj h b0 1).bind fun _ =>
  (s_X1_by b0 x1 x1 x2 x3 x4 x5 h).bind fun w9 =>
  (gg_obj w9.2 b0 1).bind fun _ =>
  (s_X1_by b0 x2 x1 x2 x3 x4 x5 w9.2).bind fun w21 =>
  (s_X1_shorter w9.1 w21.1 w21.2).bind fun w24 =>
  (gg_obj w24.2 b0 1).bind fun _ =>
  (s_X1_by b0 x4 x1 x2 x3 x4 x5 w24.2).bind fun w41 =>
  (s_X1_shorter w24.1 w41.1 w41.2).bind fun w44 =>
  if (lg_cmp w44.1 ((-9))) = 0 then
    some (0, w44.2)
  else
  some (w44.1, w44.2)
abbrev rm_X1_lengthAt : Room := { frames := 3, cells := 0, slots := 0, locals := 71 }
set_option maxHeartbeats 4000000 in
set_option maxRecDepth 100000 in
theorem c_X1_lengthAt (l : Launch) {b0 : Nat} {x1 : Int32} {x2 : Int32} {x3 : Int32} {x4 : Int32} {x5 : Int32} {h : tt_H} {ρ : Int64 × tt_H} (hs : s_X1_lengthAt b0 x1 x2 x3 x4 x5 h = some ρ) : tt_M tt_cl l yX1_lengthAt wsX1_lengthAt rm_X1_lengthAt 0 0 false [.ref b0, .int x1, .int x2, .int x3, .int x4, .int x5] h (tt_ret (some (.long ρ.1)) ρ.2) := by
  refine tt_M.of0 (cc := cX1_lengthAt) (maxL := 8) (ret := (some .long)) (by decide +kernel) rfl (Nat.le_of_ble_eq_true rfl) ?_
  intro p e s m args below meth c D ca ad n0 sz hwf hsz X hini
  unfold s_X1_lengthAt at hs
  refine tt_aload_n X dX1_lengthAt_0 rfl ?_
  refine tt_iload_n X dX1_lengthAt_1 rfl ?_
  refine tt_iload_n X dX1_lengthAt_2 rfl ?_
  refine tt_iload_n X dX1_lengthAt_3 rfl ?_
  refine tt_iload_n X dX1_lengthAt_4 rfl ?_
  refine tt_iload X dX1_lengthAt_5 rfl ?_
  refine tt_iload X dX1_lengthAt_7 rfl ?_
  obtain ⟨o9, f9, hs⟩ := gg_bind hs
  obtain ⟨w9, e9, hs⟩ := gg_bind hs
  refine zr_callV X f9 rfl (c_X1_by l e9) (fun hts => cwV 6 hts gX1_lengthAt_X1_by rfl rfl rfl (by decide +kernel) ⟨by decide, by decide⟩) rfl rfl (Nat.le_of_ble_eq_true rfl) dX1_lengthAt_9 ⟨Nat.zero_le _, Nat.zero_le _⟩ ?_
  refine tt_aload_n X dX1_lengthAt_12 rfl ?_
  refine tt_iload_n X dX1_lengthAt_13 rfl ?_
  refine tt_iload_n X dX1_lengthAt_14 rfl ?_
  refine tt_iload_n X dX1_lengthAt_15 rfl ?_
  refine tt_iload_n X dX1_lengthAt_16 rfl ?_
  refine tt_iload X dX1_lengthAt_17 rfl ?_
  refine tt_iload X dX1_lengthAt_19 rfl ?_
  obtain ⟨o21, f21, hs⟩ := gg_bind hs
  obtain ⟨w21, e21, hs⟩ := gg_bind hs
  refine zr_callV X f21 rfl (c_X1_by l e21) (fun hts => cwV 6 hts gX1_lengthAt_X1_by rfl rfl rfl (by decide +kernel) ⟨by decide, by decide⟩) rfl rfl (Nat.le_of_ble_eq_true rfl) dX1_lengthAt_21 ⟨Nat.zero_le _, Nat.zero_le _⟩ ?_
  obtain ⟨w24, e24, hs⟩ := gg_bind hs
  refine zr_callS X (c_X1_shorter l e24) (fun hts => va_cwS 2 hts gX1_lengthAt_X1_shorter rfl rfl rfl (by decide +kernel) ⟨by decide, by decide⟩) rfl rfl (Nat.le_of_ble_eq_true rfl) dX1_lengthAt_24 ⟨Nat.zero_le _, Nat.zero_le _⟩ ?_
  refine tt_lstore X dX1_lengthAt_27 (Nat.le_of_ble_eq_true rfl) ?_
  refine tt_lload X dX1_lengthAt_29 rfl ?_
  refine tt_aload_n X dX1_lengthAt_31 rfl ?_
  refine tt_iload X dX1_lengthAt_32 rfl ?_
  refine tt_iload_n X dX1_lengthAt_34 rfl ?_
  refine tt_iload_n X dX1_lengthAt_35 rfl ?_
  refine tt_iload_n X dX1_lengthAt_36 rfl ?_
  refine tt_iload X dX1_lengthAt_37 rfl ?_
  refine tt_iload X dX1_lengthAt_39 rfl ?_
  obtain ⟨o41, f41, hs⟩ := gg_bind hs
  obtain ⟨w41, e41, hs⟩ := gg_bind hs
  refine zr_callV X f41 rfl (c_X1_by l e41) (fun hts => cwV 6 hts gX1_lengthAt_X1_by rfl rfl rfl (by decide +kernel) ⟨by decide, by decide⟩) rfl rfl (Nat.le_of_ble_eq_true rfl) dX1_lengthAt_41 ⟨Nat.zero_le _, Nat.zero_le _⟩ ?_
  obtain ⟨w44, e44, hs⟩ := gg_bind hs
  refine zr_callS X (c_X1_shorter l e44) (fun hts => va_cwS 2 hts gX1_lengthAt_X1_shorter rfl rfl rfl (by decide +kernel) ⟨by decide, by decide⟩) rfl rfl (Nat.le_of_ble_eq_true rfl) dX1_lengthAt_44 ⟨Nat.zero_le _, Nat.zero_le _⟩ ?_
  refine tt_lstore X dX1_lengthAt_47 (Nat.le_of_ble_eq_true rfl) ?_
  refine tt_lload X dX1_lengthAt_49 rfl ?_
  refine tt_ldc2 (v := (-9)) X (by decide +kernel) dX1_lengthAt_51 ?_
  refine tt_lcmp X dX1_lengthAt_54 ?_
  refine tt_if_ne (tgt := 62) X dX1_lengthAt_55 (by decide) (fun c55 => ?_) (fun c55 => ?_)
  · rw [if_neg c55] at hs
    refine tt_lload X dX1_lengthAt_62 rfl ?_
    obtain rfl := Option.some.inj hs
    exact tt_lret X rfl dX1_lengthAt_64 ⟨rfl, rfl⟩
  · rw [if_pos c55] at hs
    refine tt_lconst (v := 0) X dX1_lengthAt_58 (by decide) ?_
    refine tt_goto (tgt := 64) X dX1_lengthAt_59 (by decide) ?_
    obtain rfl := Option.some.inj hs
    exact tt_lret X rfl dX1_lengthAt_64 ⟨rfl, rfl⟩

theorem in_X1_length_X1 : ∀ w ∈ u_ws RX1 TX1 2, w ∈ wsX1_length := by decide +kernel
def s_X1_length_L48 (κ37 : Nat → Nat → Nat → Nat → Int32 → Int32 → tt_H → Option (Int32 × tt_H)) : Nat → Nat → Nat → Nat → Nat → Int32 → Int32 → Int32 → tt_H → Option (Int32 × tt_H)
  | 0, _, _, _, _, _, _, _, _ => none
  | n + 1, b0, b1, b2, b3, x4, x6, x7, h =>
    if x7 < 0 then
      κ37 b0 b1 b2 b3 x4 (x6 + (-1)) h
    else
    (gg_fr h b0 1 0).bind fun o54 =>
    (gg_obj h b1 2).bind fun _ =>
    (s_X2_at b1 x4 h).bind fun w65 =>
    (gg_obj w65.2 b2 2).bind fun _ =>
    (s_X2_at b2 x6 w65.2).bind fun w71 =>
    (gg_obj w71.2 b3 2).bind fun _ =>
    (s_X2_at b3 x7 w71.2).bind fun w79 =>
    (gg_obj w79.2 b0 1).bind fun _ =>
    (s_X1_lengthAt b0 w65.1 w71.1 x6 w79.1 x7 w79.2).bind fun w84 =>
    (gg_obj w84.2 o54 4).bind fun _ =>
    (s_X4_write o54 x6 x7 w84.1 w84.2).bind fun w87 =>
    s_X1_length_L48 κ37 n b0 b1 b2 b3 x4 x6 (x7 + (-1)) w87.2
def s_X1_length_L37 (κ6 : Nat → Nat → Nat → Nat → Int32 → tt_H → Option (Int32 × tt_H)) : Nat → Nat → Nat → Nat → Nat → Int32 → Int32 → tt_H → Option (Int32 × tt_H)
  | 0, _, _, _, _, _, _, _ => none
  | n + 1, b0, b1, b2, b3, x4, x6, h =>
    if x6 < 0 then
      κ6 b0 b1 b2 b3 (x4 + (-1)) h
    else
    (gg_obj h b3 2).bind fun _ =>
    (s_X2_size b3 h).bind fun w43 =>
    s_X1_length_L48 (s_X1_length_L37 κ6 n) 1000 b0 b1 b2 b3 x4 x6 w43.1 w43.2
def s_X1_length_L6 : Nat → Nat → Nat → Nat → Nat → Int32 → tt_H → Option (Int32 × tt_H)
  | 0, _, _, _, _, _, _ => none
  | n + 1, b0, b1, b2, b3, x4, h =>
    if x4 < 0 then
      (gg_fr h b0 1 0).bind fun o109 =>
      (gg_obj h o109 4).bind fun _ =>
      (s_X4_at o109 0 0 h).bind fun w114 =>
      some (w114.1.toInt32, w114.2)
    else
    (gg_fr h b0 1 1).bind fun o12 =>
    (gg_fr h b0 1 0).bind fun o19 =>
    (gg_put h b0 1 1 (.ref o19)).bind fun h22 =>
    (gg_put h22 b0 1 0 (.ref o12)).bind fun h28 =>
    (gg_obj h28 b2 2).bind fun _ =>
    (s_X2_size b2 h28).bind fun w32 =>
    s_X1_length_L37 (s_X1_length_L6 n) 1000 b0 b1 b2 b3 x4 w32.1 w32.2
def s_X1_length (b0 : Nat) (b1 : Nat) (b2 : Nat) (b3 : Nat) (h : tt_H) : Option (Int32 × tt_H) :=
  (gg_obj h b1 2).bind fun _ =>
  (s_X2_size b1 h).bind fun w1 =>
  s_X1_length_L6 1000 b0 b1 b2 b3 w1.1 w1.2
abbrev rm_X1_length : Room := { frames := 4, cells := 0, slots := 0, locals := 98 }
set_option maxHeartbeats 4000000 in
set_option maxRecDepth 100000 in
theorem c_X1_length (l : Launch) {b0 : Nat} {b1 : Nat} {b2 : Nat} {b3 : Nat} {h : tt_H} {ρ : Int32 × tt_H} (hs : s_X1_length b0 b1 b2 b3 h = some ρ) : tt_M tt_cl l yX1_length wsX1_length rm_X1_length 0 0 false [.ref b0, .ref b1, .ref b2, .ref b3] h (tt_ret (some (.int ρ.1)) ρ.2) := by
  refine tt_M.of0 (cc := cX1_length) (maxL := 8) (ret := (some .int)) (by decide +kernel) rfl (Nat.le_of_ble_eq_true rfl) ?_
  intro p e s m args below meth c D ca ad n0 sz hwf hsz X hini
  unfold s_X1_length at hs
  have t_6 : ∀ (fu : Nat) (b0 : Nat) (b1 : Nat) (b2 : Nat) (b3 : Nat) (x4 : Int32) (h : tt_H), s_X1_length_L6 fu b0 b1 b2 b3 x4 h = some ρ → tt_T tt_cl (p, l, e, rm_X1_length, s, m, args, below, meth, c, MQ below (tt_Q tt_cl D ca ad n0 sz false (tt_ret (some (.int ρ.1)) ρ.2)) args s 0 0 (tt_A ad n0 sz), D, ca, tt_A ad n0 sz, 8, some n0) ad 0 0 6 [(0, .ref b0), (1, .ref b1), (2, .ref b2), (3, .ref b3), (4, .int x4)] [] h := by
    intro fu
    induction fu with
    | zero => intro b0 b1 b2 b3 x4 h hs; exact absurd hs (by rw [s_X1_length_L6]; exact fun q => by cases q)
    | succ n6 ih =>
      intro b0 b1 b2 b3 x4 h hs
      rw [s_X1_length_L6] at hs
      have t_6 := ih
      have t_37 : ∀ (fu : Nat) (b0 : Nat) (b1 : Nat) (b2 : Nat) (b3 : Nat) (x4 : Int32) (x6 : Int32) (h : tt_H), s_X1_length_L37 (s_X1_length_L6 n6) fu b0 b1 b2 b3 x4 x6 h = some ρ → tt_T tt_cl (p, l, e, rm_X1_length, s, m, args, below, meth, c, MQ below (tt_Q tt_cl D ca ad n0 sz false (tt_ret (some (.int ρ.1)) ρ.2)) args s 0 0 (tt_A ad n0 sz), D, ca, tt_A ad n0 sz, 8, some n0) ad 0 0 37 [(0, .ref b0), (1, .ref b1), (2, .ref b2), (3, .ref b3), (4, .int x4), (6, .int x6)] [] h := by
        intro fu
        induction fu with
        | zero => intro b0 b1 b2 b3 x4 x6 h hs; exact absurd hs (by rw [s_X1_length_L37]; exact fun q => by cases q)
        | succ n37 ih =>
          intro b0 b1 b2 b3 x4 x6 h hs
          rw [s_X1_length_L37] at hs
          have t_37 := ih
          have t_48 : ∀ (fu : Nat) (b0 : Nat) (b1 : Nat) (b2 : Nat) (b3 : Nat) (x4 : Int32) (x6 : Int32) (x7 : Int32) (h : tt_H), s_X1_length_L48 (s_X1_length_L37 (s_X1_length_L6 n6) n37) fu b0 b1 b2 b3 x4 x6 x7 h = some ρ → tt_T tt_cl (p, l, e, rm_X1_length, s, m, args, below, meth, c, MQ below (tt_Q tt_cl D ca ad n0 sz false (tt_ret (some (.int ρ.1)) ρ.2)) args s 0 0 (tt_A ad n0 sz), D, ca, tt_A ad n0 sz, 8, some n0) ad 0 0 48 [(0, .ref b0), (1, .ref b1), (2, .ref b2), (3, .ref b3), (4, .int x4), (6, .int x6), (7, .int x7)] [] h := by
            intro fu
            induction fu with
            | zero => intro b0 b1 b2 b3 x4 x6 x7 h hs; exact absurd hs (by rw [s_X1_length_L48]; exact fun q => by cases q)
            | succ n48 ih =>
              intro b0 b1 b2 b3 x4 x6 x7 h hs
              rw [s_X1_length_L48] at hs
              have t_48 := ih
              refine tt_iload X dX1_length_48 rfl ?_
              refine tt_if_lt (tgt := 96) X dX1_length_50 (by decide) (fun c50 => ?_) (fun c50 => ?_)
              · rw [if_pos c50] at hs
                refine tt_iinc (v := x6 + (-1)) X dX1_length_96 rfl rfl (Nat.le_of_ble_eq_true rfl) ?_
                refine tt_goto (tgt := 37) X dX1_length_99 (by decide) ?_
                refine tt_drop [0, 1, 2, 3, 4, 6] ?_
                exact t_37 b0 b1 b2 b3 x4 (x6 + (-1)) h hs
              · rw [if_neg c50] at hs
                refine tt_aload_n X dX1_length_53 rfl ?_
                obtain ⟨o54, e54, hs⟩ := gg_bind hs
                refine zr_fr X e54 rfl in_X1_length_X1 (by decide) (by decide +kernel) rfl dX1_length_54 ?_
                refine tt_iload X dX1_length_57 rfl ?_
                refine tt_iload X dX1_length_59 rfl ?_
                refine tt_aload_n X dX1_length_61 rfl ?_
                refine tt_aload_n X dX1_length_62 rfl ?_
                refine tt_iload X dX1_length_63 rfl ?_
                obtain ⟨o65, f65, hs⟩ := gg_bind hs
                obtain ⟨w65, e65, hs⟩ := gg_bind hs
                refine zr_callV X f65 rfl (c_X2_at l e65) (fun hts => cwV 1 hts gX1_length_X2_at rfl rfl rfl (by decide +kernel) ⟨by decide, by decide⟩) rfl rfl (Nat.le_of_ble_eq_true rfl) dX1_length_65 ⟨Nat.zero_le _, Nat.zero_le _⟩ ?_
                refine tt_aload_n X dX1_length_68 rfl ?_
                refine tt_iload X dX1_length_69 rfl ?_
                obtain ⟨o71, f71, hs⟩ := gg_bind hs
                obtain ⟨w71, e71, hs⟩ := gg_bind hs
                refine zr_callV X f71 rfl (c_X2_at l e71) (fun hts => cwV 1 hts gX1_length_X2_at rfl rfl rfl (by decide +kernel) ⟨by decide, by decide⟩) rfl rfl (Nat.le_of_ble_eq_true rfl) dX1_length_71 ⟨Nat.zero_le _, Nat.zero_le _⟩ ?_
                refine tt_iload X dX1_length_74 rfl ?_
                refine tt_aload_n X dX1_length_76 rfl ?_
                refine tt_iload X dX1_length_77 rfl ?_
                obtain ⟨o79, f79, hs⟩ := gg_bind hs
                obtain ⟨w79, e79, hs⟩ := gg_bind hs
                refine zr_callV X f79 rfl (c_X2_at l e79) (fun hts => cwV 1 hts gX1_length_X2_at rfl rfl rfl (by decide +kernel) ⟨by decide, by decide⟩) rfl rfl (Nat.le_of_ble_eq_true rfl) dX1_length_79 ⟨Nat.zero_le _, Nat.zero_le _⟩ ?_
                refine tt_iload X dX1_length_82 rfl ?_
                obtain ⟨o84, f84, hs⟩ := gg_bind hs
                obtain ⟨w84, e84, hs⟩ := gg_bind hs
                refine zr_callV X f84 rfl (c_X1_lengthAt l e84) (fun hts => cwV 5 hts gX1_length_X1_lengthAt rfl rfl rfl (by decide +kernel) ⟨by decide, by decide⟩) rfl rfl (Nat.le_of_ble_eq_true rfl) dX1_length_84 ⟨Nat.zero_le _, Nat.zero_le _⟩ ?_
                obtain ⟨o87, f87, hs⟩ := gg_bind hs
                obtain ⟨w87, e87, hs⟩ := gg_bind hs
                refine zr_callV X f87 rfl (c_X4_write l e87) (fun hts => cwV 3 hts gX1_length_X4_write rfl rfl rfl (by decide +kernel) ⟨by decide, by decide⟩) rfl rfl (Nat.le_of_ble_eq_true rfl) dX1_length_87 ⟨Nat.zero_le _, Nat.zero_le _⟩ ?_
                refine tt_iinc (v := x7 + (-1)) X dX1_length_90 rfl rfl (Nat.le_of_ble_eq_true rfl) ?_
                refine tt_goto (tgt := 48) X dX1_length_93 (by decide) ?_
                refine tt_drop [0, 1, 2, 3, 4, 6, 7] ?_
                exact t_48 b0 b1 b2 b3 x4 x6 (x7 + (-1)) w87.2 hs
          refine tt_iload X dX1_length_37 rfl ?_
          refine tt_if_lt (tgt := 102) X dX1_length_39 (by decide) (fun c39 => ?_) (fun c39 => ?_)
          · rw [if_pos c39] at hs
            refine tt_iinc (v := x4 + (-1)) X dX1_length_102 rfl rfl (Nat.le_of_ble_eq_true rfl) ?_
            refine tt_goto (tgt := 6) X dX1_length_105 (by decide) ?_
            refine tt_drop [0, 1, 2, 3, 4] ?_
            exact t_6 b0 b1 b2 b3 (x4 + (-1)) h hs
          · rw [if_neg c39] at hs
            refine tt_aload_n X dX1_length_42 rfl ?_
            obtain ⟨o43, f43, hs⟩ := gg_bind hs
            obtain ⟨w43, e43, hs⟩ := gg_bind hs
            refine zr_callV X f43 rfl (c_X2_size l e43) (fun hts => cwV 0 hts gX1_length_X2_size rfl rfl rfl (by decide +kernel) ⟨by decide, by decide⟩) rfl rfl (Nat.le_of_ble_eq_true rfl) dX1_length_43 ⟨Nat.zero_le _, Nat.zero_le _⟩ ?_
            refine tt_istore X dX1_length_46 (Nat.le_of_ble_eq_true rfl) ?_
            refine tt_drop [0, 1, 2, 3, 4, 6, 7] ?_
            exact t_48 1000 b0 b1 b2 b3 x4 x6 w43.1 w43.2 hs
      refine tt_iload X dX1_length_6 rfl ?_
      refine tt_if_lt (tgt := 108) X dX1_length_8 (by decide) (fun c8 => ?_) (fun c8 => ?_)
      · rw [if_pos c8] at hs
        refine tt_aload_n X dX1_length_108 rfl ?_
        obtain ⟨o109, e109, hs⟩ := gg_bind hs
        refine zr_fr X e109 rfl in_X1_length_X1 (by decide) (by decide +kernel) rfl dX1_length_109 ?_
        refine tt_iconst (v := 0) X dX1_length_112 (by decide) ?_
        refine tt_iconst (v := 0) X dX1_length_113 (by decide) ?_
        obtain ⟨o114, f114, hs⟩ := gg_bind hs
        obtain ⟨w114, e114, hs⟩ := gg_bind hs
        refine zr_callV X f114 rfl (c_X4_at l e114) (fun hts => cwV 2 hts gX1_length_X4_at rfl rfl rfl (by decide +kernel) ⟨by decide, by decide⟩) rfl rfl (Nat.le_of_ble_eq_true rfl) dX1_length_114 ⟨Nat.zero_le _, Nat.zero_le _⟩ ?_
        refine tt_l2i X dX1_length_117 ?_
        obtain rfl := Option.some.inj hs
        exact tt_iret X rfl dX1_length_118 ⟨rfl, rfl⟩
      · rw [if_neg c8] at hs
        refine tt_aload_n X dX1_length_11 rfl ?_
        obtain ⟨o12, e12, hs⟩ := gg_bind hs
        refine zr_fr X e12 rfl in_X1_length_X1 (by decide) (by decide +kernel) rfl dX1_length_12 ?_
        refine tt_astore X dX1_length_15 (Nat.le_of_ble_eq_true rfl) ?_
        refine tt_aload_n X dX1_length_17 rfl ?_
        refine tt_aload_n X dX1_length_18 rfl ?_
        obtain ⟨o19, e19, hs⟩ := gg_bind hs
        refine zr_fr X e19 rfl in_X1_length_X1 (by decide) (by decide +kernel) rfl dX1_length_19 ?_
        obtain ⟨h22, e22, hs⟩ := gg_bind hs
        refine zr_put X e22 rfl in_X1_length_X1 tyX1 tyX1_ok nmX1 (by decide) (by decide +kernel) rfl rfl (fun _ => rfl) (fun _ => rfl) dX1_length_22 ?_
        refine tt_aload_n X dX1_length_25 rfl ?_
        refine tt_aload X dX1_length_26 rfl ?_
        obtain ⟨h28, e28, hs⟩ := gg_bind hs
        refine zr_put X e28 rfl in_X1_length_X1 tyX1 tyX1_ok nmX1 (by decide) (by decide +kernel) rfl rfl (fun _ => rfl) (fun _ => rfl) dX1_length_28 ?_
        refine tt_aload_n X dX1_length_31 rfl ?_
        obtain ⟨o32, f32, hs⟩ := gg_bind hs
        obtain ⟨w32, e32, hs⟩ := gg_bind hs
        refine zr_callV X f32 rfl (c_X2_size l e32) (fun hts => cwV 0 hts gX1_length_X2_size rfl rfl rfl (by decide +kernel) ⟨by decide, by decide⟩) rfl rfl (Nat.le_of_ble_eq_true rfl) dX1_length_32 ⟨Nat.zero_le _, Nat.zero_le _⟩ ?_
        refine tt_istore X dX1_length_35 (Nat.le_of_ble_eq_true rfl) ?_
        refine tt_drop [0, 1, 2, 3, 4, 6] ?_
        exact t_37 1000 b0 b1 b2 b3 x4 w32.1 w32.2 hs
  refine tt_aload_n X dX1_length_0 rfl ?_
  obtain ⟨o1, f1, hs⟩ := gg_bind hs
  obtain ⟨w1, e1, hs⟩ := gg_bind hs
  refine zr_callV X f1 rfl (c_X2_size l e1) (fun hts => cwV 0 hts gX1_length_X2_size rfl rfl rfl (by decide +kernel) ⟨by decide, by decide⟩) rfl rfl (Nat.le_of_ble_eq_true rfl) dX1_length_1 ⟨Nat.zero_le _, Nat.zero_le _⟩ ?_
  refine tt_istore X dX1_length_4 (Nat.le_of_ble_eq_true rfl) ?_
  refine tt_drop [0, 1, 2, 3, 4] ?_
  exact t_6 1000 b0 b1 b2 b3 w1.1 w1.2 hs
