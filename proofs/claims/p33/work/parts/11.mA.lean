def s_J7_fill_53178_L5 : Nat → Nat → Int32 → Int32 → Int32 → tt_H → Option (Unit × tt_H)
  | 0, _, _, _, _, _ => none
  | n + 1, b0, x1, x2, x3, h =>
    if x3 ≤ x2 then
      some ((), h)
    else
    (gg_is h b0 x2 x1).bind fun h13 =>
    s_J7_fill_53178_L5 n b0 x1 (x2 + 1) x3 h13
def s_J7_fill_53178 (b0 : Nat) (x1 : Int32) (h : tt_H) : Option (Unit × tt_H) :=
  (gg_len h b0).bind fun z3 =>
  s_J7_fill_53178_L5 1000 b0 x1 0 z3 h
abbrev rm_J7_fill_53178 : Room := { frames := 0, cells := 0, slots := 0, locals := 0 }
set_option maxHeartbeats 4000000 in
set_option maxRecDepth 100000 in
theorem c_J7_fill_53178 (l : Launch) {b0 : Nat} {x1 : Int32} {h : tt_H} {ρ : Unit × tt_H} (hs : s_J7_fill_53178 b0 x1 h = some ρ) : tt_M tt_cl l yJ7_fill_53178 wsJ7_fill_53178 rm_J7_fill_53178 0 0 false [.ref b0, .int x1] h (tt_ret (none) ρ.2) := by
  refine tt_M.of0 (cc := cJ7_fill_53178) (maxL := 4) (ret := none) (by decide +kernel) rfl (Nat.le_of_ble_eq_true rfl) ?_
  intro p e s m args below meth c D ca ad n0 sz hwf hsz X hini
  unfold s_J7_fill_53178 at hs
  have t_5 : ∀ (fu : Nat) (b0 : Nat) (x1 : Int32) (x2 : Int32) (x3 : Int32) (h : tt_H), s_J7_fill_53178_L5 fu b0 x1 x2 x3 h = some ρ → tt_T tt_cl (p, l, e, rm_J7_fill_53178, s, m, args, below, meth, c, MQ below (tt_Q tt_cl D ca ad n0 sz false (tt_ret (none) ρ.2)) args s 0 0 (tt_A ad n0 sz), D, ca, tt_A ad n0 sz, 4, some n0) ad 0 0 5 [(0, .ref b0), (1, .int x1), (2, .int x2), (3, .int x3)] [] h := by
    intro fu
    induction fu with
    | zero => intro b0 x1 x2 x3 h hs; exact absurd hs (by rw [s_J7_fill_53178_L5]; exact fun q => by cases q)
    | succ n5 ih =>
      intro b0 x1 x2 x3 h hs
      rw [s_J7_fill_53178_L5] at hs
      have t_5 := ih
      refine tt_iload_n X dJ7_fill_53178_5 rfl ?_
      refine tt_iload_n X dJ7_fill_53178_6 rfl ?_
      refine tt_icmp_ge (tgt := 20) X dJ7_fill_53178_7 (by decide) (fun c7 => ?_) (fun c7 => ?_)
      · rw [if_pos c7] at hs
        obtain rfl := Option.some.inj hs
        exact tt_vret X rfl dJ7_fill_53178_20 ⟨rfl, rfl⟩
      · rw [if_neg c7] at hs
        refine tt_aload_n X dJ7_fill_53178_10 rfl ?_
        refine tt_iload_n X dJ7_fill_53178_11 rfl ?_
        refine tt_iload_n X dJ7_fill_53178_12 rfl ?_
        obtain ⟨h13, e13, hs⟩ := gg_bind hs
        refine zr_is X e13 dJ7_fill_53178_13 ?_
        refine tt_iinc (v := x2 + 1) X dJ7_fill_53178_14 rfl rfl (Nat.le_of_ble_eq_true rfl) ?_
        refine tt_goto (tgt := 5) X dJ7_fill_53178_17 (by decide) ?_
        refine tt_drop [0, 1, 2, 3] ?_
        exact t_5 b0 x1 (x2 + 1) x3 h13 hs
  refine tt_iconst (v := 0) X dJ7_fill_53178_0 (by decide) ?_
  refine tt_istore_n X dJ7_fill_53178_1 (Nat.le_of_ble_eq_true rfl) ?_
  refine tt_aload_n X dJ7_fill_53178_2 rfl ?_
  obtain ⟨z3, e3, hs⟩ := gg_bind hs
  refine zr_len X e3 dJ7_fill_53178_3 ?_
  refine tt_istore_n X dJ7_fill_53178_4 (Nat.le_of_ble_eq_true rfl) ?_
  refine tt_drop [0, 1, 2, 3] ?_
  exact t_5 1000 b0 x1 0 z3 h hs

def s_J7_fill_d0a16_L6 : Nat → Nat → Int64 → Int32 → Int32 → tt_H → Option (Unit × tt_H)
  | 0, _, _, _, _, _ => none
  | n + 1, b0, y1, x3, x4, h =>
    if x4 ≤ x3 then
      some ((), h)
    else
    (gg_js h b0 x3 y1).bind fun h15 =>
    s_J7_fill_d0a16_L6 n b0 y1 (x3 + 1) x4 h15
def s_J7_fill_d0a16 (b0 : Nat) (y1 : Int64) (h : tt_H) : Option (Unit × tt_H) :=
  (gg_len h b0).bind fun z3 =>
  s_J7_fill_d0a16_L6 1000 b0 y1 0 z3 h
abbrev rm_J7_fill_d0a16 : Room := { frames := 0, cells := 0, slots := 0, locals := 0 }
set_option maxHeartbeats 4000000 in
set_option maxRecDepth 100000 in
theorem c_J7_fill_d0a16 (l : Launch) {b0 : Nat} {y1 : Int64} {h : tt_H} {ρ : Unit × tt_H} (hs : s_J7_fill_d0a16 b0 y1 h = some ρ) : tt_M tt_cl l yJ7_fill_d0a16 wsJ7_fill_d0a16 rm_J7_fill_d0a16 0 0 false [.ref b0, .long y1] h (tt_ret (none) ρ.2) := by
  refine tt_M.of0 (cc := cJ7_fill_d0a16) (maxL := 5) (ret := none) (by decide +kernel) rfl (Nat.le_of_ble_eq_true rfl) ?_
  intro p e s m args below meth c D ca ad n0 sz hwf hsz X hini
  unfold s_J7_fill_d0a16 at hs
  have t_6 : ∀ (fu : Nat) (b0 : Nat) (y1 : Int64) (x3 : Int32) (x4 : Int32) (h : tt_H), s_J7_fill_d0a16_L6 fu b0 y1 x3 x4 h = some ρ → tt_T tt_cl (p, l, e, rm_J7_fill_d0a16, s, m, args, below, meth, c, MQ below (tt_Q tt_cl D ca ad n0 sz false (tt_ret (none) ρ.2)) args s 0 0 (tt_A ad n0 sz), D, ca, tt_A ad n0 sz, 5, some n0) ad 0 0 6 [(0, .ref b0), (1, .long y1), (3, .int x3), (4, .int x4)] [] h := by
    intro fu
    induction fu with
    | zero => intro b0 y1 x3 x4 h hs; exact absurd hs (by rw [s_J7_fill_d0a16_L6]; exact fun q => by cases q)
    | succ n6 ih =>
      intro b0 y1 x3 x4 h hs
      rw [s_J7_fill_d0a16_L6] at hs
      have t_6 := ih
      refine tt_iload_n X dJ7_fill_d0a16_6 rfl ?_
      refine tt_iload X dJ7_fill_d0a16_7 rfl ?_
      refine tt_icmp_ge (tgt := 22) X dJ7_fill_d0a16_9 (by decide) (fun c9 => ?_) (fun c9 => ?_)
      · rw [if_pos c9] at hs
        obtain rfl := Option.some.inj hs
        exact tt_vret X rfl dJ7_fill_d0a16_22 ⟨rfl, rfl⟩
      · rw [if_neg c9] at hs
        refine tt_aload_n X dJ7_fill_d0a16_12 rfl ?_
        refine tt_iload_n X dJ7_fill_d0a16_13 rfl ?_
        refine tt_lload_n X dJ7_fill_d0a16_14 rfl ?_
        obtain ⟨h15, e15, hs⟩ := gg_bind hs
        refine zr_js X e15 dJ7_fill_d0a16_15 ?_
        refine tt_iinc (v := x3 + 1) X dJ7_fill_d0a16_16 rfl rfl (Nat.le_of_ble_eq_true rfl) ?_
        refine tt_goto (tgt := 6) X dJ7_fill_d0a16_19 (by decide) ?_
        refine tt_drop [0, 1, 3, 4] ?_
        exact t_6 b0 y1 (x3 + 1) x4 h15 hs
  refine tt_iconst (v := 0) X dJ7_fill_d0a16_0 (by decide) ?_
  refine tt_istore_n X dJ7_fill_d0a16_1 (Nat.le_of_ble_eq_true rfl) ?_
  refine tt_aload_n X dJ7_fill_d0a16_2 rfl ?_
  obtain ⟨z3, e3, hs⟩ := gg_bind hs
  refine zr_len X e3 dJ7_fill_d0a16_3 ?_
  refine tt_istore X dJ7_fill_d0a16_4 (Nat.le_of_ble_eq_true rfl) ?_
  refine tt_drop [0, 1, 3, 4] ?_
  exact t_6 1000 b0 y1 0 z3 h hs

theorem in_X6_renew_X6 : ∀ w ∈ u_ws RX6 TX6 3, w ∈ wsX6_renew := by decide +kernel
def s_X6_renew (b0 : Nat) (x1 : Int32) (x2 : Int32) (h : tt_H) : Option (Unit × tt_H) :=
  if x2 < 0 then
    some ((), h)
  else
  if x2 ≤ 80 then
    (gg_fr h b0 6 0).bind fun o12 =>
    (s_J7_fill_53178 o12 0 h).bind fun w16 =>
    (gg_put w16.2 b0 6 1 (.int x2)).bind fun h21 =>
    (gg_put h21 b0 6 2 (.int x1)).bind fun h26 =>
    some ((), h26)
  else
  some ((), h)
abbrev rm_X6_renew : Room := { frames := 1, cells := 0, slots := 0, locals := 23 }
set_option maxHeartbeats 4000000 in
set_option maxRecDepth 100000 in
theorem c_X6_renew (l : Launch) {b0 : Nat} {x1 : Int32} {x2 : Int32} {h : tt_H} {ρ : Unit × tt_H} (hs : s_X6_renew b0 x1 x2 h = some ρ) : tt_M tt_cl l yX6_renew wsX6_renew rm_X6_renew 0 0 false [.ref b0, .int x1, .int x2] h (tt_ret (none) ρ.2) := by
  refine tt_M.of0 (cc := cX6_renew) (maxL := 3) (ret := none) (by decide +kernel) rfl (Nat.le_of_ble_eq_true rfl) ?_
  intro p e s m args below meth c D ca ad n0 sz hwf hsz X hini
  unfold s_X6_renew at hs
  refine tt_iload_n X dX6_renew_0 rfl ?_
  refine tt_if_lt (tgt := 10) X dX6_renew_1 (by decide) (fun c1 => ?_) (fun c1 => ?_)
  · rw [if_pos c1] at hs
    obtain rfl := Option.some.inj hs
    exact tt_vret X rfl dX6_renew_10 ⟨rfl, rfl⟩
  · rw [if_neg c1] at hs
    refine tt_iload_n X dX6_renew_4 rfl ?_
    refine tt_bipush (v := 80) X dX6_renew_5 (by decide) ?_
    refine tt_icmp_le (tgt := 11) X dX6_renew_7 (by decide) (fun c7 => ?_) (fun c7 => ?_)
    · rw [if_pos c7] at hs
      refine tt_aload_n X dX6_renew_11 rfl ?_
      obtain ⟨o12, e12, hs⟩ := gg_bind hs
      refine zr_fr X e12 rfl in_X6_renew_X6 (by decide) (by decide +kernel) rfl dX6_renew_12 ?_
      refine tt_iconst (v := 0) X dX6_renew_15 (by decide) ?_
      obtain ⟨w16, e16, hs⟩ := gg_bind hs
      refine zr_callS X (c_J7_fill_53178 l e16) (fun hts => va_cwS 2 hts gX6_renew_J7_fill_53178 rfl rfl rfl (by decide +kernel) ⟨by decide, by decide⟩) rfl rfl (Nat.le_of_ble_eq_true rfl) dX6_renew_16 ⟨Nat.zero_le _, Nat.zero_le _⟩ ?_
      refine tt_aload_n X dX6_renew_19 rfl ?_
      refine tt_iload_n X dX6_renew_20 rfl ?_
      obtain ⟨h21, e21, hs⟩ := gg_bind hs
      refine zr_put X e21 rfl in_X6_renew_X6 tyX6 tyX6_ok nmX6 (by decide) (by decide +kernel) rfl rfl (fun _ => rfl) (fun _ => rfl) dX6_renew_21 ?_
      refine tt_aload_n X dX6_renew_24 rfl ?_
      refine tt_iload_n X dX6_renew_25 rfl ?_
      obtain ⟨h26, e26, hs⟩ := gg_bind hs
      refine zr_put X e26 rfl in_X6_renew_X6 tyX6 tyX6_ok nmX6 (by decide) (by decide +kernel) rfl rfl (fun _ => rfl) (fun _ => rfl) dX6_renew_26 ?_
      obtain rfl := Option.some.inj hs
      exact tt_vret X rfl dX6_renew_29 ⟨rfl, rfl⟩
    · rw [if_neg c7] at hs
      obtain rfl := Option.some.inj hs
      exact tt_vret X rfl dX6_renew_10 ⟨rfl, rfl⟩

theorem in_X6_isNothing_X6 : ∀ w ∈ u_ws RX6 TX6 3, w ∈ wsX6_isNothing := by decide +kernel
def s_X6_isNothing (b0 : Nat) (h : tt_H) : Option (Int32 × tt_H) :=
  (gg_fi h b0 6 1).bind fun z1 =>
  if z1 = ((-1)) then
    some (1, h)
  else
  some (0, h)
abbrev rm_X6_isNothing : Room := { frames := 0, cells := 0, slots := 0, locals := 0 }
set_option maxHeartbeats 4000000 in
set_option maxRecDepth 100000 in
theorem c_X6_isNothing (l : Launch) {b0 : Nat} {h : tt_H} {ρ : Int32 × tt_H} (hs : s_X6_isNothing b0 h = some ρ) : tt_M tt_cl l yX6_isNothing wsX6_isNothing rm_X6_isNothing 0 0 false [.ref b0] h (tt_ret (some (.int ρ.1)) ρ.2) := by
  refine tt_M.of0 (cc := cX6_isNothing) (maxL := 1) (ret := (some .boolean)) (by decide +kernel) rfl (Nat.le_of_ble_eq_true rfl) ?_
  intro p e s m args below meth c D ca ad n0 sz hwf hsz X hini
  unfold s_X6_isNothing at hs
  refine tt_aload_n X dX6_isNothing_0 rfl ?_
  obtain ⟨z1, e1, hs⟩ := gg_bind hs
  refine zr_fi X e1 rfl in_X6_isNothing_X6 (by decide) (by decide +kernel) rfl dX6_isNothing_1 ?_
  refine tt_iconst (v := (-1)) X dX6_isNothing_4 (by decide) ?_
  refine tt_icmp_ne (tgt := 12) X dX6_isNothing_5 (by decide) (fun c5 => ?_) (fun c5 => ?_)
  · rw [if_neg c5] at hs
    refine tt_iconst (v := 0) X dX6_isNothing_12 (by decide) ?_
    obtain rfl := Option.some.inj hs
    exact tt_zret X rfl rfl dX6_isNothing_13 ⟨rfl, rfl⟩
  · rw [if_pos c5] at hs
    refine tt_iconst (v := 1) X dX6_isNothing_8 (by decide) ?_
    refine tt_goto (tgt := 13) X dX6_isNothing_9 (by decide) ?_
    obtain rfl := Option.some.inj hs
    exact tt_zret X rfl rfl dX6_isNothing_13 ⟨rfl, rfl⟩

theorem in_X6_hasCells_X6 : ∀ w ∈ u_ws RX6 TX6 3, w ∈ wsX6_hasCells := by decide +kernel
def s_X6_hasCells (b0 : Nat) (x1 : Int32) (x2 : Int32) (h : tt_H) : Option (Int32 × tt_H) :=
  if x1 < 0 then
    some (0, h)
  else
  if x2 < 0 then
    some (0, h)
  else
  (gg_fi h b0 6 1).bind fun z14 =>
  if 0 < (lg_cmp (x1.toInt64 + x2.toInt64) z14.toInt64) then
    some (0, h)
  else
  some (1, h)
abbrev rm_X6_hasCells : Room := { frames := 0, cells := 0, slots := 0, locals := 0 }
set_option maxHeartbeats 4000000 in
set_option maxRecDepth 100000 in
theorem c_X6_hasCells (l : Launch) {b0 : Nat} {x1 : Int32} {x2 : Int32} {h : tt_H} {ρ : Int32 × tt_H} (hs : s_X6_hasCells b0 x1 x2 h = some ρ) : tt_M tt_cl l yX6_hasCells wsX6_hasCells rm_X6_hasCells 0 0 false [.ref b0, .int x1, .int x2] h (tt_ret (some (.int ρ.1)) ρ.2) := by
  refine tt_M.of0 (cc := cX6_hasCells) (maxL := 3) (ret := (some .boolean)) (by decide +kernel) rfl (Nat.le_of_ble_eq_true rfl) ?_
  intro p e s m args below meth c D ca ad n0 sz hwf hsz X hini
  unfold s_X6_hasCells at hs
  refine tt_iload_n X dX6_hasCells_0 rfl ?_
  refine tt_if_lt (tgt := 26) X dX6_hasCells_1 (by decide) (fun c1 => ?_) (fun c1 => ?_)
  · rw [if_pos c1] at hs
    refine tt_iconst (v := 0) X dX6_hasCells_26 (by decide) ?_
    obtain rfl := Option.some.inj hs
    exact tt_zret X rfl rfl dX6_hasCells_27 ⟨rfl, rfl⟩
  · rw [if_neg c1] at hs
    refine tt_iload_n X dX6_hasCells_4 rfl ?_
    refine tt_if_lt (tgt := 26) X dX6_hasCells_5 (by decide) (fun c5 => ?_) (fun c5 => ?_)
    · rw [if_pos c5] at hs
      refine tt_iconst (v := 0) X dX6_hasCells_26 (by decide) ?_
      obtain rfl := Option.some.inj hs
      exact tt_zret X rfl rfl dX6_hasCells_27 ⟨rfl, rfl⟩
    · rw [if_neg c5] at hs
      refine tt_iload_n X dX6_hasCells_8 rfl ?_
      refine tt_i2l X dX6_hasCells_9 ?_
      refine tt_iload_n X dX6_hasCells_10 rfl ?_
      refine tt_i2l X dX6_hasCells_11 ?_
      refine tt_ladd X dX6_hasCells_12 ?_
      refine tt_aload_n X dX6_hasCells_13 rfl ?_
      obtain ⟨z14, e14, hs⟩ := gg_bind hs
      refine zr_fi X e14 rfl in_X6_hasCells_X6 (by decide) (by decide +kernel) rfl dX6_hasCells_14 ?_
      refine tt_i2l X dX6_hasCells_17 ?_
      refine tt_lcmp X dX6_hasCells_18 ?_
      refine tt_if_gt (tgt := 26) X dX6_hasCells_19 (by decide) (fun c19 => ?_) (fun c19 => ?_)
      · rw [if_pos c19] at hs
        refine tt_iconst (v := 0) X dX6_hasCells_26 (by decide) ?_
        obtain rfl := Option.some.inj hs
        exact tt_zret X rfl rfl dX6_hasCells_27 ⟨rfl, rfl⟩
      · rw [if_neg c19] at hs
        refine tt_iconst (v := 1) X dX6_hasCells_22 (by decide) ?_
        refine tt_goto (tgt := 27) X dX6_hasCells_23 (by decide) ?_
        obtain rfl := Option.some.inj hs
        exact tt_zret X rfl rfl dX6_hasCells_27 ⟨rfl, rfl⟩

theorem in_X6_cut_X6 : ∀ w ∈ u_ws RX6 TX6 3, w ∈ wsX6_cut := by decide +kernel
def s_X6_cut (b0 : Nat) (x1 : Int32) (h : tt_H) : Option (Int32 × tt_H) :=
  (gg_fi h b0 6 2).bind fun z1 =>
  if z1 = 0 then
    some (x1.toInt8.toInt32, h)
  else
  (gg_fi h b0 6 2).bind fun z11 =>
  if z11 = 1 then
    some (x1.toInt16.toInt32, h)
  else
  some (x1, h)
abbrev rm_X6_cut : Room := { frames := 0, cells := 0, slots := 0, locals := 0 }
set_option maxHeartbeats 4000000 in
set_option maxRecDepth 100000 in
theorem c_X6_cut (l : Launch) {b0 : Nat} {x1 : Int32} {h : tt_H} {ρ : Int32 × tt_H} (hs : s_X6_cut b0 x1 h = some ρ) : tt_M tt_cl l yX6_cut wsX6_cut rm_X6_cut 0 0 false [.ref b0, .int x1] h (tt_ret (some (.int ρ.1)) ρ.2) := by
  refine tt_M.of0 (cc := cX6_cut) (maxL := 2) (ret := (some .int)) (by decide +kernel) rfl (Nat.le_of_ble_eq_true rfl) ?_
  intro p e s m args below meth c D ca ad n0 sz hwf hsz X hini
  unfold s_X6_cut at hs
  refine tt_aload_n X dX6_cut_0 rfl ?_
  obtain ⟨z1, e1, hs⟩ := gg_bind hs
  refine zr_fi X e1 rfl in_X6_cut_X6 (by decide) (by decide +kernel) rfl dX6_cut_1 ?_
  refine tt_if_ne (tgt := 10) X dX6_cut_4 (by decide) (fun c4 => ?_) (fun c4 => ?_)
  · rw [if_neg c4] at hs
    refine tt_aload_n X dX6_cut_10 rfl ?_
    obtain ⟨z11, e11, hs⟩ := gg_bind hs
    refine zr_fi X e11 rfl in_X6_cut_X6 (by decide) (by decide +kernel) rfl dX6_cut_11 ?_
    refine tt_iconst (v := 1) X dX6_cut_14 (by decide) ?_
    refine tt_icmp_ne (tgt := 23) X dX6_cut_15 (by decide) (fun c15 => ?_) (fun c15 => ?_)
    · rw [if_neg c15] at hs
      refine tt_iload_n X dX6_cut_23 rfl ?_
      obtain rfl := Option.some.inj hs
      exact tt_iret X rfl dX6_cut_24 ⟨rfl, rfl⟩
    · rw [if_pos c15] at hs
      refine tt_iload_n X dX6_cut_18 rfl ?_
      refine tt_i2s X dX6_cut_19 ?_
      refine tt_goto (tgt := 24) X dX6_cut_20 (by decide) ?_
      obtain rfl := Option.some.inj hs
      exact tt_iret X rfl dX6_cut_24 ⟨rfl, rfl⟩
  · rw [if_pos c4] at hs
    refine tt_iload_n X dX6_cut_7 rfl ?_
    refine tt_i2b X dX6_cut_8 ?_
    obtain rfl := Option.some.inj hs
    exact tt_iret X rfl dX6_cut_9 ⟨rfl, rfl⟩

theorem in_X6_write_X6 : ∀ w ∈ u_ws RX6 TX6 3, w ∈ wsX6_write := by decide +kernel
def s_X6_write (b0 : Nat) (x1 : Int32) (x2 : Int32) (h : tt_H) : Option (Unit × tt_H) :=
  (gg_obj h b0 6).bind fun _ =>
  (s_X6_hasCells b0 x1 1 h).bind fun w3 =>
  if w3.1 = 0 then
    some ((), w3.2)
  else
  (gg_fr w3.2 b0 6 0).bind fun o10 =>
  (gg_obj w3.2 b0 6).bind fun _ =>
  (s_X6_cut b0 x2 w3.2).bind fun w16 =>
  (gg_is w16.2 o10 x1 w16.1).bind fun h19 =>
  some ((), h19)
abbrev rm_X6_write : Room := { frames := 1, cells := 0, slots := 0, locals := 22 }
set_option maxHeartbeats 4000000 in
set_option maxRecDepth 100000 in
theorem c_X6_write (l : Launch) {b0 : Nat} {x1 : Int32} {x2 : Int32} {h : tt_H} {ρ : Unit × tt_H} (hs : s_X6_write b0 x1 x2 h = some ρ) : tt_M tt_cl l yX6_write wsX6_write rm_X6_write 0 0 false [.ref b0, .int x1, .int x2] h (tt_ret (none) ρ.2) := by
  refine tt_M.of0 (cc := cX6_write) (maxL := 3) (ret := none) (by decide +kernel) rfl (Nat.le_of_ble_eq_true rfl) ?_
  intro p e s m args below meth c D ca ad n0 sz hwf hsz X hini
  unfold s_X6_write at hs
  refine tt_aload_n X dX6_write_0 rfl ?_
  refine tt_iload_n X dX6_write_1 rfl ?_
  refine tt_iconst (v := 1) X dX6_write_2 (by decide) ?_
  obtain ⟨o3, f3, hs⟩ := gg_bind hs
  obtain ⟨w3, e3, hs⟩ := gg_bind hs
  refine zr_callV X f3 rfl (c_X6_hasCells l e3) (fun hts => cwV 2 hts gX6_write_X6_hasCells rfl rfl rfl (by decide +kernel) ⟨by decide, by decide⟩) rfl rfl (Nat.le_of_ble_eq_true rfl) dX6_write_3 ⟨Nat.zero_le _, Nat.zero_le _⟩ ?_
  refine tt_if_eq (tgt := 20) X dX6_write_6 (by decide) (fun c6 => ?_) (fun c6 => ?_)
  · rw [if_pos c6] at hs
    obtain rfl := Option.some.inj hs
    exact tt_vret X rfl dX6_write_20 ⟨rfl, rfl⟩
  · rw [if_neg c6] at hs
    refine tt_aload_n X dX6_write_9 rfl ?_
    obtain ⟨o10, e10, hs⟩ := gg_bind hs
    refine zr_fr X e10 rfl in_X6_write_X6 (by decide) (by decide +kernel) rfl dX6_write_10 ?_
    refine tt_iload_n X dX6_write_13 rfl ?_
    refine tt_aload_n X dX6_write_14 rfl ?_
    refine tt_iload_n X dX6_write_15 rfl ?_
    obtain ⟨o16, f16, hs⟩ := gg_bind hs
    obtain ⟨w16, e16, hs⟩ := gg_bind hs
    refine zr_callV X f16 rfl (c_X6_cut l e16) (fun hts => cwV 1 hts gX6_write_X6_cut rfl rfl rfl (by decide +kernel) ⟨by decide, by decide⟩) rfl rfl (Nat.le_of_ble_eq_true rfl) dX6_write_16 ⟨Nat.zero_le _, Nat.zero_le _⟩ ?_
    obtain ⟨h19, e19, hs⟩ := gg_bind hs
    refine zr_is X e19 dX6_write_19 ?_
    obtain rfl := Option.some.inj hs
    exact tt_vret X rfl dX6_write_20 ⟨rfl, rfl⟩

theorem in_X6_sort_X6 : ∀ w ∈ u_ws RX6 TX6 3, w ∈ wsX6_sort := by decide +kernel
def s_X6_sort (b0 : Nat) (h : tt_H) : Option (Int32 × tt_H) :=
  (gg_fi h b0 6 2).bind fun z1 =>
  some (z1, h)
abbrev rm_X6_sort : Room := { frames := 0, cells := 0, slots := 0, locals := 0 }
set_option maxHeartbeats 4000000 in
set_option maxRecDepth 100000 in
theorem c_X6_sort (l : Launch) {b0 : Nat} {h : tt_H} {ρ : Int32 × tt_H} (hs : s_X6_sort b0 h = some ρ) : tt_M tt_cl l yX6_sort wsX6_sort rm_X6_sort 0 0 false [.ref b0] h (tt_ret (some (.int ρ.1)) ρ.2) := by
  refine tt_M.of0 (cc := cX6_sort) (maxL := 1) (ret := (some .int)) (by decide +kernel) rfl (Nat.le_of_ble_eq_true rfl) ?_
  intro p e s m args below meth c D ca ad n0 sz hwf hsz X hini
  unfold s_X6_sort at hs
  refine tt_aload_n X dX6_sort_0 rfl ?_
  obtain ⟨z1, e1, hs⟩ := gg_bind hs
  refine zr_fi X e1 rfl in_X6_sort_X6 (by decide) (by decide +kernel) rfl dX6_sort_1 ?_
  obtain rfl := Option.some.inj hs
  exact tt_iret X rfl dX6_sort_4 ⟨rfl, rfl⟩

theorem in_X6_at_X6 : ∀ w ∈ u_ws RX6 TX6 3, w ∈ wsX6_at := by decide +kernel
def s_X6_at (b0 : Nat) (x1 : Int32) (h : tt_H) : Option (Int32 × tt_H) :=
  (gg_obj h b0 6).bind fun _ =>
  (s_X6_hasCells b0 x1 1 h).bind fun w3 =>
  if w3.1 = 0 then
    some (0, w3.2)
  else
  (gg_fr w3.2 b0 6 0).bind fun o10 =>
  (gg_il w3.2 o10 x1).bind fun z14 =>
  some (z14, w3.2)
abbrev rm_X6_at : Room := { frames := 1, cells := 0, slots := 0, locals := 22 }
set_option maxHeartbeats 4000000 in
set_option maxRecDepth 100000 in
theorem c_X6_at (l : Launch) {b0 : Nat} {x1 : Int32} {h : tt_H} {ρ : Int32 × tt_H} (hs : s_X6_at b0 x1 h = some ρ) : tt_M tt_cl l yX6_at wsX6_at rm_X6_at 0 0 false [.ref b0, .int x1] h (tt_ret (some (.int ρ.1)) ρ.2) := by
  refine tt_M.of0 (cc := cX6_at) (maxL := 2) (ret := (some .int)) (by decide +kernel) rfl (Nat.le_of_ble_eq_true rfl) ?_
  intro p e s m args below meth c D ca ad n0 sz hwf hsz X hini
  unfold s_X6_at at hs
  refine tt_aload_n X dX6_at_0 rfl ?_
  refine tt_iload_n X dX6_at_1 rfl ?_
  refine tt_iconst (v := 1) X dX6_at_2 (by decide) ?_
  obtain ⟨o3, f3, hs⟩ := gg_bind hs
  obtain ⟨w3, e3, hs⟩ := gg_bind hs
  refine zr_callV X f3 rfl (c_X6_hasCells l e3) (fun hts => cwV 2 hts gX6_at_X6_hasCells rfl rfl rfl (by decide +kernel) ⟨by decide, by decide⟩) rfl rfl (Nat.le_of_ble_eq_true rfl) dX6_at_3 ⟨Nat.zero_le _, Nat.zero_le _⟩ ?_
  refine tt_if_eq (tgt := 18) X dX6_at_6 (by decide) (fun c6 => ?_) (fun c6 => ?_)
  · rw [if_pos c6] at hs
    refine tt_iconst (v := 0) X dX6_at_18 (by decide) ?_
    obtain rfl := Option.some.inj hs
    exact tt_iret X rfl dX6_at_19 ⟨rfl, rfl⟩
  · rw [if_neg c6] at hs
    refine tt_aload_n X dX6_at_9 rfl ?_
    obtain ⟨o10, e10, hs⟩ := gg_bind hs
    refine zr_fr X e10 rfl in_X6_at_X6 (by decide) (by decide +kernel) rfl dX6_at_10 ?_
    refine tt_iload_n X dX6_at_13 rfl ?_
    obtain ⟨z14, e14, hs⟩ := gg_bind hs
    refine zr_il X e14 dX6_at_14 ?_
    refine tt_goto (tgt := 19) X dX6_at_15 (by decide) ?_
    obtain rfl := Option.some.inj hs
    exact tt_iret X rfl dX6_at_19 ⟨rfl, rfl⟩

theorem in_X2_clear_X2 : ∀ w ∈ u_ws RX2 TX2 2, w ∈ wsX2_clear := by decide +kernel
def s_X2_clear (b0 : Nat) (h : tt_H) : Option (Unit × tt_H) :=
  (gg_put h b0 2 1 (.int 0)).bind fun h2 =>
  some ((), h2)
abbrev rm_X2_clear : Room := { frames := 0, cells := 0, slots := 0, locals := 0 }
set_option maxHeartbeats 4000000 in
set_option maxRecDepth 100000 in
theorem c_X2_clear (l : Launch) {b0 : Nat} {h : tt_H} {ρ : Unit × tt_H} (hs : s_X2_clear b0 h = some ρ) : tt_M tt_cl l yX2_clear wsX2_clear rm_X2_clear 0 0 false [.ref b0] h (tt_ret (none) ρ.2) := by
  refine tt_M.of0 (cc := cX2_clear) (maxL := 1) (ret := none) (by decide +kernel) rfl (Nat.le_of_ble_eq_true rfl) ?_
  intro p e s m args below meth c D ca ad n0 sz hwf hsz X hini
  unfold s_X2_clear at hs
  refine tt_aload_n X dX2_clear_0 rfl ?_
  refine tt_iconst (v := 0) X dX2_clear_1 (by decide) ?_
  obtain ⟨h2, e2, hs⟩ := gg_bind hs
  refine zr_put X e2 rfl in_X2_clear_X2 tyX2 tyX2_ok nmX2 (by decide) (by decide +kernel) rfl rfl (fun _ => rfl) (fun _ => rfl) dX2_clear_2 ?_
  obtain rfl := Option.some.inj hs
  exact tt_vret X rfl dX2_clear_5 ⟨rfl, rfl⟩

theorem in_X2_size_X2 : ∀ w ∈ u_ws RX2 TX2 2, w ∈ wsX2_size := by decide +kernel
def s_X2_size (b0 : Nat) (h : tt_H) : Option (Int32 × tt_H) :=
  (gg_fi h b0 2 1).bind fun z1 =>
  some (z1, h)
abbrev rm_X2_size : Room := { frames := 0, cells := 0, slots := 0, locals := 0 }
set_option maxHeartbeats 4000000 in
set_option maxRecDepth 100000 in
theorem c_X2_size (l : Launch) {b0 : Nat} {h : tt_H} {ρ : Int32 × tt_H} (hs : s_X2_size b0 h = some ρ) : tt_M tt_cl l yX2_size wsX2_size rm_X2_size 0 0 false [.ref b0] h (tt_ret (some (.int ρ.1)) ρ.2) := by
  refine tt_M.of0 (cc := cX2_size) (maxL := 1) (ret := (some .int)) (by decide +kernel) rfl (Nat.le_of_ble_eq_true rfl) ?_
  intro p e s m args below meth c D ca ad n0 sz hwf hsz X hini
  unfold s_X2_size at hs
  refine tt_aload_n X dX2_size_0 rfl ?_
  obtain ⟨z1, e1, hs⟩ := gg_bind hs
  refine zr_fi X e1 rfl in_X2_size_X2 (by decide) (by decide +kernel) rfl dX2_size_1 ?_
  obtain rfl := Option.some.inj hs
  exact tt_iret X rfl dX2_size_4 ⟨rfl, rfl⟩

theorem in_X2_isFull_X2 : ∀ w ∈ u_ws RX2 TX2 2, w ∈ wsX2_isFull := by decide +kernel
def s_X2_isFull (b0 : Nat) (h : tt_H) : Option (Int32 × tt_H) :=
  (gg_fi h b0 2 1).bind fun z1 =>
  if z1 < 12 then
    some (0, h)
  else
  some (1, h)
abbrev rm_X2_isFull : Room := { frames := 0, cells := 0, slots := 0, locals := 0 }
set_option maxHeartbeats 4000000 in
set_option maxRecDepth 100000 in
theorem c_X2_isFull (l : Launch) {b0 : Nat} {h : tt_H} {ρ : Int32 × tt_H} (hs : s_X2_isFull b0 h = some ρ) : tt_M tt_cl l yX2_isFull wsX2_isFull rm_X2_isFull 0 0 false [.ref b0] h (tt_ret (some (.int ρ.1)) ρ.2) := by
  refine tt_M.of0 (cc := cX2_isFull) (maxL := 1) (ret := (some .boolean)) (by decide +kernel) rfl (Nat.le_of_ble_eq_true rfl) ?_
  intro p e s m args below meth c D ca ad n0 sz hwf hsz X hini
  unfold s_X2_isFull at hs
  refine tt_aload_n X dX2_isFull_0 rfl ?_
  obtain ⟨z1, e1, hs⟩ := gg_bind hs
  refine zr_fi X e1 rfl in_X2_isFull_X2 (by decide) (by decide +kernel) rfl dX2_isFull_1 ?_
  refine tt_bipush (v := 12) X dX2_isFull_4 (by decide) ?_
  refine tt_icmp_lt (tgt := 13) X dX2_isFull_6 (by decide) (fun c6 => ?_) (fun c6 => ?_)
  · rw [if_pos c6] at hs
    refine tt_iconst (v := 0) X dX2_isFull_13 (by decide) ?_
    obtain rfl := Option.some.inj hs
    exact tt_zret X rfl rfl dX2_isFull_14 ⟨rfl, rfl⟩
  · rw [if_neg c6] at hs
    refine tt_iconst (v := 1) X dX2_isFull_9 (by decide) ?_
    refine tt_goto (tgt := 14) X dX2_isFull_10 (by decide) ?_
    obtain rfl := Option.some.inj hs
    exact tt_zret X rfl rfl dX2_isFull_14 ⟨rfl, rfl⟩

theorem in_X2_insert_X2 : ∀ w ∈ u_ws RX2 TX2 2, w ∈ wsX2_insert := by decide +kernel
def s_X2_insert_L25 : Nat → Nat → Int32 → Int32 → Int32 → tt_H → Option (Unit × tt_H)
  | 0, _, _, _, _, _ => none
  | n + 1, b0, x1, x2, x3, h =>
    if x3 ≤ x1 then
      (gg_fr h b0 2 0).bind fun o51 =>
      (gg_is h o51 x1 x2).bind fun h56 =>
      (gg_fi h56 b0 2 1).bind fun z59 =>
      (gg_put h56 b0 2 1 (.int (z59 + 1))).bind fun h64 =>
      some ((), h64)
    else
    (gg_fr h b0 2 0).bind fun o31 =>
    (gg_fr h b0 2 0).bind fun o36 =>
    (gg_il h o36 (x3 - 1)).bind fun z42 =>
    (gg_is h o31 x3 z42).bind fun h43 =>
    s_X2_insert_L25 n b0 x1 x2 (x3 + (-1)) h43
def s_X2_insert (b0 : Nat) (x1 : Int32) (x2 : Int32) (h : tt_H) : Option (Unit × tt_H) :=
  (gg_obj h b0 2).bind fun _ =>
  (s_X2_isFull b0 h).bind fun w1 =>
  if w1.1 = 0 then
    if x1 < 0 then
      some ((), w1.2)
    else
    (gg_fi w1.2 b0 2 1).bind fun z13 =>
    if x1 ≤ z13 then
      (gg_fi w1.2 b0 2 1).bind fun z21 =>
      s_X2_insert_L25 1000 b0 x1 x2 z21 w1.2
    else
    some ((), w1.2)
  else
  some ((), w1.2)
abbrev rm_X2_insert : Room := { frames := 1, cells := 0, slots := 0, locals := 20 }
set_option maxHeartbeats 4000000 in
set_option maxRecDepth 100000 in
theorem c_X2_insert (l : Launch) {b0 : Nat} {x1 : Int32} {x2 : Int32} {h : tt_H} {ρ : Unit × tt_H} (hs : s_X2_insert b0 x1 x2 h = some ρ) : tt_M tt_cl l yX2_insert wsX2_insert rm_X2_insert 0 0 false [.ref b0, .int x1, .int x2] h (tt_ret (none) ρ.2) := by
  refine tt_M.of0 (cc := cX2_insert) (maxL := 4) (ret := none) (by decide +kernel) rfl (Nat.le_of_ble_eq_true rfl) ?_
  intro p e s m args below meth c D ca ad n0 sz hwf hsz X hini
  unfold s_X2_insert at hs
  have t_25 : ∀ (fu : Nat) (b0 : Nat) (x1 : Int32) (x2 : Int32) (x3 : Int32) (h : tt_H), s_X2_insert_L25 fu b0 x1 x2 x3 h = some ρ → tt_T tt_cl (p, l, e, rm_X2_insert, s, m, args, below, meth, c, MQ below (tt_Q tt_cl D ca ad n0 sz false (tt_ret (none) ρ.2)) args s 0 0 (tt_A ad n0 sz), D, ca, tt_A ad n0 sz, 4, some n0) ad 0 0 25 [(0, .ref b0), (1, .int x1), (2, .int x2), (3, .int x3)] [] h := by
    intro fu
    induction fu with
    | zero => intro b0 x1 x2 x3 h hs; exact absurd hs (by rw [s_X2_insert_L25]; exact fun q => by cases q)
    | succ n25 ih =>
      intro b0 x1 x2 x3 h hs
      rw [s_X2_insert_L25] at hs
      have t_25 := ih
      refine tt_iload_n X dX2_insert_25 rfl ?_
      refine tt_iload_n X dX2_insert_26 rfl ?_
      refine tt_icmp_le (tgt := 50) X dX2_insert_27 (by decide) (fun c27 => ?_) (fun c27 => ?_)
      · rw [if_pos c27] at hs
        refine tt_aload_n X dX2_insert_50 rfl ?_
        obtain ⟨o51, e51, hs⟩ := gg_bind hs
        refine zr_fr X e51 rfl in_X2_insert_X2 (by decide) (by decide +kernel) rfl dX2_insert_51 ?_
        refine tt_iload_n X dX2_insert_54 rfl ?_
        refine tt_iload_n X dX2_insert_55 rfl ?_
        obtain ⟨h56, e56, hs⟩ := gg_bind hs
        refine zr_is X e56 dX2_insert_56 ?_
        refine tt_aload_n X dX2_insert_57 rfl ?_
        refine tt_dup X dX2_insert_58 rfl ?_
        obtain ⟨z59, e59, hs⟩ := gg_bind hs
        refine zr_fi X e59 rfl in_X2_insert_X2 (by decide) (by decide +kernel) rfl dX2_insert_59 ?_
        refine tt_iconst (v := 1) X dX2_insert_62 (by decide) ?_
        refine tt_iadd X dX2_insert_63 ?_
        obtain ⟨h64, e64, hs⟩ := gg_bind hs
        refine zr_put X e64 rfl in_X2_insert_X2 tyX2 tyX2_ok nmX2 (by decide) (by decide +kernel) rfl rfl (fun _ => rfl) (fun _ => rfl) dX2_insert_64 ?_
        obtain rfl := Option.some.inj hs
        exact tt_vret X rfl dX2_insert_67 ⟨rfl, rfl⟩
      · rw [if_neg c27] at hs
        refine tt_aload_n X dX2_insert_30 rfl ?_
        obtain ⟨o31, e31, hs⟩ := gg_bind hs
        refine zr_fr X e31 rfl in_X2_insert_X2 (by decide) (by decide +kernel) rfl dX2_insert_31 ?_
        refine tt_iload_n X dX2_insert_34 rfl ?_
        refine tt_aload_n X dX2_insert_35 rfl ?_
        obtain ⟨o36, e36, hs⟩ := gg_bind hs
        refine zr_fr X e36 rfl in_X2_insert_X2 (by decide) (by decide +kernel) rfl dX2_insert_36 ?_
        refine tt_iload_n X dX2_insert_39 rfl ?_
        refine tt_iconst (v := 1) X dX2_insert_40 (by decide) ?_
        refine tt_isub X dX2_insert_41 ?_
        obtain ⟨z42, e42, hs⟩ := gg_bind hs
        refine zr_il X e42 dX2_insert_42 ?_
        obtain ⟨h43, e43, hs⟩ := gg_bind hs
        refine zr_is X e43 dX2_insert_43 ?_
        refine tt_iinc (v := x3 + (-1)) X dX2_insert_44 rfl rfl (Nat.le_of_ble_eq_true rfl) ?_
        refine tt_goto (tgt := 25) X dX2_insert_47 (by decide) ?_
        refine tt_drop [0, 1, 2, 3] ?_
        exact t_25 b0 x1 x2 (x3 + (-1)) h43 hs
  refine tt_aload_n X dX2_insert_0 rfl ?_
  obtain ⟨o1, f1, hs⟩ := gg_bind hs
  obtain ⟨w1, e1, hs⟩ := gg_bind hs
  refine zr_callV X f1 rfl (c_X2_isFull l e1) (fun hts => cwV 0 hts gX2_insert_X2_isFull rfl rfl rfl (by decide +kernel) ⟨by decide, by decide⟩) rfl rfl (Nat.le_of_ble_eq_true rfl) dX2_insert_1 ⟨Nat.zero_le _, Nat.zero_le _⟩ ?_
  refine tt_if_ne (tgt := 19) X dX2_insert_4 (by decide) (fun c4 => ?_) (fun c4 => ?_)
  · rw [if_neg c4] at hs
    obtain rfl := Option.some.inj hs
    exact tt_vret X rfl dX2_insert_19 ⟨rfl, rfl⟩
  · rw [if_pos c4] at hs
    refine tt_iload_n X dX2_insert_7 rfl ?_
    refine tt_if_lt (tgt := 19) X dX2_insert_8 (by decide) (fun c8 => ?_) (fun c8 => ?_)
    · rw [if_pos c8] at hs
      obtain rfl := Option.some.inj hs
      exact tt_vret X rfl dX2_insert_19 ⟨rfl, rfl⟩
    · rw [if_neg c8] at hs
      refine tt_iload_n X dX2_insert_11 rfl ?_
      refine tt_aload_n X dX2_insert_12 rfl ?_
      obtain ⟨z13, e13, hs⟩ := gg_bind hs
      refine zr_fi X e13 rfl in_X2_insert_X2 (by decide) (by decide +kernel) rfl dX2_insert_13 ?_
      refine tt_icmp_le (tgt := 20) X dX2_insert_16 (by decide) (fun c16 => ?_) (fun c16 => ?_)
      · rw [if_pos c16] at hs
        refine tt_aload_n X dX2_insert_20 rfl ?_
        obtain ⟨z21, e21, hs⟩ := gg_bind hs
        refine zr_fi X e21 rfl in_X2_insert_X2 (by decide) (by decide +kernel) rfl dX2_insert_21 ?_
        refine tt_istore_n X dX2_insert_24 (Nat.le_of_ble_eq_true rfl) ?_
        refine tt_drop [0, 1, 2, 3] ?_
        exact t_25 1000 b0 x1 x2 z21 w1.2 hs
      · rw [if_neg c16] at hs
        obtain rfl := Option.some.inj hs
        exact tt_vret X rfl dX2_insert_19 ⟨rfl, rfl⟩

theorem in_X2_has_X2 : ∀ w ∈ u_ws RX2 TX2 2, w ∈ wsX2_has := by decide +kernel
def s_X2_has (b0 : Nat) (x1 : Int32) (h : tt_H) : Option (Int32 × tt_H) :=
  if x1 < 0 then
    some (0, h)
  else
  (gg_fi h b0 2 1).bind fun z6 =>
  if z6 ≤ x1 then
    some (0, h)
  else
  some (1, h)
abbrev rm_X2_has : Room := { frames := 0, cells := 0, slots := 0, locals := 0 }
set_option maxHeartbeats 4000000 in
set_option maxRecDepth 100000 in
theorem c_X2_has (l : Launch) {b0 : Nat} {x1 : Int32} {h : tt_H} {ρ : Int32 × tt_H} (hs : s_X2_has b0 x1 h = some ρ) : tt_M tt_cl l yX2_has wsX2_has rm_X2_has 0 0 false [.ref b0, .int x1] h (tt_ret (some (.int ρ.1)) ρ.2) := by
  refine tt_M.of0 (cc := cX2_has) (maxL := 2) (ret := (some .boolean)) (by decide +kernel) rfl (Nat.le_of_ble_eq_true rfl) ?_
  intro p e s m args below meth c D ca ad n0 sz hwf hsz X hini
  unfold s_X2_has at hs
  refine tt_iload_n X dX2_has_0 rfl ?_
  refine tt_if_lt (tgt := 16) X dX2_has_1 (by decide) (fun c1 => ?_) (fun c1 => ?_)
  · rw [if_pos c1] at hs
    refine tt_iconst (v := 0) X dX2_has_16 (by decide) ?_
    obtain rfl := Option.some.inj hs
    exact tt_zret X rfl rfl dX2_has_17 ⟨rfl, rfl⟩
  · rw [if_neg c1] at hs
    refine tt_iload_n X dX2_has_4 rfl ?_
    refine tt_aload_n X dX2_has_5 rfl ?_
    obtain ⟨z6, e6, hs⟩ := gg_bind hs
    refine zr_fi X e6 rfl in_X2_has_X2 (by decide) (by decide +kernel) rfl dX2_has_6 ?_
    refine tt_icmp_ge (tgt := 16) X dX2_has_9 (by decide) (fun c9 => ?_) (fun c9 => ?_)
    · rw [if_pos c9] at hs
      refine tt_iconst (v := 0) X dX2_has_16 (by decide) ?_
      obtain rfl := Option.some.inj hs
      exact tt_zret X rfl rfl dX2_has_17 ⟨rfl, rfl⟩
    · rw [if_neg c9] at hs
      refine tt_iconst (v := 1) X dX2_has_12 (by decide) ?_
      refine tt_goto (tgt := 17) X dX2_has_13 (by decide) ?_
      obtain rfl := Option.some.inj hs
      exact tt_zret X rfl rfl dX2_has_17 ⟨rfl, rfl⟩

theorem in_X2_at_X2 : ∀ w ∈ u_ws RX2 TX2 2, w ∈ wsX2_at := by decide +kernel
def s_X2_at (b0 : Nat) (x1 : Int32) (h : tt_H) : Option (Int32 × tt_H) :=
  (gg_obj h b0 2).bind fun _ =>
  (s_X2_has b0 x1 h).bind fun w2 =>
  if w2.1 = 0 then
    some ((-9), w2.2)
  else
  (gg_fr w2.2 b0 2 0).bind fun o9 =>
  (gg_il w2.2 o9 x1).bind fun z13 =>
  some (z13, w2.2)
abbrev rm_X2_at : Room := { frames := 1, cells := 0, slots := 0, locals := 21 }
set_option maxHeartbeats 4000000 in
set_option maxRecDepth 100000 in
theorem c_X2_at (l : Launch) {b0 : Nat} {x1 : Int32} {h : tt_H} {ρ : Int32 × tt_H} (hs : s_X2_at b0 x1 h = some ρ) : tt_M tt_cl l yX2_at wsX2_at rm_X2_at 0 0 false [.ref b0, .int x1] h (tt_ret (some (.int ρ.1)) ρ.2) := by
  refine tt_M.of0 (cc := cX2_at) (maxL := 2) (ret := (some .int)) (by decide +kernel) rfl (Nat.le_of_ble_eq_true rfl) ?_
  intro p e s m args below meth c D ca ad n0 sz hwf hsz X hini
  unfold s_X2_at at hs
  refine tt_aload_n X dX2_at_0 rfl ?_
  refine tt_iload_n X dX2_at_1 rfl ?_
  obtain ⟨o2, f2, hs⟩ := gg_bind hs
  obtain ⟨w2, e2, hs⟩ := gg_bind hs
  refine zr_callV X f2 rfl (c_X2_has l e2) (fun hts => cwV 1 hts gX2_at_X2_has rfl rfl rfl (by decide +kernel) ⟨by decide, by decide⟩) rfl rfl (Nat.le_of_ble_eq_true rfl) dX2_at_2 ⟨Nat.zero_le _, Nat.zero_le _⟩ ?_
  refine tt_if_eq (tgt := 17) X dX2_at_5 (by decide) (fun c5 => ?_) (fun c5 => ?_)
  · rw [if_pos c5] at hs
    refine tt_bipush (v := (-9)) X dX2_at_17 (by decide) ?_
    obtain rfl := Option.some.inj hs
    exact tt_iret X rfl dX2_at_19 ⟨rfl, rfl⟩
  · rw [if_neg c5] at hs
    refine tt_aload_n X dX2_at_8 rfl ?_
    obtain ⟨o9, e9, hs⟩ := gg_bind hs
    refine zr_fr X e9 rfl in_X2_at_X2 (by decide) (by decide +kernel) rfl dX2_at_9 ?_
    refine tt_iload_n X dX2_at_12 rfl ?_
    obtain ⟨z13, e13, hs⟩ := gg_bind hs
    refine zr_il X e13 dX2_at_13 ?_
    refine tt_goto (tgt := 19) X dX2_at_14 (by decide) ?_
    obtain rfl := Option.some.inj hs
    exact tt_iret X rfl dX2_at_19 ⟨rfl, rfl⟩
