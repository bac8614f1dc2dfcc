def s_X8_doubtTells (b0 : Nat) (x1 : Int32) (h : tt_H) : Option (Int32 × tt_H) :=
  (gg_obj h b0 8).bind fun _ =>
  (s_X8_leave b0 3 h).bind fun w2 =>
  (gg_obj w2.2 b0 8).bind fun _ =>
  (s_X8_denialTells b0 x1 w2.2).bind fun w7 =>
  (gg_obj w7.2 b0 8).bind fun _ =>
  (s_X8_wordTells b0 x1 w7.2).bind fun w14 =>
  some (w7.1 + w14.1, w14.2)
abbrev rm_X8_doubtTells : Room := { frames := 3, cells := 0, slots := 0, locals := 67 }
set_option maxHeartbeats 4000000 in
set_option maxRecDepth 100000 in
theorem c_X8_doubtTells (l : Launch) {b0 : Nat} {x1 : Int32} {h : tt_H} {ρ : Int32 × tt_H} (hs : s_X8_doubtTells b0 x1 h = some ρ) : tt_M tt_cl l yX8_doubtTells wsX8_doubtTells rm_X8_doubtTells 0 0 false [.ref b0, .int x1] h (tt_ret (some (.int ρ.1)) ρ.2) := by
  refine tt_M.of0 (cc := cX8_doubtTells) (maxL := 3) (ret := (some .int)) (by decide +kernel) rfl (Nat.le_of_ble_eq_true rfl) ?_
  intro p e s m args below meth c D ca ad n0 sz hwf hsz X hini
  unfold s_X8_doubtTells at hs
  refine tt_aload_n X dX8_doubtTells_0 rfl ?_
  refine tt_iconst (v := 3) X dX8_doubtTells_1 (by decide) ?_
  obtain ⟨o2, f2, hs⟩ := gg_bind hs
  obtain ⟨w2, e2, hs⟩ := gg_bind hs
  refine zr_callV X f2 rfl (c_X8_leave l e2) (fun hts => cwV 1 hts gX8_doubtTells_X8_leave rfl rfl rfl (by decide +kernel) ⟨by decide, by decide⟩) rfl rfl (Nat.le_of_ble_eq_true rfl) dX8_doubtTells_2 ⟨Nat.zero_le _, Nat.zero_le _⟩ ?_
  refine tt_aload_n X dX8_doubtTells_5 rfl ?_
  refine tt_iload_n X dX8_doubtTells_6 rfl ?_
  obtain ⟨o7, f7, hs⟩ := gg_bind hs
  obtain ⟨w7, e7, hs⟩ := gg_bind hs
  refine zr_callV X f7 rfl (c_X8_denialTells l e7) (fun hts => cwV 1 hts gX8_doubtTells_X8_denialTells rfl rfl rfl (by decide +kernel) ⟨by decide, by decide⟩) rfl rfl (Nat.le_of_ble_eq_true rfl) dX8_doubtTells_7 ⟨Nat.zero_le _, Nat.zero_le _⟩ ?_
  refine tt_istore_n X dX8_doubtTells_10 (Nat.le_of_ble_eq_true rfl) ?_
  refine tt_iload_n X dX8_doubtTells_11 rfl ?_
  refine tt_aload_n X dX8_doubtTells_12 rfl ?_
  refine tt_iload_n X dX8_doubtTells_13 rfl ?_
  obtain ⟨o14, f14, hs⟩ := gg_bind hs
  obtain ⟨w14, e14, hs⟩ := gg_bind hs
  refine zr_callV X f14 rfl (c_X8_wordTells l e14) (fun hts => cwV 1 hts gX8_doubtTells_X8_wordTells rfl rfl rfl (by decide +kernel) ⟨by decide, by decide⟩) rfl rfl (Nat.le_of_ble_eq_true rfl) dX8_doubtTells_14 ⟨Nat.zero_le _, Nat.zero_le _⟩ ?_
  refine tt_iadd X dX8_doubtTells_17 ?_
  obtain rfl := Option.some.inj hs
  exact tt_iret X rfl dX8_doubtTells_18 ⟨rfl, rfl⟩

theorem in_X8_fault_X8 : ∀ w ∈ u_ws RX8 TX8 13, w ∈ wsX8_fault := by decide +kernel
def s_X8_fault (b0 : Nat) (h : tt_H) : Option (Int32 × tt_H) :=
  (gg_fi h b0 8 12).bind fun z1 =>
  some (z1, h)
abbrev rm_X8_fault : Room := { frames := 0, cells := 0, slots := 0, locals := 0 }
set_option maxHeartbeats 4000000 in
set_option maxRecDepth 100000 in
theorem c_X8_fault (l : Launch) {b0 : Nat} {h : tt_H} {ρ : Int32 × tt_H} (hs : s_X8_fault b0 h = some ρ) : tt_M tt_cl l yX8_fault wsX8_fault rm_X8_fault 0 0 false [.ref b0] h (tt_ret (some (.int ρ.1)) ρ.2) := by
  refine tt_M.of0 (cc := cX8_fault) (maxL := 1) (ret := (some .int)) (by decide +kernel) rfl (Nat.le_of_ble_eq_true rfl) ?_
  intro p e s m args below meth c D ca ad n0 sz hwf hsz X hini
  unfold s_X8_fault at hs
  refine tt_aload_n X dX8_fault_0 rfl ?_
  obtain ⟨z1, e1, hs⟩ := gg_bind hs
  refine zr_fi X e1 rfl in_X8_fault_X8 (by decide) (by decide +kernel) rfl dX8_fault_1 ?_
  obtain rfl := Option.some.inj hs
  exact tt_iret X rfl dX8_fault_4 ⟨rfl, rfl⟩

theorem in_X8_kind_X8 : ∀ w ∈ u_ws RX8 TX8 13, w ∈ wsX8_kind := by decide +kernel
def s_X8_kind (b0 : Nat) (x1 : Int32) (x2 : Int32) (h : tt_H) : Option (Int32 × tt_H) :=
  (s_X8_isWord x1 h).bind fun w1 =>
  if w1.1 = 0 then
    some ((-1), w1.2)
  else
  (s_X8_isKind x2 w1.2).bind fun w10 =>
  if w10.1 = 0 then
    some ((-2), w10.2)
  else
  (gg_fr w10.2 b0 8 0).bind fun o20 =>
  (gg_il w10.2 o20 x1).bind fun z24 =>
  (gg_fr w10.2 b0 8 0).bind fun o27 =>
  (gg_is w10.2 o27 x1 x2).bind fun h32 =>
  some (z24, h32)
abbrev rm_X8_kind : Room := { frames := 1, cells := 0, slots := 0, locals := 20 }
set_option maxHeartbeats 4000000 in
set_option maxRecDepth 100000 in
theorem c_X8_kind (l : Launch) {b0 : Nat} {x1 : Int32} {x2 : Int32} {h : tt_H} {ρ : Int32 × tt_H} (hs : s_X8_kind b0 x1 x2 h = some ρ) : tt_M tt_cl l yX8_kind wsX8_kind rm_X8_kind 0 0 false [.ref b0, .int x1, .int x2] h (tt_ret (some (.int ρ.1)) ρ.2) := by
  refine tt_M.of0 (cc := cX8_kind) (maxL := 4) (ret := (some .int)) (by decide +kernel) rfl (Nat.le_of_ble_eq_true rfl) ?_
  intro p e s m args below meth c D ca ad n0 sz hwf hsz X hini
  unfold s_X8_kind at hs
  refine tt_iload_n X dX8_kind_0 rfl ?_
  obtain ⟨w1, e1, hs⟩ := gg_bind hs
  refine zr_callS X (c_X8_isWord l e1) (fun hts => va_cwS 1 hts gX8_kind_X8_isWord rfl rfl rfl (by decide +kernel) ⟨by decide, by decide⟩) rfl rfl (Nat.le_of_ble_eq_true rfl) dX8_kind_1 ⟨Nat.zero_le _, Nat.zero_le _⟩ ?_
  refine tt_if_ne (tgt := 9) X dX8_kind_4 (by decide) (fun c4 => ?_) (fun c4 => ?_)
  · rw [if_neg c4] at hs
    refine tt_iload_n X dX8_kind_9 rfl ?_
    obtain ⟨w10, e10, hs⟩ := gg_bind hs
    refine zr_callS X (c_X8_isKind l e10) (fun hts => va_cwS 1 hts gX8_kind_X8_isKind rfl rfl rfl (by decide +kernel) ⟨by decide, by decide⟩) rfl rfl (Nat.le_of_ble_eq_true rfl) dX8_kind_10 ⟨Nat.zero_le _, Nat.zero_le _⟩ ?_
    refine tt_if_ne (tgt := 19) X dX8_kind_13 (by decide) (fun c13 => ?_) (fun c13 => ?_)
    · rw [if_neg c13] at hs
      refine tt_aload_n X dX8_kind_19 rfl ?_
      obtain ⟨o20, e20, hs⟩ := gg_bind hs
      refine zr_fr X e20 rfl in_X8_kind_X8 (by decide) (by decide +kernel) rfl dX8_kind_20 ?_
      refine tt_iload_n X dX8_kind_23 rfl ?_
      obtain ⟨z24, e24, hs⟩ := gg_bind hs
      refine zr_il X e24 dX8_kind_24 ?_
      refine tt_istore_n X dX8_kind_25 (Nat.le_of_ble_eq_true rfl) ?_
      refine tt_aload_n X dX8_kind_26 rfl ?_
      obtain ⟨o27, e27, hs⟩ := gg_bind hs
      refine zr_fr X e27 rfl in_X8_kind_X8 (by decide) (by decide +kernel) rfl dX8_kind_27 ?_
      refine tt_iload_n X dX8_kind_30 rfl ?_
      refine tt_iload_n X dX8_kind_31 rfl ?_
      obtain ⟨h32, e32, hs⟩ := gg_bind hs
      refine zr_is X e32 dX8_kind_32 ?_
      refine tt_iload_n X dX8_kind_33 rfl ?_
      obtain rfl := Option.some.inj hs
      exact tt_iret X rfl dX8_kind_34 ⟨rfl, rfl⟩
    · rw [if_pos c13] at hs
      refine tt_bipush (v := (-2)) X dX8_kind_16 (by decide) ?_
      obtain rfl := Option.some.inj hs
      exact tt_iret X rfl dX8_kind_18 ⟨rfl, rfl⟩
  · rw [if_pos c4] at hs
    refine tt_iconst (v := (-1)) X dX8_kind_7 (by decide) ?_
    obtain rfl := Option.some.inj hs
    exact tt_iret X rfl dX8_kind_8 ⟨rfl, rfl⟩

theorem in_X8_leftOut_X8 : ∀ w ∈ u_ws RX8 TX8 13, w ∈ wsX8_leftOut := by decide +kernel
def s_X8_leftOut_J46 (κ2 : Nat → Int32 → tt_H → Option (Int32 × tt_H)) (b0 : Nat) (x1 : Int32) (h : tt_H) : Option (Int32 × tt_H) :=
  κ2 b0 (x1 + 1) h
def s_X8_leftOut_L2 : Nat → Nat → Int32 → tt_H → Option (Int32 × tt_H)
  | 0, _, _, _ => none
  | n + 1, b0, x1, h =>
    (gg_fi h b0 8 10).bind fun z4 =>
    if z4 ≤ x1 then
      some ((-9), h)
    else
    (gg_obj h b0 8).bind fun _ =>
    (s_X8_cryOf b0 (x1 - 1) h).bind fun w14 =>
    (gg_obj w14.2 b0 8).bind fun _ =>
    (s_X8_cryOf b0 x1 w14.2).bind fun w20 =>
    gg_opt w14.1 (
      s_X8_leftOut_J46 (s_X8_leftOut_L2 n) b0 x1 w20.2
    ) fun b25 =>
    gg_opt w20.1 (
      s_X8_leftOut_J46 (s_X8_leftOut_L2 n) b0 x1 w20.2
    ) fun b29 =>
    (gg_fr w20.2 b0 8 4).bind fun o33 =>
    (gg_obj w20.2 o33 3).bind fun _ =>
    (s_X3_make o33 b25 b29 w20.2).bind fun w38 =>
    if w38.1 = 0 then
      some (x1, w38.2)
    else
    s_X8_leftOut_J46 (s_X8_leftOut_L2 n) b0 x1 w38.2
def s_X8_leftOut (b0 : Nat) (h : tt_H) : Option (Int32 × tt_H) :=
  s_X8_leftOut_L2 1000 b0 1 h
abbrev rm_X8_leftOut : Room := { frames := 3, cells := 0, slots := 0, locals := 66 }
set_option maxHeartbeats 4000000 in
set_option maxRecDepth 100000 in
theorem c_X8_leftOut (l : Launch) {b0 : Nat} {h : tt_H} {ρ : Int32 × tt_H} (hs : s_X8_leftOut b0 h = some ρ) : tt_M tt_cl l yX8_leftOut wsX8_leftOut rm_X8_leftOut 0 0 false [.ref b0] h (tt_ret (some (.int ρ.1)) ρ.2) := by
  refine tt_M.of0 (cc := cX8_leftOut) (maxL := 4) (ret := (some .int)) (by decide +kernel) rfl (Nat.le_of_ble_eq_true rfl) ?_
  intro p e s m args below meth c D ca ad n0 sz hwf hsz X hini
  unfold s_X8_leftOut at hs
  have t_2 : ∀ (fu : Nat) (b0 : Nat) (x1 : Int32) (h : tt_H), s_X8_leftOut_L2 fu b0 x1 h = some ρ → tt_T tt_cl (p, l, e, rm_X8_leftOut, s, m, args, below, meth, c, MQ below (tt_Q tt_cl D ca ad n0 sz false (tt_ret (some (.int ρ.1)) ρ.2)) args s 0 0 (tt_A ad n0 sz), D, ca, tt_A ad n0 sz, 4, some n0) ad 0 0 2 [(0, .ref b0), (1, .int x1)] [] h := by
    intro fu
    induction fu with
    | zero => intro b0 x1 h hs; exact absurd hs (by rw [s_X8_leftOut_L2]; exact fun q => by cases q)
    | succ n2 ih =>
      intro b0 x1 h hs
      rw [s_X8_leftOut_L2] at hs
      have t_2 := ih
      have t_46 : ∀ (b0 : Nat) (x1 : Int32) (h : tt_H), s_X8_leftOut_J46 (s_X8_leftOut_L2 n2) b0 x1 h = some ρ → tt_T tt_cl (p, l, e, rm_X8_leftOut, s, m, args, below, meth, c, MQ below (tt_Q tt_cl D ca ad n0 sz false (tt_ret (some (.int ρ.1)) ρ.2)) args s 0 0 (tt_A ad n0 sz), D, ca, tt_A ad n0 sz, 4, some n0) ad 0 0 46 [(0, .ref b0), (1, .int x1)] [] h := by
        intro b0 x1 h hs
        unfold s_X8_leftOut_J46 at hs
        refine tt_iinc (v := x1 + 1) X dX8_leftOut_46 rfl rfl (Nat.le_of_ble_eq_true rfl) ?_
        refine tt_goto (tgt := 2) X dX8_leftOut_49 (by decide) ?_
        refine tt_drop [0, 1] ?_
        exact t_2 b0 (x1 + 1) h hs
      refine tt_iload_n X dX8_leftOut_2 rfl ?_
      refine tt_aload_n X dX8_leftOut_3 rfl ?_
      obtain ⟨z4, e4, hs⟩ := gg_bind hs
      refine zr_fi X e4 rfl in_X8_leftOut_X8 (by decide) (by decide +kernel) rfl dX8_leftOut_4 ?_
      refine tt_icmp_ge (tgt := 52) X dX8_leftOut_7 (by decide) (fun c7 => ?_) (fun c7 => ?_)
      · rw [if_pos c7] at hs
        refine tt_bipush (v := (-9)) X dX8_leftOut_52 (by decide) ?_
        obtain rfl := Option.some.inj hs
        exact tt_iret X rfl dX8_leftOut_54 ⟨rfl, rfl⟩
      · rw [if_neg c7] at hs
        refine tt_aload_n X dX8_leftOut_10 rfl ?_
        refine tt_iload_n X dX8_leftOut_11 rfl ?_
        refine tt_iconst (v := 1) X dX8_leftOut_12 (by decide) ?_
        refine tt_isub X dX8_leftOut_13 ?_
        obtain ⟨o14, f14, hs⟩ := gg_bind hs
        obtain ⟨w14, e14, hs⟩ := gg_bind hs
        refine zr_callV X f14 rfl (c_X8_cryOf l e14) (fun hts => cwV 1 hts gX8_leftOut_X8_cryOf rfl rfl rfl (by decide +kernel) ⟨by decide, by decide⟩) rfl rfl (Nat.le_of_ble_eq_true rfl) dX8_leftOut_14 ⟨Nat.zero_le _, Nat.zero_le _⟩ ?_
        refine zr_astore_n X w14.1 dX8_leftOut_17 (Nat.le_of_ble_eq_true rfl) ?_
        refine tt_aload_n X dX8_leftOut_18 rfl ?_
        refine tt_iload_n X dX8_leftOut_19 rfl ?_
        obtain ⟨o20, f20, hs⟩ := gg_bind hs
        obtain ⟨w20, e20, hs⟩ := gg_bind hs
        refine zr_callV X f20 rfl (c_X8_cryOf l e20) (fun hts => cwV 1 hts gX8_leftOut_X8_cryOf rfl rfl rfl (by decide +kernel) ⟨by decide, by decide⟩) rfl rfl (Nat.le_of_ble_eq_true rfl) dX8_leftOut_20 ⟨Nat.zero_le _, Nat.zero_le _⟩ ?_
        refine zr_astore_n X w20.1 dX8_leftOut_23 (Nat.le_of_ble_eq_true rfl) ?_
        refine tt_setL (L2 := [(0, .ref b0), (1, .int x1), (2, va_rf w14.1), (3, va_rf w20.1)]) (by cases w14.1 <;> rfl) ?_
        refine zr_aload_n X w14.1 dX8_leftOut_24 rfl ?_
        cases hr25 : w14.1 with
        | none =>
          rw [hr25, gg_opt_none] at hs
          refine tt_ifnullN (tgt := 46) X dX8_leftOut_25 (by decide) ?_
          refine tt_drop [0, 1] ?_
          exact t_46 b0 x1 w20.2 hs
        | some b25 =>
          rw [hr25, gg_opt_some] at hs
          refine tt_ifnull X dX8_leftOut_25 ?_
          refine zr_aload_n X w20.1 dX8_leftOut_28 rfl ?_
          cases hr29 : w20.1 with
          | none =>
            rw [hr29, gg_opt_none] at hs
            refine tt_ifnullN (tgt := 46) X dX8_leftOut_29 (by decide) ?_
            refine tt_drop [0, 1] ?_
            exact t_46 b0 x1 w20.2 hs
          | some b29 =>
            rw [hr29, gg_opt_some] at hs
            refine tt_ifnull X dX8_leftOut_29 ?_
            refine tt_aload_n X dX8_leftOut_32 rfl ?_
            obtain ⟨o33, e33, hs⟩ := gg_bind hs
            refine zr_fr X e33 rfl in_X8_leftOut_X8 (by decide) (by decide +kernel) rfl dX8_leftOut_33 ?_
            refine tt_aload_n X dX8_leftOut_36 rfl ?_
            refine tt_aload_n X dX8_leftOut_37 rfl ?_
            obtain ⟨o38, f38, hs⟩ := gg_bind hs
            obtain ⟨w38, e38, hs⟩ := gg_bind hs
            refine zr_callV X f38 rfl (c_X3_make l e38) (fun hts => cwV 2 hts gX8_leftOut_X3_make rfl rfl rfl (by decide +kernel) ⟨by decide, by decide⟩) rfl rfl (Nat.le_of_ble_eq_true rfl) dX8_leftOut_38 ⟨Nat.zero_le _, Nat.zero_le _⟩ ?_
            refine tt_if_ne (tgt := 46) X dX8_leftOut_41 (by decide) (fun c41 => ?_) (fun c41 => ?_)
            · rw [if_neg c41] at hs
              refine tt_drop [0, 1] ?_
              exact t_46 b0 x1 w38.2 hs
            · rw [if_pos c41] at hs
              refine tt_iload_n X dX8_leftOut_44 rfl ?_
              obtain rfl := Option.some.inj hs
              exact tt_iret X rfl dX8_leftOut_45 ⟨rfl, rfl⟩
  refine tt_iconst (v := 1) X dX8_leftOut_0 (by decide) ?_
  refine tt_istore_n X dX8_leftOut_1 (Nat.le_of_ble_eq_true rfl) ?_
  refine tt_drop [0, 1] ?_
  exact t_2 1000 b0 1 h hs

def s_X8_likeOnEnd_L3 : Nat → Nat → Int32 → Nat → Int32 → Int32 → tt_H → Option (Int32 × tt_H)
  | 0, _, _, _, _, _, _ => none
  | n + 1, b0, x1, b2, x3, x4, h =>
    if 12 ≤ x4 then
      some (12, h)
    else
    (gg_obj h b0 2).bind fun _ =>
    (s_X2_has b0 (x1 + x4) h).bind fun w15 =>
    if w15.1 = 0 then
      some (x4, w15.2)
    else
    (gg_obj w15.2 b0 2).bind fun _ =>
    (s_X2_at b0 (x1 + x4) w15.2).bind fun w26 =>
    (gg_obj w26.2 b2 2).bind fun _ =>
    (s_X2_at b2 (x3 + x4) w26.2).bind fun w34 =>
    if w26.1 = w34.1 then
      s_X8_likeOnEnd_L3 n b0 x1 b2 x3 (x4 + 1) w34.2
    else
    some (x4, w34.2)
def s_X8_likeOnEnd (b0 : Nat) (x1 : Int32) (b2 : Nat) (x3 : Int32) (h : tt_H) : Option (Int32 × tt_H) :=
  s_X8_likeOnEnd_L3 1000 b0 x1 b2 x3 0 h
abbrev rm_X8_likeOnEnd : Room := { frames := 2, cells := 0, slots := 0, locals := 42 }
set_option maxHeartbeats 4000000 in
set_option maxRecDepth 100000 in
theorem c_X8_likeOnEnd (l : Launch) {b0 : Nat} {x1 : Int32} {b2 : Nat} {x3 : Int32} {h : tt_H} {ρ : Int32 × tt_H} (hs : s_X8_likeOnEnd b0 x1 b2 x3 h = some ρ) : tt_M tt_cl l yX8_likeOnEnd wsX8_likeOnEnd rm_X8_likeOnEnd 0 0 false [.ref b0, .int x1, .ref b2, .int x3] h (tt_ret (some (.int ρ.1)) ρ.2) := by
  refine tt_M.of0 (cc := cX8_likeOnEnd) (maxL := 5) (ret := (some .int)) (by decide +kernel) rfl (Nat.le_of_ble_eq_true rfl) ?_
  intro p e s m args below meth c D ca ad n0 sz hwf hsz X hini
  unfold s_X8_likeOnEnd at hs
  have t_3 : ∀ (fu : Nat) (b0 : Nat) (x1 : Int32) (b2 : Nat) (x3 : Int32) (x4 : Int32) (h : tt_H), s_X8_likeOnEnd_L3 fu b0 x1 b2 x3 x4 h = some ρ → tt_T tt_cl (p, l, e, rm_X8_likeOnEnd, s, m, args, below, meth, c, MQ below (tt_Q tt_cl D ca ad n0 sz false (tt_ret (some (.int ρ.1)) ρ.2)) args s 0 0 (tt_A ad n0 sz), D, ca, tt_A ad n0 sz, 5, some n0) ad 0 0 3 [(0, .ref b0), (1, .int x1), (2, .ref b2), (3, .int x3), (4, .int x4)] [] h := by
    intro fu
    induction fu with
    | zero => intro b0 x1 b2 x3 x4 h hs; exact absurd hs (by rw [s_X8_likeOnEnd_L3]; exact fun q => by cases q)
    | succ n3 ih =>
      intro b0 x1 b2 x3 x4 h hs
      rw [s_X8_likeOnEnd_L3] at hs
      have t_3 := ih
      refine tt_iload X dX8_likeOnEnd_3 rfl ?_
      refine tt_bipush (v := 12) X dX8_likeOnEnd_5 (by decide) ?_
      refine tt_icmp_ge (tgt := 49) X dX8_likeOnEnd_7 (by decide) (fun c7 => ?_) (fun c7 => ?_)
      · rw [if_pos c7] at hs
        refine tt_bipush (v := 12) X dX8_likeOnEnd_49 (by decide) ?_
        obtain rfl := Option.some.inj hs
        exact tt_iret X rfl dX8_likeOnEnd_51 ⟨rfl, rfl⟩
      · rw [if_neg c7] at hs
        refine tt_aload_n X dX8_likeOnEnd_10 rfl ?_
        refine tt_iload_n X dX8_likeOnEnd_11 rfl ?_
        refine tt_iload X dX8_likeOnEnd_12 rfl ?_
        refine tt_iadd X dX8_likeOnEnd_14 ?_
        obtain ⟨o15, f15, hs⟩ := gg_bind hs
        obtain ⟨w15, e15, hs⟩ := gg_bind hs
        refine zr_callV X f15 rfl (c_X2_has l e15) (fun hts => cwV 1 hts gX8_likeOnEnd_X2_has rfl rfl rfl (by decide +kernel) ⟨by decide, by decide⟩) rfl rfl (Nat.le_of_ble_eq_true rfl) dX8_likeOnEnd_15 ⟨Nat.zero_le _, Nat.zero_le _⟩ ?_
        refine tt_if_eq (tgt := 40) X dX8_likeOnEnd_18 (by decide) (fun c18 => ?_) (fun c18 => ?_)
        · rw [if_pos c18] at hs
          refine tt_iload X dX8_likeOnEnd_40 rfl ?_
          obtain rfl := Option.some.inj hs
          exact tt_iret X rfl dX8_likeOnEnd_42 ⟨rfl, rfl⟩
        · rw [if_neg c18] at hs
          refine tt_aload_n X dX8_likeOnEnd_21 rfl ?_
          refine tt_iload_n X dX8_likeOnEnd_22 rfl ?_
          refine tt_iload X dX8_likeOnEnd_23 rfl ?_
          refine tt_iadd X dX8_likeOnEnd_25 ?_
          obtain ⟨o26, f26, hs⟩ := gg_bind hs
          obtain ⟨w26, e26, hs⟩ := gg_bind hs
          refine zr_callV X f26 rfl (c_X2_at l e26) (fun hts => cwV 1 hts gX8_likeOnEnd_X2_at rfl rfl rfl (by decide +kernel) ⟨by decide, by decide⟩) rfl rfl (Nat.le_of_ble_eq_true rfl) dX8_likeOnEnd_26 ⟨Nat.zero_le _, Nat.zero_le _⟩ ?_
          refine tt_aload_n X dX8_likeOnEnd_29 rfl ?_
          refine tt_iload_n X dX8_likeOnEnd_30 rfl ?_
          refine tt_iload X dX8_likeOnEnd_31 rfl ?_
          refine tt_iadd X dX8_likeOnEnd_33 ?_
          obtain ⟨o34, f34, hs⟩ := gg_bind hs
          obtain ⟨w34, e34, hs⟩ := gg_bind hs
          refine zr_callV X f34 rfl (c_X2_at l e34) (fun hts => cwV 1 hts gX8_likeOnEnd_X2_at rfl rfl rfl (by decide +kernel) ⟨by decide, by decide⟩) rfl rfl (Nat.le_of_ble_eq_true rfl) dX8_likeOnEnd_34 ⟨Nat.zero_le _, Nat.zero_le _⟩ ?_
          refine tt_icmp_eq (tgt := 43) X dX8_likeOnEnd_37 (by decide) (fun c37 => ?_) (fun c37 => ?_)
          · rw [if_pos c37] at hs
            refine tt_iinc (v := x4 + 1) X dX8_likeOnEnd_43 rfl rfl (Nat.le_of_ble_eq_true rfl) ?_
            refine tt_goto (tgt := 3) X dX8_likeOnEnd_46 (by decide) ?_
            refine tt_drop [0, 1, 2, 3, 4] ?_
            exact t_3 b0 x1 b2 x3 (x4 + 1) w34.2 hs
          · rw [if_neg c37] at hs
            refine tt_iload X dX8_likeOnEnd_40 rfl ?_
            obtain rfl := Option.some.inj hs
            exact tt_iret X rfl dX8_likeOnEnd_42 ⟨rfl, rfl⟩
  refine tt_iconst (v := 0) X dX8_likeOnEnd_0 (by decide) ?_
  refine tt_istore X dX8_likeOnEnd_1 (Nat.le_of_ble_eq_true rfl) ?_
  refine tt_drop [0, 1, 2, 3, 4] ?_
  exact t_3 1000 b0 x1 b2 x3 0 h hs

def s_X8_longestPartAt_L5 : Nat → Nat → Int32 → Nat → Int32 → Int32 → tt_H → Option (Int32 × tt_H)
  | 0, _, _, _, _, _, _ => none
  | n + 1, b0, x1, b2, x3, x4, h =>
    (gg_obj h b2 2).bind fun _ =>
    (s_X2_size b2 h).bind fun w8 =>
    if w8.1 ≤ x4 then
      some (x3, w8.2)
    else
    (s_X8_likeOnEnd b0 x1 b2 x4 w8.2).bind fun w20 =>
    s_X8_longestPartAt_L5 n b0 x1 b2 (if x3 < w20.1 then w20.1 else x3) (x4 + 1) w20.2
def s_X8_longestPartAt (b0 : Nat) (x1 : Int32) (b2 : Nat) (h : tt_H) : Option (Int32 × tt_H) :=
  s_X8_longestPartAt_L5 1000 b0 x1 b2 0 0 h
abbrev rm_X8_longestPartAt : Room := { frames := 3, cells := 0, slots := 0, locals := 66 }
set_option maxHeartbeats 4000000 in
set_option maxRecDepth 100000 in
theorem c_X8_longestPartAt (l : Launch) {b0 : Nat} {x1 : Int32} {b2 : Nat} {h : tt_H} {ρ : Int32 × tt_H} (hs : s_X8_longestPartAt b0 x1 b2 h = some ρ) : tt_M tt_cl l yX8_longestPartAt wsX8_longestPartAt rm_X8_longestPartAt 0 0 false [.ref b0, .int x1, .ref b2] h (tt_ret (some (.int ρ.1)) ρ.2) := by
  refine tt_M.of0 (cc := cX8_longestPartAt) (maxL := 5) (ret := (some .int)) (by decide +kernel) rfl (Nat.le_of_ble_eq_true rfl) ?_
  intro p e s m args below meth c D ca ad n0 sz hwf hsz X hini
  unfold s_X8_longestPartAt at hs
  have t_5 : ∀ (fu : Nat) (b0 : Nat) (x1 : Int32) (b2 : Nat) (x3 : Int32) (x4 : Int32) (h : tt_H), s_X8_longestPartAt_L5 fu b0 x1 b2 x3 x4 h = some ρ → tt_T tt_cl (p, l, e, rm_X8_longestPartAt, s, m, args, below, meth, c, MQ below (tt_Q tt_cl D ca ad n0 sz false (tt_ret (some (.int ρ.1)) ρ.2)) args s 0 0 (tt_A ad n0 sz), D, ca, tt_A ad n0 sz, 5, some n0) ad 0 0 5 [(0, .ref b0), (1, .int x1), (2, .ref b2), (3, .int x3), (4, .int x4)] [] h := by
    intro fu
    induction fu with
    | zero => intro b0 x1 b2 x3 x4 h hs; exact absurd hs (by rw [s_X8_longestPartAt_L5]; exact fun q => by cases q)
    | succ n5 ih =>
      intro b0 x1 b2 x3 x4 h hs
      rw [s_X8_longestPartAt_L5] at hs
      have t_5 := ih
      refine tt_iload X dX8_longestPartAt_5 rfl ?_
      refine tt_aload_n X dX8_longestPartAt_7 rfl ?_
      obtain ⟨o8, f8, hs⟩ := gg_bind hs
      obtain ⟨w8, e8, hs⟩ := gg_bind hs
      refine zr_callV X f8 rfl (c_X2_size l e8) (fun hts => cwV 0 hts gX8_longestPartAt_X2_size rfl rfl rfl (by decide +kernel) ⟨by decide, by decide⟩) rfl rfl (Nat.le_of_ble_eq_true rfl) dX8_longestPartAt_8 ⟨Nat.zero_le _, Nat.zero_le _⟩ ?_
      refine tt_icmp_ge (tgt := 33) X dX8_longestPartAt_11 (by decide) (fun c11 => ?_) (fun c11 => ?_)
      · rw [if_pos c11] at hs
        refine tt_iload_n X dX8_longestPartAt_33 rfl ?_
        obtain rfl := Option.some.inj hs
        exact tt_iret X rfl dX8_longestPartAt_34 ⟨rfl, rfl⟩
      · rw [if_neg c11] at hs
        refine tt_iload_n X dX8_longestPartAt_14 rfl ?_
        refine tt_aload_n X dX8_longestPartAt_15 rfl ?_
        refine tt_iload_n X dX8_longestPartAt_16 rfl ?_
        refine tt_aload_n X dX8_longestPartAt_17 rfl ?_
        refine tt_iload X dX8_longestPartAt_18 rfl ?_
        obtain ⟨w20, e20, hs⟩ := gg_bind hs
        refine zr_callS X (c_X8_likeOnEnd l e20) (fun hts => va_cwS 4 hts gX8_longestPartAt_X8_likeOnEnd rfl rfl rfl (by decide +kernel) ⟨by decide, by decide⟩) rfl rfl (Nat.le_of_ble_eq_true rfl) dX8_longestPartAt_20 ⟨Nat.zero_le _, Nat.zero_le _⟩ ?_
        refine zr_mmax X (by decide +kernel) (by decide +kernel) (by decide +kernel) (by decide +kernel) (by decide) (Nat.le_of_ble_eq_true rfl) (Nat.zero_le _) (Nat.zero_le _) dX8_longestPartAt_23 ?_
        refine tt_istore_n X dX8_longestPartAt_26 (Nat.le_of_ble_eq_true rfl) ?_
        refine tt_iinc (v := x4 + 1) X dX8_longestPartAt_27 rfl rfl (Nat.le_of_ble_eq_true rfl) ?_
        refine tt_goto (tgt := 5) X dX8_longestPartAt_30 (by decide) ?_
        refine tt_drop [0, 1, 2, 3, 4] ?_
        exact t_5 b0 x1 b2 (if x3 < w20.1 then w20.1 else x3) (x4 + 1) w20.2 hs
  refine tt_iconst (v := 0) X dX8_longestPartAt_0 (by decide) ?_
  refine tt_istore_n X dX8_longestPartAt_1 (Nat.le_of_ble_eq_true rfl) ?_
  refine tt_iconst (v := 0) X dX8_longestPartAt_2 (by decide) ?_
  refine tt_istore X dX8_longestPartAt_3 (Nat.le_of_ble_eq_true rfl) ?_
  refine tt_drop [0, 1, 2, 3, 4] ?_
  exact t_5 1000 b0 x1 b2 0 0 h hs

def s_X8_lose (b0 : Nat) (x1 : Int32) (h : tt_H) : Option (Int32 × tt_H) :=
  (gg_obj h b0 8).bind fun _ =>
  (s_X8_sheetOf b0 x1 h).bind fun w2 =>
  gg_opt w2.1 (
    some ((-1), w2.2)
  ) fun b7 =>
  (gg_obj w2.2 b7 6).bind fun _ =>
  (s_X6_isNothing b7 w2.2).bind fun w13 =>
  if w13.1 = 0 then
    (gg_obj w13.2 b7 6).bind fun _ =>
    (s_X6_drop b7 w13.2).bind fun w22 =>
    some (1, w22.2)
  else
  some (0, w13.2)
abbrev rm_X8_lose : Room := { frames := 1, cells := 0, slots := 0, locals := 21 }
set_option maxHeartbeats 4000000 in
set_option maxRecDepth 100000 in
theorem c_X8_lose (l : Launch) {b0 : Nat} {x1 : Int32} {h : tt_H} {ρ : Int32 × tt_H} (hs : s_X8_lose b0 x1 h = some ρ) : tt_M tt_cl l yX8_lose wsX8_lose rm_X8_lose 0 0 false [.ref b0, .int x1] h (tt_ret (some (.int ρ.1)) ρ.2) := by
  refine tt_M.of0 (cc := cX8_lose) (maxL := 3) (ret := (some .int)) (by decide +kernel) rfl (Nat.le_of_ble_eq_true rfl) ?_
  intro p e s m args below meth c D ca ad n0 sz hwf hsz X hini
  unfold s_X8_lose at hs
  refine tt_aload_n X dX8_lose_0 rfl ?_
  refine tt_iload_n X dX8_lose_1 rfl ?_
  obtain ⟨o2, f2, hs⟩ := gg_bind hs
  obtain ⟨w2, e2, hs⟩ := gg_bind hs
  refine zr_callV X f2 rfl (c_X8_sheetOf l e2) (fun hts => cwV 1 hts gX8_lose_X8_sheetOf rfl rfl rfl (by decide +kernel) ⟨by decide, by decide⟩) rfl rfl (Nat.le_of_ble_eq_true rfl) dX8_lose_2 ⟨Nat.zero_le _, Nat.zero_le _⟩ ?_
  refine zr_astore_n X w2.1 dX8_lose_5 (Nat.le_of_ble_eq_true rfl) ?_
  refine zr_aload_n X w2.1 dX8_lose_6 rfl ?_
  cases hr7 : w2.1 with
  | none =>
    rw [hr7, gg_opt_none] at hs
    refine tt_ifnonnullN X dX8_lose_7 ?_
    refine tt_iconst (v := (-1)) X dX8_lose_10 (by decide) ?_
    obtain rfl := Option.some.inj hs
    exact tt_iret X rfl dX8_lose_11 ⟨rfl, rfl⟩
  | some b7 =>
    rw [hr7, gg_opt_some] at hs
    refine tt_ifnonnull (tgt := 12) X dX8_lose_7 (by decide) ?_
    refine tt_aload_n X dX8_lose_12 rfl ?_
    obtain ⟨o13, f13, hs⟩ := gg_bind hs
    obtain ⟨w13, e13, hs⟩ := gg_bind hs
    refine zr_callV X f13 rfl (c_X6_isNothing l e13) (fun hts => cwV 0 hts gX8_lose_X6_isNothing rfl rfl rfl (by decide +kernel) ⟨by decide, by decide⟩) rfl rfl (Nat.le_of_ble_eq_true rfl) dX8_lose_13 ⟨Nat.zero_le _, Nat.zero_le _⟩ ?_
    refine tt_if_eq (tgt := 21) X dX8_lose_16 (by decide) (fun c16 => ?_) (fun c16 => ?_)
    · rw [if_pos c16] at hs
      refine tt_aload_n X dX8_lose_21 rfl ?_
      obtain ⟨o22, f22, hs⟩ := gg_bind hs
      obtain ⟨w22, e22, hs⟩ := gg_bind hs
      refine zr_callV X f22 rfl (c_X6_drop l e22) (fun hts => cwV 0 hts gX8_lose_X6_drop rfl rfl rfl (by decide +kernel) ⟨by decide, by decide⟩) rfl rfl (Nat.le_of_ble_eq_true rfl) dX8_lose_22 ⟨Nat.zero_le _, Nat.zero_le _⟩ ?_
      refine tt_iconst (v := 1) X dX8_lose_25 (by decide) ?_
      obtain rfl := Option.some.inj hs
      exact tt_iret X rfl dX8_lose_26 ⟨rfl, rfl⟩
    · rw [if_neg c16] at hs
      refine tt_iconst (v := 0) X dX8_lose_19 (by decide) ?_
      obtain rfl := Option.some.inj hs
      exact tt_iret X rfl dX8_lose_20 ⟨rfl, rfl⟩

theorem in_X8_lostDay_X8 : ∀ w ∈ u_ws RX8 TX8 13, w ∈ wsX8_lostDay := by decide +kernel
def s_X8_lostDay (b0 : Nat) (x1 : Int32) (x2 : Int32) (x3 : Int32) (h : tt_H) : Option (Int64 × tt_H) :=
  (gg_obj h b0 8).bind fun _ =>
  (s_X8_cryOf b0 x1 h).bind fun w2 =>
  (gg_obj w2.2 b0 8).bind fun _ =>
  (s_X8_cryOf b0 x2 w2.2).bind fun w9 =>
  gg_opt w2.1 (
    some ((-9223372036854775808), w9.2)
  ) fun b16 =>
  gg_opt w9.1 (
    some ((-9223372036854775808), w9.2)
  ) fun b21 =>
  if x3 < 0 then
    some ((-9223372036854775808), w9.2)
  else
  if x3 ≤ 12 then
    (gg_fr w9.2 b0 8 8).bind fun o39 =>
    (gg_obj w9.2 o39 0).bind fun _ =>
    (s_X0_count o39 b16 b21 x3 w9.2).bind fun w47 =>
    some (w47.1, w47.2)
  else
  some ((-9223372036854775808), w9.2)
abbrev rm_X8_lostDay : Room := { frames := 6, cells := 0, slots := 0, locals := 151 }
set_option maxHeartbeats 4000000 in
set_option maxRecDepth 100000 in
theorem c_X8_lostDay (l : Launch) {b0 : Nat} {x1 : Int32} {x2 : Int32} {x3 : Int32} {h : tt_H} {ρ : Int64 × tt_H} (hs : s_X8_lostDay b0 x1 x2 x3 h = some ρ) : tt_M tt_cl l yX8_lostDay wsX8_lostDay rm_X8_lostDay 0 0 false [.ref b0, .int x1, .int x2, .int x3] h (tt_ret (some (.long ρ.1)) ρ.2) := by
  refine tt_M.of0 (cc := cX8_lostDay) (maxL := 6) (ret := (some .long)) (by decide +kernel) rfl (Nat.le_of_ble_eq_true rfl) ?_
  intro p e s m args below meth c D ca ad n0 sz hwf hsz X hini
  unfold s_X8_lostDay at hs
  refine tt_aload_n X dX8_lostDay_0 rfl ?_
  refine tt_iload_n X dX8_lostDay_1 rfl ?_
  obtain ⟨o2, f2, hs⟩ := gg_bind hs
  obtain ⟨w2, e2, hs⟩ := gg_bind hs
  refine zr_callV X f2 rfl (c_X8_cryOf l e2) (fun hts => cwV 1 hts gX8_lostDay_X8_cryOf rfl rfl rfl (by decide +kernel) ⟨by decide, by decide⟩) rfl rfl (Nat.le_of_ble_eq_true rfl) dX8_lostDay_2 ⟨Nat.zero_le _, Nat.zero_le _⟩ ?_
  refine zr_astore X w2.1 dX8_lostDay_5 (Nat.le_of_ble_eq_true rfl) ?_
  refine tt_aload_n X dX8_lostDay_7 rfl ?_
  refine tt_iload_n X dX8_lostDay_8 rfl ?_
  obtain ⟨o9, f9, hs⟩ := gg_bind hs
  obtain ⟨w9, e9, hs⟩ := gg_bind hs
  refine zr_callV X f9 rfl (c_X8_cryOf l e9) (fun hts => cwV 1 hts gX8_lostDay_X8_cryOf rfl rfl rfl (by decide +kernel) ⟨by decide, by decide⟩) rfl rfl (Nat.le_of_ble_eq_true rfl) dX8_lostDay_9 ⟨Nat.zero_le _, Nat.zero_le _⟩ ?_
  refine zr_astore X w9.1 dX8_lostDay_12 (Nat.le_of_ble_eq_true rfl) ?_
  refine tt_setL (L2 := [(0, .ref b0), (1, .int x1), (2, .int x2), (3, .int x3), (4, va_rf w2.1), (5, va_rf w9.1)]) (by cases w2.1 <;> rfl) ?_
  refine zr_aload X w2.1 dX8_lostDay_14 rfl ?_
  cases hr16 : w2.1 with
  | none =>
    rw [hr16, gg_opt_none] at hs
    refine tt_ifnullN (tgt := 34) X dX8_lostDay_16 (by decide) ?_
    refine tt_ldc2 (v := (-9223372036854775808)) X (by decide +kernel) dX8_lostDay_34 ?_
    obtain rfl := Option.some.inj hs
    exact tt_lret X rfl dX8_lostDay_37 ⟨rfl, rfl⟩
  | some b16 =>
    rw [hr16, gg_opt_some] at hs
    refine tt_ifnull X dX8_lostDay_16 ?_
    refine zr_aload X w9.1 dX8_lostDay_19 rfl ?_
    cases hr21 : w9.1 with
    | none =>
      rw [hr21, gg_opt_none] at hs
      refine tt_ifnullN (tgt := 34) X dX8_lostDay_21 (by decide) ?_
      refine tt_ldc2 (v := (-9223372036854775808)) X (by decide +kernel) dX8_lostDay_34 ?_
      obtain rfl := Option.some.inj hs
      exact tt_lret X rfl dX8_lostDay_37 ⟨rfl, rfl⟩
    | some b21 =>
      rw [hr21, gg_opt_some] at hs
      refine tt_ifnull X dX8_lostDay_21 ?_
      refine tt_iload_n X dX8_lostDay_24 rfl ?_
      refine tt_if_lt (tgt := 34) X dX8_lostDay_25 (by decide) (fun c25 => ?_) (fun c25 => ?_)
      · rw [if_pos c25] at hs
        refine tt_ldc2 (v := (-9223372036854775808)) X (by decide +kernel) dX8_lostDay_34 ?_
        obtain rfl := Option.some.inj hs
        exact tt_lret X rfl dX8_lostDay_37 ⟨rfl, rfl⟩
      · rw [if_neg c25] at hs
        refine tt_iload_n X dX8_lostDay_28 rfl ?_
        refine tt_bipush (v := 12) X dX8_lostDay_29 (by decide) ?_
        refine tt_icmp_le (tgt := 38) X dX8_lostDay_31 (by decide) (fun c31 => ?_) (fun c31 => ?_)
        · rw [if_pos c31] at hs
          refine tt_aload_n X dX8_lostDay_38 rfl ?_
          obtain ⟨o39, e39, hs⟩ := gg_bind hs
          refine zr_fr X e39 rfl in_X8_lostDay_X8 (by decide) (by decide +kernel) rfl dX8_lostDay_39 ?_
          refine tt_aload X dX8_lostDay_42 rfl ?_
          refine tt_aload X dX8_lostDay_44 rfl ?_
          refine tt_iload_n X dX8_lostDay_46 rfl ?_
          obtain ⟨o47, f47, hs⟩ := gg_bind hs
          obtain ⟨w47, e47, hs⟩ := gg_bind hs
          refine zr_callV X f47 rfl (c_X0_count l e47) (fun hts => cwV 3 hts gX8_lostDay_X0_count rfl rfl rfl (by decide +kernel) ⟨by decide, by decide⟩) rfl rfl (Nat.le_of_ble_eq_true rfl) dX8_lostDay_47 ⟨Nat.zero_le _, Nat.zero_le _⟩ ?_
          obtain rfl := Option.some.inj hs
          exact tt_lret X rfl dX8_lostDay_50 ⟨rfl, rfl⟩
        · rw [if_neg c31] at hs
          refine tt_ldc2 (v := (-9223372036854775808)) X (by decide +kernel) dX8_lostDay_34 ?_
          obtain rfl := Option.some.inj hs
          exact tt_lret X rfl dX8_lostDay_37 ⟨rfl, rfl⟩

theorem in_X8_many_X8 : ∀ w ∈ u_ws RX8 TX8 13, w ∈ wsX8_many := by decide +kernel
def s_X8_many (b0 : Nat) (h : tt_H) : Option (Int32 × tt_H) :=
  (gg_fi h b0 8 10).bind fun z1 =>
  some (z1, h)
abbrev rm_X8_many : Room := { frames := 0, cells := 0, slots := 0, locals := 0 }
set_option maxHeartbeats 4000000 in
set_option maxRecDepth 100000 in
theorem c_X8_many (l : Launch) {b0 : Nat} {h : tt_H} {ρ : Int32 × tt_H} (hs : s_X8_many b0 h = some ρ) : tt_M tt_cl l yX8_many wsX8_many rm_X8_many 0 0 false [.ref b0] h (tt_ret (some (.int ρ.1)) ρ.2) := by
  refine tt_M.of0 (cc := cX8_many) (maxL := 1) (ret := (some .int)) (by decide +kernel) rfl (Nat.le_of_ble_eq_true rfl) ?_
  intro p e s m args below meth c D ca ad n0 sz hwf hsz X hini
  unfold s_X8_many at hs
  refine tt_aload_n X dX8_many_0 rfl ?_
  obtain ⟨z1, e1, hs⟩ := gg_bind hs
  refine zr_fi X e1 rfl in_X8_many_X8 (by decide) (by decide +kernel) rfl dX8_many_1 ?_
  obtain rfl := Option.some.inj hs
  exact tt_iret X rfl dX8_many_4 ⟨rfl, rfl⟩

theorem in_X8_mayBe_X8 : ∀ w ∈ u_ws RX8 TX8 13, w ∈ wsX8_mayBe := by decide +kernel
def s_X8_mayBe_J67 (κ24 : Nat → Int32 → Nat → Int32 → Int32 → tt_H → Option (Int32 × tt_H)) (b0 : Nat) (x1 : Int32) (b2 : Nat) (x3 : Int32) (x4 : Int32) (h : tt_H) : Option (Int32 × tt_H) :=
  κ24 b0 x1 b2 x3 (x4 + 1) h
def s_X8_mayBe_L24 : Nat → Nat → Int32 → Nat → Int32 → Int32 → tt_H → Option (Int32 × tt_H)
  | 0, _, _, _, _, _, _ => none
  | n + 1, b0, x1, b2, x3, x4, h =>
    (gg_fi h b0 8 10).bind fun z27 =>
    if z27 ≤ x4 then
      some (x3, h)
    else
    (gg_obj h b0 8).bind fun _ =>
    (s_X8_cryOf b0 x4 h).bind fun w36 =>
    gg_opt w36.1 (
      s_X8_mayBe_J67 (s_X8_mayBe_L24 n) b0 x1 b2 x3 x4 w36.2
    ) fun b43 =>
    (gg_fr w36.2 b0 8 4).bind fun o47 =>
    (gg_obj w36.2 o47 3).bind fun _ =>
    (s_X3_canStand o47 b43 b2 x1 w36.2).bind fun w54 =>
    if w54.1 = 0 then
      s_X8_mayBe_J67 (s_X8_mayBe_L24 n) b0 x1 b2 x3 x4 w54.2
    else
    s_X8_mayBe_J67 (s_X8_mayBe_L24 n) b0 x1 b2 (x3 ||| ((1 : Int32) <<< (x4 &&& 31))) x4 w54.2
def s_X8_mayBe (b0 : Nat) (x1 : Int32) (h : tt_H) : Option (Int32 × tt_H) :=
  (gg_obj h b0 8).bind fun _ =>
  (s_X8_lastCry b0 h).bind fun w1 =>
  gg_opt w1.1 (
    some ((-1), w1.2)
  ) fun b6 =>
  (gg_obj w1.2 b6 2).bind fun _ =>
  (s_X2_has b6 x1 w1.2).bind fun w11 =>
  if w11.1 = 0 then
    some ((-1), w11.2)
  else
  s_X8_mayBe_L24 1000 b0 x1 b6 0 0 w11.2
abbrev rm_X8_mayBe : Room := { frames := 4, cells := 0, slots := 0, locals := 90 }
set_option maxHeartbeats 4000000 in
set_option maxRecDepth 100000 in
theorem c_X8_mayBe (l : Launch) {b0 : Nat} {x1 : Int32} {h : tt_H} {ρ : Int32 × tt_H} (hs : s_X8_mayBe b0 x1 h = some ρ) : tt_M tt_cl l yX8_mayBe wsX8_mayBe rm_X8_mayBe 0 0 false [.ref b0, .int x1] h (tt_ret (some (.int ρ.1)) ρ.2) := by
  refine tt_M.of0 (cc := cX8_mayBe) (maxL := 6) (ret := (some .int)) (by decide +kernel) rfl (Nat.le_of_ble_eq_true rfl) ?_
  intro p e s m args below meth c D ca ad n0 sz hwf hsz X hini
  unfold s_X8_mayBe at hs
  have t_24 : ∀ (fu : Nat) (b0 : Nat) (x1 : Int32) (b2 : Nat) (x3 : Int32) (x4 : Int32) (h : tt_H), s_X8_mayBe_L24 fu b0 x1 b2 x3 x4 h = some ρ → tt_T tt_cl (p, l, e, rm_X8_mayBe, s, m, args, below, meth, c, MQ below (tt_Q tt_cl D ca ad n0 sz false (tt_ret (some (.int ρ.1)) ρ.2)) args s 0 0 (tt_A ad n0 sz), D, ca, tt_A ad n0 sz, 6, some n0) ad 0 0 24 [(0, .ref b0), (1, .int x1), (2, .ref b2), (3, .int x3), (4, .int x4)] [] h := by
    intro fu
    induction fu with
    | zero => intro b0 x1 b2 x3 x4 h hs; exact absurd hs (by rw [s_X8_mayBe_L24]; exact fun q => by cases q)
    | succ n24 ih =>
      intro b0 x1 b2 x3 x4 h hs
      rw [s_X8_mayBe_L24] at hs
      have t_24 := ih
      have t_67 : ∀ (b0 : Nat) (x1 : Int32) (b2 : Nat) (x3 : Int32) (x4 : Int32) (h : tt_H), s_X8_mayBe_J67 (s_X8_mayBe_L24 n24) b0 x1 b2 x3 x4 h = some ρ → tt_T tt_cl (p, l, e, rm_X8_mayBe, s, m, args, below, meth, c, MQ below (tt_Q tt_cl D ca ad n0 sz false (tt_ret (some (.int ρ.1)) ρ.2)) args s 0 0 (tt_A ad n0 sz), D, ca, tt_A ad n0 sz, 6, some n0) ad 0 0 67 [(0, .ref b0), (1, .int x1), (2, .ref b2), (3, .int x3), (4, .int x4)] [] h := by
        intro b0 x1 b2 x3 x4 h hs
        unfold s_X8_mayBe_J67 at hs
        refine tt_iinc (v := x4 + 1) X dX8_mayBe_67 rfl rfl (Nat.le_of_ble_eq_true rfl) ?_
        refine tt_goto (tgt := 24) X dX8_mayBe_70 (by decide) ?_
        refine tt_drop [0, 1, 2, 3, 4] ?_
        exact t_24 b0 x1 b2 x3 (x4 + 1) h hs
      refine tt_iload X dX8_mayBe_24 rfl ?_
      refine tt_aload_n X dX8_mayBe_26 rfl ?_
      obtain ⟨z27, e27, hs⟩ := gg_bind hs
      refine zr_fi X e27 rfl in_X8_mayBe_X8 (by decide) (by decide +kernel) rfl dX8_mayBe_27 ?_
      refine tt_icmp_ge (tgt := 73) X dX8_mayBe_30 (by decide) (fun c30 => ?_) (fun c30 => ?_)
      · rw [if_pos c30] at hs
        refine tt_iload_n X dX8_mayBe_73 rfl ?_
        obtain rfl := Option.some.inj hs
        exact tt_iret X rfl dX8_mayBe_74 ⟨rfl, rfl⟩
      · rw [if_neg c30] at hs
        refine tt_aload_n X dX8_mayBe_33 rfl ?_
        refine tt_iload X dX8_mayBe_34 rfl ?_
        obtain ⟨o36, f36, hs⟩ := gg_bind hs
        obtain ⟨w36, e36, hs⟩ := gg_bind hs
        refine zr_callV X f36 rfl (c_X8_cryOf l e36) (fun hts => cwV 1 hts gX8_mayBe_X8_cryOf rfl rfl rfl (by decide +kernel) ⟨by decide, by decide⟩) rfl rfl (Nat.le_of_ble_eq_true rfl) dX8_mayBe_36 ⟨Nat.zero_le _, Nat.zero_le _⟩ ?_
        refine zr_astore X w36.1 dX8_mayBe_39 (Nat.le_of_ble_eq_true rfl) ?_
        refine zr_aload X w36.1 dX8_mayBe_41 rfl ?_
        cases hr43 : w36.1 with
        | none =>
          rw [hr43, gg_opt_none] at hs
          refine tt_ifnullN (tgt := 67) X dX8_mayBe_43 (by decide) ?_
          refine tt_drop [0, 1, 2, 3, 4] ?_
          exact t_67 b0 x1 b2 x3 x4 w36.2 hs
        | some b43 =>
          rw [hr43, gg_opt_some] at hs
          refine tt_ifnull X dX8_mayBe_43 ?_
          refine tt_aload_n X dX8_mayBe_46 rfl ?_
          obtain ⟨o47, e47, hs⟩ := gg_bind hs
          refine zr_fr X e47 rfl in_X8_mayBe_X8 (by decide) (by decide +kernel) rfl dX8_mayBe_47 ?_
          refine tt_aload X dX8_mayBe_50 rfl ?_
          refine tt_aload_n X dX8_mayBe_52 rfl ?_
          refine tt_iload_n X dX8_mayBe_53 rfl ?_
          obtain ⟨o54, f54, hs⟩ := gg_bind hs
          obtain ⟨w54, e54, hs⟩ := gg_bind hs
          refine zr_callV X f54 rfl (c_X3_canStand l e54) (fun hts => cwV 3 hts gX8_mayBe_X3_canStand rfl rfl rfl (by decide +kernel) ⟨by decide, by decide⟩) rfl rfl (Nat.le_of_ble_eq_true rfl) dX8_mayBe_54 ⟨Nat.zero_le _, Nat.zero_le _⟩ ?_
          refine tt_if_eq (tgt := 67) X dX8_mayBe_57 (by decide) (fun c57 => ?_) (fun c57 => ?_)
          · rw [if_pos c57] at hs
            refine tt_drop [0, 1, 2, 3, 4] ?_
            exact t_67 b0 x1 b2 x3 x4 w54.2 hs
          · rw [if_neg c57] at hs
            refine tt_iload_n X dX8_mayBe_60 rfl ?_
            refine tt_iconst (v := 1) X dX8_mayBe_61 (by decide) ?_
            refine tt_iload X dX8_mayBe_62 rfl ?_
            refine tt_ishl X dX8_mayBe_64 ?_
            refine tt_ior X dX8_mayBe_65 ?_
            refine tt_istore_n X dX8_mayBe_66 (Nat.le_of_ble_eq_true rfl) ?_
            refine tt_drop [0, 1, 2, 3, 4] ?_
            exact t_67 b0 x1 b2 (x3 ||| ((1 : Int32) <<< (x4 &&& 31))) x4 w54.2 hs
  refine tt_aload_n X dX8_mayBe_0 rfl ?_
  obtain ⟨o1, f1, hs⟩ := gg_bind hs
  obtain ⟨w1, e1, hs⟩ := gg_bind hs
  refine zr_callV X f1 rfl (c_X8_lastCry l e1) (fun hts => cwV 0 hts gX8_mayBe_X8_lastCry rfl rfl rfl (by decide +kernel) ⟨by decide, by decide⟩) rfl rfl (Nat.le_of_ble_eq_true rfl) dX8_mayBe_1 ⟨Nat.zero_le _, Nat.zero_le _⟩ ?_
  refine zr_astore_n X w1.1 dX8_mayBe_4 (Nat.le_of_ble_eq_true rfl) ?_
  refine zr_aload_n X w1.1 dX8_mayBe_5 rfl ?_
  cases hr6 : w1.1 with
  | none =>
    rw [hr6, gg_opt_none] at hs
    refine tt_ifnullN (tgt := 17) X dX8_mayBe_6 (by decide) ?_
    refine tt_iconst (v := (-1)) X dX8_mayBe_17 (by decide) ?_
    obtain rfl := Option.some.inj hs
    exact tt_iret X rfl dX8_mayBe_18 ⟨rfl, rfl⟩
  | some b6 =>
    rw [hr6, gg_opt_some] at hs
    refine tt_ifnull X dX8_mayBe_6 ?_
    refine tt_aload_n X dX8_mayBe_9 rfl ?_
    refine tt_iload_n X dX8_mayBe_10 rfl ?_
    obtain ⟨o11, f11, hs⟩ := gg_bind hs
    obtain ⟨w11, e11, hs⟩ := gg_bind hs
    refine zr_callV X f11 rfl (c_X2_has l e11) (fun hts => cwV 1 hts gX8_mayBe_X2_has rfl rfl rfl (by decide +kernel) ⟨by decide, by decide⟩) rfl rfl (Nat.le_of_ble_eq_true rfl) dX8_mayBe_11 ⟨Nat.zero_le _, Nat.zero_le _⟩ ?_
    refine tt_if_ne (tgt := 19) X dX8_mayBe_14 (by decide) (fun c14 => ?_) (fun c14 => ?_)
    · rw [if_neg c14] at hs
      refine tt_iconst (v := 0) X dX8_mayBe_19 (by decide) ?_
      refine tt_istore_n X dX8_mayBe_20 (Nat.le_of_ble_eq_true rfl) ?_
      refine tt_iconst (v := 0) X dX8_mayBe_21 (by decide) ?_
      refine tt_istore X dX8_mayBe_22 (Nat.le_of_ble_eq_true rfl) ?_
      refine tt_drop [0, 1, 2, 3, 4] ?_
      exact t_24 1000 b0 x1 b6 0 0 w11.2 hs
    · rw [if_pos c14] at hs
      refine tt_iconst (v := (-1)) X dX8_mayBe_17 (by decide) ?_
      obtain rfl := Option.some.inj hs
      exact tt_iret X rfl dX8_mayBe_18 ⟨rfl, rfl⟩

def s_X8_ofDay (b0 : Nat) (x1 : Int32) (x2 : Int32) (h : tt_H) : Option (Int32 × tt_H) :=
  (gg_obj h b0 8).bind fun _ =>
  (s_X8_cryOf b0 x1 h).bind fun w2 =>
  gg_opt w2.1 (
    some ((-1), w2.2)
  ) fun b7 =>
  if x2 = ((-1)) then
    (gg_obj w2.2 b7 2).bind fun _ =>
    (s_X2_size b7 w2.2).bind fun w18 =>
    some (w18.1, w18.2)
  else
  (gg_obj w2.2 b7 2).bind fun _ =>
  (s_X2_has b7 x2 w2.2).bind fun w24 =>
  if w24.1 = 0 then
    some ((-1), w24.2)
  else
  (gg_obj w24.2 b7 2).bind fun _ =>
  (s_X2_at b7 x2 w24.2).bind fun w32 =>
  some (w32.1, w32.2)
abbrev rm_X8_ofDay : Room := { frames := 2, cells := 0, slots := 0, locals := 42 }
set_option maxHeartbeats 4000000 in
set_option maxRecDepth 100000 in
theorem c_X8_ofDay (l : Launch) {b0 : Nat} {x1 : Int32} {x2 : Int32} {h : tt_H} {ρ : Int32 × tt_H} (hs : s_X8_ofDay b0 x1 x2 h = some ρ) : tt_M tt_cl l yX8_ofDay wsX8_ofDay rm_X8_ofDay 0 0 false [.ref b0, .int x1, .int x2] h (tt_ret (some (.int ρ.1)) ρ.2) := by
  refine tt_M.of0 (cc := cX8_ofDay) (maxL := 4) (ret := (some .int)) (by decide +kernel) rfl (Nat.le_of_ble_eq_true rfl) ?_
  intro p e s m args below meth c D ca ad n0 sz hwf hsz X hini
  unfold s_X8_ofDay at hs
  refine tt_aload_n X dX8_ofDay_0 rfl ?_
  refine tt_iload_n X dX8_ofDay_1 rfl ?_
  obtain ⟨o2, f2, hs⟩ := gg_bind hs
  obtain ⟨w2, e2, hs⟩ := gg_bind hs
  refine zr_callV X f2 rfl (c_X8_cryOf l e2) (fun hts => cwV 1 hts gX8_ofDay_X8_cryOf rfl rfl rfl (by decide +kernel) ⟨by decide, by decide⟩) rfl rfl (Nat.le_of_ble_eq_true rfl) dX8_ofDay_2 ⟨Nat.zero_le _, Nat.zero_le _⟩ ?_
  refine zr_astore_n X w2.1 dX8_ofDay_5 (Nat.le_of_ble_eq_true rfl) ?_
  refine zr_aload_n X w2.1 dX8_ofDay_6 rfl ?_
  cases hr7 : w2.1 with
  | none =>
    rw [hr7, gg_opt_none] at hs
    refine tt_ifnonnullN X dX8_ofDay_7 ?_
    refine tt_iconst (v := (-1)) X dX8_ofDay_10 (by decide) ?_
    obtain rfl := Option.some.inj hs
    exact tt_iret X rfl dX8_ofDay_11 ⟨rfl, rfl⟩
  | some b7 =>
    rw [hr7, gg_opt_some] at hs
    refine tt_ifnonnull (tgt := 12) X dX8_ofDay_7 (by decide) ?_
    refine tt_iload_n X dX8_ofDay_12 rfl ?_
    refine tt_iconst (v := (-1)) X dX8_ofDay_13 (by decide) ?_
    refine tt_icmp_ne (tgt := 22) X dX8_ofDay_14 (by decide) (fun c14 => ?_) (fun c14 => ?_)
    · rw [if_neg c14] at hs
      refine tt_aload_n X dX8_ofDay_22 rfl ?_
      refine tt_iload_n X dX8_ofDay_23 rfl ?_
      obtain ⟨o24, f24, hs⟩ := gg_bind hs
      obtain ⟨w24, e24, hs⟩ := gg_bind hs
      refine zr_callV X f24 rfl (c_X2_has l e24) (fun hts => cwV 1 hts gX8_ofDay_X2_has rfl rfl rfl (by decide +kernel) ⟨by decide, by decide⟩) rfl rfl (Nat.le_of_ble_eq_true rfl) dX8_ofDay_24 ⟨Nat.zero_le _, Nat.zero_le _⟩ ?_
      refine tt_if_eq (tgt := 38) X dX8_ofDay_27 (by decide) (fun c27 => ?_) (fun c27 => ?_)
      · rw [if_pos c27] at hs
        refine tt_iconst (v := (-1)) X dX8_ofDay_38 (by decide) ?_
        obtain rfl := Option.some.inj hs
        exact tt_iret X rfl dX8_ofDay_39 ⟨rfl, rfl⟩
      · rw [if_neg c27] at hs
        refine tt_aload_n X dX8_ofDay_30 rfl ?_
        refine tt_iload_n X dX8_ofDay_31 rfl ?_
        obtain ⟨o32, f32, hs⟩ := gg_bind hs
        obtain ⟨w32, e32, hs⟩ := gg_bind hs
        refine zr_callV X f32 rfl (c_X2_at l e32) (fun hts => cwV 1 hts gX8_ofDay_X2_at rfl rfl rfl (by decide +kernel) ⟨by decide, by decide⟩) rfl rfl (Nat.le_of_ble_eq_true rfl) dX8_ofDay_32 ⟨Nat.zero_le _, Nat.zero_le _⟩ ?_
        refine tt_goto (tgt := 39) X dX8_ofDay_35 (by decide) ?_
        obtain rfl := Option.some.inj hs
        exact tt_iret X rfl dX8_ofDay_39 ⟨rfl, rfl⟩
    · rw [if_pos c14] at hs
      refine tt_aload_n X dX8_ofDay_17 rfl ?_
      obtain ⟨o18, f18, hs⟩ := gg_bind hs
      obtain ⟨w18, e18, hs⟩ := gg_bind hs
      refine zr_callV X f18 rfl (c_X2_size l e18) (fun hts => cwV 0 hts gX8_ofDay_X2_size rfl rfl rfl (by decide +kernel) ⟨by decide, by decide⟩) rfl rfl (Nat.le_of_ble_eq_true rfl) dX8_ofDay_18 ⟨Nat.zero_le _, Nat.zero_le _⟩ ?_
      obtain rfl := Option.some.inj hs
      exact tt_iret X rfl dX8_ofDay_21 ⟨rfl, rfl⟩

def s_X8_once_J82 (κ46 : Int32 → Nat → Nat → Int32 → Int32 → Int32 → tt_H → Option (Int32 × tt_H)) (x3 : Int32) (b4 : Nat) (b5 : Nat) (x6 : Int32) (x7 : Int32) (x8 : Int32) (h : tt_H) : Option (Int32 × tt_H) :=
  κ46 x3 b4 b5 x6 x7 (x8 + 1) h
def s_X8_once_L46 : Nat → Int32 → Nat → Nat → Int32 → Int32 → Int32 → tt_H → Option (Int32 × tt_H)
  | 0, _, _, _, _, _, _, _ => none
  | n + 1, x3, b4, b5, x6, x7, x8, h =>
    (gg_obj h b4 2).bind fun _ =>
    (s_X2_size b4 h).bind fun w50 =>
    if w50.1 ≤ x8 then
      if x3 = 0 then
        some (x6, w50.2)
      else
      some (x7, w50.2)
    else
    (s_X8_longestPartAt b4 x8 b5 w50.2).bind fun w62 =>
    if w62.1 ≤ x6 then
      s_X8_once_J82 (s_X8_once_L46 n) x3 b4 b5 x6 x7 x8 w62.2
    else
    s_X8_once_J82 (s_X8_once_L46 n) x3 b4 b5 w62.1 x8 x8 w62.2
def s_X8_once (b0 : Nat) (x1 : Int32) (x2 : Int32) (x3 : Int32) (h : tt_H) : Option (Int32 × tt_H) :=
  (gg_obj h b0 8).bind fun _ =>
  (s_X8_cryOf b0 x1 h).bind fun w2 =>
  (gg_obj w2.2 b0 8).bind fun _ =>
  (s_X8_cryOf b0 x2 w2.2).bind fun w9 =>
  gg_opt w2.1 (
    some ((-1), w9.2)
  ) fun b16 =>
  gg_opt w9.1 (
    some ((-1), w9.2)
  ) fun b21 =>
  (s_X8_isFirstOrSecond x3 w9.2).bind fun w27 =>
  if w27.1 = 0 then
    some ((-2), w27.2)
  else
  s_X8_once_L46 1000 x3 b16 b21 0 ((-9)) 0 w27.2
abbrev rm_X8_once : Room := { frames := 4, cells := 0, slots := 0, locals := 90 }
set_option maxHeartbeats 4000000 in
set_option maxRecDepth 100000 in
theorem c_X8_once (l : Launch) {b0 : Nat} {x1 : Int32} {x2 : Int32} {x3 : Int32} {h : tt_H} {ρ : Int32 × tt_H} (hs : s_X8_once b0 x1 x2 x3 h = some ρ) : tt_M tt_cl l yX8_once wsX8_once rm_X8_once 0 0 false [.ref b0, .int x1, .int x2, .int x3] h (tt_ret (some (.int ρ.1)) ρ.2) := by
  refine tt_M.of0 (cc := cX8_once) (maxL := 10) (ret := (some .int)) (by decide +kernel) rfl (Nat.le_of_ble_eq_true rfl) ?_
  intro p e s m args below meth c D ca ad n0 sz hwf hsz X hini
  unfold s_X8_once at hs
  have t_46 : ∀ (fu : Nat) (x3 : Int32) (b4 : Nat) (b5 : Nat) (x6 : Int32) (x7 : Int32) (x8 : Int32) (h : tt_H), s_X8_once_L46 fu x3 b4 b5 x6 x7 x8 h = some ρ → tt_T tt_cl (p, l, e, rm_X8_once, s, m, args, below, meth, c, MQ below (tt_Q tt_cl D ca ad n0 sz false (tt_ret (some (.int ρ.1)) ρ.2)) args s 0 0 (tt_A ad n0 sz), D, ca, tt_A ad n0 sz, 10, some n0) ad 0 0 46 [(3, .int x3), (4, .ref b4), (5, .ref b5), (6, .int x6), (7, .int x7), (8, .int x8)] [] h := by
    intro fu
    induction fu with
    | zero => intro x3 b4 b5 x6 x7 x8 h hs; exact absurd hs (by rw [s_X8_once_L46]; exact fun q => by cases q)
    | succ n46 ih =>
      intro x3 b4 b5 x6 x7 x8 h hs
      rw [s_X8_once_L46] at hs
      have t_46 := ih
      have t_82 : ∀ (x3 : Int32) (b4 : Nat) (b5 : Nat) (x6 : Int32) (x7 : Int32) (x8 : Int32) (h : tt_H), s_X8_once_J82 (s_X8_once_L46 n46) x3 b4 b5 x6 x7 x8 h = some ρ → tt_T tt_cl (p, l, e, rm_X8_once, s, m, args, below, meth, c, MQ below (tt_Q tt_cl D ca ad n0 sz false (tt_ret (some (.int ρ.1)) ρ.2)) args s 0 0 (tt_A ad n0 sz), D, ca, tt_A ad n0 sz, 10, some n0) ad 0 0 82 [(3, .int x3), (4, .ref b4), (5, .ref b5), (6, .int x6), (7, .int x7), (8, .int x8)] [] h := by
        intro x3 b4 b5 x6 x7 x8 h hs
        unfold s_X8_once_J82 at hs
        refine tt_iinc (v := x8 + 1) X dX8_once_82 rfl rfl (Nat.le_of_ble_eq_true rfl) ?_
        refine tt_goto (tgt := 46) X dX8_once_85 (by decide) ?_
        refine tt_drop [3, 4, 5, 6, 7, 8] ?_
        exact t_46 x3 b4 b5 x6 x7 (x8 + 1) h hs
      refine tt_iload X dX8_once_46 rfl ?_
      refine tt_aload X dX8_once_48 rfl ?_
      obtain ⟨o50, f50, hs⟩ := gg_bind hs
      obtain ⟨w50, e50, hs⟩ := gg_bind hs
      refine zr_callV X f50 rfl (c_X2_size l e50) (fun hts => cwV 0 hts gX8_once_X2_size rfl rfl rfl (by decide +kernel) ⟨by decide, by decide⟩) rfl rfl (Nat.le_of_ble_eq_true rfl) dX8_once_50 ⟨Nat.zero_le _, Nat.zero_le _⟩ ?_
      refine tt_icmp_ge (tgt := 88) X dX8_once_53 (by decide) (fun c53 => ?_) (fun c53 => ?_)
      · rw [if_pos c53] at hs
        refine tt_iload_n X dX8_once_88 rfl ?_
        refine tt_if_ne (tgt := 97) X dX8_once_89 (by decide) (fun c89 => ?_) (fun c89 => ?_)
        · rw [if_neg c89] at hs
          refine tt_iload X dX8_once_97 rfl ?_
          obtain rfl := Option.some.inj hs
          exact tt_iret X rfl dX8_once_99 ⟨rfl, rfl⟩
        · rw [if_pos c89] at hs
          refine tt_iload X dX8_once_92 rfl ?_
          refine tt_goto (tgt := 99) X dX8_once_94 (by decide) ?_
          obtain rfl := Option.some.inj hs
          exact tt_iret X rfl dX8_once_99 ⟨rfl, rfl⟩
      · rw [if_neg c53] at hs
        refine tt_aload X dX8_once_56 rfl ?_
        refine tt_iload X dX8_once_58 rfl ?_
        refine tt_aload X dX8_once_60 rfl ?_
        obtain ⟨w62, e62, hs⟩ := gg_bind hs
        refine zr_callS X (c_X8_longestPartAt l e62) (fun hts => va_cwS 3 hts gX8_once_X8_longestPartAt rfl rfl rfl (by decide +kernel) ⟨by decide, by decide⟩) rfl rfl (Nat.le_of_ble_eq_true rfl) dX8_once_62 ⟨Nat.zero_le _, Nat.zero_le _⟩ ?_
        refine tt_istore X dX8_once_65 (Nat.le_of_ble_eq_true rfl) ?_
        refine tt_iload X dX8_once_67 rfl ?_
        refine tt_iload X dX8_once_69 rfl ?_
        refine tt_icmp_le (tgt := 82) X dX8_once_71 (by decide) (fun c71 => ?_) (fun c71 => ?_)
        · rw [if_pos c71] at hs
          refine tt_drop [3, 4, 5, 6, 7, 8] ?_
          exact t_82 x3 b4 b5 x6 x7 x8 w62.2 hs
        · rw [if_neg c71] at hs
          refine tt_iload X dX8_once_74 rfl ?_
          refine tt_istore X dX8_once_76 (Nat.le_of_ble_eq_true rfl) ?_
          refine tt_iload X dX8_once_78 rfl ?_
          refine tt_istore X dX8_once_80 (Nat.le_of_ble_eq_true rfl) ?_
          refine tt_drop [3, 4, 5, 6, 7, 8] ?_
          exact t_82 x3 b4 b5 w62.1 x8 x8 w62.2 hs
  refine tt_aload_n X dX8_once_0 rfl ?_
  refine tt_iload_n X dX8_once_1 rfl ?_
  obtain ⟨o2, f2, hs⟩ := gg_bind hs
  obtain ⟨w2, e2, hs⟩ := gg_bind hs
  refine zr_callV X f2 rfl (c_X8_cryOf l e2) (fun hts => cwV 1 hts gX8_once_X8_cryOf rfl rfl rfl (by decide +kernel) ⟨by decide, by decide⟩) rfl rfl (Nat.le_of_ble_eq_true rfl) dX8_once_2 ⟨Nat.zero_le _, Nat.zero_le _⟩ ?_
  refine zr_astore X w2.1 dX8_once_5 (Nat.le_of_ble_eq_true rfl) ?_
  refine tt_aload_n X dX8_once_7 rfl ?_
  refine tt_iload_n X dX8_once_8 rfl ?_
  obtain ⟨o9, f9, hs⟩ := gg_bind hs
  obtain ⟨w9, e9, hs⟩ := gg_bind hs
  refine zr_callV X f9 rfl (c_X8_cryOf l e9) (fun hts => cwV 1 hts gX8_once_X8_cryOf rfl rfl rfl (by decide +kernel) ⟨by decide, by decide⟩) rfl rfl (Nat.le_of_ble_eq_true rfl) dX8_once_9 ⟨Nat.zero_le _, Nat.zero_le _⟩ ?_
  refine zr_astore X w9.1 dX8_once_12 (Nat.le_of_ble_eq_true rfl) ?_
  refine tt_setL (L2 := [(0, .ref b0), (1, .int x1), (2, .int x2), (3, .int x3), (4, va_rf w2.1), (5, va_rf w9.1)]) (by cases w2.1 <;> rfl) ?_
  refine zr_aload X w2.1 dX8_once_14 rfl ?_
  cases hr16 : w2.1 with
  | none =>
    rw [hr16, gg_opt_none] at hs
    refine tt_ifnullN (tgt := 24) X dX8_once_16 (by decide) ?_
    refine tt_iconst (v := (-1)) X dX8_once_24 (by decide) ?_
    obtain rfl := Option.some.inj hs
    exact tt_iret X rfl dX8_once_25 ⟨rfl, rfl⟩
  | some b16 =>
    rw [hr16, gg_opt_some] at hs
    refine tt_ifnull X dX8_once_16 ?_
    refine zr_aload X w9.1 dX8_once_19 rfl ?_
    cases hr21 : w9.1 with
    | none =>
      rw [hr21, gg_opt_none] at hs
      refine tt_ifnonnullN X dX8_once_21 ?_
      refine tt_iconst (v := (-1)) X dX8_once_24 (by decide) ?_
      obtain rfl := Option.some.inj hs
      exact tt_iret X rfl dX8_once_25 ⟨rfl, rfl⟩
    | some b21 =>
      rw [hr21, gg_opt_some] at hs
      refine tt_ifnonnull (tgt := 26) X dX8_once_21 (by decide) ?_
      refine tt_iload_n X dX8_once_26 rfl ?_
      obtain ⟨w27, e27, hs⟩ := gg_bind hs
      refine zr_callS X (c_X8_isFirstOrSecond l e27) (fun hts => va_cwS 1 hts gX8_once_X8_isFirstOrSecond rfl rfl rfl (by decide +kernel) ⟨by decide, by decide⟩) rfl rfl (Nat.le_of_ble_eq_true rfl) dX8_once_27 ⟨Nat.zero_le _, Nat.zero_le _⟩ ?_
      refine tt_if_ne (tgt := 36) X dX8_once_30 (by decide) (fun c30 => ?_) (fun c30 => ?_)
      · rw [if_neg c30] at hs
        refine tt_iconst (v := 0) X dX8_once_36 (by decide) ?_
        refine tt_istore X dX8_once_37 (Nat.le_of_ble_eq_true rfl) ?_
        refine tt_bipush (v := (-9)) X dX8_once_39 (by decide) ?_
        refine tt_istore X dX8_once_41 (Nat.le_of_ble_eq_true rfl) ?_
        refine tt_iconst (v := 0) X dX8_once_43 (by decide) ?_
        refine tt_istore X dX8_once_44 (Nat.le_of_ble_eq_true rfl) ?_
        refine tt_drop [3, 4, 5, 6, 7, 8] ?_
        exact t_46 1000 x3 b16 b21 0 ((-9)) 0 w27.2 hs
      · rw [if_pos c30] at hs
        refine tt_bipush (v := (-2)) X dX8_once_33 (by decide) ?_
        obtain rfl := Option.some.inj hs
        exact tt_iret X rfl dX8_once_35 ⟨rfl, rfl⟩

theorem in_X8_place_X8 : ∀ w ∈ u_ws RX8 TX8 13, w ∈ wsX8_place := by decide +kernel
def s_X8_place (b0 : Nat) (x1 : Int32) (x2 : Int32) (x3 : Int32) (x4 : Int32) (h : tt_H) : Option (Int32 × tt_H) :=
  (gg_obj h b0 8).bind fun _ =>
  (s_X8_cryOf b0 x1 h).bind fun w2 =>
  (gg_obj w2.2 b0 8).bind fun _ =>
  (s_X8_cryOf b0 x2 w2.2).bind fun w9 =>
  gg_opt w2.1 (
    some ((-1), w9.2)
  ) fun b16 =>
  gg_opt w9.1 (
    some ((-1), w9.2)
  ) fun b21 =>
  (gg_obj w9.2 b16 2).bind fun _ =>
  (s_X2_has b16 x3 w9.2).bind fun w27 =>
  if w27.1 = 0 then
    some ((-1), w27.2)
  else
  (s_X8_isFirstOrSecond x4 w27.2).bind fun w37 =>
  if w37.1 = 0 then
    some ((-2), w37.2)
  else
  (gg_fr w37.2 b0 8 4).bind fun o47 =>
  (gg_obj w37.2 o47 3).bind fun _ =>
  (s_X3_make o47 b16 b21 w37.2).bind fun w54 =>
  if w54.1 = 0 then
    some ((-9), w54.2)
  else
  if x4 = 0 then
    (gg_fr w54.2 b0 8 4).bind fun o69 =>
    (gg_obj w54.2 o69 3).bind fun _ =>
    (s_X3_first o69 x3 w54.2).bind fun w73 =>
    some (w73.1, w73.2)
  else
  (gg_fr w54.2 b0 8 4).bind fun o80 =>
  (gg_obj w54.2 o80 3).bind fun _ =>
  (s_X3_last o80 x3 w54.2).bind fun w84 =>
  some (w84.1, w84.2)
abbrev rm_X8_place : Room := { frames := 3, cells := 0, slots := 0, locals := 66 }
set_option maxHeartbeats 4000000 in
set_option maxRecDepth 100000 in
theorem c_X8_place (l : Launch) {b0 : Nat} {x1 : Int32} {x2 : Int32} {x3 : Int32} {x4 : Int32} {h : tt_H} {ρ : Int32 × tt_H} (hs : s_X8_place b0 x1 x2 x3 x4 h = some ρ) : tt_M tt_cl l yX8_place wsX8_place rm_X8_place 0 0 false [.ref b0, .int x1, .int x2, .int x3, .int x4] h (tt_ret (some (.int ρ.1)) ρ.2) := by
  refine tt_M.of0 (cc := cX8_place) (maxL := 7) (ret := (some .int)) (by decide +kernel) rfl (Nat.le_of_ble_eq_true rfl) ?_
  intro p e s m args below meth c D ca ad n0 sz hwf hsz X hini
  unfold s_X8_place at hs
  refine tt_aload_n X dX8_place_0 rfl ?_
  refine tt_iload_n X dX8_place_1 rfl ?_
  obtain ⟨o2, f2, hs⟩ := gg_bind hs
  obtain ⟨w2, e2, hs⟩ := gg_bind hs
  refine zr_callV X f2 rfl (c_X8_cryOf l e2) (fun hts => cwV 1 hts gX8_place_X8_cryOf rfl rfl rfl (by decide +kernel) ⟨by decide, by decide⟩) rfl rfl (Nat.le_of_ble_eq_true rfl) dX8_place_2 ⟨Nat.zero_le _, Nat.zero_le _⟩ ?_
  refine zr_astore X w2.1 dX8_place_5 (Nat.le_of_ble_eq_true rfl) ?_
  refine tt_aload_n X dX8_place_7 rfl ?_
  refine tt_iload_n X dX8_place_8 rfl ?_
  obtain ⟨o9, f9, hs⟩ := gg_bind hs
  obtain ⟨w9, e9, hs⟩ := gg_bind hs
  refine zr_callV X f9 rfl (c_X8_cryOf l e9) (fun hts => cwV 1 hts gX8_place_X8_cryOf rfl rfl rfl (by decide +kernel) ⟨by decide, by decide⟩) rfl rfl (Nat.le_of_ble_eq_true rfl) dX8_place_9 ⟨Nat.zero_le _, Nat.zero_le _⟩ ?_
  refine zr_astore X w9.1 dX8_place_12 (Nat.le_of_ble_eq_true rfl) ?_
  refine tt_setL (L2 := [(0, .ref b0), (1, .int x1), (2, .int x2), (3, .int x3), (4, .int x4), (5, va_rf w2.1), (6, va_rf w9.1)]) (by cases w2.1 <;> rfl) ?_
  refine zr_aload X w2.1 dX8_place_14 rfl ?_
  cases hr16 : w2.1 with
  | none =>
    rw [hr16, gg_opt_none] at hs
    refine tt_ifnullN (tgt := 33) X dX8_place_16 (by decide) ?_
    refine tt_iconst (v := (-1)) X dX8_place_33 (by decide) ?_
    obtain rfl := Option.some.inj hs
    exact tt_iret X rfl dX8_place_34 ⟨rfl, rfl⟩
  | some b16 =>
    rw [hr16, gg_opt_some] at hs
    refine tt_ifnull X dX8_place_16 ?_
    refine zr_aload X w9.1 dX8_place_19 rfl ?_
    cases hr21 : w9.1 with
    | none =>
      rw [hr21, gg_opt_none] at hs
      refine tt_ifnullN (tgt := 33) X dX8_place_21 (by decide) ?_
      refine tt_iconst (v := (-1)) X dX8_place_33 (by decide) ?_
      obtain rfl := Option.some.inj hs
      exact tt_iret X rfl dX8_place_34 ⟨rfl, rfl⟩
    | some b21 =>
      rw [hr21, gg_opt_some] at hs
      refine tt_ifnull X dX8_place_21 ?_
      refine tt_aload X dX8_place_24 rfl ?_
      refine tt_iload_n X dX8_place_26 rfl ?_
      obtain ⟨o27, f27, hs⟩ := gg_bind hs
      obtain ⟨w27, e27, hs⟩ := gg_bind hs
      refine zr_callV X f27 rfl (c_X2_has l e27) (fun hts => cwV 1 hts gX8_place_X2_has rfl rfl rfl (by decide +kernel) ⟨by decide, by decide⟩) rfl rfl (Nat.le_of_ble_eq_true rfl) dX8_place_27 ⟨Nat.zero_le _, Nat.zero_le _⟩ ?_
      refine tt_if_ne (tgt := 35) X dX8_place_30 (by decide) (fun c30 => ?_) (fun c30 => ?_)
      · rw [if_neg c30] at hs
        refine tt_iload X dX8_place_35 rfl ?_
        obtain ⟨w37, e37, hs⟩ := gg_bind hs
        refine zr_callS X (c_X8_isFirstOrSecond l e37) (fun hts => va_cwS 1 hts gX8_place_X8_isFirstOrSecond rfl rfl rfl (by decide +kernel) ⟨by decide, by decide⟩) rfl rfl (Nat.le_of_ble_eq_true rfl) dX8_place_37 ⟨Nat.zero_le _, Nat.zero_le _⟩ ?_
        refine tt_if_ne (tgt := 46) X dX8_place_40 (by decide) (fun c40 => ?_) (fun c40 => ?_)
        · rw [if_neg c40] at hs
          refine tt_aload_n X dX8_place_46 rfl ?_
          obtain ⟨o47, e47, hs⟩ := gg_bind hs
          refine zr_fr X e47 rfl in_X8_place_X8 (by decide) (by decide +kernel) rfl dX8_place_47 ?_
          refine tt_aload X dX8_place_50 rfl ?_
          refine tt_aload X dX8_place_52 rfl ?_
          obtain ⟨o54, f54, hs⟩ := gg_bind hs
          obtain ⟨w54, e54, hs⟩ := gg_bind hs
          refine zr_callV X f54 rfl (c_X3_make l e54) (fun hts => cwV 2 hts gX8_place_X3_make rfl rfl rfl (by decide +kernel) ⟨by decide, by decide⟩) rfl rfl (Nat.le_of_ble_eq_true rfl) dX8_place_54 ⟨Nat.zero_le _, Nat.zero_le _⟩ ?_
          refine tt_if_ne (tgt := 63) X dX8_place_57 (by decide) (fun c57 => ?_) (fun c57 => ?_)
          · rw [if_neg c57] at hs
            refine tt_iload X dX8_place_63 rfl ?_
            refine tt_if_ne (tgt := 79) X dX8_place_65 (by decide) (fun c65 => ?_) (fun c65 => ?_)
            · rw [if_neg c65] at hs
              refine tt_aload_n X dX8_place_79 rfl ?_
              obtain ⟨o80, e80, hs⟩ := gg_bind hs
              refine zr_fr X e80 rfl in_X8_place_X8 (by decide) (by decide +kernel) rfl dX8_place_80 ?_
              refine tt_iload_n X dX8_place_83 rfl ?_
              obtain ⟨o84, f84, hs⟩ := gg_bind hs
              obtain ⟨w84, e84, hs⟩ := gg_bind hs
              refine zr_callV X f84 rfl (c_X3_last l e84) (fun hts => cwV 1 hts gX8_place_X3_last rfl rfl rfl (by decide +kernel) ⟨by decide, by decide⟩) rfl rfl (Nat.le_of_ble_eq_true rfl) dX8_place_84 ⟨Nat.zero_le _, Nat.zero_le _⟩ ?_
              obtain rfl := Option.some.inj hs
              exact tt_iret X rfl dX8_place_87 ⟨rfl, rfl⟩
            · rw [if_pos c65] at hs
              refine tt_aload_n X dX8_place_68 rfl ?_
              obtain ⟨o69, e69, hs⟩ := gg_bind hs
              refine zr_fr X e69 rfl in_X8_place_X8 (by decide) (by decide +kernel) rfl dX8_place_69 ?_
              refine tt_iload_n X dX8_place_72 rfl ?_
              obtain ⟨o73, f73, hs⟩ := gg_bind hs
              obtain ⟨w73, e73, hs⟩ := gg_bind hs
              refine zr_callV X f73 rfl (c_X3_first l e73) (fun hts => cwV 1 hts gX8_place_X3_first rfl rfl rfl (by decide +kernel) ⟨by decide, by decide⟩) rfl rfl (Nat.le_of_ble_eq_true rfl) dX8_place_73 ⟨Nat.zero_le _, Nat.zero_le _⟩ ?_
              refine tt_goto (tgt := 87) X dX8_place_76 (by decide) ?_
              obtain rfl := Option.some.inj hs
              exact tt_iret X rfl dX8_place_87 ⟨rfl, rfl⟩
          · rw [if_pos c57] at hs
            refine tt_bipush (v := (-9)) X dX8_place_60 (by decide) ?_
            obtain rfl := Option.some.inj hs
            exact tt_iret X rfl dX8_place_62 ⟨rfl, rfl⟩
        · rw [if_pos c40] at hs
          refine tt_bipush (v := (-2)) X dX8_place_43 (by decide) ?_
          obtain rfl := Option.some.inj hs
          exact tt_iret X rfl dX8_place_45 ⟨rfl, rfl⟩
      · rw [if_pos c30] at hs
        refine tt_iconst (v := (-1)) X dX8_place_33 (by decide) ?_
        obtain rfl := Option.some.inj hs
        exact tt_iret X rfl dX8_place_34 ⟨rfl, rfl⟩

theorem in_X8_put_X8 : ∀ w ∈ u_ws RX8 TX8 13, w ∈ wsX8_put := by decide +kernel
def s_X8_put (b0 : Nat) (x1 : Int32) (x2 : Int32) (x3 : Int32) (h : tt_H) : Option (Int32 × tt_H) :=
  (gg_put h b0 8 12 (.int 0)).bind fun h2 =>
  (gg_obj h2 b0 8).bind fun _ =>
  (s_X8_sheetOf b0 x1 h2).bind fun w7 =>
  gg_opt w7.1 (
    some ((-1), w7.2)
  ) fun b14 =>
  (gg_obj w7.2 b14 6).bind fun _ =>
  (s_X6_isNothing b14 w7.2).bind fun w21 =>
  if w21.1 = 0 then
    (gg_obj w21.2 b14 6).bind fun _ =>
    (s_X6_hasCells b14 x2 1 w21.2).bind fun w37 =>
    if w37.1 = 0 then
      (gg_obj w37.2 b0 8).bind fun _ =>
      (s_X8_fails b0 3 w37.2).bind fun w45 =>
      some (w45.1, w45.2)
    else
    (gg_obj w37.2 b14 6).bind fun _ =>
    (s_X6_write b14 x2 x3 w37.2).bind fun w53 =>
    some (1, w53.2)
  else
  (gg_obj w21.2 b0 8).bind fun _ =>
  (s_X8_fails b0 1 w21.2).bind fun w29 =>
  some (w29.1, w29.2)
abbrev rm_X8_put : Room := { frames := 2, cells := 0, slots := 0, locals := 44 }
set_option maxHeartbeats 4000000 in
set_option maxRecDepth 100000 in
theorem c_X8_put (l : Launch) {b0 : Nat} {x1 : Int32} {x2 : Int32} {x3 : Int32} {h : tt_H} {ρ : Int32 × tt_H} (hs : s_X8_put b0 x1 x2 x3 h = some ρ) : tt_M tt_cl l yX8_put wsX8_put rm_X8_put 0 0 false [.ref b0, .int x1, .int x2, .int x3] h (tt_ret (some (.int ρ.1)) ρ.2) := by
  refine tt_M.of0 (cc := cX8_put) (maxL := 5) (ret := (some .int)) (by decide +kernel) rfl (Nat.le_of_ble_eq_true rfl) ?_
  intro p e s m args below meth c D ca ad n0 sz hwf hsz X hini
  unfold s_X8_put at hs
  refine tt_aload_n X dX8_put_0 rfl ?_
  refine tt_iconst (v := 0) X dX8_put_1 (by decide) ?_
  obtain ⟨h2, e2, hs⟩ := gg_bind hs
  refine zr_put X e2 rfl in_X8_put_X8 tyX8 tyX8_ok nmX8 (by decide) (by decide +kernel) rfl rfl (fun _ => rfl) (fun _ => rfl) dX8_put_2 ?_
  refine tt_aload_n X dX8_put_5 rfl ?_
  refine tt_iload_n X dX8_put_6 rfl ?_
  obtain ⟨o7, f7, hs⟩ := gg_bind hs
  obtain ⟨w7, e7, hs⟩ := gg_bind hs
  refine zr_callV X f7 rfl (c_X8_sheetOf l e7) (fun hts => cwV 1 hts gX8_put_X8_sheetOf rfl rfl rfl (by decide +kernel) ⟨by decide, by decide⟩) rfl rfl (Nat.le_of_ble_eq_true rfl) dX8_put_7 ⟨Nat.zero_le _, Nat.zero_le _⟩ ?_
  refine zr_astore X w7.1 dX8_put_10 (Nat.le_of_ble_eq_true rfl) ?_
  refine zr_aload X w7.1 dX8_put_12 rfl ?_
  cases hr14 : w7.1 with
  | none =>
    rw [hr14, gg_opt_none] at hs
    refine tt_ifnonnullN X dX8_put_14 ?_
    refine tt_iconst (v := (-1)) X dX8_put_17 (by decide) ?_
    obtain rfl := Option.some.inj hs
    exact tt_iret X rfl dX8_put_18 ⟨rfl, rfl⟩
  | some b14 =>
    rw [hr14, gg_opt_some] at hs
    refine tt_ifnonnull (tgt := 19) X dX8_put_14 (by decide) ?_
    refine tt_aload X dX8_put_19 rfl ?_
    obtain ⟨o21, f21, hs⟩ := gg_bind hs
    obtain ⟨w21, e21, hs⟩ := gg_bind hs
    refine zr_callV X f21 rfl (c_X6_isNothing l e21) (fun hts => cwV 0 hts gX8_put_X6_isNothing rfl rfl rfl (by decide +kernel) ⟨by decide, by decide⟩) rfl rfl (Nat.le_of_ble_eq_true rfl) dX8_put_21 ⟨Nat.zero_le _, Nat.zero_le _⟩ ?_
    refine tt_if_eq (tgt := 33) X dX8_put_24 (by decide) (fun c24 => ?_) (fun c24 => ?_)
    · rw [if_pos c24] at hs
      refine tt_aload X dX8_put_33 rfl ?_
      refine tt_iload_n X dX8_put_35 rfl ?_
      refine tt_iconst (v := 1) X dX8_put_36 (by decide) ?_
      obtain ⟨o37, f37, hs⟩ := gg_bind hs
      obtain ⟨w37, e37, hs⟩ := gg_bind hs
      refine zr_callV X f37 rfl (c_X6_hasCells l e37) (fun hts => cwV 2 hts gX8_put_X6_hasCells rfl rfl rfl (by decide +kernel) ⟨by decide, by decide⟩) rfl rfl (Nat.le_of_ble_eq_true rfl) dX8_put_37 ⟨Nat.zero_le _, Nat.zero_le _⟩ ?_
      refine tt_if_ne (tgt := 49) X dX8_put_40 (by decide) (fun c40 => ?_) (fun c40 => ?_)
      · rw [if_neg c40] at hs
        refine tt_aload X dX8_put_49 rfl ?_
        refine tt_iload_n X dX8_put_51 rfl ?_
        refine tt_iload_n X dX8_put_52 rfl ?_
        obtain ⟨o53, f53, hs⟩ := gg_bind hs
        obtain ⟨w53, e53, hs⟩ := gg_bind hs
        refine zr_callV X f53 rfl (c_X6_write l e53) (fun hts => cwV 2 hts gX8_put_X6_write rfl rfl rfl (by decide +kernel) ⟨by decide, by decide⟩) rfl rfl (Nat.le_of_ble_eq_true rfl) dX8_put_53 ⟨Nat.zero_le _, Nat.zero_le _⟩ ?_
        refine tt_iconst (v := 1) X dX8_put_56 (by decide) ?_
        obtain rfl := Option.some.inj hs
        exact tt_iret X rfl dX8_put_57 ⟨rfl, rfl⟩
      · rw [if_pos c40] at hs
        refine tt_aload_n X dX8_put_43 rfl ?_
        refine tt_iconst (v := 3) X dX8_put_44 (by decide) ?_
        obtain ⟨o45, f45, hs⟩ := gg_bind hs
        obtain ⟨w45, e45, hs⟩ := gg_bind hs
        refine zr_callV X f45 rfl (c_X8_fails l e45) (fun hts => cwV 1 hts gX8_put_X8_fails rfl rfl rfl (by decide +kernel) ⟨by decide, by decide⟩) rfl rfl (Nat.le_of_ble_eq_true rfl) dX8_put_45 ⟨Nat.zero_le _, Nat.zero_le _⟩ ?_
        obtain rfl := Option.some.inj hs
        exact tt_iret X rfl dX8_put_48 ⟨rfl, rfl⟩
    · rw [if_neg c24] at hs
      refine tt_aload_n X dX8_put_27 rfl ?_
      refine tt_iconst (v := 1) X dX8_put_28 (by decide) ?_
      obtain ⟨o29, f29, hs⟩ := gg_bind hs
      obtain ⟨w29, e29, hs⟩ := gg_bind hs
      refine zr_callV X f29 rfl (c_X8_fails l e29) (fun hts => cwV 1 hts gX8_put_X8_fails rfl rfl rfl (by decide +kernel) ⟨by decide, by decide⟩) rfl rfl (Nat.le_of_ble_eq_true rfl) dX8_put_29 ⟨Nat.zero_le _, Nat.zero_le _⟩ ?_
      obtain rfl := Option.some.inj hs
      exact tt_iret X rfl dX8_put_32 ⟨rfl, rfl⟩

theorem in_X8_putIn_X8 : ∀ w ∈ u_ws RX8 TX8 13, w ∈ wsX8_putIn := by decide +kernel
def s_X8_putIn (b0 : Nat) (x1 : Int32) (x2 : Int32) (x3 : Int32) (x4 : Int32) (h : tt_H) : Option (Int32 × tt_H) :=
  (gg_obj h b0 8).bind fun _ =>
  (s_X8_cryOf b0 x1 h).bind fun w2 =>
  gg_opt w2.1 (
    some ((-1), w2.2)
  ) fun b9 =>
  (s_X8_isWord x2 w2.2).bind fun w13 =>
  if w13.1 = 0 then
    some ((-1), w13.2)
  else
  if x4 < ((-1)) then
    some ((-1), w13.2)
  else
  if x4 ≤ 1 then
    (gg_fr w13.2 b0 8 0).bind fun o34 =>
    (gg_il w13.2 o34 x2).bind fun z38 =>
    if z38 = 0 then
      (gg_fr w13.2 b0 8 5).bind fun o46 =>
      (gg_fr w13.2 b0 8 0).bind fun o52 =>
      (gg_obj w13.2 o46 5).bind fun _ =>
      (s_X5_fewest o46 b9 o52 x2 x3 w13.2).bind fun w57 =>
      if x4 = ((-1)) then
        some (w57.1, w57.2)
      else
      if w57.1 ≤ x4 then
        some ((-9), w57.2)
      else
      (gg_fr w57.2 b0 8 5).bind fun o79 =>
      (gg_obj w57.2 o79 5).bind fun _ =>
      (s_X5_found o79 x4 w57.2).bind fun w84 =>
      some (w84.1, w84.2)
    else
    some ((-3), w13.2)
  else
  some ((-1), w13.2)
abbrev rm_X8_putIn : Room := { frames := 5, cells := 0, slots := 0, locals := 123 }
set_option maxHeartbeats 4000000 in
set_option maxRecDepth 100000 in
theorem c_X8_putIn (l : Launch) {b0 : Nat} {x1 : Int32} {x2 : Int32} {x3 : Int32} {x4 : Int32} {h : tt_H} {ρ : Int32 × tt_H} (hs : s_X8_putIn b0 x1 x2 x3 x4 h = some ρ) : tt_M tt_cl l yX8_putIn wsX8_putIn rm_X8_putIn 0 0 false [.ref b0, .int x1, .int x2, .int x3, .int x4] h (tt_ret (some (.int ρ.1)) ρ.2) := by
  refine tt_M.of0 (cc := cX8_putIn) (maxL := 7) (ret := (some .int)) (by decide +kernel) rfl (Nat.le_of_ble_eq_true rfl) ?_
  intro p e s m args below meth c D ca ad n0 sz hwf hsz X hini
  unfold s_X8_putIn at hs
  refine tt_aload_n X dX8_putIn_0 rfl ?_
  refine tt_iload_n X dX8_putIn_1 rfl ?_
  obtain ⟨o2, f2, hs⟩ := gg_bind hs
  obtain ⟨w2, e2, hs⟩ := gg_bind hs
  refine zr_callV X f2 rfl (c_X8_cryOf l e2) (fun hts => cwV 1 hts gX8_putIn_X8_cryOf rfl rfl rfl (by decide +kernel) ⟨by decide, by decide⟩) rfl rfl (Nat.le_of_ble_eq_true rfl) dX8_putIn_2 ⟨Nat.zero_le _, Nat.zero_le _⟩ ?_
  refine zr_astore X w2.1 dX8_putIn_5 (Nat.le_of_ble_eq_true rfl) ?_
  refine zr_aload X w2.1 dX8_putIn_7 rfl ?_
  cases hr9 : w2.1 with
  | none =>
    rw [hr9, gg_opt_none] at hs
    refine tt_ifnullN (tgt := 31) X dX8_putIn_9 (by decide) ?_
    refine tt_iconst (v := (-1)) X dX8_putIn_31 (by decide) ?_
    obtain rfl := Option.some.inj hs
    exact tt_iret X rfl dX8_putIn_32 ⟨rfl, rfl⟩
  | some b9 =>
    rw [hr9, gg_opt_some] at hs
    refine tt_ifnull X dX8_putIn_9 ?_
    refine tt_iload_n X dX8_putIn_12 rfl ?_
    obtain ⟨w13, e13, hs⟩ := gg_bind hs
    refine zr_callS X (c_X8_isWord l e13) (fun hts => va_cwS 1 hts gX8_putIn_X8_isWord rfl rfl rfl (by decide +kernel) ⟨by decide, by decide⟩) rfl rfl (Nat.le_of_ble_eq_true rfl) dX8_putIn_13 ⟨Nat.zero_le _, Nat.zero_le _⟩ ?_
    refine tt_if_eq (tgt := 31) X dX8_putIn_16 (by decide) (fun c16 => ?_) (fun c16 => ?_)
    · rw [if_pos c16] at hs
      refine tt_iconst (v := (-1)) X dX8_putIn_31 (by decide) ?_
      obtain rfl := Option.some.inj hs
      exact tt_iret X rfl dX8_putIn_32 ⟨rfl, rfl⟩
    · rw [if_neg c16] at hs
      refine tt_iload X dX8_putIn_19 rfl ?_
      refine tt_iconst (v := (-1)) X dX8_putIn_21 (by decide) ?_
      refine tt_icmp_lt (tgt := 31) X dX8_putIn_22 (by decide) (fun c22 => ?_) (fun c22 => ?_)
      · rw [if_pos c22] at hs
        refine tt_iconst (v := (-1)) X dX8_putIn_31 (by decide) ?_
        obtain rfl := Option.some.inj hs
        exact tt_iret X rfl dX8_putIn_32 ⟨rfl, rfl⟩
      · rw [if_neg c22] at hs
        refine tt_iload X dX8_putIn_25 rfl ?_
        refine tt_iconst (v := 1) X dX8_putIn_27 (by decide) ?_
        refine tt_icmp_le (tgt := 33) X dX8_putIn_28 (by decide) (fun c28 => ?_) (fun c28 => ?_)
        · rw [if_pos c28] at hs
          refine tt_aload_n X dX8_putIn_33 rfl ?_
          obtain ⟨o34, e34, hs⟩ := gg_bind hs
          refine zr_fr X e34 rfl in_X8_putIn_X8 (by decide) (by decide +kernel) rfl dX8_putIn_34 ?_
          refine tt_iload_n X dX8_putIn_37 rfl ?_
          obtain ⟨z38, e38, hs⟩ := gg_bind hs
          refine zr_il X e38 dX8_putIn_38 ?_
          refine tt_if_eq (tgt := 45) X dX8_putIn_39 (by decide) (fun c39 => ?_) (fun c39 => ?_)
          · rw [if_pos c39] at hs
            refine tt_aload_n X dX8_putIn_45 rfl ?_
            obtain ⟨o46, e46, hs⟩ := gg_bind hs
            refine zr_fr X e46 rfl in_X8_putIn_X8 (by decide) (by decide +kernel) rfl dX8_putIn_46 ?_
            refine tt_aload X dX8_putIn_49 rfl ?_
            refine tt_aload_n X dX8_putIn_51 rfl ?_
            obtain ⟨o52, e52, hs⟩ := gg_bind hs
            refine zr_fr X e52 rfl in_X8_putIn_X8 (by decide) (by decide +kernel) rfl dX8_putIn_52 ?_
            refine tt_iload_n X dX8_putIn_55 rfl ?_
            refine tt_iload_n X dX8_putIn_56 rfl ?_
            obtain ⟨o57, f57, hs⟩ := gg_bind hs
            obtain ⟨w57, e57, hs⟩ := gg_bind hs
            refine zr_callV X f57 rfl (c_X5_fewest l e57) (fun hts => cwV 4 hts gX8_putIn_X5_fewest rfl rfl rfl (by decide +kernel) ⟨by decide, by decide⟩) rfl rfl (Nat.le_of_ble_eq_true rfl) dX8_putIn_57 ⟨Nat.zero_le _, Nat.zero_le _⟩ ?_
            refine tt_istore X dX8_putIn_60 (Nat.le_of_ble_eq_true rfl) ?_
            refine tt_iload X dX8_putIn_62 rfl ?_
            refine tt_iconst (v := (-1)) X dX8_putIn_64 (by decide) ?_
            refine tt_icmp_ne (tgt := 71) X dX8_putIn_65 (by decide) (fun c65 => ?_) (fun c65 => ?_)
            · rw [if_neg c65] at hs
              refine tt_iload X dX8_putIn_71 rfl ?_
              refine tt_iload X dX8_putIn_73 rfl ?_
              refine tt_icmp_ge (tgt := 90) X dX8_putIn_75 (by decide) (fun c75 => ?_) (fun c75 => ?_)
              · rw [if_pos c75] at hs
                refine tt_bipush (v := (-9)) X dX8_putIn_90 (by decide) ?_
                obtain rfl := Option.some.inj hs
                exact tt_iret X rfl dX8_putIn_92 ⟨rfl, rfl⟩
              · rw [if_neg c75] at hs
                refine tt_aload_n X dX8_putIn_78 rfl ?_
                obtain ⟨o79, e79, hs⟩ := gg_bind hs
                refine zr_fr X e79 rfl in_X8_putIn_X8 (by decide) (by decide +kernel) rfl dX8_putIn_79 ?_
                refine tt_iload X dX8_putIn_82 rfl ?_
                obtain ⟨o84, f84, hs⟩ := gg_bind hs
                obtain ⟨w84, e84, hs⟩ := gg_bind hs
                refine zr_callV X f84 rfl (c_X5_found l e84) (fun hts => cwV 1 hts gX8_putIn_X5_found rfl rfl rfl (by decide +kernel) ⟨by decide, by decide⟩) rfl rfl (Nat.le_of_ble_eq_true rfl) dX8_putIn_84 ⟨Nat.zero_le _, Nat.zero_le _⟩ ?_
                refine tt_goto (tgt := 92) X dX8_putIn_87 (by decide) ?_
                obtain rfl := Option.some.inj hs
                exact tt_iret X rfl dX8_putIn_92 ⟨rfl, rfl⟩
            · rw [if_pos c65] at hs
              refine tt_iload X dX8_putIn_68 rfl ?_
              obtain rfl := Option.some.inj hs
              exact tt_iret X rfl dX8_putIn_70 ⟨rfl, rfl⟩
          · rw [if_neg c39] at hs
            refine tt_bipush (v := (-3)) X dX8_putIn_42 (by decide) ?_
            obtain rfl := Option.some.inj hs
            exact tt_iret X rfl dX8_putIn_44 ⟨rfl, rfl⟩
        · rw [if_neg c28] at hs
          refine tt_iconst (v := (-1)) X dX8_putIn_31 (by decide) ?_
          obtain rfl := Option.some.inj hs
          exact tt_iret X rfl dX8_putIn_32 ⟨rfl, rfl⟩

theorem in_X8_roots_X8 : ∀ w ∈ u_ws RX8 TX8 13, w ∈ wsX8_roots := by decide +kernel
def s_X8_roots (b0 : Nat) (x1 : Int32) (x2 : Int32) (h : tt_H) : Option (Int64 × tt_H) :=
  (gg_obj h b0 8).bind fun _ =>
  (s_X8_cryOf b0 x1 h).bind fun w2 =>
  gg_opt w2.1 (
    some ((-9223372036854775808), w2.2)
  ) fun b7 =>
  if x2 < 0 then
    some ((-9223372036854775808), w2.2)
  else
  if x2 ≤ 12 then
    (gg_fr w2.2 b0 8 8).bind fun o25 =>
    (gg_fr w2.2 b0 8 3).bind fun o29 =>
    (gg_obj w2.2 o25 0).bind fun _ =>
    (s_X0_count o25 o29 b7 x2 w2.2).bind fun w34 =>
    some (w34.1, w34.2)
  else
  some ((-9223372036854775808), w2.2)
abbrev rm_X8_roots : Room := { frames := 6, cells := 0, slots := 0, locals := 151 }
set_option maxHeartbeats 4000000 in
set_option maxRecDepth 100000 in
theorem c_X8_roots (l : Launch) {b0 : Nat} {x1 : Int32} {x2 : Int32} {h : tt_H} {ρ : Int64 × tt_H} (hs : s_X8_roots b0 x1 x2 h = some ρ) : tt_M tt_cl l yX8_roots wsX8_roots rm_X8_roots 0 0 false [.ref b0, .int x1, .int x2] h (tt_ret (some (.long ρ.1)) ρ.2) := by
  refine tt_M.of0 (cc := cX8_roots) (maxL := 4) (ret := (some .long)) (by decide +kernel) rfl (Nat.le_of_ble_eq_true rfl) ?_
  intro p e s m args below meth c D ca ad n0 sz hwf hsz X hini
  unfold s_X8_roots at hs
  refine tt_aload_n X dX8_roots_0 rfl ?_
  refine tt_iload_n X dX8_roots_1 rfl ?_
  obtain ⟨o2, f2, hs⟩ := gg_bind hs
  obtain ⟨w2, e2, hs⟩ := gg_bind hs
  refine zr_callV X f2 rfl (c_X8_cryOf l e2) (fun hts => cwV 1 hts gX8_roots_X8_cryOf rfl rfl rfl (by decide +kernel) ⟨by decide, by decide⟩) rfl rfl (Nat.le_of_ble_eq_true rfl) dX8_roots_2 ⟨Nat.zero_le _, Nat.zero_le _⟩ ?_
  refine zr_astore_n X w2.1 dX8_roots_5 (Nat.le_of_ble_eq_true rfl) ?_
  refine zr_aload_n X w2.1 dX8_roots_6 rfl ?_
  cases hr7 : w2.1 with
  | none =>
    rw [hr7, gg_opt_none] at hs
    refine tt_ifnullN (tgt := 20) X dX8_roots_7 (by decide) ?_
    refine tt_ldc2 (v := (-9223372036854775808)) X (by decide +kernel) dX8_roots_20 ?_
    obtain rfl := Option.some.inj hs
    exact tt_lret X rfl dX8_roots_23 ⟨rfl, rfl⟩
  | some b7 =>
    rw [hr7, gg_opt_some] at hs
    refine tt_ifnull X dX8_roots_7 ?_
    refine tt_iload_n X dX8_roots_10 rfl ?_
    refine tt_if_lt (tgt := 20) X dX8_roots_11 (by decide) (fun c11 => ?_) (fun c11 => ?_)
    · rw [if_pos c11] at hs
      refine tt_ldc2 (v := (-9223372036854775808)) X (by decide +kernel) dX8_roots_20 ?_
      obtain rfl := Option.some.inj hs
      exact tt_lret X rfl dX8_roots_23 ⟨rfl, rfl⟩
    · rw [if_neg c11] at hs
      refine tt_iload_n X dX8_roots_14 rfl ?_
      refine tt_bipush (v := 12) X dX8_roots_15 (by decide) ?_
      refine tt_icmp_le (tgt := 24) X dX8_roots_17 (by decide) (fun c17 => ?_) (fun c17 => ?_)
      · rw [if_pos c17] at hs
        refine tt_aload_n X dX8_roots_24 rfl ?_
        obtain ⟨o25, e25, hs⟩ := gg_bind hs
        refine zr_fr X e25 rfl in_X8_roots_X8 (by decide) (by decide +kernel) rfl dX8_roots_25 ?_
        refine tt_aload_n X dX8_roots_28 rfl ?_
        obtain ⟨o29, e29, hs⟩ := gg_bind hs
        refine zr_fr X e29 rfl in_X8_roots_X8 (by decide) (by decide +kernel) rfl dX8_roots_29 ?_
        refine tt_aload_n X dX8_roots_32 rfl ?_
        refine tt_iload_n X dX8_roots_33 rfl ?_
        obtain ⟨o34, f34, hs⟩ := gg_bind hs
        obtain ⟨w34, e34, hs⟩ := gg_bind hs
        refine zr_callV X f34 rfl (c_X0_count l e34) (fun hts => cwV 3 hts gX8_roots_X0_count rfl rfl rfl (by decide +kernel) ⟨by decide, by decide⟩) rfl rfl (Nat.le_of_ble_eq_true rfl) dX8_roots_34 ⟨Nat.zero_le _, Nat.zero_le _⟩ ?_
        obtain rfl := Option.some.inj hs
        exact tt_lret X rfl dX8_roots_37 ⟨rfl, rfl⟩
      · rw [if_neg c17] at hs
        refine tt_ldc2 (v := (-9223372036854775808)) X (by decide +kernel) dX8_roots_20 ?_
        obtain rfl := Option.some.inj hs
        exact tt_lret X rfl dX8_roots_23 ⟨rfl, rfl⟩

theorem in_X8_said_X8 : ∀ w ∈ u_ws RX8 TX8 13, w ∈ wsX8_said := by decide +kernel
def s_X8_said_J54 (κ17 : Nat → Nat → Int32 → Int32 → tt_H → Option (Int32 × tt_H)) (b0 : Nat) (b2 : Nat) (x3 : Int32) (x4 : Int32) (h : tt_H) : Option (Int32 × tt_H) :=
  κ17 b0 b2 x3 (x4 + 1) h
def s_X8_said_L17 : Nat → Nat → Nat → Int32 → Int32 → tt_H → Option (Int32 × tt_H)
  | 0, _, _, _, _, _ => none
  | n + 1, b0, b2, x3, x4, h =>
    if 8 ≤ x4 then
      some (x3, h)
    else
    (gg_fr h b0 8 0).bind fun o25 =>
    (gg_il h o25 x4).bind fun z30 =>
    if z30 = 0 then
      (gg_fr h b0 8 0).bind fun o36 =>
      (s_X5_isSaid b2 o36 x4 h).bind fun w41 =>
      if w41.1 = 0 then
        s_X8_said_J54 (s_X8_said_L17 n) b0 b2 x3 x4 w41.2
      else
      s_X8_said_J54 (s_X8_said_L17 n) b0 b2 (x3 ||| ((1 : Int32) <<< (x4 &&& 31))) x4 w41.2
    else
    s_X8_said_J54 (s_X8_said_L17 n) b0 b2 x3 x4 h
def s_X8_said (b0 : Nat) (x1 : Int32) (h : tt_H) : Option (Int32 × tt_H) :=
  (gg_obj h b0 8).bind fun _ =>
  (s_X8_cryOf b0 x1 h).bind fun w2 =>
  gg_opt w2.1 (
    some ((-1), w2.2)
  ) fun b7 =>
  s_X8_said_L17 1000 b0 b7 0 0 w2.2
abbrev rm_X8_said : Room := { frames := 3, cells := 0, slots := 0, locals := 66 }
set_option maxHeartbeats 4000000 in
set_option maxRecDepth 100000 in
theorem c_X8_said (l : Launch) {b0 : Nat} {x1 : Int32} {h : tt_H} {ρ : Int32 × tt_H} (hs : s_X8_said b0 x1 h = some ρ) : tt_M tt_cl l yX8_said wsX8_said rm_X8_said 0 0 false [.ref b0, .int x1] h (tt_ret (some (.int ρ.1)) ρ.2) := by
  refine tt_M.of0 (cc := cX8_said) (maxL := 5) (ret := (some .int)) (by decide +kernel) rfl (Nat.le_of_ble_eq_true rfl) ?_
  intro p e s m args below meth c D ca ad n0 sz hwf hsz X hini
  unfold s_X8_said at hs
  have t_17 : ∀ (fu : Nat) (b0 : Nat) (b2 : Nat) (x3 : Int32) (x4 : Int32) (h : tt_H), s_X8_said_L17 fu b0 b2 x3 x4 h = some ρ → tt_T tt_cl (p, l, e, rm_X8_said, s, m, args, below, meth, c, MQ below (tt_Q tt_cl D ca ad n0 sz false (tt_ret (some (.int ρ.1)) ρ.2)) args s 0 0 (tt_A ad n0 sz), D, ca, tt_A ad n0 sz, 5, some n0) ad 0 0 17 [(0, .ref b0), (2, .ref b2), (3, .int x3), (4, .int x4)] [] h := by
    intro fu
    induction fu with
    | zero => intro b0 b2 x3 x4 h hs; exact absurd hs (by rw [s_X8_said_L17]; exact fun q => by cases q)
    | succ n17 ih =>
      intro b0 b2 x3 x4 h hs
      rw [s_X8_said_L17] at hs
      have t_17 := ih
      have t_54 : ∀ (b0 : Nat) (b2 : Nat) (x3 : Int32) (x4 : Int32) (h : tt_H), s_X8_said_J54 (s_X8_said_L17 n17) b0 b2 x3 x4 h = some ρ → tt_T tt_cl (p, l, e, rm_X8_said, s, m, args, below, meth, c, MQ below (tt_Q tt_cl D ca ad n0 sz false (tt_ret (some (.int ρ.1)) ρ.2)) args s 0 0 (tt_A ad n0 sz), D, ca, tt_A ad n0 sz, 5, some n0) ad 0 0 54 [(0, .ref b0), (2, .ref b2), (3, .int x3), (4, .int x4)] [] h := by
        intro b0 b2 x3 x4 h hs
        unfold s_X8_said_J54 at hs
        refine tt_iinc (v := x4 + 1) X dX8_said_54 rfl rfl (Nat.le_of_ble_eq_true rfl) ?_
        refine tt_goto (tgt := 17) X dX8_said_57 (by decide) ?_
        refine tt_drop [0, 2, 3, 4] ?_
        exact t_17 b0 b2 x3 (x4 + 1) h hs
      refine tt_iload X dX8_said_17 rfl ?_
      refine tt_bipush (v := 8) X dX8_said_19 (by decide) ?_
      refine tt_icmp_ge (tgt := 60) X dX8_said_21 (by decide) (fun c21 => ?_) (fun c21 => ?_)
      · rw [if_pos c21] at hs
        refine tt_iload_n X dX8_said_60 rfl ?_
        obtain rfl := Option.some.inj hs
        exact tt_iret X rfl dX8_said_61 ⟨rfl, rfl⟩
      · rw [if_neg c21] at hs
        refine tt_aload_n X dX8_said_24 rfl ?_
        obtain ⟨o25, e25, hs⟩ := gg_bind hs
        refine zr_fr X e25 rfl in_X8_said_X8 (by decide) (by decide +kernel) rfl dX8_said_25 ?_
        refine tt_iload X dX8_said_28 rfl ?_
        obtain ⟨z30, e30, hs⟩ := gg_bind hs
        refine zr_il X e30 dX8_said_30 ?_
        refine tt_if_ne (tgt := 54) X dX8_said_31 (by decide) (fun c31 => ?_) (fun c31 => ?_)
        · rw [if_neg c31] at hs
          refine tt_drop [0, 2, 3, 4] ?_
          exact t_54 b0 b2 x3 x4 h hs
        · rw [if_pos c31] at hs
          refine tt_aload_n X dX8_said_34 rfl ?_
          refine tt_aload_n X dX8_said_35 rfl ?_
          obtain ⟨o36, e36, hs⟩ := gg_bind hs
          refine zr_fr X e36 rfl in_X8_said_X8 (by decide) (by decide +kernel) rfl dX8_said_36 ?_
          refine tt_iload X dX8_said_39 rfl ?_
          obtain ⟨w41, e41, hs⟩ := gg_bind hs
          refine zr_callS X (c_X5_isSaid l e41) (fun hts => va_cwS 3 hts gX8_said_X5_isSaid rfl rfl rfl (by decide +kernel) ⟨by decide, by decide⟩) rfl rfl (Nat.le_of_ble_eq_true rfl) dX8_said_41 ⟨Nat.zero_le _, Nat.zero_le _⟩ ?_
          refine tt_if_eq (tgt := 54) X dX8_said_44 (by decide) (fun c44 => ?_) (fun c44 => ?_)
          · rw [if_pos c44] at hs
            refine tt_drop [0, 2, 3, 4] ?_
            exact t_54 b0 b2 x3 x4 w41.2 hs
          · rw [if_neg c44] at hs
            refine tt_iload_n X dX8_said_47 rfl ?_
            refine tt_iconst (v := 1) X dX8_said_48 (by decide) ?_
            refine tt_iload X dX8_said_49 rfl ?_
            refine tt_ishl X dX8_said_51 ?_
            refine tt_ior X dX8_said_52 ?_
            refine tt_istore_n X dX8_said_53 (Nat.le_of_ble_eq_true rfl) ?_
            refine tt_drop [0, 2, 3, 4] ?_
            exact t_54 b0 b2 (x3 ||| ((1 : Int32) <<< (x4 &&& 31))) x4 w41.2 hs
  refine tt_aload_n X dX8_said_0 rfl ?_
  refine tt_iload_n X dX8_said_1 rfl ?_
  obtain ⟨o2, f2, hs⟩ := gg_bind hs
  obtain ⟨w2, e2, hs⟩ := gg_bind hs
  refine zr_callV X f2 rfl (c_X8_cryOf l e2) (fun hts => cwV 1 hts gX8_said_X8_cryOf rfl rfl rfl (by decide +kernel) ⟨by decide, by decide⟩) rfl rfl (Nat.le_of_ble_eq_true rfl) dX8_said_2 ⟨Nat.zero_le _, Nat.zero_le _⟩ ?_
  refine zr_astore_n X w2.1 dX8_said_5 (Nat.le_of_ble_eq_true rfl) ?_
  refine zr_aload_n X w2.1 dX8_said_6 rfl ?_
  cases hr7 : w2.1 with
  | none =>
    rw [hr7, gg_opt_none] at hs
    refine tt_ifnonnullN X dX8_said_7 ?_
    refine tt_iconst (v := (-1)) X dX8_said_10 (by decide) ?_
    obtain rfl := Option.some.inj hs
    exact tt_iret X rfl dX8_said_11 ⟨rfl, rfl⟩
  | some b7 =>
    rw [hr7, gg_opt_some] at hs
    refine tt_ifnonnull (tgt := 12) X dX8_said_7 (by decide) ?_
    refine tt_iconst (v := 0) X dX8_said_12 (by decide) ?_
    refine tt_istore_n X dX8_said_13 (Nat.le_of_ble_eq_true rfl) ?_
    refine tt_iconst (v := 0) X dX8_said_14 (by decide) ?_
    refine tt_istore X dX8_said_15 (Nat.le_of_ble_eq_true rfl) ?_
    refine tt_drop [0, 2, 3, 4] ?_
    exact t_17 1000 b0 b7 0 0 w2.2 hs

theorem in_X8_sheet_X8 : ∀ w ∈ u_ws RX8 TX8 13, w ∈ wsX8_sheet := by decide +kernel
def s_X8_sheet (b0 : Nat) (x1 : Int32) (x2 : Int32) (x3 : Int32) (h : tt_H) : Option (Int32 × tt_H) :=
  (gg_put h b0 8 12 (.int 0)).bind fun h2 =>
  (gg_obj h2 b0 8).bind fun _ =>
  (s_X8_sheetOf b0 x1 h2).bind fun w7 =>
  gg_opt w7.1 (
    some ((-1), w7.2)
  ) fun b14 =>
  (s_X8_isSort x2 w7.2).bind fun w20 =>
  if w20.1 = 0 then
    some ((-2), w20.2)
  else
  if x3 ≤ 80 then
    if 0 ≤ x3 then
      (gg_obj w20.2 b14 6).bind fun _ =>
      (s_X6_renew b14 x2 x3 w20.2).bind fun w49 =>
      some (1, w49.2)
    else
    (gg_obj w20.2 b0 8).bind fun _ =>
    (s_X8_fails b0 4 w20.2).bind fun w41 =>
    some (w41.1, w41.2)
  else
  some ((-2), w20.2)
abbrev rm_X8_sheet : Room := { frames := 2, cells := 0, slots := 0, locals := 45 }
set_option maxHeartbeats 4000000 in
set_option maxRecDepth 100000 in
theorem c_X8_sheet (l : Launch) {b0 : Nat} {x1 : Int32} {x2 : Int32} {x3 : Int32} {h : tt_H} {ρ : Int32 × tt_H} (hs : s_X8_sheet b0 x1 x2 x3 h = some ρ) : tt_M tt_cl l yX8_sheet wsX8_sheet rm_X8_sheet 0 0 false [.ref b0, .int x1, .int x2, .int x3] h (tt_ret (some (.int ρ.1)) ρ.2) := by
  refine tt_M.of0 (cc := cX8_sheet) (maxL := 5) (ret := (some .int)) (by decide +kernel) rfl (Nat.le_of_ble_eq_true rfl) ?_
  intro p e s m args below meth c D ca ad n0 sz hwf hsz X hini
  unfold s_X8_sheet at hs
  refine tt_aload_n X dX8_sheet_0 rfl ?_
  refine tt_iconst (v := 0) X dX8_sheet_1 (by decide) ?_
  obtain ⟨h2, e2, hs⟩ := gg_bind hs
  refine zr_put X e2 rfl in_X8_sheet_X8 tyX8 tyX8_ok nmX8 (by decide) (by decide +kernel) rfl rfl (fun _ => rfl) (fun _ => rfl) dX8_sheet_2 ?_
  refine tt_aload_n X dX8_sheet_5 rfl ?_
  refine tt_iload_n X dX8_sheet_6 rfl ?_
  obtain ⟨o7, f7, hs⟩ := gg_bind hs
  obtain ⟨w7, e7, hs⟩ := gg_bind hs
  refine zr_callV X f7 rfl (c_X8_sheetOf l e7) (fun hts => cwV 1 hts gX8_sheet_X8_sheetOf rfl rfl rfl (by decide +kernel) ⟨by decide, by decide⟩) rfl rfl (Nat.le_of_ble_eq_true rfl) dX8_sheet_7 ⟨Nat.zero_le _, Nat.zero_le _⟩ ?_
  refine zr_astore X w7.1 dX8_sheet_10 (Nat.le_of_ble_eq_true rfl) ?_
  refine zr_aload X w7.1 dX8_sheet_12 rfl ?_
  cases hr14 : w7.1 with
  | none =>
    rw [hr14, gg_opt_none] at hs
    refine tt_ifnonnullN X dX8_sheet_14 ?_
    refine tt_iconst (v := (-1)) X dX8_sheet_17 (by decide) ?_
    obtain rfl := Option.some.inj hs
    exact tt_iret X rfl dX8_sheet_18 ⟨rfl, rfl⟩
  | some b14 =>
    rw [hr14, gg_opt_some] at hs
    refine tt_ifnonnull (tgt := 19) X dX8_sheet_14 (by decide) ?_
    refine tt_iload_n X dX8_sheet_19 rfl ?_
    obtain ⟨w20, e20, hs⟩ := gg_bind hs
    refine zr_callS X (c_X8_isSort l e20) (fun hts => va_cwS 1 hts gX8_sheet_X8_isSort rfl rfl rfl (by decide +kernel) ⟨by decide, by decide⟩) rfl rfl (Nat.le_of_ble_eq_true rfl) dX8_sheet_20 ⟨Nat.zero_le _, Nat.zero_le _⟩ ?_
    refine tt_if_eq (tgt := 32) X dX8_sheet_23 (by decide) (fun c23 => ?_) (fun c23 => ?_)
    · rw [if_pos c23] at hs
      refine tt_bipush (v := (-2)) X dX8_sheet_32 (by decide) ?_
      obtain rfl := Option.some.inj hs
      exact tt_iret X rfl dX8_sheet_34 ⟨rfl, rfl⟩
    · rw [if_neg c23] at hs
      refine tt_iload_n X dX8_sheet_26 rfl ?_
      refine tt_bipush (v := 80) X dX8_sheet_27 (by decide) ?_
      refine tt_icmp_le (tgt := 35) X dX8_sheet_29 (by decide) (fun c29 => ?_) (fun c29 => ?_)
      · rw [if_pos c29] at hs
        refine tt_iload_n X dX8_sheet_35 rfl ?_
        refine tt_if_ge (tgt := 45) X dX8_sheet_36 (by decide) (fun c36 => ?_) (fun c36 => ?_)
        · rw [if_pos c36] at hs
          refine tt_aload X dX8_sheet_45 rfl ?_
          refine tt_iload_n X dX8_sheet_47 rfl ?_
          refine tt_iload_n X dX8_sheet_48 rfl ?_
          obtain ⟨o49, f49, hs⟩ := gg_bind hs
          obtain ⟨w49, e49, hs⟩ := gg_bind hs
          refine zr_callV X f49 rfl (c_X6_renew l e49) (fun hts => cwV 2 hts gX8_sheet_X6_renew rfl rfl rfl (by decide +kernel) ⟨by decide, by decide⟩) rfl rfl (Nat.le_of_ble_eq_true rfl) dX8_sheet_49 ⟨Nat.zero_le _, Nat.zero_le _⟩ ?_
          refine tt_iconst (v := 1) X dX8_sheet_52 (by decide) ?_
          obtain rfl := Option.some.inj hs
          exact tt_iret X rfl dX8_sheet_53 ⟨rfl, rfl⟩
        · rw [if_neg c36] at hs
          refine tt_aload_n X dX8_sheet_39 rfl ?_
          refine tt_iconst (v := 4) X dX8_sheet_40 (by decide) ?_
          obtain ⟨o41, f41, hs⟩ := gg_bind hs
          obtain ⟨w41, e41, hs⟩ := gg_bind hs
          refine zr_callV X f41 rfl (c_X8_fails l e41) (fun hts => cwV 1 hts gX8_sheet_X8_fails rfl rfl rfl (by decide +kernel) ⟨by decide, by decide⟩) rfl rfl (Nat.le_of_ble_eq_true rfl) dX8_sheet_41 ⟨Nat.zero_le _, Nat.zero_le _⟩ ?_
          obtain rfl := Option.some.inj hs
          exact tt_iret X rfl dX8_sheet_44 ⟨rfl, rfl⟩
      · rw [if_neg c29] at hs
        refine tt_bipush (v := (-2)) X dX8_sheet_32 (by decide) ?_
        obtain rfl := Option.some.inj hs
        exact tt_iret X rfl dX8_sheet_34 ⟨rfl, rfl⟩

theorem in_X8_shortest_X8 : ∀ w ∈ u_ws RX8 TX8 13, w ∈ wsX8_shortest := by decide +kernel
def s_X8_shortest (b0 : Nat) (x1 : Int32) (x2 : Int32) (x3 : Int32) (h : tt_H) : Option (Int64 × tt_H) :=
  (gg_obj h b0 8).bind fun _ =>
  (s_X8_cryOf b0 x1 h).bind fun w2 =>
  (gg_obj w2.2 b0 8).bind fun _ =>
  (s_X8_cryOf b0 x2 w2.2).bind fun w9 =>
  gg_opt w2.1 (
    some ((-9223372036854775808), w9.2)
  ) fun b16 =>
  gg_opt w9.1 (
    some ((-9223372036854775808), w9.2)
  ) fun b21 =>
  if ((-1)) ≤ x3 then
    (gg_fr w9.2 b0 8 6).bind fun o34 =>
    (gg_obj w9.2 o34 7).bind fun _ =>
    (s_X7_make o34 b16 b21 w9.2).bind fun w41 =>
    (gg_fr w41.2 b0 8 6).bind fun o46 =>
    (gg_obj w41.2 o46 7).bind fun _ =>
    (s_X7_length o46 w41.2).bind fun w49 =>
    if x3 < w49.1 then
      if x3 = ((-1)) then
        (gg_fr w49.2 b0 8 6).bind fun o65 =>
        (gg_obj w49.2 o65 7).bind fun _ =>
        (s_X7_howMany o65 w49.2).bind fun w68 =>
        some (w68.1, w68.2)
      else
      (gg_fr w49.2 b0 8 6).bind fun o75 =>
      (gg_obj w49.2 o75 7).bind fun _ =>
      (s_X7_wordOfFirst o75 b16 b21 x3 w49.2).bind fun w83 =>
      some (w83.1.toInt64, w83.2)
    else
    some ((-9223372036854775808), w49.2)
  else
  some ((-9223372036854775808), w9.2)
abbrev rm_X8_shortest : Room := { frames := 5, cells := 0, slots := 0, locals := 125 }
set_option maxHeartbeats 4000000 in
set_option maxRecDepth 100000 in
theorem c_X8_shortest (l : Launch) {b0 : Nat} {x1 : Int32} {x2 : Int32} {x3 : Int32} {h : tt_H} {ρ : Int64 × tt_H} (hs : s_X8_shortest b0 x1 x2 x3 h = some ρ) : tt_M tt_cl l yX8_shortest wsX8_shortest rm_X8_shortest 0 0 false [.ref b0, .int x1, .int x2, .int x3] h (tt_ret (some (.long ρ.1)) ρ.2) := by
  refine tt_M.of0 (cc := cX8_shortest) (maxL := 6) (ret := (some .long)) (by decide +kernel) rfl (Nat.le_of_ble_eq_true rfl) ?_
  intro p e s m args below meth c D ca ad n0 sz hwf hsz X hini
  unfold s_X8_shortest at hs
  refine tt_aload_n X dX8_shortest_0 rfl ?_
  refine tt_iload_n X dX8_shortest_1 rfl ?_
  obtain ⟨o2, f2, hs⟩ := gg_bind hs
  obtain ⟨w2, e2, hs⟩ := gg_bind hs
  refine zr_callV X f2 rfl (c_X8_cryOf l e2) (fun hts => cwV 1 hts gX8_shortest_X8_cryOf rfl rfl rfl (by decide +kernel) ⟨by decide, by decide⟩) rfl rfl (Nat.le_of_ble_eq_true rfl) dX8_shortest_2 ⟨Nat.zero_le _, Nat.zero_le _⟩ ?_
  refine zr_astore X w2.1 dX8_shortest_5 (Nat.le_of_ble_eq_true rfl) ?_
  refine tt_aload_n X dX8_shortest_7 rfl ?_
  refine tt_iload_n X dX8_shortest_8 rfl ?_
  obtain ⟨o9, f9, hs⟩ := gg_bind hs
  obtain ⟨w9, e9, hs⟩ := gg_bind hs
  refine zr_callV X f9 rfl (c_X8_cryOf l e9) (fun hts => cwV 1 hts gX8_shortest_X8_cryOf rfl rfl rfl (by decide +kernel) ⟨by decide, by decide⟩) rfl rfl (Nat.le_of_ble_eq_true rfl) dX8_shortest_9 ⟨Nat.zero_le _, Nat.zero_le _⟩ ?_
  refine zr_astore X w9.1 dX8_shortest_12 (Nat.le_of_ble_eq_true rfl) ?_
  refine tt_setL (L2 := [(0, .ref b0), (1, .int x1), (2, .int x2), (3, .int x3), (4, va_rf w2.1), (5, va_rf w9.1)]) (by cases w2.1 <;> rfl) ?_
  refine zr_aload X w2.1 dX8_shortest_14 rfl ?_
  cases hr16 : w2.1 with
  | none =>
    rw [hr16, gg_opt_none] at hs
    refine tt_ifnullN (tgt := 29) X dX8_shortest_16 (by decide) ?_
    refine tt_ldc2 (v := (-9223372036854775808)) X (by decide +kernel) dX8_shortest_29 ?_
    obtain rfl := Option.some.inj hs
    exact tt_lret X rfl dX8_shortest_32 ⟨rfl, rfl⟩
  | some b16 =>
    rw [hr16, gg_opt_some] at hs
    refine tt_ifnull X dX8_shortest_16 ?_
    refine zr_aload X w9.1 dX8_shortest_19 rfl ?_
    cases hr21 : w9.1 with
    | none =>
      rw [hr21, gg_opt_none] at hs
      refine tt_ifnullN (tgt := 29) X dX8_shortest_21 (by decide) ?_
      refine tt_ldc2 (v := (-9223372036854775808)) X (by decide +kernel) dX8_shortest_29 ?_
      obtain rfl := Option.some.inj hs
      exact tt_lret X rfl dX8_shortest_32 ⟨rfl, rfl⟩
    | some b21 =>
      rw [hr21, gg_opt_some] at hs
      refine tt_ifnull X dX8_shortest_21 ?_
      refine tt_iload_n X dX8_shortest_24 rfl ?_
      refine tt_iconst (v := (-1)) X dX8_shortest_25 (by decide) ?_
      refine tt_icmp_ge (tgt := 33) X dX8_shortest_26 (by decide) (fun c26 => ?_) (fun c26 => ?_)
      · rw [if_pos c26] at hs
        refine tt_aload_n X dX8_shortest_33 rfl ?_
        obtain ⟨o34, e34, hs⟩ := gg_bind hs
        refine zr_fr X e34 rfl in_X8_shortest_X8 (by decide) (by decide +kernel) rfl dX8_shortest_34 ?_
        refine tt_aload X dX8_shortest_37 rfl ?_
        refine tt_aload X dX8_shortest_39 rfl ?_
        obtain ⟨o41, f41, hs⟩ := gg_bind hs
        obtain ⟨w41, e41, hs⟩ := gg_bind hs
        refine zr_callV X f41 rfl (c_X7_make l e41) (fun hts => cwV 2 hts gX8_shortest_X7_make rfl rfl rfl (by decide +kernel) ⟨by decide, by decide⟩) rfl rfl (Nat.le_of_ble_eq_true rfl) dX8_shortest_41 ⟨Nat.zero_le _, Nat.zero_le _⟩ ?_
        refine tt_iload_n X dX8_shortest_44 rfl ?_
        refine tt_aload_n X dX8_shortest_45 rfl ?_
        obtain ⟨o46, e46, hs⟩ := gg_bind hs
        refine zr_fr X e46 rfl in_X8_shortest_X8 (by decide) (by decide +kernel) rfl dX8_shortest_46 ?_
        obtain ⟨o49, f49, hs⟩ := gg_bind hs
        obtain ⟨w49, e49, hs⟩ := gg_bind hs
        refine zr_callV X f49 rfl (c_X7_length l e49) (fun hts => cwV 0 hts gX8_shortest_X7_length rfl rfl rfl (by decide +kernel) ⟨by decide, by decide⟩) rfl rfl (Nat.le_of_ble_eq_true rfl) dX8_shortest_49 ⟨Nat.zero_le _, Nat.zero_le _⟩ ?_
        refine tt_icmp_lt (tgt := 59) X dX8_shortest_52 (by decide) (fun c52 => ?_) (fun c52 => ?_)
        · rw [if_pos c52] at hs
          refine tt_iload_n X dX8_shortest_59 rfl ?_
          refine tt_iconst (v := (-1)) X dX8_shortest_60 (by decide) ?_
          refine tt_icmp_ne (tgt := 74) X dX8_shortest_61 (by decide) (fun c61 => ?_) (fun c61 => ?_)
          · rw [if_neg c61] at hs
            refine tt_aload_n X dX8_shortest_74 rfl ?_
            obtain ⟨o75, e75, hs⟩ := gg_bind hs
            refine zr_fr X e75 rfl in_X8_shortest_X8 (by decide) (by decide +kernel) rfl dX8_shortest_75 ?_
            refine tt_aload X dX8_shortest_78 rfl ?_
            refine tt_aload X dX8_shortest_80 rfl ?_
            refine tt_iload_n X dX8_shortest_82 rfl ?_
            obtain ⟨o83, f83, hs⟩ := gg_bind hs
            obtain ⟨w83, e83, hs⟩ := gg_bind hs
            refine zr_callV X f83 rfl (c_X7_wordOfFirst l e83) (fun hts => cwV 3 hts gX8_shortest_X7_wordOfFirst rfl rfl rfl (by decide +kernel) ⟨by decide, by decide⟩) rfl rfl (Nat.le_of_ble_eq_true rfl) dX8_shortest_83 ⟨Nat.zero_le _, Nat.zero_le _⟩ ?_
            refine tt_i2l X dX8_shortest_86 ?_
            obtain rfl := Option.some.inj hs
            exact tt_lret X rfl dX8_shortest_87 ⟨rfl, rfl⟩
          · rw [if_pos c61] at hs
            refine tt_aload_n X dX8_shortest_64 rfl ?_
            obtain ⟨o65, e65, hs⟩ := gg_bind hs
            refine zr_fr X e65 rfl in_X8_shortest_X8 (by decide) (by decide +kernel) rfl dX8_shortest_65 ?_
            obtain ⟨o68, f68, hs⟩ := gg_bind hs
            obtain ⟨w68, e68, hs⟩ := gg_bind hs
            refine zr_callV X f68 rfl (c_X7_howMany l e68) (fun hts => cwV 0 hts gX8_shortest_X7_howMany rfl rfl rfl (by decide +kernel) ⟨by decide, by decide⟩) rfl rfl (Nat.le_of_ble_eq_true rfl) dX8_shortest_68 ⟨Nat.zero_le _, Nat.zero_le _⟩ ?_
            refine tt_goto (tgt := 87) X dX8_shortest_71 (by decide) ?_
            obtain rfl := Option.some.inj hs
            exact tt_lret X rfl dX8_shortest_87 ⟨rfl, rfl⟩
        · rw [if_neg c52] at hs
          refine tt_ldc2 (v := (-9223372036854775808)) X (by decide +kernel) dX8_shortest_55 ?_
          obtain rfl := Option.some.inj hs
          exact tt_lret X rfl dX8_shortest_58 ⟨rfl, rfl⟩
      · rw [if_neg c26] at hs
        refine tt_ldc2 (v := (-9223372036854775808)) X (by decide +kernel) dX8_shortest_29 ?_
        obtain rfl := Option.some.inj hs
        exact tt_lret X rfl dX8_shortest_32 ⟨rfl, rfl⟩

def s_X8_wordSings (b0 : Nat) (x1 : Int32) (h : tt_H) : Option (Int32 × tt_H) :=
  (gg_obj h b0 8).bind fun _ =>
  (s_X8_leave b0 4 h).bind fun w2 =>
  some (x1, w2.2)
abbrev rm_X8_wordSings : Room := { frames := 1, cells := 0, slots := 0, locals := 21 }
set_option maxHeartbeats 4000000 in
set_option maxRecDepth 100000 in
theorem c_X8_wordSings (l : Launch) {b0 : Nat} {x1 : Int32} {h : tt_H} {ρ : Int32 × tt_H} (hs : s_X8_wordSings b0 x1 h = some ρ) : tt_M tt_cl l yX8_wordSings wsX8_wordSings rm_X8_wordSings 0 0 false [.ref b0, .int x1] h (tt_ret (some (.int ρ.1)) ρ.2) := by
  refine tt_M.of0 (cc := cX8_wordSings) (maxL := 2) (ret := (some .int)) (by decide +kernel) rfl (Nat.le_of_ble_eq_true rfl) ?_
  intro p e s m args below meth c D ca ad n0 sz hwf hsz X hini
  unfold s_X8_wordSings at hs
  refine tt_aload_n X dX8_wordSings_0 rfl ?_
  refine tt_iconst (v := 4) X dX8_wordSings_1 (by decide) ?_
  obtain ⟨o2, f2, hs⟩ := gg_bind hs
  obtain ⟨w2, e2, hs⟩ := gg_bind hs
  refine zr_callV X f2 rfl (c_X8_leave l e2) (fun hts => cwV 1 hts gX8_wordSings_X8_leave rfl rfl rfl (by decide +kernel) ⟨by decide, by decide⟩) rfl rfl (Nat.le_of_ble_eq_true rfl) dX8_wordSings_2 ⟨Nat.zero_le _, Nat.zero_le _⟩ ?_
  refine tt_iload_n X dX8_wordSings_5 rfl ?_
  obtain rfl := Option.some.inj hs
  exact tt_iret X rfl dX8_wordSings_6 ⟨rfl, rfl⟩

theorem in_X8_sing_X8 : ∀ w ∈ u_ws RX8 TX8 13, w ∈ wsX8_sing := by decide +kernel
def s_X8_sing (b0 : Nat) (x1 : Int32) (h : tt_H) : Option (Int32 × tt_H) :=
  (s_X8_isWord x1 h).bind fun w1 =>
  if w1.1 = 0 then
    some ((-1), w1.2)
  else
  (gg_fr w1.2 b0 8 0).bind fun o10 =>
  (gg_il w1.2 o10 x1).bind fun z14 =>
  if z14 = 2 then
    (gg_obj w1.2 b0 8).bind fun _ =>
    (s_X8_doubtSings b0 w1.2).bind fun w20 =>
    some (w20.1, w20.2)
  else
  (gg_obj w1.2 b0 8).bind fun _ =>
  (s_X8_wordSings b0 x1 w1.2).bind fun w28 =>
  some (w28.1, w28.2)
abbrev rm_X8_sing : Room := { frames := 2, cells := 0, slots := 0, locals := 42 }
set_option maxHeartbeats 4000000 in
set_option maxRecDepth 100000 in
theorem c_X8_sing (l : Launch) {b0 : Nat} {x1 : Int32} {h : tt_H} {ρ : Int32 × tt_H} (hs : s_X8_sing b0 x1 h = some ρ) : tt_M tt_cl l yX8_sing wsX8_sing rm_X8_sing 0 0 false [.ref b0, .int x1] h (tt_ret (some (.int ρ.1)) ρ.2) := by
  refine tt_M.of0 (cc := cX8_sing) (maxL := 2) (ret := (some .int)) (by decide +kernel) rfl (Nat.le_of_ble_eq_true rfl) ?_
  intro p e s m args below meth c D ca ad n0 sz hwf hsz X hini
  unfold s_X8_sing at hs
  refine tt_iload_n X dX8_sing_0 rfl ?_
  obtain ⟨w1, e1, hs⟩ := gg_bind hs
  refine zr_callS X (c_X8_isWord l e1) (fun hts => va_cwS 1 hts gX8_sing_X8_isWord rfl rfl rfl (by decide +kernel) ⟨by decide, by decide⟩) rfl rfl (Nat.le_of_ble_eq_true rfl) dX8_sing_1 ⟨Nat.zero_le _, Nat.zero_le _⟩ ?_
  refine tt_if_ne (tgt := 9) X dX8_sing_4 (by decide) (fun c4 => ?_) (fun c4 => ?_)
  · rw [if_neg c4] at hs
    refine tt_aload_n X dX8_sing_9 rfl ?_
    obtain ⟨o10, e10, hs⟩ := gg_bind hs
    refine zr_fr X e10 rfl in_X8_sing_X8 (by decide) (by decide +kernel) rfl dX8_sing_10 ?_
    refine tt_iload_n X dX8_sing_13 rfl ?_
    obtain ⟨z14, e14, hs⟩ := gg_bind hs
    refine zr_il X e14 dX8_sing_14 ?_
    refine tt_iconst (v := 2) X dX8_sing_15 (by decide) ?_
    refine tt_icmp_ne (tgt := 26) X dX8_sing_16 (by decide) (fun c16 => ?_) (fun c16 => ?_)
    · rw [if_neg c16] at hs
      refine tt_aload_n X dX8_sing_26 rfl ?_
      refine tt_iload_n X dX8_sing_27 rfl ?_
      obtain ⟨o28, f28, hs⟩ := gg_bind hs
      obtain ⟨w28, e28, hs⟩ := gg_bind hs
      refine zr_callV X f28 rfl (c_X8_wordSings l e28) (fun hts => cwV 1 hts gX8_sing_X8_wordSings rfl rfl rfl (by decide +kernel) ⟨by decide, by decide⟩) rfl rfl (Nat.le_of_ble_eq_true rfl) dX8_sing_28 ⟨Nat.zero_le _, Nat.zero_le _⟩ ?_
      obtain rfl := Option.some.inj hs
      exact tt_iret X rfl dX8_sing_31 ⟨rfl, rfl⟩
    · rw [if_pos c16] at hs
      refine tt_aload_n X dX8_sing_19 rfl ?_
      obtain ⟨o20, f20, hs⟩ := gg_bind hs
      obtain ⟨w20, e20, hs⟩ := gg_bind hs
      refine zr_callV X f20 rfl (c_X8_doubtSings l e20) (fun hts => cwV 0 hts gX8_sing_X8_doubtSings rfl rfl rfl (by decide +kernel) ⟨by decide, by decide⟩) rfl rfl (Nat.le_of_ble_eq_true rfl) dX8_sing_20 ⟨Nat.zero_le _, Nat.zero_le _⟩ ?_
      refine tt_goto (tgt := 31) X dX8_sing_23 (by decide) ?_
      obtain rfl := Option.some.inj hs
      exact tt_iret X rfl dX8_sing_31 ⟨rfl, rfl⟩
  · rw [if_pos c4] at hs
    refine tt_iconst (v := (-1)) X dX8_sing_7 (by decide) ?_
    obtain rfl := Option.some.inj hs
    exact tt_iret X rfl dX8_sing_8 ⟨rfl, rfl⟩

theorem in_X8_tell_X8 : ∀ w ∈ u_ws RX8 TX8 13, w ∈ wsX8_tell := by decide +kernel
def s_X8_tell (b0 : Nat) (x1 : Int32) (h : tt_H) : Option (Int32 × tt_H) :=
  (s_X8_isWord x1 h).bind fun w1 =>
  if w1.1 = 0 then
    some ((-1), w1.2)
  else
  (gg_fr w1.2 b0 8 0).bind fun o10 =>
  (gg_il w1.2 o10 x1).bind fun z14 =>
  if z14 = 2 then
    (gg_obj w1.2 b0 8).bind fun _ =>
    (s_X8_doubtTells b0 x1 w1.2).bind fun w21 =>
    some (w21.1, w21.2)
  else
  (gg_fr w1.2 b0 8 0).bind fun o26 =>
  (gg_il w1.2 o26 x1).bind fun z30 =>
  if z30 = 1 then
    (gg_obj w1.2 b0 8).bind fun _ =>
    (s_X8_denialTells b0 x1 w1.2).bind fun w37 =>
    some (w37.1, w37.2)
  else
  (gg_obj w1.2 b0 8).bind fun _ =>
  (s_X8_wordTells b0 x1 w1.2).bind fun w45 =>
  some (w45.1, w45.2)
abbrev rm_X8_tell : Room := { frames := 4, cells := 0, slots := 0, locals := 89 }
set_option maxHeartbeats 4000000 in
set_option maxRecDepth 100000 in
theorem c_X8_tell (l : Launch) {b0 : Nat} {x1 : Int32} {h : tt_H} {ρ : Int32 × tt_H} (hs : s_X8_tell b0 x1 h = some ρ) : tt_M tt_cl l yX8_tell wsX8_tell rm_X8_tell 0 0 false [.ref b0, .int x1] h (tt_ret (some (.int ρ.1)) ρ.2) := by
  refine tt_M.of0 (cc := cX8_tell) (maxL := 2) (ret := (some .int)) (by decide +kernel) rfl (Nat.le_of_ble_eq_true rfl) ?_
  intro p e s m args below meth c D ca ad n0 sz hwf hsz X hini
  unfold s_X8_tell at hs
  refine tt_iload_n X dX8_tell_0 rfl ?_
  obtain ⟨w1, e1, hs⟩ := gg_bind hs
  refine zr_callS X (c_X8_isWord l e1) (fun hts => va_cwS 1 hts gX8_tell_X8_isWord rfl rfl rfl (by decide +kernel) ⟨by decide, by decide⟩) rfl rfl (Nat.le_of_ble_eq_true rfl) dX8_tell_1 ⟨Nat.zero_le _, Nat.zero_le _⟩ ?_
  refine tt_if_ne (tgt := 9) X dX8_tell_4 (by decide) (fun c4 => ?_) (fun c4 => ?_)
  · rw [if_neg c4] at hs
    refine tt_aload_n X dX8_tell_9 rfl ?_
    obtain ⟨o10, e10, hs⟩ := gg_bind hs
    refine zr_fr X e10 rfl in_X8_tell_X8 (by decide) (by decide +kernel) rfl dX8_tell_10 ?_
    refine tt_iload_n X dX8_tell_13 rfl ?_
    obtain ⟨z14, e14, hs⟩ := gg_bind hs
    refine zr_il X e14 dX8_tell_14 ?_
    refine tt_iconst (v := 2) X dX8_tell_15 (by decide) ?_
    refine tt_icmp_ne (tgt := 25) X dX8_tell_16 (by decide) (fun c16 => ?_) (fun c16 => ?_)
    · rw [if_neg c16] at hs
      refine tt_aload_n X dX8_tell_25 rfl ?_
      obtain ⟨o26, e26, hs⟩ := gg_bind hs
      refine zr_fr X e26 rfl in_X8_tell_X8 (by decide) (by decide +kernel) rfl dX8_tell_26 ?_
      refine tt_iload_n X dX8_tell_29 rfl ?_
      obtain ⟨z30, e30, hs⟩ := gg_bind hs
      refine zr_il X e30 dX8_tell_30 ?_
      refine tt_iconst (v := 1) X dX8_tell_31 (by decide) ?_
      refine tt_icmp_ne (tgt := 43) X dX8_tell_32 (by decide) (fun c32 => ?_) (fun c32 => ?_)
      · rw [if_neg c32] at hs
        refine tt_aload_n X dX8_tell_43 rfl ?_
        refine tt_iload_n X dX8_tell_44 rfl ?_
        obtain ⟨o45, f45, hs⟩ := gg_bind hs
        obtain ⟨w45, e45, hs⟩ := gg_bind hs
        refine zr_callV X f45 rfl (c_X8_wordTells l e45) (fun hts => cwV 1 hts gX8_tell_X8_wordTells rfl rfl rfl (by decide +kernel) ⟨by decide, by decide⟩) rfl rfl (Nat.le_of_ble_eq_true rfl) dX8_tell_45 ⟨Nat.zero_le _, Nat.zero_le _⟩ ?_
        obtain rfl := Option.some.inj hs
        exact tt_iret X rfl dX8_tell_48 ⟨rfl, rfl⟩
      · rw [if_pos c32] at hs
        refine tt_aload_n X dX8_tell_35 rfl ?_
        refine tt_iload_n X dX8_tell_36 rfl ?_
        obtain ⟨o37, f37, hs⟩ := gg_bind hs
        obtain ⟨w37, e37, hs⟩ := gg_bind hs
        refine zr_callV X f37 rfl (c_X8_denialTells l e37) (fun hts => cwV 1 hts gX8_tell_X8_denialTells rfl rfl rfl (by decide +kernel) ⟨by decide, by decide⟩) rfl rfl (Nat.le_of_ble_eq_true rfl) dX8_tell_37 ⟨Nat.zero_le _, Nat.zero_le _⟩ ?_
        refine tt_goto (tgt := 48) X dX8_tell_40 (by decide) ?_
        obtain rfl := Option.some.inj hs
        exact tt_iret X rfl dX8_tell_48 ⟨rfl, rfl⟩
    · rw [if_pos c16] at hs
      refine tt_aload_n X dX8_tell_19 rfl ?_
      refine tt_iload_n X dX8_tell_20 rfl ?_
      obtain ⟨o21, f21, hs⟩ := gg_bind hs
      obtain ⟨w21, e21, hs⟩ := gg_bind hs
      refine zr_callV X f21 rfl (c_X8_doubtTells l e21) (fun hts => cwV 1 hts gX8_tell_X8_doubtTells rfl rfl rfl (by decide +kernel) ⟨by decide, by decide⟩) rfl rfl (Nat.le_of_ble_eq_true rfl) dX8_tell_21 ⟨Nat.zero_le _, Nat.zero_le _⟩ ?_
      obtain rfl := Option.some.inj hs
      exact tt_iret X rfl dX8_tell_24 ⟨rfl, rfl⟩
  · rw [if_pos c4] at hs
    refine tt_iconst (v := (-1)) X dX8_tell_7 (by decide) ?_
    obtain rfl := Option.some.inj hs
    exact tt_iret X rfl dX8_tell_8 ⟨rfl, rfl⟩

theorem in_X8_three_X8 : ∀ w ∈ u_ws RX8 TX8 13, w ∈ wsX8_three := by decide +kernel
def s_X8_three (b0 : Nat) (x1 : Int32) (x2 : Int32) (x3 : Int32) (h : tt_H) : Option (Int32 × tt_H) :=
  (gg_obj h b0 8).bind fun _ =>
  (s_X8_cryOf b0 x1 h).bind fun w2 =>
  (gg_obj w2.2 b0 8).bind fun _ =>
  (s_X8_cryOf b0 x2 w2.2).bind fun w9 =>
  (gg_obj w9.2 b0 8).bind fun _ =>
  (s_X8_cryOf b0 x3 w9.2).bind fun w16 =>
  gg_opt w2.1 (
    some ((-1), w16.2)
  ) fun b23 =>
  gg_opt w9.1 (
    some ((-1), w16.2)
  ) fun b28 =>
  gg_opt w16.1 (
    some ((-1), w16.2)
  ) fun b33 =>
  (gg_fr w16.2 b0 8 7).bind fun o39 =>
  (gg_obj w16.2 o39 1).bind fun _ =>
  (s_X1_length o39 b23 b28 b33 w16.2).bind fun w48 =>
  some (w48.1, w48.2)
abbrev rm_X8_three : Room := { frames := 5, cells := 0, slots := 0, locals := 125 }
set_option maxHeartbeats 4000000 in
set_option maxRecDepth 100000 in
theorem c_X8_three (l : Launch) {b0 : Nat} {x1 : Int32} {x2 : Int32} {x3 : Int32} {h : tt_H} {ρ : Int32 × tt_H} (hs : s_X8_three b0 x1 x2 x3 h = some ρ) : tt_M tt_cl l yX8_three wsX8_three rm_X8_three 0 0 false [.ref b0, .int x1, .int x2, .int x3] h (tt_ret (some (.int ρ.1)) ρ.2) := by
  refine tt_M.of0 (cc := cX8_three) (maxL := 7) (ret := (some .int)) (by decide +kernel) rfl (Nat.le_of_ble_eq_true rfl) ?_
  intro p e s m args below meth c D ca ad n0 sz hwf hsz X hini
  unfold s_X8_three at hs
  refine tt_aload_n X dX8_three_0 rfl ?_
  refine tt_iload_n X dX8_three_1 rfl ?_
  obtain ⟨o2, f2, hs⟩ := gg_bind hs
  obtain ⟨w2, e2, hs⟩ := gg_bind hs
  refine zr_callV X f2 rfl (c_X8_cryOf l e2) (fun hts => cwV 1 hts gX8_three_X8_cryOf rfl rfl rfl (by decide +kernel) ⟨by decide, by decide⟩) rfl rfl (Nat.le_of_ble_eq_true rfl) dX8_three_2 ⟨Nat.zero_le _, Nat.zero_le _⟩ ?_
  refine zr_astore X w2.1 dX8_three_5 (Nat.le_of_ble_eq_true rfl) ?_
  refine tt_aload_n X dX8_three_7 rfl ?_
  refine tt_iload_n X dX8_three_8 rfl ?_
  obtain ⟨o9, f9, hs⟩ := gg_bind hs
  obtain ⟨w9, e9, hs⟩ := gg_bind hs
  refine zr_callV X f9 rfl (c_X8_cryOf l e9) (fun hts => cwV 1 hts gX8_three_X8_cryOf rfl rfl rfl (by decide +kernel) ⟨by decide, by decide⟩) rfl rfl (Nat.le_of_ble_eq_true rfl) dX8_three_9 ⟨Nat.zero_le _, Nat.zero_le _⟩ ?_
  refine zr_astore X w9.1 dX8_three_12 (Nat.le_of_ble_eq_true rfl) ?_
  refine tt_setL (L2 := [(0, .ref b0), (1, .int x1), (2, .int x2), (3, .int x3), (4, va_rf w2.1), (5, va_rf w9.1)]) (by cases w2.1 <;> rfl) ?_
  refine tt_aload_n X dX8_three_14 rfl ?_
  refine tt_iload_n X dX8_three_15 rfl ?_
  obtain ⟨o16, f16, hs⟩ := gg_bind hs
  obtain ⟨w16, e16, hs⟩ := gg_bind hs
  refine zr_callV X f16 rfl (c_X8_cryOf l e16) (fun hts => cwV 1 hts gX8_three_X8_cryOf rfl rfl rfl (by decide +kernel) ⟨by decide, by decide⟩) rfl rfl (Nat.le_of_ble_eq_true rfl) dX8_three_16 ⟨Nat.zero_le _, Nat.zero_le _⟩ ?_
  refine zr_astore X w16.1 dX8_three_19 (Nat.le_of_ble_eq_true rfl) ?_
  refine tt_setL (L2 := [(0, .ref b0), (1, .int x1), (2, .int x2), (3, .int x3), (4, va_rf w2.1), (5, va_rf w9.1), (6, va_rf w16.1)]) (by cases w9.1 <;> rfl) ?_
  refine zr_aload X w2.1 dX8_three_21 rfl ?_
  cases hr23 : w2.1 with
  | none =>
    rw [hr23, gg_opt_none] at hs
    refine tt_ifnullN (tgt := 36) X dX8_three_23 (by decide) ?_
    refine tt_iconst (v := (-1)) X dX8_three_36 (by decide) ?_
    obtain rfl := Option.some.inj hs
    exact tt_iret X rfl dX8_three_37 ⟨rfl, rfl⟩
  | some b23 =>
    rw [hr23, gg_opt_some] at hs
    refine tt_ifnull X dX8_three_23 ?_
    refine zr_aload X w9.1 dX8_three_26 rfl ?_
    cases hr28 : w9.1 with
    | none =>
      rw [hr28, gg_opt_none] at hs
      refine tt_ifnullN (tgt := 36) X dX8_three_28 (by decide) ?_
      refine tt_iconst (v := (-1)) X dX8_three_36 (by decide) ?_
      obtain rfl := Option.some.inj hs
      exact tt_iret X rfl dX8_three_37 ⟨rfl, rfl⟩
    | some b28 =>
      rw [hr28, gg_opt_some] at hs
      refine tt_ifnull X dX8_three_28 ?_
      refine zr_aload X w16.1 dX8_three_31 rfl ?_
      cases hr33 : w16.1 with
      | none =>
        rw [hr33, gg_opt_none] at hs
        refine tt_ifnonnullN X dX8_three_33 ?_
        refine tt_iconst (v := (-1)) X dX8_three_36 (by decide) ?_
        obtain rfl := Option.some.inj hs
        exact tt_iret X rfl dX8_three_37 ⟨rfl, rfl⟩
      | some b33 =>
        rw [hr33, gg_opt_some] at hs
        refine tt_ifnonnull (tgt := 38) X dX8_three_33 (by decide) ?_
        refine tt_aload_n X dX8_three_38 rfl ?_
        obtain ⟨o39, e39, hs⟩ := gg_bind hs
        refine zr_fr X e39 rfl in_X8_three_X8 (by decide) (by decide +kernel) rfl dX8_three_39 ?_
        refine tt_aload X dX8_three_42 rfl ?_
        refine tt_aload X dX8_three_44 rfl ?_
        refine tt_aload X dX8_three_46 rfl ?_
        obtain ⟨o48, f48, hs⟩ := gg_bind hs
        obtain ⟨w48, e48, hs⟩ := gg_bind hs
        refine zr_callV X f48 rfl (c_X1_length l e48) (fun hts => cwV 3 hts gX8_three_X1_length rfl rfl rfl (by decide +kernel) ⟨by decide, by decide⟩) rfl rfl (Nat.le_of_ble_eq_true rfl) dX8_three_48 ⟨Nat.zero_le _, Nat.zero_le _⟩ ?_
        obtain rfl := Option.some.inj hs
        exact tt_iret X rfl dX8_three_51 ⟨rfl, rfl⟩

theorem in_X8_trace_X8 : ∀ w ∈ u_ws RX8 TX8 13, w ∈ wsX8_trace := by decide +kernel
def s_X8_trace (b0 : Nat) (h : tt_H) : Option (Int32 × tt_H) :=
  (gg_fi h b0 8 11).bind fun z1 =>
  some (z1, h)
abbrev rm_X8_trace : Room := { frames := 0, cells := 0, slots := 0, locals := 0 }
set_option maxHeartbeats 4000000 in
set_option maxRecDepth 100000 in
theorem c_X8_trace (l : Launch) {b0 : Nat} {h : tt_H} {ρ : Int32 × tt_H} (hs : s_X8_trace b0 h = some ρ) : tt_M tt_cl l yX8_trace wsX8_trace rm_X8_trace 0 0 false [.ref b0] h (tt_ret (some (.int ρ.1)) ρ.2) := by
  refine tt_M.of0 (cc := cX8_trace) (maxL := 1) (ret := (some .int)) (by decide +kernel) rfl (Nat.le_of_ble_eq_true rfl) ?_
  intro p e s m args below meth c D ca ad n0 sz hwf hsz X hini
  unfold s_X8_trace at hs
  refine tt_aload_n X dX8_trace_0 rfl ?_
  obtain ⟨z1, e1, hs⟩ := gg_bind hs
  refine zr_fi X e1 rfl in_X8_trace_X8 (by decide) (by decide +kernel) rfl dX8_trace_1 ?_
  obtain rfl := Option.some.inj hs
  exact tt_iret X rfl dX8_trace_4 ⟨rfl, rfl⟩

def s_X8_twice_J49 (κ20 : Nat → Int32 → Int32 → Int32 → tt_H → Option (Int32 × tt_H)) (b2 : Nat) (x3 : Int32) (x4 : Int32) (x5 : Int32) (x6 : Int32) (h : tt_H) : Option (Int32 × tt_H) :=
  κ20 b2 (x3 ||| x6) x4 (x5 + 1) h
def s_X8_twice_L20 : Nat → Nat → Int32 → Int32 → Int32 → tt_H → Option (Int32 × tt_H)
  | 0, _, _, _, _, _ => none
  | n + 1, b2, x3, x4, x5, h =>
    (gg_obj h b2 2).bind fun _ =>
    (s_X2_size b2 h).bind fun w23 =>
    if w23.1 ≤ x5 then
      some (x4, w23.2)
    else
    (gg_obj w23.2 b2 2).bind fun _ =>
    (s_X2_at b2 x5 w23.2).bind fun w33 =>
    if (x3 &&& ((1 : Int32) <<< (w33.1 &&& 31))) = 0 then
      s_X8_twice_J49 (s_X8_twice_L20 n) b2 x3 x4 x5 ((1 : Int32) <<< (w33.1 &&& 31)) w33.2
    else
    s_X8_twice_J49 (s_X8_twice_L20 n) b2 x3 (x4 + 1) x5 ((1 : Int32) <<< (w33.1 &&& 31)) w33.2
def s_X8_twice (b0 : Nat) (x1 : Int32) (h : tt_H) : Option (Int32 × tt_H) :=
  (gg_obj h b0 8).bind fun _ =>
  (s_X8_cryOf b0 x1 h).bind fun w2 =>
  gg_opt w2.1 (
    some ((-1), w2.2)
  ) fun b7 =>
  s_X8_twice_L20 1000 b7 0 0 0 w2.2
abbrev rm_X8_twice : Room := { frames := 2, cells := 0, slots := 0, locals := 42 }
set_option maxHeartbeats 4000000 in
set_option maxRecDepth 100000 in
theorem c_X8_twice (l : Launch) {b0 : Nat} {x1 : Int32} {h : tt_H} {ρ : Int32 × tt_H} (hs : s_X8_twice b0 x1 h = some ρ) : tt_M tt_cl l yX8_twice wsX8_twice rm_X8_twice 0 0 false [.ref b0, .int x1] h (tt_ret (some (.int ρ.1)) ρ.2) := by
  refine tt_M.of0 (cc := cX8_twice) (maxL := 7) (ret := (some .int)) (by decide +kernel) rfl (Nat.le_of_ble_eq_true rfl) ?_
  intro p e s m args below meth c D ca ad n0 sz hwf hsz X hini
  unfold s_X8_twice at hs
  have t_20 : ∀ (fu : Nat) (b2 : Nat) (x3 : Int32) (x4 : Int32) (x5 : Int32) (h : tt_H), s_X8_twice_L20 fu b2 x3 x4 x5 h = some ρ → tt_T tt_cl (p, l, e, rm_X8_twice, s, m, args, below, meth, c, MQ below (tt_Q tt_cl D ca ad n0 sz false (tt_ret (some (.int ρ.1)) ρ.2)) args s 0 0 (tt_A ad n0 sz), D, ca, tt_A ad n0 sz, 7, some n0) ad 0 0 20 [(2, .ref b2), (3, .int x3), (4, .int x4), (5, .int x5)] [] h := by
    intro fu
    induction fu with
    | zero => intro b2 x3 x4 x5 h hs; exact absurd hs (by rw [s_X8_twice_L20]; exact fun q => by cases q)
    | succ n20 ih =>
      intro b2 x3 x4 x5 h hs
      rw [s_X8_twice_L20] at hs
      have t_20 := ih
      have t_49 : ∀ (b2 : Nat) (x3 : Int32) (x4 : Int32) (x5 : Int32) (x6 : Int32) (h : tt_H), s_X8_twice_J49 (s_X8_twice_L20 n20) b2 x3 x4 x5 x6 h = some ρ → tt_T tt_cl (p, l, e, rm_X8_twice, s, m, args, below, meth, c, MQ below (tt_Q tt_cl D ca ad n0 sz false (tt_ret (some (.int ρ.1)) ρ.2)) args s 0 0 (tt_A ad n0 sz), D, ca, tt_A ad n0 sz, 7, some n0) ad 0 0 49 [(2, .ref b2), (3, .int x3), (4, .int x4), (5, .int x5), (6, .int x6)] [] h := by
        intro b2 x3 x4 x5 x6 h hs
        unfold s_X8_twice_J49 at hs
        refine tt_iload_n X dX8_twice_49 rfl ?_
        refine tt_iload X dX8_twice_50 rfl ?_
        refine tt_ior X dX8_twice_52 ?_
        refine tt_istore_n X dX8_twice_53 (Nat.le_of_ble_eq_true rfl) ?_
        refine tt_iinc (v := x5 + 1) X dX8_twice_54 rfl rfl (Nat.le_of_ble_eq_true rfl) ?_
        refine tt_goto (tgt := 20) X dX8_twice_57 (by decide) ?_
        refine tt_drop [2, 3, 4, 5] ?_
        exact t_20 b2 (x3 ||| x6) x4 (x5 + 1) h hs
      refine tt_iload X dX8_twice_20 rfl ?_
      refine tt_aload_n X dX8_twice_22 rfl ?_
      obtain ⟨o23, f23, hs⟩ := gg_bind hs
      obtain ⟨w23, e23, hs⟩ := gg_bind hs
      refine zr_callV X f23 rfl (c_X2_size l e23) (fun hts => cwV 0 hts gX8_twice_X2_size rfl rfl rfl (by decide +kernel) ⟨by decide, by decide⟩) rfl rfl (Nat.le_of_ble_eq_true rfl) dX8_twice_23 ⟨Nat.zero_le _, Nat.zero_le _⟩ ?_
      refine tt_icmp_ge (tgt := 60) X dX8_twice_26 (by decide) (fun c26 => ?_) (fun c26 => ?_)
      · rw [if_pos c26] at hs
        refine tt_iload X dX8_twice_60 rfl ?_
        obtain rfl := Option.some.inj hs
        exact tt_iret X rfl dX8_twice_62 ⟨rfl, rfl⟩
      · rw [if_neg c26] at hs
        refine tt_iconst (v := 1) X dX8_twice_29 (by decide) ?_
        refine tt_aload_n X dX8_twice_30 rfl ?_
        refine tt_iload X dX8_twice_31 rfl ?_
        obtain ⟨o33, f33, hs⟩ := gg_bind hs
        obtain ⟨w33, e33, hs⟩ := gg_bind hs
        refine zr_callV X f33 rfl (c_X2_at l e33) (fun hts => cwV 1 hts gX8_twice_X2_at rfl rfl rfl (by decide +kernel) ⟨by decide, by decide⟩) rfl rfl (Nat.le_of_ble_eq_true rfl) dX8_twice_33 ⟨Nat.zero_le _, Nat.zero_le _⟩ ?_
        refine tt_ishl X dX8_twice_36 ?_
        refine tt_istore X dX8_twice_37 (Nat.le_of_ble_eq_true rfl) ?_
        refine tt_iload_n X dX8_twice_39 rfl ?_
        refine tt_iload X dX8_twice_40 rfl ?_
        refine tt_iand X dX8_twice_42 ?_
        refine tt_if_eq (tgt := 49) X dX8_twice_43 (by decide) (fun c43 => ?_) (fun c43 => ?_)
        · rw [if_pos c43] at hs
          refine tt_drop [2, 3, 4, 5, 6] ?_
          exact t_49 b2 x3 x4 x5 ((1 : Int32) <<< (w33.1 &&& 31)) w33.2 hs
        · rw [if_neg c43] at hs
          refine tt_iinc (v := x4 + 1) X dX8_twice_46 rfl rfl (Nat.le_of_ble_eq_true rfl) ?_
          refine tt_drop [2, 3, 4, 5, 6] ?_
          exact t_49 b2 x3 (x4 + 1) x5 ((1 : Int32) <<< (w33.1 &&& 31)) w33.2 hs
  refine tt_aload_n X dX8_twice_0 rfl ?_
  refine tt_iload_n X dX8_twice_1 rfl ?_
  obtain ⟨o2, f2, hs⟩ := gg_bind hs
  obtain ⟨w2, e2, hs⟩ := gg_bind hs
  refine zr_callV X f2 rfl (c_X8_cryOf l e2) (fun hts => cwV 1 hts gX8_twice_X8_cryOf rfl rfl rfl (by decide +kernel) ⟨by decide, by decide⟩) rfl rfl (Nat.le_of_ble_eq_true rfl) dX8_twice_2 ⟨Nat.zero_le _, Nat.zero_le _⟩ ?_
  refine zr_astore_n X w2.1 dX8_twice_5 (Nat.le_of_ble_eq_true rfl) ?_
  refine zr_aload_n X w2.1 dX8_twice_6 rfl ?_
  cases hr7 : w2.1 with
  | none =>
    rw [hr7, gg_opt_none] at hs
    refine tt_ifnonnullN X dX8_twice_7 ?_
    refine tt_iconst (v := (-1)) X dX8_twice_10 (by decide) ?_
    obtain rfl := Option.some.inj hs
    exact tt_iret X rfl dX8_twice_11 ⟨rfl, rfl⟩
  | some b7 =>
    rw [hr7, gg_opt_some] at hs
    refine tt_ifnonnull (tgt := 12) X dX8_twice_7 (by decide) ?_
    refine tt_iconst (v := 0) X dX8_twice_12 (by decide) ?_
    refine tt_istore_n X dX8_twice_13 (Nat.le_of_ble_eq_true rfl) ?_
    refine tt_iconst (v := 0) X dX8_twice_14 (by decide) ?_
    refine tt_istore X dX8_twice_15 (Nat.le_of_ble_eq_true rfl) ?_
    refine tt_iconst (v := 0) X dX8_twice_17 (by decide) ?_
    refine tt_istore X dX8_twice_18 (Nat.le_of_ble_eq_true rfl) ?_
    refine tt_drop [2, 3, 4, 5] ?_
    exact t_20 1000 b7 0 0 0 w2.2 hs

theorem in_X8_ways_X8 : ∀ w ∈ u_ws RX8 TX8 13, w ∈ wsX8_ways := by decide +kernel
def s_X8_ways (b0 : Nat) (x1 : Int32) (x2 : Int32) (h : tt_H) : Option (Int64 × tt_H) :=
  (gg_obj h b0 8).bind fun _ =>
  (s_X8_cryOf b0 x1 h).bind fun w2 =>
  (gg_obj w2.2 b0 8).bind fun _ =>
  (s_X8_cryOf b0 x2 w2.2).bind fun w8 =>
  gg_opt w2.1 (
    some ((-9223372036854775808), w8.2)
  ) fun b14 =>
  gg_opt w8.1 (
    some ((-9223372036854775808), w8.2)
  ) fun b19 =>
  (gg_fr w8.2 b0 8 4).bind fun o27 =>
  (gg_obj w8.2 o27 3).bind fun _ =>
  (s_X3_choices o27 b14 b19 w8.2).bind fun w33 =>
  some (w33.1, w33.2)
abbrev rm_X8_ways : Room := { frames := 3, cells := 0, slots := 0, locals := 67 }
set_option maxHeartbeats 4000000 in
set_option maxRecDepth 100000 in
theorem c_X8_ways (l : Launch) {b0 : Nat} {x1 : Int32} {x2 : Int32} {h : tt_H} {ρ : Int64 × tt_H} (hs : s_X8_ways b0 x1 x2 h = some ρ) : tt_M tt_cl l yX8_ways wsX8_ways rm_X8_ways 0 0 false [.ref b0, .int x1, .int x2] h (tt_ret (some (.long ρ.1)) ρ.2) := by
  refine tt_M.of0 (cc := cX8_ways) (maxL := 5) (ret := (some .long)) (by decide +kernel) rfl (Nat.le_of_ble_eq_true rfl) ?_
  intro p e s m args below meth c D ca ad n0 sz hwf hsz X hini
  unfold s_X8_ways at hs
  refine tt_aload_n X dX8_ways_0 rfl ?_
  refine tt_iload_n X dX8_ways_1 rfl ?_
  obtain ⟨o2, f2, hs⟩ := gg_bind hs
  obtain ⟨w2, e2, hs⟩ := gg_bind hs
  refine zr_callV X f2 rfl (c_X8_cryOf l e2) (fun hts => cwV 1 hts gX8_ways_X8_cryOf rfl rfl rfl (by decide +kernel) ⟨by decide, by decide⟩) rfl rfl (Nat.le_of_ble_eq_true rfl) dX8_ways_2 ⟨Nat.zero_le _, Nat.zero_le _⟩ ?_
  refine zr_astore_n X w2.1 dX8_ways_5 (Nat.le_of_ble_eq_true rfl) ?_
  refine tt_aload_n X dX8_ways_6 rfl ?_
  refine tt_iload_n X dX8_ways_7 rfl ?_
  obtain ⟨o8, f8, hs⟩ := gg_bind hs
  obtain ⟨w8, e8, hs⟩ := gg_bind hs
  refine zr_callV X f8 rfl (c_X8_cryOf l e8) (fun hts => cwV 1 hts gX8_ways_X8_cryOf rfl rfl rfl (by decide +kernel) ⟨by decide, by decide⟩) rfl rfl (Nat.le_of_ble_eq_true rfl) dX8_ways_8 ⟨Nat.zero_le _, Nat.zero_le _⟩ ?_
  refine zr_astore X w8.1 dX8_ways_11 (Nat.le_of_ble_eq_true rfl) ?_
  refine tt_setL (L2 := [(0, .ref b0), (1, .int x1), (2, .int x2), (3, va_rf w2.1), (4, va_rf w8.1)]) (by cases w2.1 <;> rfl) ?_
  refine zr_aload_n X w2.1 dX8_ways_13 rfl ?_
  cases hr14 : w2.1 with
  | none =>
    rw [hr14, gg_opt_none] at hs
    refine tt_ifnullN (tgt := 22) X dX8_ways_14 (by decide) ?_
    refine tt_ldc2 (v := (-9223372036854775808)) X (by decide +kernel) dX8_ways_22 ?_
    obtain rfl := Option.some.inj hs
    exact tt_lret X rfl dX8_ways_25 ⟨rfl, rfl⟩
  | some b14 =>
    rw [hr14, gg_opt_some] at hs
    refine tt_ifnull X dX8_ways_14 ?_
    refine zr_aload X w8.1 dX8_ways_17 rfl ?_
    cases hr19 : w8.1 with
    | none =>
      rw [hr19, gg_opt_none] at hs
      refine tt_ifnonnullN X dX8_ways_19 ?_
      refine tt_ldc2 (v := (-9223372036854775808)) X (by decide +kernel) dX8_ways_22 ?_
      obtain rfl := Option.some.inj hs
      exact tt_lret X rfl dX8_ways_25 ⟨rfl, rfl⟩
    | some b19 =>
      rw [hr19, gg_opt_some] at hs
      refine tt_ifnonnull (tgt := 26) X dX8_ways_19 (by decide) ?_
      refine tt_aload_n X dX8_ways_26 rfl ?_
      obtain ⟨o27, e27, hs⟩ := gg_bind hs
      refine zr_fr X e27 rfl in_X8_ways_X8 (by decide) (by decide +kernel) rfl dX8_ways_27 ?_
      refine tt_aload_n X dX8_ways_30 rfl ?_
      refine tt_aload X dX8_ways_31 rfl ?_
      obtain ⟨o33, f33, hs⟩ := gg_bind hs
      obtain ⟨w33, e33, hs⟩ := gg_bind hs
      refine zr_callV X f33 rfl (c_X3_choices l e33) (fun hts => cwV 2 hts gX8_ways_X3_choices rfl rfl rfl (by decide +kernel) ⟨by decide, by decide⟩) rfl rfl (Nat.le_of_ble_eq_true rfl) dX8_ways_33 ⟨Nat.zero_le _, Nat.zero_le _⟩ ?_
      obtain rfl := Option.some.inj hs
      exact tt_lret X rfl dX8_ways_36 ⟨rfl, rfl⟩

theorem in_X8_within_X8 : ∀ w ∈ u_ws RX8 TX8 13, w ∈ wsX8_within := by decide +kernel
def s_X8_within (b0 : Nat) (x1 : Int32) (x2 : Int32) (h : tt_H) : Option (Int32 × tt_H) :=
  (gg_obj h b0 8).bind fun _ =>
  (s_X8_cryOf b0 x1 h).bind fun w2 =>
  (gg_obj w2.2 b0 8).bind fun _ =>
  (s_X8_cryOf b0 x2 w2.2).bind fun w8 =>
  gg_opt w2.1 (
    some ((-1), w8.2)
  ) fun b14 =>
  gg_opt w8.1 (
    some ((-1), w8.2)
  ) fun b19 =>
  (gg_fr w8.2 b0 8 4).bind fun o25 =>
  (gg_obj w8.2 o25 3).bind fun _ =>
  (s_X3_make o25 b14 b19 w8.2).bind fun w31 =>
  if w31.1 = 0 then
    some (0, w31.2)
  else
  some (1, w31.2)
abbrev rm_X8_within : Room := { frames := 3, cells := 0, slots := 0, locals := 66 }
set_option maxHeartbeats 4000000 in
set_option maxRecDepth 100000 in
theorem c_X8_within (l : Launch) {b0 : Nat} {x1 : Int32} {x2 : Int32} {h : tt_H} {ρ : Int32 × tt_H} (hs : s_X8_within b0 x1 x2 h = some ρ) : tt_M tt_cl l yX8_within wsX8_within rm_X8_within 0 0 false [.ref b0, .int x1, .int x2] h (tt_ret (some (.int ρ.1)) ρ.2) := by
  refine tt_M.of0 (cc := cX8_within) (maxL := 5) (ret := (some .int)) (by decide +kernel) rfl (Nat.le_of_ble_eq_true rfl) ?_
  intro p e s m args below meth c D ca ad n0 sz hwf hsz X hini
  unfold s_X8_within at hs
  refine tt_aload_n X dX8_within_0 rfl ?_
  refine tt_iload_n X dX8_within_1 rfl ?_
  obtain ⟨o2, f2, hs⟩ := gg_bind hs
  obtain ⟨w2, e2, hs⟩ := gg_bind hs
  refine zr_callV X f2 rfl (c_X8_cryOf l e2) (fun hts => cwV 1 hts gX8_within_X8_cryOf rfl rfl rfl (by decide +kernel) ⟨by decide, by decide⟩) rfl rfl (Nat.le_of_ble_eq_true rfl) dX8_within_2 ⟨Nat.zero_le _, Nat.zero_le _⟩ ?_
  refine zr_astore_n X w2.1 dX8_within_5 (Nat.le_of_ble_eq_true rfl) ?_
  refine tt_aload_n X dX8_within_6 rfl ?_
  refine tt_iload_n X dX8_within_7 rfl ?_
  obtain ⟨o8, f8, hs⟩ := gg_bind hs
  obtain ⟨w8, e8, hs⟩ := gg_bind hs
  refine zr_callV X f8 rfl (c_X8_cryOf l e8) (fun hts => cwV 1 hts gX8_within_X8_cryOf rfl rfl rfl (by decide +kernel) ⟨by decide, by decide⟩) rfl rfl (Nat.le_of_ble_eq_true rfl) dX8_within_8 ⟨Nat.zero_le _, Nat.zero_le _⟩ ?_
  refine zr_astore X w8.1 dX8_within_11 (Nat.le_of_ble_eq_true rfl) ?_
  refine tt_setL (L2 := [(0, .ref b0), (1, .int x1), (2, .int x2), (3, va_rf w2.1), (4, va_rf w8.1)]) (by cases w2.1 <;> rfl) ?_
  refine zr_aload_n X w2.1 dX8_within_13 rfl ?_
  cases hr14 : w2.1 with
  | none =>
    rw [hr14, gg_opt_none] at hs
    refine tt_ifnullN (tgt := 22) X dX8_within_14 (by decide) ?_
    refine tt_iconst (v := (-1)) X dX8_within_22 (by decide) ?_
    obtain rfl := Option.some.inj hs
    exact tt_iret X rfl dX8_within_23 ⟨rfl, rfl⟩
  | some b14 =>
    rw [hr14, gg_opt_some] at hs
    refine tt_ifnull X dX8_within_14 ?_
    refine zr_aload X w8.1 dX8_within_17 rfl ?_
    cases hr19 : w8.1 with
    | none =>
      rw [hr19, gg_opt_none] at hs
      refine tt_ifnonnullN X dX8_within_19 ?_
      refine tt_iconst (v := (-1)) X dX8_within_22 (by decide) ?_
      obtain rfl := Option.some.inj hs
      exact tt_iret X rfl dX8_within_23 ⟨rfl, rfl⟩
    | some b19 =>
      rw [hr19, gg_opt_some] at hs
      refine tt_ifnonnull (tgt := 24) X dX8_within_19 (by decide) ?_
      refine tt_aload_n X dX8_within_24 rfl ?_
      obtain ⟨o25, e25, hs⟩ := gg_bind hs
      refine zr_fr X e25 rfl in_X8_within_X8 (by decide) (by decide +kernel) rfl dX8_within_25 ?_
      refine tt_aload_n X dX8_within_28 rfl ?_
      refine tt_aload X dX8_within_29 rfl ?_
      obtain ⟨o31, f31, hs⟩ := gg_bind hs
      obtain ⟨w31, e31, hs⟩ := gg_bind hs
      refine zr_callV X f31 rfl (c_X3_make l e31) (fun hts => cwV 2 hts gX8_within_X3_make rfl rfl rfl (by decide +kernel) ⟨by decide, by decide⟩) rfl rfl (Nat.le_of_ble_eq_true rfl) dX8_within_31 ⟨Nat.zero_le _, Nat.zero_le _⟩ ?_
      refine tt_if_eq (tgt := 41) X dX8_within_34 (by decide) (fun c34 => ?_) (fun c34 => ?_)
      · rw [if_pos c34] at hs
        refine tt_iconst (v := 0) X dX8_within_41 (by decide) ?_
        obtain rfl := Option.some.inj hs
        exact tt_iret X rfl dX8_within_42 ⟨rfl, rfl⟩
      · rw [if_neg c34] at hs
        refine tt_iconst (v := 1) X dX8_within_37 (by decide) ?_
        refine tt_goto (tgt := 42) X dX8_within_38 (by decide) ?_
        obtain rfl := Option.some.inj hs
        exact tt_iret X rfl dX8_within_42 ⟨rfl, rfl⟩
