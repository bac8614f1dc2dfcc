theorem in_X8_cryOf_X8 : ∀ w ∈ u_ws RX8 TX8 13, w ∈ wsX8_cryOf := by decide +kernel
def s_X8_cryOf (b0 : Nat) (x1 : Int32) (h : tt_H) : Option (Option Nat × tt_H) :=
  if x1 < 0 then
    some (none, h)
  else
  (gg_fi h b0 8 10).bind fun z6 =>
  if z6 ≤ x1 then
    some (none, h)
  else
  if 6 ≤ x1 then
    some (none, h)
  else
  (gg_fr h b0 8 1).bind fun o19 =>
  (gg_ql 3 h o19 x1).bind fun o23 =>
  some ((some o23), h)
abbrev rm_X8_cryOf : Room := { frames := 0, cells := 0, slots := 0, locals := 0 }
set_option maxHeartbeats 4000000 in
set_option maxRecDepth 100000 in
theorem c_X8_cryOf (l : Launch) {b0 : Nat} {x1 : Int32} {h : tt_H} {ρ : Option Nat × tt_H} (hs : s_X8_cryOf b0 x1 h = some ρ) : tt_M tt_cl l yX8_cryOf wsX8_cryOf rm_X8_cryOf 0 0 false [.ref b0, .int x1] h (tt_ret (some (va_rf ρ.1)) ρ.2) := by
  refine tt_M.of0 (cc := cX8_cryOf) (maxL := 2) (ret := (some (.object "AddedCries$Cry"))) (by decide +kernel) rfl (Nat.le_of_ble_eq_true rfl) ?_
  intro p e s m args below meth c D ca ad n0 sz hwf hsz X hini
  unfold s_X8_cryOf at hs
  refine tt_iload_n X dX8_cryOf_0 rfl ?_
  refine tt_if_lt (tgt := 27) X dX8_cryOf_1 (by decide) (fun c1 => ?_) (fun c1 => ?_)
  · rw [if_pos c1] at hs
    refine tt_null X dX8_cryOf_27 ?_
    obtain rfl := Option.some.inj hs
    exact tt_aret X (tt_rf_or none) rfl dX8_cryOf_28 ⟨rfl, rfl⟩
  · rw [if_neg c1] at hs
    refine tt_iload_n X dX8_cryOf_4 rfl ?_
    refine tt_aload_n X dX8_cryOf_5 rfl ?_
    obtain ⟨z6, e6, hs⟩ := gg_bind hs
    refine zr_fi X e6 rfl in_X8_cryOf_X8 (by decide) (by decide +kernel) rfl dX8_cryOf_6 ?_
    refine tt_icmp_ge (tgt := 27) X dX8_cryOf_9 (by decide) (fun c9 => ?_) (fun c9 => ?_)
    · rw [if_pos c9] at hs
      refine tt_null X dX8_cryOf_27 ?_
      obtain rfl := Option.some.inj hs
      exact tt_aret X (tt_rf_or none) rfl dX8_cryOf_28 ⟨rfl, rfl⟩
    · rw [if_neg c9] at hs
      refine tt_iload_n X dX8_cryOf_12 rfl ?_
      refine tt_bipush (v := 6) X dX8_cryOf_13 (by decide) ?_
      refine tt_icmp_ge (tgt := 27) X dX8_cryOf_15 (by decide) (fun c15 => ?_) (fun c15 => ?_)
      · rw [if_pos c15] at hs
        refine tt_null X dX8_cryOf_27 ?_
        obtain rfl := Option.some.inj hs
        exact tt_aret X (tt_rf_or none) rfl dX8_cryOf_28 ⟨rfl, rfl⟩
      · rw [if_neg c15] at hs
        refine tt_aload_n X dX8_cryOf_18 rfl ?_
        obtain ⟨o19, e19, hs⟩ := gg_bind hs
        refine zr_fr X e19 rfl in_X8_cryOf_X8 (by decide) (by decide +kernel) rfl dX8_cryOf_19 ?_
        refine tt_iload_n X dX8_cryOf_22 rfl ?_
        obtain ⟨o23, e23, hs⟩ := gg_bind hs
        refine zr_ql X e23 rfl dX8_cryOf_23 ?_
        refine tt_goto (tgt := 28) X dX8_cryOf_24 (by decide) ?_
        obtain rfl := Option.some.inj hs
        exact tt_aret X (tt_rf_or (some o23)) rfl dX8_cryOf_28 ⟨rfl, rfl⟩

theorem in_X8_lastCry_X8 : ∀ w ∈ u_ws RX8 TX8 13, w ∈ wsX8_lastCry := by decide +kernel
def s_X8_lastCry (b0 : Nat) (h : tt_H) : Option (Option Nat × tt_H) :=
  (gg_fi h b0 8 10).bind fun z2 =>
  (gg_obj h b0 8).bind fun _ =>
  (s_X8_cryOf b0 (z2 - 1) h).bind fun w7 =>
  some (w7.1, w7.2)
abbrev rm_X8_lastCry : Room := { frames := 1, cells := 0, slots := 0, locals := 21 }
set_option maxHeartbeats 4000000 in
set_option maxRecDepth 100000 in
theorem c_X8_lastCry (l : Launch) {b0 : Nat} {h : tt_H} {ρ : Option Nat × tt_H} (hs : s_X8_lastCry b0 h = some ρ) : tt_M tt_cl l yX8_lastCry wsX8_lastCry rm_X8_lastCry 0 0 false [.ref b0] h (tt_ret (some (va_rf ρ.1)) ρ.2) := by
  refine tt_M.of0 (cc := cX8_lastCry) (maxL := 1) (ret := (some (.object "AddedCries$Cry"))) (by decide +kernel) rfl (Nat.le_of_ble_eq_true rfl) ?_
  intro p e s m args below meth c D ca ad n0 sz hwf hsz X hini
  unfold s_X8_lastCry at hs
  refine tt_aload_n X dX8_lastCry_0 rfl ?_
  refine tt_aload_n X dX8_lastCry_1 rfl ?_
  obtain ⟨z2, e2, hs⟩ := gg_bind hs
  refine zr_fi X e2 rfl in_X8_lastCry_X8 (by decide) (by decide +kernel) rfl dX8_lastCry_2 ?_
  refine tt_iconst (v := 1) X dX8_lastCry_5 (by decide) ?_
  refine tt_isub X dX8_lastCry_6 ?_
  obtain ⟨o7, f7, hs⟩ := gg_bind hs
  obtain ⟨w7, e7, hs⟩ := gg_bind hs
  refine zr_callV X f7 rfl (c_X8_cryOf l e7) (fun hts => cwV 1 hts gX8_lastCry_X8_cryOf rfl rfl rfl (by decide +kernel) ⟨by decide, by decide⟩) rfl rfl (Nat.le_of_ble_eq_true rfl) dX8_lastCry_7 ⟨Nat.zero_le _, Nat.zero_le _⟩ ?_
  obtain rfl := Option.some.inj hs
  exact tt_aret X (tt_rf_or w7.1) rfl dX8_lastCry_10 ⟨rfl, rfl⟩

def s_X8_isWord (x0 : Int32) (h : tt_H) : Option (Int32 × tt_H) :=
  if x0 < 0 then
    some (0, h)
  else
  if 8 ≤ x0 then
    some (0, h)
  else
  some (1, h)
abbrev rm_X8_isWord : Room := { frames := 0, cells := 0, slots := 0, locals := 0 }
set_option maxHeartbeats 4000000 in
set_option maxRecDepth 100000 in
theorem c_X8_isWord (l : Launch) {x0 : Int32} {h : tt_H} {ρ : Int32 × tt_H} (hs : s_X8_isWord x0 h = some ρ) : tt_M tt_cl l yX8_isWord wsX8_isWord rm_X8_isWord 0 0 false [.int x0] h (tt_ret (some (.int ρ.1)) ρ.2) := by
  refine tt_M.of0 (cc := cX8_isWord) (maxL := 1) (ret := (some .boolean)) (by decide +kernel) rfl (Nat.le_of_ble_eq_true rfl) ?_
  intro p e s m args below meth c D ca ad n0 sz hwf hsz X hini
  unfold s_X8_isWord at hs
  refine tt_iload_n X dX8_isWord_0 rfl ?_
  refine tt_if_lt (tgt := 14) X dX8_isWord_1 (by decide) (fun c1 => ?_) (fun c1 => ?_)
  · rw [if_pos c1] at hs
    refine tt_iconst (v := 0) X dX8_isWord_14 (by decide) ?_
    obtain rfl := Option.some.inj hs
    exact tt_zret X rfl rfl dX8_isWord_15 ⟨rfl, rfl⟩
  · rw [if_neg c1] at hs
    refine tt_iload_n X dX8_isWord_4 rfl ?_
    refine tt_bipush (v := 8) X dX8_isWord_5 (by decide) ?_
    refine tt_icmp_ge (tgt := 14) X dX8_isWord_7 (by decide) (fun c7 => ?_) (fun c7 => ?_)
    · rw [if_pos c7] at hs
      refine tt_iconst (v := 0) X dX8_isWord_14 (by decide) ?_
      obtain rfl := Option.some.inj hs
      exact tt_zret X rfl rfl dX8_isWord_15 ⟨rfl, rfl⟩
    · rw [if_neg c7] at hs
      refine tt_iconst (v := 1) X dX8_isWord_10 (by decide) ?_
      refine tt_goto (tgt := 15) X dX8_isWord_11 (by decide) ?_
      obtain rfl := Option.some.inj hs
      exact tt_zret X rfl rfl dX8_isWord_15 ⟨rfl, rfl⟩

def s_X8_add (b0 : Nat) (x1 : Int32) (x2 : Int32) (h : tt_H) : Option (Int32 × tt_H) :=
  (gg_obj h b0 8).bind fun _ =>
  (s_X8_lastCry b0 h).bind fun w1 =>
  (s_X8_isWord x2 w1.2).bind fun w6 =>
  if w6.1 = 0 then
    some ((-1), w6.2)
  else
  if 0 ≤ x1 then
    gg_opt w1.1 (
      some ((-3), w6.2)
    ) fun b19 =>
    (gg_obj w6.2 b19 2).bind fun _ =>
    (s_X2_size b19 w6.2).bind fun w27 =>
    if x1 ≤ w27.1 then
      (gg_obj w27.2 b19 2).bind fun _ =>
      (s_X2_isFull b19 w27.2).bind fun w36 =>
      if w36.1 = 0 then
        (gg_obj w36.2 b19 2).bind fun _ =>
        (s_X2_insert b19 x1 x2 w36.2).bind fun w48 =>
        (gg_obj w48.2 b19 2).bind fun _ =>
        (s_X2_size b19 w48.2).bind fun w52 =>
        some (w52.1, w52.2)
      else
      some ((-4), w36.2)
    else
    some ((-1), w27.2)
  else
  some ((-1), w6.2)
abbrev rm_X8_add : Room := { frames := 2, cells := 0, slots := 0, locals := 43 }
set_option maxHeartbeats 4000000 in
set_option maxRecDepth 100000 in
theorem c_X8_add (l : Launch) {b0 : Nat} {x1 : Int32} {x2 : Int32} {h : tt_H} {ρ : Int32 × tt_H} (hs : s_X8_add b0 x1 x2 h = some ρ) : tt_M tt_cl l yX8_add wsX8_add rm_X8_add 0 0 false [.ref b0, .int x1, .int x2] h (tt_ret (some (.int ρ.1)) ρ.2) := by
  refine tt_M.of0 (cc := cX8_add) (maxL := 4) (ret := (some .int)) (by decide +kernel) rfl (Nat.le_of_ble_eq_true rfl) ?_
  intro p e s m args below meth c D ca ad n0 sz hwf hsz X hini
  unfold s_X8_add at hs
  refine tt_aload_n X dX8_add_0 rfl ?_
  obtain ⟨o1, f1, hs⟩ := gg_bind hs
  obtain ⟨w1, e1, hs⟩ := gg_bind hs
  refine zr_callV X f1 rfl (c_X8_lastCry l e1) (fun hts => cwV 0 hts gX8_add_X8_lastCry rfl rfl rfl (by decide +kernel) ⟨by decide, by decide⟩) rfl rfl (Nat.le_of_ble_eq_true rfl) dX8_add_1 ⟨Nat.zero_le _, Nat.zero_le _⟩ ?_
  refine zr_astore_n X w1.1 dX8_add_4 (Nat.le_of_ble_eq_true rfl) ?_
  refine tt_iload_n X dX8_add_5 rfl ?_
  obtain ⟨w6, e6, hs⟩ := gg_bind hs
  refine zr_callS X (c_X8_isWord l e6) (fun hts => va_cwS 1 hts gX8_add_X8_isWord rfl rfl rfl (by decide +kernel) ⟨by decide, by decide⟩) rfl rfl (Nat.le_of_ble_eq_true rfl) dX8_add_6 ⟨Nat.zero_le _, Nat.zero_le _⟩ ?_
  refine tt_if_eq (tgt := 16) X dX8_add_9 (by decide) (fun c9 => ?_) (fun c9 => ?_)
  · rw [if_pos c9] at hs
    refine tt_iconst (v := (-1)) X dX8_add_16 (by decide) ?_
    obtain rfl := Option.some.inj hs
    exact tt_iret X rfl dX8_add_17 ⟨rfl, rfl⟩
  · rw [if_neg c9] at hs
    refine tt_iload_n X dX8_add_12 rfl ?_
    refine tt_if_ge (tgt := 18) X dX8_add_13 (by decide) (fun c13 => ?_) (fun c13 => ?_)
    · rw [if_pos c13] at hs
      refine zr_aload_n X w1.1 dX8_add_18 rfl ?_
      cases hr19 : w1.1 with
      | none =>
        rw [hr19, gg_opt_none] at hs
        refine tt_ifnonnullN X dX8_add_19 ?_
        refine tt_bipush (v := (-3)) X dX8_add_22 (by decide) ?_
        obtain rfl := Option.some.inj hs
        exact tt_iret X rfl dX8_add_24 ⟨rfl, rfl⟩
      | some b19 =>
        rw [hr19, gg_opt_some] at hs
        refine tt_ifnonnull (tgt := 25) X dX8_add_19 (by decide) ?_
        refine tt_iload_n X dX8_add_25 rfl ?_
        refine tt_aload_n X dX8_add_26 rfl ?_
        obtain ⟨o27, f27, hs⟩ := gg_bind hs
        obtain ⟨w27, e27, hs⟩ := gg_bind hs
        refine zr_callV X f27 rfl (c_X2_size l e27) (fun hts => cwV 0 hts gX8_add_X2_size rfl rfl rfl (by decide +kernel) ⟨by decide, by decide⟩) rfl rfl (Nat.le_of_ble_eq_true rfl) dX8_add_27 ⟨Nat.zero_le _, Nat.zero_le _⟩ ?_
        refine tt_icmp_le (tgt := 35) X dX8_add_30 (by decide) (fun c30 => ?_) (fun c30 => ?_)
        · rw [if_pos c30] at hs
          refine tt_aload_n X dX8_add_35 rfl ?_
          obtain ⟨o36, f36, hs⟩ := gg_bind hs
          obtain ⟨w36, e36, hs⟩ := gg_bind hs
          refine zr_callV X f36 rfl (c_X2_isFull l e36) (fun hts => cwV 0 hts gX8_add_X2_isFull rfl rfl rfl (by decide +kernel) ⟨by decide, by decide⟩) rfl rfl (Nat.le_of_ble_eq_true rfl) dX8_add_36 ⟨Nat.zero_le _, Nat.zero_le _⟩ ?_
          refine tt_if_eq (tgt := 45) X dX8_add_39 (by decide) (fun c39 => ?_) (fun c39 => ?_)
          · rw [if_pos c39] at hs
            refine tt_aload_n X dX8_add_45 rfl ?_
            refine tt_iload_n X dX8_add_46 rfl ?_
            refine tt_iload_n X dX8_add_47 rfl ?_
            obtain ⟨o48, f48, hs⟩ := gg_bind hs
            obtain ⟨w48, e48, hs⟩ := gg_bind hs
            refine zr_callV X f48 rfl (c_X2_insert l e48) (fun hts => cwV 2 hts gX8_add_X2_insert rfl rfl rfl (by decide +kernel) ⟨by decide, by decide⟩) rfl rfl (Nat.le_of_ble_eq_true rfl) dX8_add_48 ⟨Nat.zero_le _, Nat.zero_le _⟩ ?_
            refine tt_aload_n X dX8_add_51 rfl ?_
            obtain ⟨o52, f52, hs⟩ := gg_bind hs
            obtain ⟨w52, e52, hs⟩ := gg_bind hs
            refine zr_callV X f52 rfl (c_X2_size l e52) (fun hts => cwV 0 hts gX8_add_X2_size rfl rfl rfl (by decide +kernel) ⟨by decide, by decide⟩) rfl rfl (Nat.le_of_ble_eq_true rfl) dX8_add_52 ⟨Nat.zero_le _, Nat.zero_le _⟩ ?_
            obtain rfl := Option.some.inj hs
            exact tt_iret X rfl dX8_add_55 ⟨rfl, rfl⟩
          · rw [if_neg c39] at hs
            refine tt_bipush (v := (-4)) X dX8_add_42 (by decide) ?_
            obtain rfl := Option.some.inj hs
            exact tt_iret X rfl dX8_add_44 ⟨rfl, rfl⟩
        · rw [if_neg c30] at hs
          refine tt_iconst (v := (-1)) X dX8_add_33 (by decide) ?_
          obtain rfl := Option.some.inj hs
          exact tt_iret X rfl dX8_add_34 ⟨rfl, rfl⟩
    · rw [if_neg c13] at hs
      refine tt_iconst (v := (-1)) X dX8_add_16 (by decide) ?_
      obtain rfl := Option.some.inj hs
      exact tt_iret X rfl dX8_add_17 ⟨rfl, rfl⟩

def s_X8_isKind (x0 : Int32) (h : tt_H) : Option (Int32 × tt_H) :=
  if x0 < 0 then
    some (0, h)
  else
  if 3 ≤ x0 then
    some (0, h)
  else
  some (1, h)
abbrev rm_X8_isKind : Room := { frames := 0, cells := 0, slots := 0, locals := 0 }
set_option maxHeartbeats 4000000 in
set_option maxRecDepth 100000 in
theorem c_X8_isKind (l : Launch) {x0 : Int32} {h : tt_H} {ρ : Int32 × tt_H} (hs : s_X8_isKind x0 h = some ρ) : tt_M tt_cl l yX8_isKind wsX8_isKind rm_X8_isKind 0 0 false [.int x0] h (tt_ret (some (.int ρ.1)) ρ.2) := by
  refine tt_M.of0 (cc := cX8_isKind) (maxL := 1) (ret := (some .boolean)) (by decide +kernel) rfl (Nat.le_of_ble_eq_true rfl) ?_
  intro p e s m args below meth c D ca ad n0 sz hwf hsz X hini
  unfold s_X8_isKind at hs
  refine tt_iload_n X dX8_isKind_0 rfl ?_
  refine tt_if_lt (tgt := 13) X dX8_isKind_1 (by decide) (fun c1 => ?_) (fun c1 => ?_)
  · rw [if_pos c1] at hs
    refine tt_iconst (v := 0) X dX8_isKind_13 (by decide) ?_
    obtain rfl := Option.some.inj hs
    exact tt_zret X rfl rfl dX8_isKind_14 ⟨rfl, rfl⟩
  · rw [if_neg c1] at hs
    refine tt_iload_n X dX8_isKind_4 rfl ?_
    refine tt_iconst (v := 3) X dX8_isKind_5 (by decide) ?_
    refine tt_icmp_ge (tgt := 13) X dX8_isKind_6 (by decide) (fun c6 => ?_) (fun c6 => ?_)
    · rw [if_pos c6] at hs
      refine tt_iconst (v := 0) X dX8_isKind_13 (by decide) ?_
      obtain rfl := Option.some.inj hs
      exact tt_zret X rfl rfl dX8_isKind_14 ⟨rfl, rfl⟩
    · rw [if_neg c6] at hs
      refine tt_iconst (v := 1) X dX8_isKind_9 (by decide) ?_
      refine tt_goto (tgt := 14) X dX8_isKind_10 (by decide) ?_
      obtain rfl := Option.some.inj hs
      exact tt_zret X rfl rfl dX8_isKind_14 ⟨rfl, rfl⟩

theorem in_X8_fails_X8 : ∀ w ∈ u_ws RX8 TX8 13, w ∈ wsX8_fails := by decide +kernel
def s_X8_fails (b0 : Nat) (x1 : Int32) (h : tt_H) : Option (Int32 × tt_H) :=
  (gg_put h b0 8 12 (.int x1)).bind fun h2 =>
  some (((-10)) - x1, h2)
abbrev rm_X8_fails : Room := { frames := 0, cells := 0, slots := 0, locals := 0 }
set_option maxHeartbeats 4000000 in
set_option maxRecDepth 100000 in
theorem c_X8_fails (l : Launch) {b0 : Nat} {x1 : Int32} {h : tt_H} {ρ : Int32 × tt_H} (hs : s_X8_fails b0 x1 h = some ρ) : tt_M tt_cl l yX8_fails wsX8_fails rm_X8_fails 0 0 false [.ref b0, .int x1] h (tt_ret (some (.int ρ.1)) ρ.2) := by
  refine tt_M.of0 (cc := cX8_fails) (maxL := 2) (ret := (some .int)) (by decide +kernel) rfl (Nat.le_of_ble_eq_true rfl) ?_
  intro p e s m args below meth c D ca ad n0 sz hwf hsz X hini
  unfold s_X8_fails at hs
  refine tt_aload_n X dX8_fails_0 rfl ?_
  refine tt_iload_n X dX8_fails_1 rfl ?_
  obtain ⟨h2, e2, hs⟩ := gg_bind hs
  refine zr_put X e2 rfl in_X8_fails_X8 tyX8 tyX8_ok nmX8 (by decide) (by decide +kernel) rfl rfl (fun _ => rfl) (fun _ => rfl) dX8_fails_2 ?_
  refine tt_bipush (v := (-10)) X dX8_fails_5 (by decide) ?_
  refine tt_iload_n X dX8_fails_7 rfl ?_
  refine tt_isub X dX8_fails_8 ?_
  obtain rfl := Option.some.inj hs
  exact tt_iret X rfl dX8_fails_9 ⟨rfl, rfl⟩

theorem in_X8_as_X8 : ∀ w ∈ u_ws RX8 TX8 13, w ∈ wsX8_as := by decide +kernel
def s_X8_as (b0 : Nat) (x1 : Int32) (x2 : Int32) (h : tt_H) : Option (Int32 × tt_H) :=
  (gg_put h b0 8 12 (.int 0)).bind fun h2 =>
  (s_X8_isWord x1 h2).bind fun w6 =>
  if w6.1 = 0 then
    some ((-1), w6.2)
  else
  (s_X8_isKind x2 w6.2).bind fun w15 =>
  if w15.1 = 0 then
    some ((-2), w15.2)
  else
  (gg_fr w15.2 b0 8 0).bind fun o25 =>
  (gg_il w15.2 o25 x1).bind fun z29 =>
  if x2 ≤ z29 then
    some (1, w15.2)
  else
  (gg_obj w15.2 b0 8).bind fun _ =>
  (s_X8_fails b0 2 w15.2).bind fun w36 =>
  some (w36.1, w36.2)
abbrev rm_X8_as : Room := { frames := 1, cells := 0, slots := 0, locals := 21 }
set_option maxHeartbeats 4000000 in
set_option maxRecDepth 100000 in
theorem c_X8_as (l : Launch) {b0 : Nat} {x1 : Int32} {x2 : Int32} {h : tt_H} {ρ : Int32 × tt_H} (hs : s_X8_as b0 x1 x2 h = some ρ) : tt_M tt_cl l yX8_as wsX8_as rm_X8_as 0 0 false [.ref b0, .int x1, .int x2] h (tt_ret (some (.int ρ.1)) ρ.2) := by
  refine tt_M.of0 (cc := cX8_as) (maxL := 3) (ret := (some .int)) (by decide +kernel) rfl (Nat.le_of_ble_eq_true rfl) ?_
  intro p e s m args below meth c D ca ad n0 sz hwf hsz X hini
  unfold s_X8_as at hs
  refine tt_aload_n X dX8_as_0 rfl ?_
  refine tt_iconst (v := 0) X dX8_as_1 (by decide) ?_
  obtain ⟨h2, e2, hs⟩ := gg_bind hs
  refine zr_put X e2 rfl in_X8_as_X8 tyX8 tyX8_ok nmX8 (by decide) (by decide +kernel) rfl rfl (fun _ => rfl) (fun _ => rfl) dX8_as_2 ?_
  refine tt_iload_n X dX8_as_5 rfl ?_
  obtain ⟨w6, e6, hs⟩ := gg_bind hs
  refine zr_callS X (c_X8_isWord l e6) (fun hts => va_cwS 1 hts gX8_as_X8_isWord rfl rfl rfl (by decide +kernel) ⟨by decide, by decide⟩) rfl rfl (Nat.le_of_ble_eq_true rfl) dX8_as_6 ⟨Nat.zero_le _, Nat.zero_le _⟩ ?_
  refine tt_if_ne (tgt := 14) X dX8_as_9 (by decide) (fun c9 => ?_) (fun c9 => ?_)
  · rw [if_neg c9] at hs
    refine tt_iload_n X dX8_as_14 rfl ?_
    obtain ⟨w15, e15, hs⟩ := gg_bind hs
    refine zr_callS X (c_X8_isKind l e15) (fun hts => va_cwS 1 hts gX8_as_X8_isKind rfl rfl rfl (by decide +kernel) ⟨by decide, by decide⟩) rfl rfl (Nat.le_of_ble_eq_true rfl) dX8_as_15 ⟨Nat.zero_le _, Nat.zero_le _⟩ ?_
    refine tt_if_ne (tgt := 24) X dX8_as_18 (by decide) (fun c18 => ?_) (fun c18 => ?_)
    · rw [if_neg c18] at hs
      refine tt_aload_n X dX8_as_24 rfl ?_
      obtain ⟨o25, e25, hs⟩ := gg_bind hs
      refine zr_fr X e25 rfl in_X8_as_X8 (by decide) (by decide +kernel) rfl dX8_as_25 ?_
      refine tt_iload_n X dX8_as_28 rfl ?_
      obtain ⟨z29, e29, hs⟩ := gg_bind hs
      refine zr_il X e29 dX8_as_29 ?_
      refine tt_iload_n X dX8_as_30 rfl ?_
      refine tt_icmp_ge (tgt := 42) X dX8_as_31 (by decide) (fun c31 => ?_) (fun c31 => ?_)
      · rw [if_pos c31] at hs
        refine tt_iconst (v := 1) X dX8_as_42 (by decide) ?_
        obtain rfl := Option.some.inj hs
        exact tt_iret X rfl dX8_as_43 ⟨rfl, rfl⟩
      · rw [if_neg c31] at hs
        refine tt_aload_n X dX8_as_34 rfl ?_
        refine tt_iconst (v := 2) X dX8_as_35 (by decide) ?_
        obtain ⟨o36, f36, hs⟩ := gg_bind hs
        obtain ⟨w36, e36, hs⟩ := gg_bind hs
        refine zr_callV X f36 rfl (c_X8_fails l e36) (fun hts => cwV 1 hts gX8_as_X8_fails rfl rfl rfl (by decide +kernel) ⟨by decide, by decide⟩) rfl rfl (Nat.le_of_ble_eq_true rfl) dX8_as_36 ⟨Nat.zero_le _, Nat.zero_le _⟩ ?_
        refine tt_goto (tgt := 43) X dX8_as_39 (by decide) ?_
        obtain rfl := Option.some.inj hs
        exact tt_iret X rfl dX8_as_43 ⟨rfl, rfl⟩
    · rw [if_pos c18] at hs
      refine tt_bipush (v := (-2)) X dX8_as_21 (by decide) ?_
      obtain rfl := Option.some.inj hs
      exact tt_iret X rfl dX8_as_23 ⟨rfl, rfl⟩
  · rw [if_pos c9] at hs
    refine tt_iconst (v := (-1)) X dX8_as_12 (by decide) ?_
    obtain rfl := Option.some.inj hs
    exact tt_iret X rfl dX8_as_13 ⟨rfl, rfl⟩

theorem in_X8_beginDay_X8 : ∀ w ∈ u_ws RX8 TX8 13, w ∈ wsX8_beginDay := by decide +kernel
def s_X8_beginDay (b0 : Nat) (h : tt_H) : Option (Unit × tt_H) :=
  (gg_fi h b0 8 10).bind fun z1 =>
  if z1 < 6 then
    (gg_fi h b0 8 10).bind fun z12 =>
    (gg_put h b0 8 10 (.int (z12 + 1))).bind fun h17 =>
    (gg_obj h17 b0 8).bind fun _ =>
    (s_X8_lastCry b0 h17).bind fun w21 =>
    gg_opt w21.1 (
      some ((), w21.2)
    ) fun b26 =>
    (gg_obj w21.2 b26 2).bind fun _ =>
    (s_X2_clear b26 w21.2).bind fun w30 =>
    some ((), w30.2)
  else
  some ((), h)
abbrev rm_X8_beginDay : Room := { frames := 2, cells := 0, slots := 0, locals := 41 }
set_option maxHeartbeats 4000000 in
set_option maxRecDepth 100000 in
theorem c_X8_beginDay (l : Launch) {b0 : Nat} {h : tt_H} {ρ : Unit × tt_H} (hs : s_X8_beginDay b0 h = some ρ) : tt_M tt_cl l yX8_beginDay wsX8_beginDay rm_X8_beginDay 0 0 false [.ref b0] h (tt_ret (none) ρ.2) := by
  refine tt_M.of0 (cc := cX8_beginDay) (maxL := 2) (ret := none) (by decide +kernel) rfl (Nat.le_of_ble_eq_true rfl) ?_
  intro p e s m args below meth c D ca ad n0 sz hwf hsz X hini
  unfold s_X8_beginDay at hs
  refine tt_aload_n X dX8_beginDay_0 rfl ?_
  obtain ⟨z1, e1, hs⟩ := gg_bind hs
  refine zr_fi X e1 rfl in_X8_beginDay_X8 (by decide) (by decide +kernel) rfl dX8_beginDay_1 ?_
  refine tt_bipush (v := 6) X dX8_beginDay_4 (by decide) ?_
  refine tt_icmp_lt (tgt := 10) X dX8_beginDay_6 (by decide) (fun c6 => ?_) (fun c6 => ?_)
  · rw [if_pos c6] at hs
    refine tt_aload_n X dX8_beginDay_10 rfl ?_
    refine tt_dup X dX8_beginDay_11 rfl ?_
    obtain ⟨z12, e12, hs⟩ := gg_bind hs
    refine zr_fi X e12 rfl in_X8_beginDay_X8 (by decide) (by decide +kernel) rfl dX8_beginDay_12 ?_
    refine tt_iconst (v := 1) X dX8_beginDay_15 (by decide) ?_
    refine tt_iadd X dX8_beginDay_16 ?_
    obtain ⟨h17, e17, hs⟩ := gg_bind hs
    refine zr_put X e17 rfl in_X8_beginDay_X8 tyX8 tyX8_ok nmX8 (by decide) (by decide +kernel) rfl rfl (fun _ => rfl) (fun _ => rfl) dX8_beginDay_17 ?_
    refine tt_aload_n X dX8_beginDay_20 rfl ?_
    obtain ⟨o21, f21, hs⟩ := gg_bind hs
    obtain ⟨w21, e21, hs⟩ := gg_bind hs
    refine zr_callV X f21 rfl (c_X8_lastCry l e21) (fun hts => cwV 0 hts gX8_beginDay_X8_lastCry rfl rfl rfl (by decide +kernel) ⟨by decide, by decide⟩) rfl rfl (Nat.le_of_ble_eq_true rfl) dX8_beginDay_21 ⟨Nat.zero_le _, Nat.zero_le _⟩ ?_
    refine zr_astore_n X w21.1 dX8_beginDay_24 (Nat.le_of_ble_eq_true rfl) ?_
    refine zr_aload_n X w21.1 dX8_beginDay_25 rfl ?_
    cases hr26 : w21.1 with
    | none =>
      rw [hr26, gg_opt_none] at hs
      refine tt_ifnullN (tgt := 33) X dX8_beginDay_26 (by decide) ?_
      obtain rfl := Option.some.inj hs
      exact tt_vret X rfl dX8_beginDay_33 ⟨rfl, rfl⟩
    | some b26 =>
      rw [hr26, gg_opt_some] at hs
      refine tt_ifnull X dX8_beginDay_26 ?_
      refine tt_aload_n X dX8_beginDay_29 rfl ?_
      obtain ⟨o30, f30, hs⟩ := gg_bind hs
      obtain ⟨w30, e30, hs⟩ := gg_bind hs
      refine zr_callV X f30 rfl (c_X2_clear l e30) (fun hts => cwV 0 hts gX8_beginDay_X2_clear rfl rfl rfl (by decide +kernel) ⟨by decide, by decide⟩) rfl rfl (Nat.le_of_ble_eq_true rfl) dX8_beginDay_30 ⟨Nat.zero_le _, Nat.zero_le _⟩ ?_
      obtain rfl := Option.some.inj hs
      exact tt_vret X rfl dX8_beginDay_33 ⟨rfl, rfl⟩
  · rw [if_neg c6] at hs
    obtain rfl := Option.some.inj hs
    exact tt_vret X rfl dX8_beginDay_9 ⟨rfl, rfl⟩

def s_X8_isFirstOrSecond_J9 (h : tt_H) : Option (Int32 × tt_H) :=
  some (1, h)
def s_X8_isFirstOrSecond (x0 : Int32) (h : tt_H) : Option (Int32 × tt_H) :=
  if x0 = 0 then
    s_X8_isFirstOrSecond_J9 h
  else
  if x0 = 1 then
    s_X8_isFirstOrSecond_J9 h
  else
  some (0, h)
abbrev rm_X8_isFirstOrSecond : Room := { frames := 0, cells := 0, slots := 0, locals := 0 }
set_option maxHeartbeats 4000000 in
set_option maxRecDepth 100000 in
theorem c_X8_isFirstOrSecond (l : Launch) {x0 : Int32} {h : tt_H} {ρ : Int32 × tt_H} (hs : s_X8_isFirstOrSecond x0 h = some ρ) : tt_M tt_cl l yX8_isFirstOrSecond wsX8_isFirstOrSecond rm_X8_isFirstOrSecond 0 0 false [.int x0] h (tt_ret (some (.int ρ.1)) ρ.2) := by
  refine tt_M.of0 (cc := cX8_isFirstOrSecond) (maxL := 1) (ret := (some .boolean)) (by decide +kernel) rfl (Nat.le_of_ble_eq_true rfl) ?_
  intro p e s m args below meth c D ca ad n0 sz hwf hsz X hini
  unfold s_X8_isFirstOrSecond at hs
  have t_9 : ∀  (h : tt_H), s_X8_isFirstOrSecond_J9 h = some ρ → tt_T tt_cl (p, l, e, rm_X8_isFirstOrSecond, s, m, args, below, meth, c, MQ below (tt_Q tt_cl D ca ad n0 sz false (tt_ret (some (.int ρ.1)) ρ.2)) args s 0 0 (tt_A ad n0 sz), D, ca, tt_A ad n0 sz, 1, some n0) ad 0 0 9 [] [] h := by
    intro h hs
    unfold s_X8_isFirstOrSecond_J9 at hs
    refine tt_iconst (v := 1) X dX8_isFirstOrSecond_9 (by decide) ?_
    refine tt_goto (tgt := 14) X dX8_isFirstOrSecond_10 (by decide) ?_
    obtain rfl := Option.some.inj hs
    exact tt_zret X rfl rfl dX8_isFirstOrSecond_14 ⟨rfl, rfl⟩
  refine tt_iload_n X dX8_isFirstOrSecond_0 rfl ?_
  refine tt_if_eq (tgt := 9) X dX8_isFirstOrSecond_1 (by decide) (fun c1 => ?_) (fun c1 => ?_)
  · rw [if_pos c1] at hs
    refine tt_drop [] ?_
    exact t_9 h hs
  · rw [if_neg c1] at hs
    refine tt_iload_n X dX8_isFirstOrSecond_4 rfl ?_
    refine tt_iconst (v := 1) X dX8_isFirstOrSecond_5 (by decide) ?_
    refine tt_icmp_ne (tgt := 13) X dX8_isFirstOrSecond_6 (by decide) (fun c6 => ?_) (fun c6 => ?_)
    · rw [if_neg c6] at hs
      refine tt_iconst (v := 0) X dX8_isFirstOrSecond_13 (by decide) ?_
      obtain rfl := Option.some.inj hs
      exact tt_zret X rfl rfl dX8_isFirstOrSecond_14 ⟨rfl, rfl⟩
    · rw [if_pos c6] at hs
      refine tt_drop [] ?_
      exact t_9 h hs

theorem in_X8_both_X8 : ∀ w ∈ u_ws RX8 TX8 13, w ∈ wsX8_both := by decide +kernel
def s_X8_both (b0 : Nat) (x1 : Int32) (x2 : Int32) (x3 : Int32) (h : tt_H) : Option (Int32 × tt_H) :=
  (gg_obj h b0 8).bind fun _ =>
  (s_X8_cryOf b0 x1 h).bind fun w2 =>
  (gg_obj w2.2 b0 8).bind fun _ =>
  (s_X8_cryOf b0 x2 w2.2).bind fun w9 =>
  gg_opt w2.1 (
    some ((-1), w9.2)
  ) fun b16 =>
  gg_opt w9.1 (
    some ((-1), w9.2)
  ) fun b21 =>
  (s_X8_isFirstOrSecond x3 w9.2).bind fun w27 =>
  if w27.1 = 0 then
    some ((-2), w27.2)
  else
  (gg_fr w27.2 b0 8 6).bind fun o37 =>
  (gg_obj w27.2 o37 7).bind fun _ =>
  (s_X7_make o37 b16 b21 w27.2).bind fun w44 =>
  if x3 = 0 then
    (gg_obj w44.2 b16 2).bind fun _ =>
    (s_X2_size b16 w44.2).bind fun w53 =>
    (gg_obj w53.2 b21 2).bind fun _ =>
    (s_X2_size b21 w53.2).bind fun w58 =>
    (gg_fr w58.2 b0 8 6).bind fun o63 =>
    (gg_obj w58.2 o63 7).bind fun _ =>
    (s_X7_length o63 w58.2).bind fun w66 =>
    some ((w53.1 + w58.1) - w66.1, w66.2)
  else
  (gg_fr w44.2 b0 8 6).bind fun o74 =>
  (gg_obj w44.2 o74 7).bind fun _ =>
  (s_X7_length o74 w44.2).bind fun w77 =>
  some (w77.1, w77.2)
abbrev rm_X8_both : Room := { frames := 5, cells := 0, slots := 0, locals := 125 }
set_option maxHeartbeats 4000000 in
set_option maxRecDepth 100000 in
theorem c_X8_both (l : Launch) {b0 : Nat} {x1 : Int32} {x2 : Int32} {x3 : Int32} {h : tt_H} {ρ : Int32 × tt_H} (hs : s_X8_both b0 x1 x2 x3 h = some ρ) : tt_M tt_cl l yX8_both wsX8_both rm_X8_both 0 0 false [.ref b0, .int x1, .int x2, .int x3] h (tt_ret (some (.int ρ.1)) ρ.2) := by
  refine tt_M.of0 (cc := cX8_both) (maxL := 6) (ret := (some .int)) (by decide +kernel) rfl (Nat.le_of_ble_eq_true rfl) ?_
  intro p e s m args below meth c D ca ad n0 sz hwf hsz X hini
  unfold s_X8_both at hs
  refine tt_aload_n X dX8_both_0 rfl ?_
  refine tt_iload_n X dX8_both_1 rfl ?_
  obtain ⟨o2, f2, hs⟩ := gg_bind hs
  obtain ⟨w2, e2, hs⟩ := gg_bind hs
  refine zr_callV X f2 rfl (c_X8_cryOf l e2) (fun hts => cwV 1 hts gX8_both_X8_cryOf rfl rfl rfl (by decide +kernel) ⟨by decide, by decide⟩) rfl rfl (Nat.le_of_ble_eq_true rfl) dX8_both_2 ⟨Nat.zero_le _, Nat.zero_le _⟩ ?_
  refine zr_astore X w2.1 dX8_both_5 (Nat.le_of_ble_eq_true rfl) ?_
  refine tt_aload_n X dX8_both_7 rfl ?_
  refine tt_iload_n X dX8_both_8 rfl ?_
  obtain ⟨o9, f9, hs⟩ := gg_bind hs
  obtain ⟨w9, e9, hs⟩ := gg_bind hs
  refine zr_callV X f9 rfl (c_X8_cryOf l e9) (fun hts => cwV 1 hts gX8_both_X8_cryOf rfl rfl rfl (by decide +kernel) ⟨by decide, by decide⟩) rfl rfl (Nat.le_of_ble_eq_true rfl) dX8_both_9 ⟨Nat.zero_le _, Nat.zero_le _⟩ ?_
  refine zr_astore X w9.1 dX8_both_12 (Nat.le_of_ble_eq_true rfl) ?_
  refine tt_setL (L2 := [(0, .ref b0), (1, .int x1), (2, .int x2), (3, .int x3), (4, va_rf w2.1), (5, va_rf w9.1)]) (by cases w2.1 <;> rfl) ?_
  refine zr_aload X w2.1 dX8_both_14 rfl ?_
  cases hr16 : w2.1 with
  | none =>
    rw [hr16, gg_opt_none] at hs
    refine tt_ifnullN (tgt := 24) X dX8_both_16 (by decide) ?_
    refine tt_iconst (v := (-1)) X dX8_both_24 (by decide) ?_
    obtain rfl := Option.some.inj hs
    exact tt_iret X rfl dX8_both_25 ⟨rfl, rfl⟩
  | some b16 =>
    rw [hr16, gg_opt_some] at hs
    refine tt_ifnull X dX8_both_16 ?_
    refine zr_aload X w9.1 dX8_both_19 rfl ?_
    cases hr21 : w9.1 with
    | none =>
      rw [hr21, gg_opt_none] at hs
      refine tt_ifnonnullN X dX8_both_21 ?_
      refine tt_iconst (v := (-1)) X dX8_both_24 (by decide) ?_
      obtain rfl := Option.some.inj hs
      exact tt_iret X rfl dX8_both_25 ⟨rfl, rfl⟩
    | some b21 =>
      rw [hr21, gg_opt_some] at hs
      refine tt_ifnonnull (tgt := 26) X dX8_both_21 (by decide) ?_
      refine tt_iload_n X dX8_both_26 rfl ?_
      obtain ⟨w27, e27, hs⟩ := gg_bind hs
      refine zr_callS X (c_X8_isFirstOrSecond l e27) (fun hts => va_cwS 1 hts gX8_both_X8_isFirstOrSecond rfl rfl rfl (by decide +kernel) ⟨by decide, by decide⟩) rfl rfl (Nat.le_of_ble_eq_true rfl) dX8_both_27 ⟨Nat.zero_le _, Nat.zero_le _⟩ ?_
      refine tt_if_ne (tgt := 36) X dX8_both_30 (by decide) (fun c30 => ?_) (fun c30 => ?_)
      · rw [if_neg c30] at hs
        refine tt_aload_n X dX8_both_36 rfl ?_
        obtain ⟨o37, e37, hs⟩ := gg_bind hs
        refine zr_fr X e37 rfl in_X8_both_X8 (by decide) (by decide +kernel) rfl dX8_both_37 ?_
        refine tt_aload X dX8_both_40 rfl ?_
        refine tt_aload X dX8_both_42 rfl ?_
        obtain ⟨o44, f44, hs⟩ := gg_bind hs
        obtain ⟨w44, e44, hs⟩ := gg_bind hs
        refine zr_callV X f44 rfl (c_X7_make l e44) (fun hts => cwV 2 hts gX8_both_X7_make rfl rfl rfl (by decide +kernel) ⟨by decide, by decide⟩) rfl rfl (Nat.le_of_ble_eq_true rfl) dX8_both_44 ⟨Nat.zero_le _, Nat.zero_le _⟩ ?_
        refine tt_iload_n X dX8_both_47 rfl ?_
        refine tt_if_ne (tgt := 73) X dX8_both_48 (by decide) (fun c48 => ?_) (fun c48 => ?_)
        · rw [if_neg c48] at hs
          refine tt_aload_n X dX8_both_73 rfl ?_
          obtain ⟨o74, e74, hs⟩ := gg_bind hs
          refine zr_fr X e74 rfl in_X8_both_X8 (by decide) (by decide +kernel) rfl dX8_both_74 ?_
          obtain ⟨o77, f77, hs⟩ := gg_bind hs
          obtain ⟨w77, e77, hs⟩ := gg_bind hs
          refine zr_callV X f77 rfl (c_X7_length l e77) (fun hts => cwV 0 hts gX8_both_X7_length rfl rfl rfl (by decide +kernel) ⟨by decide, by decide⟩) rfl rfl (Nat.le_of_ble_eq_true rfl) dX8_both_77 ⟨Nat.zero_le _, Nat.zero_le _⟩ ?_
          obtain rfl := Option.some.inj hs
          exact tt_iret X rfl dX8_both_80 ⟨rfl, rfl⟩
        · rw [if_pos c48] at hs
          refine tt_aload X dX8_both_51 rfl ?_
          obtain ⟨o53, f53, hs⟩ := gg_bind hs
          obtain ⟨w53, e53, hs⟩ := gg_bind hs
          refine zr_callV X f53 rfl (c_X2_size l e53) (fun hts => cwV 0 hts gX8_both_X2_size rfl rfl rfl (by decide +kernel) ⟨by decide, by decide⟩) rfl rfl (Nat.le_of_ble_eq_true rfl) dX8_both_53 ⟨Nat.zero_le _, Nat.zero_le _⟩ ?_
          refine tt_aload X dX8_both_56 rfl ?_
          obtain ⟨o58, f58, hs⟩ := gg_bind hs
          obtain ⟨w58, e58, hs⟩ := gg_bind hs
          refine zr_callV X f58 rfl (c_X2_size l e58) (fun hts => cwV 0 hts gX8_both_X2_size rfl rfl rfl (by decide +kernel) ⟨by decide, by decide⟩) rfl rfl (Nat.le_of_ble_eq_true rfl) dX8_both_58 ⟨Nat.zero_le _, Nat.zero_le _⟩ ?_
          refine tt_iadd X dX8_both_61 ?_
          refine tt_aload_n X dX8_both_62 rfl ?_
          obtain ⟨o63, e63, hs⟩ := gg_bind hs
          refine zr_fr X e63 rfl in_X8_both_X8 (by decide) (by decide +kernel) rfl dX8_both_63 ?_
          obtain ⟨o66, f66, hs⟩ := gg_bind hs
          obtain ⟨w66, e66, hs⟩ := gg_bind hs
          refine zr_callV X f66 rfl (c_X7_length l e66) (fun hts => cwV 0 hts gX8_both_X7_length rfl rfl rfl (by decide +kernel) ⟨by decide, by decide⟩) rfl rfl (Nat.le_of_ble_eq_true rfl) dX8_both_66 ⟨Nat.zero_le _, Nat.zero_le _⟩ ?_
          refine tt_isub X dX8_both_69 ?_
          refine tt_goto (tgt := 80) X dX8_both_70 (by decide) ?_
          obtain rfl := Option.some.inj hs
          exact tt_iret X rfl dX8_both_80 ⟨rfl, rfl⟩
      · rw [if_pos c30] at hs
        refine tt_bipush (v := (-2)) X dX8_both_33 (by decide) ?_
        obtain rfl := Option.some.inj hs
        exact tt_iret X rfl dX8_both_35 ⟨rfl, rfl⟩

theorem in_X8_isDenial_X8 : ∀ w ∈ u_ws RX8 TX8 13, w ∈ wsX8_isDenial := by decide +kernel
def s_X8_isDenial (b0 : Nat) (x1 : Int32) (h : tt_H) : Option (Int32 × tt_H) :=
  (s_X8_isWord x1 h).bind fun w1 =>
  if w1.1 = 0 then
    some (0, w1.2)
  else
  (gg_fr w1.2 b0 8 0).bind fun o8 =>
  (gg_il w1.2 o8 x1).bind fun z12 =>
  if z12 < 1 then
    some (0, w1.2)
  else
  some (1, w1.2)
abbrev rm_X8_isDenial : Room := { frames := 1, cells := 0, slots := 0, locals := 20 }
set_option maxHeartbeats 4000000 in
set_option maxRecDepth 100000 in
theorem c_X8_isDenial (l : Launch) {b0 : Nat} {x1 : Int32} {h : tt_H} {ρ : Int32 × tt_H} (hs : s_X8_isDenial b0 x1 h = some ρ) : tt_M tt_cl l yX8_isDenial wsX8_isDenial rm_X8_isDenial 0 0 false [.ref b0, .int x1] h (tt_ret (some (.int ρ.1)) ρ.2) := by
  refine tt_M.of0 (cc := cX8_isDenial) (maxL := 2) (ret := (some .boolean)) (by decide +kernel) rfl (Nat.le_of_ble_eq_true rfl) ?_
  intro p e s m args below meth c D ca ad n0 sz hwf hsz X hini
  unfold s_X8_isDenial at hs
  refine tt_iload_n X dX8_isDenial_0 rfl ?_
  obtain ⟨w1, e1, hs⟩ := gg_bind hs
  refine zr_callS X (c_X8_isWord l e1) (fun hts => va_cwS 1 hts gX8_isDenial_X8_isWord rfl rfl rfl (by decide +kernel) ⟨by decide, by decide⟩) rfl rfl (Nat.le_of_ble_eq_true rfl) dX8_isDenial_1 ⟨Nat.zero_le _, Nat.zero_le _⟩ ?_
  refine tt_if_eq (tgt := 21) X dX8_isDenial_4 (by decide) (fun c4 => ?_) (fun c4 => ?_)
  · rw [if_pos c4] at hs
    refine tt_iconst (v := 0) X dX8_isDenial_21 (by decide) ?_
    obtain rfl := Option.some.inj hs
    exact tt_zret X rfl rfl dX8_isDenial_22 ⟨rfl, rfl⟩
  · rw [if_neg c4] at hs
    refine tt_aload_n X dX8_isDenial_7 rfl ?_
    obtain ⟨o8, e8, hs⟩ := gg_bind hs
    refine zr_fr X e8 rfl in_X8_isDenial_X8 (by decide) (by decide +kernel) rfl dX8_isDenial_8 ?_
    refine tt_iload_n X dX8_isDenial_11 rfl ?_
    obtain ⟨z12, e12, hs⟩ := gg_bind hs
    refine zr_il X e12 dX8_isDenial_12 ?_
    refine tt_iconst (v := 1) X dX8_isDenial_13 (by decide) ?_
    refine tt_icmp_lt (tgt := 21) X dX8_isDenial_14 (by decide) (fun c14 => ?_) (fun c14 => ?_)
    · rw [if_pos c14] at hs
      refine tt_iconst (v := 0) X dX8_isDenial_21 (by decide) ?_
      obtain rfl := Option.some.inj hs
      exact tt_zret X rfl rfl dX8_isDenial_22 ⟨rfl, rfl⟩
    · rw [if_neg c14] at hs
      refine tt_iconst (v := 1) X dX8_isDenial_17 (by decide) ?_
      refine tt_goto (tgt := 22) X dX8_isDenial_18 (by decide) ?_
      obtain rfl := Option.some.inj hs
      exact tt_zret X rfl rfl dX8_isDenial_22 ⟨rfl, rfl⟩

theorem in_X8_fewestBreaths_X8 : ∀ w ∈ u_ws RX8 TX8 13, w ∈ wsX8_fewestBreaths := by decide +kernel
def s_X8_fewestBreaths_J138 (κ20 : Nat → Nat → Int32 → Int32 → Int32 → tt_H → Option (Int32 × tt_H)) (b0 : Nat) (b1 : Nat) (x2 : Int32) (x3 : Int32) (x4 : Int32) (h : tt_H) : Option (Int32 × tt_H) :=
  κ20 b0 b1 x2 x3 (x4 + 1) h
def s_X8_fewestBreaths_J132 (κ69 : Nat → Nat → Int32 → Int32 → Int32 → Int32 → tt_H → Option (Int32 × tt_H)) (b0 : Nat) (b1 : Nat) (x2 : Int32) (x3 : Int32) (x4 : Int32) (x5 : Int32) (h : tt_H) : Option (Int32 × tt_H) :=
  κ69 b0 b1 x2 x3 x4 (x5 + 1) h
def s_X8_fewestBreaths_J123 (κ132 : Nat → Nat → Int32 → Int32 → Int32 → Int32 → tt_H → Option (Int32 × tt_H)) (b0 : Nat) (b1 : Nat) (x2 : Int32) (x3 : Int32) (x4 : Int32) (x5 : Int32) (x6 : Int32) (h : tt_H) : Option (Int32 × tt_H) :=
  (gg_fr h b0 8 9).bind fun o124 =>
  (gg_is h o124 x4 x6).bind fun h131 =>
  κ132 b0 b1 x2 x3 x4 x5 h131
def s_X8_fewestBreaths_L69 (κ138 : Nat → Nat → Int32 → Int32 → Int32 → tt_H → Option (Int32 × tt_H)) : Nat → Nat → Nat → Int32 → Int32 → Int32 → Int32 → tt_H → Option (Int32 × tt_H)
  | 0, _, _, _, _, _, _, _ => none
  | n + 1, b0, b1, x2, x3, x4, x5, h =>
    if x4 ≤ x5 then
      κ138 b0 b1 x2 x3 x4 h
    else
    (gg_fr h b0 8 9).bind fun o77 =>
    (gg_il h o77 x5).bind fun z82 =>
    (gg_fr h b0 8 9).bind fun o88 =>
    (gg_il h o88 x5).bind fun z93 =>
    if z93 = ((-9)) then
      s_X8_fewestBreaths_J132 (s_X8_fewestBreaths_L69 κ138 n) b0 b1 x2 x3 x4 x5 h
    else
    (gg_fr h b0 8 9).bind fun o100 =>
    (gg_il h o100 x4).bind fun z105 =>
    if z105 = ((-9)) then
      s_X8_fewestBreaths_J123 (s_X8_fewestBreaths_J132 (s_X8_fewestBreaths_L69 κ138 n)) b0 b1 x2 x3 x4 x5 (z82 + 1) h
    else
    (gg_fr h b0 8 9).bind fun o114 =>
    (gg_il h o114 x4).bind fun z119 =>
    if z119 ≤ (z82 + 1) then
      s_X8_fewestBreaths_J132 (s_X8_fewestBreaths_L69 κ138 n) b0 b1 x2 x3 x4 x5 h
    else
    s_X8_fewestBreaths_J123 (s_X8_fewestBreaths_J132 (s_X8_fewestBreaths_L69 κ138 n)) b0 b1 x2 x3 x4 x5 (z82 + 1) h
def s_X8_fewestBreaths_J59 (κ138 : Nat → Nat → Int32 → Int32 → Int32 → tt_H → Option (Int32 × tt_H)) (b0 : Nat) (b1 : Nat) (x2 : Int32) (x3 : Int32) (x4 : Int32) (h : tt_H) : Option (Int32 × tt_H) :=
  s_X8_fewestBreaths_L69 κ138 1000 b0 b1 x2 x3 x4 (if 0 < (x4 - x2) then (x4 - x2) else 0) h
def s_X8_fewestBreaths_L20 : Nat → Nat → Nat → Int32 → Int32 → Int32 → tt_H → Option (Int32 × tt_H)
  | 0, _, _, _, _, _, _ => none
  | n + 1, b0, b1, x2, x3, x4, h =>
    if x3 < x4 then
      (gg_fr h b0 8 9).bind fun o145 =>
      (gg_il h o145 x3).bind fun z149 =>
      some (z149, h)
    else
    (gg_fr h b0 8 9).bind fun o27 =>
    (gg_is h o27 x4 ((-9))).bind fun h34 =>
    if x3 ≤ x4 then
      s_X8_fewestBreaths_J59 (s_X8_fewestBreaths_J138 (s_X8_fewestBreaths_L20 n)) b0 b1 x2 x3 x4 h34
    else
    (gg_obj h34 b1 2).bind fun _ =>
    (s_X2_at b1 (x4 - 1) h34).bind fun w47 =>
    (gg_obj w47.2 b0 8).bind fun _ =>
    (s_X8_isDenial b0 w47.1 w47.2).bind fun w50 =>
    if w50.1 = 0 then
      s_X8_fewestBreaths_J59 (s_X8_fewestBreaths_J138 (s_X8_fewestBreaths_L20 n)) b0 b1 x2 x3 x4 w50.2
    else
    s_X8_fewestBreaths_J138 (s_X8_fewestBreaths_L20 n) b0 b1 x2 x3 x4 w50.2
def s_X8_fewestBreaths (b0 : Nat) (b1 : Nat) (x2 : Int32) (h : tt_H) : Option (Int32 × tt_H) :=
  (gg_fr h b0 8 9).bind fun o1 =>
  (gg_is h o1 0 0).bind fun h6 =>
  (gg_obj h6 b1 2).bind fun _ =>
  (s_X2_size b1 h6).bind fun w8 =>
  s_X8_fewestBreaths_L20 1000 b0 b1 x2 (if 12 < w8.1 then 12 else w8.1) 1 w8.2
abbrev rm_X8_fewestBreaths : Room := { frames := 2, cells := 0, slots := 0, locals := 42 }
set_option maxHeartbeats 4000000 in
set_option maxRecDepth 100000 in
theorem c_X8_fewestBreaths (l : Launch) {b0 : Nat} {b1 : Nat} {x2 : Int32} {h : tt_H} {ρ : Int32 × tt_H} (hs : s_X8_fewestBreaths b0 b1 x2 h = some ρ) : tt_M tt_cl l yX8_fewestBreaths wsX8_fewestBreaths rm_X8_fewestBreaths 0 0 false [.ref b0, .ref b1, .int x2] h (tt_ret (some (.int ρ.1)) ρ.2) := by
  refine tt_M.of0 (cc := cX8_fewestBreaths) (maxL := 7) (ret := (some .int)) (by decide +kernel) rfl (Nat.le_of_ble_eq_true rfl) ?_
  intro p e s m args below meth c D ca ad n0 sz hwf hsz X hini
  unfold s_X8_fewestBreaths at hs
  have t_20 : ∀ (fu : Nat) (b0 : Nat) (b1 : Nat) (x2 : Int32) (x3 : Int32) (x4 : Int32) (h : tt_H), s_X8_fewestBreaths_L20 fu b0 b1 x2 x3 x4 h = some ρ → tt_T tt_cl (p, l, e, rm_X8_fewestBreaths, s, m, args, below, meth, c, MQ below (tt_Q tt_cl D ca ad n0 sz false (tt_ret (some (.int ρ.1)) ρ.2)) args s 0 0 (tt_A ad n0 sz), D, ca, tt_A ad n0 sz, 7, some n0) ad 0 0 20 [(0, .ref b0), (1, .ref b1), (2, .int x2), (3, .int x3), (4, .int x4)] [] h := by
    intro fu
    induction fu with
    | zero => intro b0 b1 x2 x3 x4 h hs; exact absurd hs (by rw [s_X8_fewestBreaths_L20]; exact fun q => by cases q)
    | succ n20 ih =>
      intro b0 b1 x2 x3 x4 h hs
      rw [s_X8_fewestBreaths_L20] at hs
      have t_20 := ih
      have t_138 : ∀ (b0 : Nat) (b1 : Nat) (x2 : Int32) (x3 : Int32) (x4 : Int32) (h : tt_H), s_X8_fewestBreaths_J138 (s_X8_fewestBreaths_L20 n20) b0 b1 x2 x3 x4 h = some ρ → tt_T tt_cl (p, l, e, rm_X8_fewestBreaths, s, m, args, below, meth, c, MQ below (tt_Q tt_cl D ca ad n0 sz false (tt_ret (some (.int ρ.1)) ρ.2)) args s 0 0 (tt_A ad n0 sz), D, ca, tt_A ad n0 sz, 7, some n0) ad 0 0 138 [(0, .ref b0), (1, .ref b1), (2, .int x2), (3, .int x3), (4, .int x4)] [] h := by
        intro b0 b1 x2 x3 x4 h hs
        unfold s_X8_fewestBreaths_J138 at hs
        refine tt_iinc (v := x4 + 1) X dX8_fewestBreaths_138 rfl rfl (Nat.le_of_ble_eq_true rfl) ?_
        refine tt_goto (tgt := 20) X dX8_fewestBreaths_141 (by decide) ?_
        refine tt_drop [0, 1, 2, 3, 4] ?_
        exact t_20 b0 b1 x2 x3 (x4 + 1) h hs
      have t_59 : ∀ (b0 : Nat) (b1 : Nat) (x2 : Int32) (x3 : Int32) (x4 : Int32) (h : tt_H), s_X8_fewestBreaths_J59 (s_X8_fewestBreaths_J138 (s_X8_fewestBreaths_L20 n20)) b0 b1 x2 x3 x4 h = some ρ → tt_T tt_cl (p, l, e, rm_X8_fewestBreaths, s, m, args, below, meth, c, MQ below (tt_Q tt_cl D ca ad n0 sz false (tt_ret (some (.int ρ.1)) ρ.2)) args s 0 0 (tt_A ad n0 sz), D, ca, tt_A ad n0 sz, 7, some n0) ad 0 0 59 [(0, .ref b0), (1, .ref b1), (2, .int x2), (3, .int x3), (4, .int x4)] [] h := by
        intro b0 b1 x2 x3 x4 h hs
        unfold s_X8_fewestBreaths_J59 at hs
        have t_69 : ∀ (fu : Nat) (b0 : Nat) (b1 : Nat) (x2 : Int32) (x3 : Int32) (x4 : Int32) (x5 : Int32) (h : tt_H), s_X8_fewestBreaths_L69 (s_X8_fewestBreaths_J138 (s_X8_fewestBreaths_L20 n20)) fu b0 b1 x2 x3 x4 x5 h = some ρ → tt_T tt_cl (p, l, e, rm_X8_fewestBreaths, s, m, args, below, meth, c, MQ below (tt_Q tt_cl D ca ad n0 sz false (tt_ret (some (.int ρ.1)) ρ.2)) args s 0 0 (tt_A ad n0 sz), D, ca, tt_A ad n0 sz, 7, some n0) ad 0 0 69 [(0, .ref b0), (1, .ref b1), (2, .int x2), (3, .int x3), (4, .int x4), (5, .int x5)] [] h := by
          intro fu
          induction fu with
          | zero => intro b0 b1 x2 x3 x4 x5 h hs; exact absurd hs (by rw [s_X8_fewestBreaths_L69]; exact fun q => by cases q)
          | succ n69 ih =>
            intro b0 b1 x2 x3 x4 x5 h hs
            rw [s_X8_fewestBreaths_L69] at hs
            have t_69 := ih
            have t_132 : ∀ (b0 : Nat) (b1 : Nat) (x2 : Int32) (x3 : Int32) (x4 : Int32) (x5 : Int32) (h : tt_H), s_X8_fewestBreaths_J132 (s_X8_fewestBreaths_L69 (s_X8_fewestBreaths_J138 (s_X8_fewestBreaths_L20 n20)) n69) b0 b1 x2 x3 x4 x5 h = some ρ → tt_T tt_cl (p, l, e, rm_X8_fewestBreaths, s, m, args, below, meth, c, MQ below (tt_Q tt_cl D ca ad n0 sz false (tt_ret (some (.int ρ.1)) ρ.2)) args s 0 0 (tt_A ad n0 sz), D, ca, tt_A ad n0 sz, 7, some n0) ad 0 0 132 [(0, .ref b0), (1, .ref b1), (2, .int x2), (3, .int x3), (4, .int x4), (5, .int x5)] [] h := by
              intro b0 b1 x2 x3 x4 x5 h hs
              unfold s_X8_fewestBreaths_J132 at hs
              refine tt_iinc (v := x5 + 1) X dX8_fewestBreaths_132 rfl rfl (Nat.le_of_ble_eq_true rfl) ?_
              refine tt_goto (tgt := 69) X dX8_fewestBreaths_135 (by decide) ?_
              refine tt_drop [0, 1, 2, 3, 4, 5] ?_
              exact t_69 b0 b1 x2 x3 x4 (x5 + 1) h hs
            have t_123 : ∀ (b0 : Nat) (b1 : Nat) (x2 : Int32) (x3 : Int32) (x4 : Int32) (x5 : Int32) (x6 : Int32) (h : tt_H), s_X8_fewestBreaths_J123 (s_X8_fewestBreaths_J132 (s_X8_fewestBreaths_L69 (s_X8_fewestBreaths_J138 (s_X8_fewestBreaths_L20 n20)) n69)) b0 b1 x2 x3 x4 x5 x6 h = some ρ → tt_T tt_cl (p, l, e, rm_X8_fewestBreaths, s, m, args, below, meth, c, MQ below (tt_Q tt_cl D ca ad n0 sz false (tt_ret (some (.int ρ.1)) ρ.2)) args s 0 0 (tt_A ad n0 sz), D, ca, tt_A ad n0 sz, 7, some n0) ad 0 0 123 [(0, .ref b0), (1, .ref b1), (2, .int x2), (3, .int x3), (4, .int x4), (5, .int x5), (6, .int x6)] [] h := by
              intro b0 b1 x2 x3 x4 x5 x6 h hs
              unfold s_X8_fewestBreaths_J123 at hs
              refine tt_aload_n X dX8_fewestBreaths_123 rfl ?_
              obtain ⟨o124, e124, hs⟩ := gg_bind hs
              refine zr_fr X e124 rfl in_X8_fewestBreaths_X8 (by decide) (by decide +kernel) rfl dX8_fewestBreaths_124 ?_
              refine tt_iload X dX8_fewestBreaths_127 rfl ?_
              refine tt_iload X dX8_fewestBreaths_129 rfl ?_
              obtain ⟨h131, e131, hs⟩ := gg_bind hs
              refine zr_is X e131 dX8_fewestBreaths_131 ?_
              refine tt_drop [0, 1, 2, 3, 4, 5] ?_
              exact t_132 b0 b1 x2 x3 x4 x5 h131 hs
            refine tt_iload X dX8_fewestBreaths_69 rfl ?_
            refine tt_iload X dX8_fewestBreaths_71 rfl ?_
            refine tt_icmp_ge (tgt := 138) X dX8_fewestBreaths_73 (by decide) (fun c73 => ?_) (fun c73 => ?_)
            · rw [if_pos c73] at hs
              refine tt_drop [0, 1, 2, 3, 4] ?_
              exact t_138 b0 b1 x2 x3 x4 h hs
            · rw [if_neg c73] at hs
              refine tt_aload_n X dX8_fewestBreaths_76 rfl ?_
              obtain ⟨o77, e77, hs⟩ := gg_bind hs
              refine zr_fr X e77 rfl in_X8_fewestBreaths_X8 (by decide) (by decide +kernel) rfl dX8_fewestBreaths_77 ?_
              refine tt_iload X dX8_fewestBreaths_80 rfl ?_
              obtain ⟨z82, e82, hs⟩ := gg_bind hs
              refine zr_il X e82 dX8_fewestBreaths_82 ?_
              refine tt_iconst (v := 1) X dX8_fewestBreaths_83 (by decide) ?_
              refine tt_iadd X dX8_fewestBreaths_84 ?_
              refine tt_istore X dX8_fewestBreaths_85 (Nat.le_of_ble_eq_true rfl) ?_
              refine tt_aload_n X dX8_fewestBreaths_87 rfl ?_
              obtain ⟨o88, e88, hs⟩ := gg_bind hs
              refine zr_fr X e88 rfl in_X8_fewestBreaths_X8 (by decide) (by decide +kernel) rfl dX8_fewestBreaths_88 ?_
              refine tt_iload X dX8_fewestBreaths_91 rfl ?_
              obtain ⟨z93, e93, hs⟩ := gg_bind hs
              refine zr_il X e93 dX8_fewestBreaths_93 ?_
              refine tt_bipush (v := (-9)) X dX8_fewestBreaths_94 (by decide) ?_
              refine tt_icmp_eq (tgt := 132) X dX8_fewestBreaths_96 (by decide) (fun c96 => ?_) (fun c96 => ?_)
              · rw [if_pos c96] at hs
                refine tt_drop [0, 1, 2, 3, 4, 5] ?_
                exact t_132 b0 b1 x2 x3 x4 x5 h hs
              · rw [if_neg c96] at hs
                refine tt_aload_n X dX8_fewestBreaths_99 rfl ?_
                obtain ⟨o100, e100, hs⟩ := gg_bind hs
                refine zr_fr X e100 rfl in_X8_fewestBreaths_X8 (by decide) (by decide +kernel) rfl dX8_fewestBreaths_100 ?_
                refine tt_iload X dX8_fewestBreaths_103 rfl ?_
                obtain ⟨z105, e105, hs⟩ := gg_bind hs
                refine zr_il X e105 dX8_fewestBreaths_105 ?_
                refine tt_bipush (v := (-9)) X dX8_fewestBreaths_106 (by decide) ?_
                refine tt_icmp_eq (tgt := 123) X dX8_fewestBreaths_108 (by decide) (fun c108 => ?_) (fun c108 => ?_)
                · rw [if_pos c108] at hs
                  refine tt_drop [0, 1, 2, 3, 4, 5, 6] ?_
                  exact t_123 b0 b1 x2 x3 x4 x5 (z82 + 1) h hs
                · rw [if_neg c108] at hs
                  refine tt_iload X dX8_fewestBreaths_111 rfl ?_
                  refine tt_aload_n X dX8_fewestBreaths_113 rfl ?_
                  obtain ⟨o114, e114, hs⟩ := gg_bind hs
                  refine zr_fr X e114 rfl in_X8_fewestBreaths_X8 (by decide) (by decide +kernel) rfl dX8_fewestBreaths_114 ?_
                  refine tt_iload X dX8_fewestBreaths_117 rfl ?_
                  obtain ⟨z119, e119, hs⟩ := gg_bind hs
                  refine zr_il X e119 dX8_fewestBreaths_119 ?_
                  refine tt_icmp_ge (tgt := 132) X dX8_fewestBreaths_120 (by decide) (fun c120 => ?_) (fun c120 => ?_)
                  · rw [if_pos c120] at hs
                    refine tt_drop [0, 1, 2, 3, 4, 5] ?_
                    exact t_132 b0 b1 x2 x3 x4 x5 h hs
                  · rw [if_neg c120] at hs
                    refine tt_drop [0, 1, 2, 3, 4, 5, 6] ?_
                    exact t_123 b0 b1 x2 x3 x4 x5 (z82 + 1) h hs
        refine tt_iconst (v := 0) X dX8_fewestBreaths_59 (by decide) ?_
        refine tt_iload X dX8_fewestBreaths_60 rfl ?_
        refine tt_iload_n X dX8_fewestBreaths_62 rfl ?_
        refine tt_isub X dX8_fewestBreaths_63 ?_
        refine zr_mmax X (by decide +kernel) (by decide +kernel) (by decide +kernel) (by decide +kernel) (by decide) (Nat.le_of_ble_eq_true rfl) (Nat.zero_le _) (Nat.zero_le _) dX8_fewestBreaths_64 ?_
        refine tt_istore X dX8_fewestBreaths_67 (Nat.le_of_ble_eq_true rfl) ?_
        refine tt_drop [0, 1, 2, 3, 4, 5] ?_
        exact t_69 1000 b0 b1 x2 x3 x4 (if 0 < (x4 - x2) then (x4 - x2) else 0) h hs
      refine tt_iload X dX8_fewestBreaths_20 rfl ?_
      refine tt_iload_n X dX8_fewestBreaths_22 rfl ?_
      refine tt_icmp_gt (tgt := 144) X dX8_fewestBreaths_23 (by decide) (fun c23 => ?_) (fun c23 => ?_)
      · rw [if_pos c23] at hs
        refine tt_aload_n X dX8_fewestBreaths_144 rfl ?_
        obtain ⟨o145, e145, hs⟩ := gg_bind hs
        refine zr_fr X e145 rfl in_X8_fewestBreaths_X8 (by decide) (by decide +kernel) rfl dX8_fewestBreaths_145 ?_
        refine tt_iload_n X dX8_fewestBreaths_148 rfl ?_
        obtain ⟨z149, e149, hs⟩ := gg_bind hs
        refine zr_il X e149 dX8_fewestBreaths_149 ?_
        obtain rfl := Option.some.inj hs
        exact tt_iret X rfl dX8_fewestBreaths_150 ⟨rfl, rfl⟩
      · rw [if_neg c23] at hs
        refine tt_aload_n X dX8_fewestBreaths_26 rfl ?_
        obtain ⟨o27, e27, hs⟩ := gg_bind hs
        refine zr_fr X e27 rfl in_X8_fewestBreaths_X8 (by decide) (by decide +kernel) rfl dX8_fewestBreaths_27 ?_
        refine tt_iload X dX8_fewestBreaths_30 rfl ?_
        refine tt_bipush (v := (-9)) X dX8_fewestBreaths_32 (by decide) ?_
        obtain ⟨h34, e34, hs⟩ := gg_bind hs
        refine zr_is X e34 dX8_fewestBreaths_34 ?_
        refine tt_iload X dX8_fewestBreaths_35 rfl ?_
        refine tt_iload_n X dX8_fewestBreaths_37 rfl ?_
        refine tt_icmp_ge (tgt := 59) X dX8_fewestBreaths_38 (by decide) (fun c38 => ?_) (fun c38 => ?_)
        · rw [if_pos c38] at hs
          refine tt_drop [0, 1, 2, 3, 4] ?_
          exact t_59 b0 b1 x2 x3 x4 h34 hs
        · rw [if_neg c38] at hs
          refine tt_aload_n X dX8_fewestBreaths_41 rfl ?_
          refine tt_aload_n X dX8_fewestBreaths_42 rfl ?_
          refine tt_iload X dX8_fewestBreaths_43 rfl ?_
          refine tt_iconst (v := 1) X dX8_fewestBreaths_45 (by decide) ?_
          refine tt_isub X dX8_fewestBreaths_46 ?_
          obtain ⟨o47, f47, hs⟩ := gg_bind hs
          obtain ⟨w47, e47, hs⟩ := gg_bind hs
          refine zr_callV X f47 rfl (c_X2_at l e47) (fun hts => cwV 1 hts gX8_fewestBreaths_X2_at rfl rfl rfl (by decide +kernel) ⟨by decide, by decide⟩) rfl rfl (Nat.le_of_ble_eq_true rfl) dX8_fewestBreaths_47 ⟨Nat.zero_le _, Nat.zero_le _⟩ ?_
          obtain ⟨o50, f50, hs⟩ := gg_bind hs
          obtain ⟨w50, e50, hs⟩ := gg_bind hs
          refine zr_callV X f50 rfl (c_X8_isDenial l e50) (fun hts => cwV 1 hts gX8_fewestBreaths_X8_isDenial rfl rfl rfl (by decide +kernel) ⟨by decide, by decide⟩) rfl rfl (Nat.le_of_ble_eq_true rfl) dX8_fewestBreaths_50 ⟨Nat.zero_le _, Nat.zero_le _⟩ ?_
          refine tt_if_eq (tgt := 59) X dX8_fewestBreaths_53 (by decide) (fun c53 => ?_) (fun c53 => ?_)
          · rw [if_pos c53] at hs
            refine tt_drop [0, 1, 2, 3, 4] ?_
            exact t_59 b0 b1 x2 x3 x4 w50.2 hs
          · rw [if_neg c53] at hs
            refine tt_goto (tgt := 138) X dX8_fewestBreaths_56 (by decide) ?_
            refine tt_drop [0, 1, 2, 3, 4] ?_
            exact t_138 b0 b1 x2 x3 x4 w50.2 hs
  refine tt_aload_n X dX8_fewestBreaths_0 rfl ?_
  obtain ⟨o1, e1, hs⟩ := gg_bind hs
  refine zr_fr X e1 rfl in_X8_fewestBreaths_X8 (by decide) (by decide +kernel) rfl dX8_fewestBreaths_1 ?_
  refine tt_iconst (v := 0) X dX8_fewestBreaths_4 (by decide) ?_
  refine tt_iconst (v := 0) X dX8_fewestBreaths_5 (by decide) ?_
  obtain ⟨h6, e6, hs⟩ := gg_bind hs
  refine zr_is X e6 dX8_fewestBreaths_6 ?_
  refine tt_aload_n X dX8_fewestBreaths_7 rfl ?_
  obtain ⟨o8, f8, hs⟩ := gg_bind hs
  obtain ⟨w8, e8, hs⟩ := gg_bind hs
  refine zr_callV X f8 rfl (c_X2_size l e8) (fun hts => cwV 0 hts gX8_fewestBreaths_X2_size rfl rfl rfl (by decide +kernel) ⟨by decide, by decide⟩) rfl rfl (Nat.le_of_ble_eq_true rfl) dX8_fewestBreaths_8 ⟨Nat.zero_le _, Nat.zero_le _⟩ ?_
  refine tt_bipush (v := 12) X dX8_fewestBreaths_11 (by decide) ?_
  refine zr_mmin X (by decide +kernel) (by decide +kernel) (by decide +kernel) (by decide +kernel) (by decide) (Nat.le_of_ble_eq_true rfl) (Nat.zero_le _) (Nat.zero_le _) dX8_fewestBreaths_13 ?_
  refine tt_istore_n X dX8_fewestBreaths_16 (Nat.le_of_ble_eq_true rfl) ?_
  refine tt_iconst (v := 1) X dX8_fewestBreaths_17 (by decide) ?_
  refine tt_istore X dX8_fewestBreaths_18 (Nat.le_of_ble_eq_true rfl) ?_
  refine tt_drop [0, 1, 2, 3, 4] ?_
  exact t_20 1000 b0 b1 x2 (if 12 < w8.1 then 12 else w8.1) 1 w8.2 hs

def s_X8_breaths (b0 : Nat) (x1 : Int32) (x2 : Int32) (h : tt_H) : Option (Int32 × tt_H) :=
  (gg_obj h b0 8).bind fun _ =>
  (s_X8_cryOf b0 x1 h).bind fun w2 =>
  gg_opt w2.1 (
    some ((-1), w2.2)
  ) fun b7 =>
  if x2 < 1 then
    some ((-2), w2.2)
  else
  if x2 ≤ 12 then
    (gg_obj w2.2 b0 8).bind fun _ =>
    (s_X8_fewestBreaths b0 b7 x2 w2.2).bind fun w29 =>
    some (w29.1, w29.2)
  else
  some ((-2), w2.2)
abbrev rm_X8_breaths : Room := { frames := 3, cells := 0, slots := 0, locals := 68 }
set_option maxHeartbeats 4000000 in
set_option maxRecDepth 100000 in
theorem c_X8_breaths (l : Launch) {b0 : Nat} {x1 : Int32} {x2 : Int32} {h : tt_H} {ρ : Int32 × tt_H} (hs : s_X8_breaths b0 x1 x2 h = some ρ) : tt_M tt_cl l yX8_breaths wsX8_breaths rm_X8_breaths 0 0 false [.ref b0, .int x1, .int x2] h (tt_ret (some (.int ρ.1)) ρ.2) := by
  refine tt_M.of0 (cc := cX8_breaths) (maxL := 4) (ret := (some .int)) (by decide +kernel) rfl (Nat.le_of_ble_eq_true rfl) ?_
  intro p e s m args below meth c D ca ad n0 sz hwf hsz X hini
  unfold s_X8_breaths at hs
  refine tt_aload_n X dX8_breaths_0 rfl ?_
  refine tt_iload_n X dX8_breaths_1 rfl ?_
  obtain ⟨o2, f2, hs⟩ := gg_bind hs
  obtain ⟨w2, e2, hs⟩ := gg_bind hs
  refine zr_callV X f2 rfl (c_X8_cryOf l e2) (fun hts => cwV 1 hts gX8_breaths_X8_cryOf rfl rfl rfl (by decide +kernel) ⟨by decide, by decide⟩) rfl rfl (Nat.le_of_ble_eq_true rfl) dX8_breaths_2 ⟨Nat.zero_le _, Nat.zero_le _⟩ ?_
  refine zr_astore_n X w2.1 dX8_breaths_5 (Nat.le_of_ble_eq_true rfl) ?_
  refine zr_aload_n X w2.1 dX8_breaths_6 rfl ?_
  cases hr7 : w2.1 with
  | none =>
    rw [hr7, gg_opt_none] at hs
    refine tt_ifnonnullN X dX8_breaths_7 ?_
    refine tt_iconst (v := (-1)) X dX8_breaths_10 (by decide) ?_
    obtain rfl := Option.some.inj hs
    exact tt_iret X rfl dX8_breaths_11 ⟨rfl, rfl⟩
  | some b7 =>
    rw [hr7, gg_opt_some] at hs
    refine tt_ifnonnull (tgt := 12) X dX8_breaths_7 (by decide) ?_
    refine tt_iload_n X dX8_breaths_12 rfl ?_
    refine tt_iconst (v := 1) X dX8_breaths_13 (by decide) ?_
    refine tt_icmp_lt (tgt := 23) X dX8_breaths_14 (by decide) (fun c14 => ?_) (fun c14 => ?_)
    · rw [if_pos c14] at hs
      refine tt_bipush (v := (-2)) X dX8_breaths_23 (by decide) ?_
      obtain rfl := Option.some.inj hs
      exact tt_iret X rfl dX8_breaths_25 ⟨rfl, rfl⟩
    · rw [if_neg c14] at hs
      refine tt_iload_n X dX8_breaths_17 rfl ?_
      refine tt_bipush (v := 12) X dX8_breaths_18 (by decide) ?_
      refine tt_icmp_le (tgt := 26) X dX8_breaths_20 (by decide) (fun c20 => ?_) (fun c20 => ?_)
      · rw [if_pos c20] at hs
        refine tt_aload_n X dX8_breaths_26 rfl ?_
        refine tt_aload_n X dX8_breaths_27 rfl ?_
        refine tt_iload_n X dX8_breaths_28 rfl ?_
        obtain ⟨o29, f29, hs⟩ := gg_bind hs
        obtain ⟨w29, e29, hs⟩ := gg_bind hs
        refine zr_callV X f29 rfl (c_X8_fewestBreaths l e29) (fun hts => cwV 2 hts gX8_breaths_X8_fewestBreaths rfl rfl rfl (by decide +kernel) ⟨by decide, by decide⟩) rfl rfl (Nat.le_of_ble_eq_true rfl) dX8_breaths_29 ⟨Nat.zero_le _, Nat.zero_le _⟩ ?_
        obtain rfl := Option.some.inj hs
        exact tt_iret X rfl dX8_breaths_32 ⟨rfl, rfl⟩
      · rw [if_neg c20] at hs
        refine tt_bipush (v := (-2)) X dX8_breaths_23 (by decide) ?_
        obtain rfl := Option.some.inj hs
        exact tt_iret X rfl dX8_breaths_25 ⟨rfl, rfl⟩

theorem in_X8_sheetOf_X8 : ∀ w ∈ u_ws RX8 TX8 13, w ∈ wsX8_sheetOf := by decide +kernel
def s_X8_sheetOf (b0 : Nat) (x1 : Int32) (h : tt_H) : Option (Option Nat × tt_H) :=
  if x1 < 0 then
    some (none, h)
  else
  if 4 ≤ x1 then
    some (none, h)
  else
  (gg_fr h b0 8 2).bind fun o10 =>
  (gg_ql 4 h o10 x1).bind fun o14 =>
  some ((some o14), h)
abbrev rm_X8_sheetOf : Room := { frames := 0, cells := 0, slots := 0, locals := 0 }
set_option maxHeartbeats 4000000 in
set_option maxRecDepth 100000 in
theorem c_X8_sheetOf (l : Launch) {b0 : Nat} {x1 : Int32} {h : tt_H} {ρ : Option Nat × tt_H} (hs : s_X8_sheetOf b0 x1 h = some ρ) : tt_M tt_cl l yX8_sheetOf wsX8_sheetOf rm_X8_sheetOf 0 0 false [.ref b0, .int x1] h (tt_ret (some (va_rf ρ.1)) ρ.2) := by
  refine tt_M.of0 (cc := cX8_sheetOf) (maxL := 2) (ret := (some (.object "AddedCries$Sheet"))) (by decide +kernel) rfl (Nat.le_of_ble_eq_true rfl) ?_
  intro p e s m args below meth c D ca ad n0 sz hwf hsz X hini
  unfold s_X8_sheetOf at hs
  refine tt_iload_n X dX8_sheetOf_0 rfl ?_
  refine tt_if_lt (tgt := 18) X dX8_sheetOf_1 (by decide) (fun c1 => ?_) (fun c1 => ?_)
  · rw [if_pos c1] at hs
    refine tt_null X dX8_sheetOf_18 ?_
    obtain rfl := Option.some.inj hs
    exact tt_aret X (tt_rf_or none) rfl dX8_sheetOf_19 ⟨rfl, rfl⟩
  · rw [if_neg c1] at hs
    refine tt_iload_n X dX8_sheetOf_4 rfl ?_
    refine tt_iconst (v := 4) X dX8_sheetOf_5 (by decide) ?_
    refine tt_icmp_ge (tgt := 18) X dX8_sheetOf_6 (by decide) (fun c6 => ?_) (fun c6 => ?_)
    · rw [if_pos c6] at hs
      refine tt_null X dX8_sheetOf_18 ?_
      obtain rfl := Option.some.inj hs
      exact tt_aret X (tt_rf_or none) rfl dX8_sheetOf_19 ⟨rfl, rfl⟩
    · rw [if_neg c6] at hs
      refine tt_aload_n X dX8_sheetOf_9 rfl ?_
      obtain ⟨o10, e10, hs⟩ := gg_bind hs
      refine zr_fr X e10 rfl in_X8_sheetOf_X8 (by decide) (by decide +kernel) rfl dX8_sheetOf_10 ?_
      refine tt_iload_n X dX8_sheetOf_13 rfl ?_
      obtain ⟨o14, e14, hs⟩ := gg_bind hs
      refine zr_ql X e14 rfl dX8_sheetOf_14 ?_
      refine tt_goto (tgt := 19) X dX8_sheetOf_15 (by decide) ?_
      obtain rfl := Option.some.inj hs
      exact tt_aret X (tt_rf_or (some o14)) rfl dX8_sheetOf_19 ⟨rfl, rfl⟩

def s_X8_isSort (x0 : Int32) (h : tt_H) : Option (Int32 × tt_H) :=
  if x0 < 0 then
    some (0, h)
  else
  if 3 ≤ x0 then
    some (0, h)
  else
  some (1, h)
abbrev rm_X8_isSort : Room := { frames := 0, cells := 0, slots := 0, locals := 0 }
set_option maxHeartbeats 4000000 in
set_option maxRecDepth 100000 in
theorem c_X8_isSort (l : Launch) {x0 : Int32} {h : tt_H} {ρ : Int32 × tt_H} (hs : s_X8_isSort x0 h = some ρ) : tt_M tt_cl l yX8_isSort wsX8_isSort rm_X8_isSort 0 0 false [.int x0] h (tt_ret (some (.int ρ.1)) ρ.2) := by
  refine tt_M.of0 (cc := cX8_isSort) (maxL := 1) (ret := (some .boolean)) (by decide +kernel) rfl (Nat.le_of_ble_eq_true rfl) ?_
  intro p e s m args below meth c D ca ad n0 sz hwf hsz X hini
  unfold s_X8_isSort at hs
  refine tt_iload_n X dX8_isSort_0 rfl ?_
  refine tt_if_lt (tgt := 13) X dX8_isSort_1 (by decide) (fun c1 => ?_) (fun c1 => ?_)
  · rw [if_pos c1] at hs
    refine tt_iconst (v := 0) X dX8_isSort_13 (by decide) ?_
    obtain rfl := Option.some.inj hs
    exact tt_zret X rfl rfl dX8_isSort_14 ⟨rfl, rfl⟩
  · rw [if_neg c1] at hs
    refine tt_iload_n X dX8_isSort_4 rfl ?_
    refine tt_iconst (v := 3) X dX8_isSort_5 (by decide) ?_
    refine tt_icmp_ge (tgt := 13) X dX8_isSort_6 (by decide) (fun c6 => ?_) (fun c6 => ?_)
    · rw [if_pos c6] at hs
      refine tt_iconst (v := 0) X dX8_isSort_13 (by decide) ?_
      obtain rfl := Option.some.inj hs
      exact tt_zret X rfl rfl dX8_isSort_14 ⟨rfl, rfl⟩
    · rw [if_neg c6] at hs
      refine tt_iconst (v := 1) X dX8_isSort_9 (by decide) ?_
      refine tt_goto (tgt := 14) X dX8_isSort_10 (by decide) ?_
      obtain rfl := Option.some.inj hs
      exact tt_zret X rfl rfl dX8_isSort_14 ⟨rfl, rfl⟩

def s_X8_readingFault (b0 : Nat) (x1 : Int32) (h : tt_H) : Option (Int32 × tt_H) :=
  (gg_obj h b0 6).bind fun _ =>
  (s_X6_isNothing b0 h).bind fun w1 =>
  if w1.1 = 0 then
    (gg_obj w1.2 b0 6).bind fun _ =>
    (s_X6_sort b0 w1.2).bind fun w10 =>
    if w10.1 = x1 then
      some (0, w10.2)
    else
    some (2, w10.2)
  else
  some (1, w1.2)
abbrev rm_X8_readingFault : Room := { frames := 1, cells := 0, slots := 0, locals := 20 }
set_option maxHeartbeats 4000000 in
set_option maxRecDepth 100000 in
theorem c_X8_readingFault (l : Launch) {b0 : Nat} {x1 : Int32} {h : tt_H} {ρ : Int32 × tt_H} (hs : s_X8_readingFault b0 x1 h = some ρ) : tt_M tt_cl l yX8_readingFault wsX8_readingFault rm_X8_readingFault 0 0 false [.ref b0, .int x1] h (tt_ret (some (.int ρ.1)) ρ.2) := by
  refine tt_M.of0 (cc := cX8_readingFault) (maxL := 2) (ret := (some .int)) (by decide +kernel) rfl (Nat.le_of_ble_eq_true rfl) ?_
  intro p e s m args below meth c D ca ad n0 sz hwf hsz X hini
  unfold s_X8_readingFault at hs
  refine tt_aload_n X dX8_readingFault_0 rfl ?_
  obtain ⟨o1, f1, hs⟩ := gg_bind hs
  obtain ⟨w1, e1, hs⟩ := gg_bind hs
  refine zr_callV X f1 rfl (c_X6_isNothing l e1) (fun hts => cwV 0 hts gX8_readingFault_X6_isNothing rfl rfl rfl (by decide +kernel) ⟨by decide, by decide⟩) rfl rfl (Nat.le_of_ble_eq_true rfl) dX8_readingFault_1 ⟨Nat.zero_le _, Nat.zero_le _⟩ ?_
  refine tt_if_eq (tgt := 9) X dX8_readingFault_4 (by decide) (fun c4 => ?_) (fun c4 => ?_)
  · rw [if_pos c4] at hs
    refine tt_aload_n X dX8_readingFault_9 rfl ?_
    obtain ⟨o10, f10, hs⟩ := gg_bind hs
    obtain ⟨w10, e10, hs⟩ := gg_bind hs
    refine zr_callV X f10 rfl (c_X6_sort l e10) (fun hts => cwV 0 hts gX8_readingFault_X6_sort rfl rfl rfl (by decide +kernel) ⟨by decide, by decide⟩) rfl rfl (Nat.le_of_ble_eq_true rfl) dX8_readingFault_10 ⟨Nat.zero_le _, Nat.zero_le _⟩ ?_
    refine tt_iload_n X dX8_readingFault_13 rfl ?_
    refine tt_icmp_ne (tgt := 21) X dX8_readingFault_14 (by decide) (fun c14 => ?_) (fun c14 => ?_)
    · rw [if_neg c14] at hs
      refine tt_iconst (v := 2) X dX8_readingFault_21 (by decide) ?_
      obtain rfl := Option.some.inj hs
      exact tt_iret X rfl dX8_readingFault_22 ⟨rfl, rfl⟩
    · rw [if_pos c14] at hs
      refine tt_iconst (v := 0) X dX8_readingFault_17 (by decide) ?_
      refine tt_goto (tgt := 22) X dX8_readingFault_18 (by decide) ?_
      obtain rfl := Option.some.inj hs
      exact tt_iret X rfl dX8_readingFault_22 ⟨rfl, rfl⟩
  · rw [if_neg c4] at hs
    refine tt_iconst (v := 1) X dX8_readingFault_7 (by decide) ?_
    obtain rfl := Option.some.inj hs
    exact tt_iret X rfl dX8_readingFault_8 ⟨rfl, rfl⟩

theorem in_X8_cell_X8 : ∀ w ∈ u_ws RX8 TX8 13, w ∈ wsX8_cell := by decide +kernel
def s_X8_cell (b0 : Nat) (x1 : Int32) (x2 : Int32) (x3 : Int32) (h : tt_H) : Option (Int64 × tt_H) :=
  (gg_put h b0 8 12 (.int 0)).bind fun h2 =>
  (gg_obj h2 b0 8).bind fun _ =>
  (s_X8_sheetOf b0 x1 h2).bind fun w7 =>
  gg_opt w7.1 (
    some ((-9223372036854775808), w7.2)
  ) fun b14 =>
  (s_X8_isSort x3 w7.2).bind fun w18 =>
  if w18.1 = 0 then
    some ((-9223372036854775808), w18.2)
  else
  (s_X8_readingFault b14 x3 w18.2).bind fun w32 =>
  (gg_put w32.2 b0 8 12 (.int w32.1)).bind fun h35 =>
  (gg_fi h35 b0 8 12).bind fun z39 =>
  if z39 = 0 then
    (gg_obj h35 b14 6).bind fun _ =>
    (s_X6_hasCells b14 x2 1 h35).bind fun w53 =>
    if w53.1 = 0 then
      (gg_put w53.2 b0 8 12 (.int 3)).bind fun h61 =>
      some ((-9223372036854775808), h61)
    else
    (gg_obj w53.2 b14 6).bind fun _ =>
    (s_X6_at b14 x2 w53.2).bind fun w71 =>
    some (w71.1.toInt64, w71.2)
  else
  some ((-9223372036854775808), h35)
abbrev rm_X8_cell : Room := { frames := 2, cells := 0, slots := 0, locals := 43 }
set_option maxHeartbeats 4000000 in
set_option maxRecDepth 100000 in
theorem c_X8_cell (l : Launch) {b0 : Nat} {x1 : Int32} {x2 : Int32} {x3 : Int32} {h : tt_H} {ρ : Int64 × tt_H} (hs : s_X8_cell b0 x1 x2 x3 h = some ρ) : tt_M tt_cl l yX8_cell wsX8_cell rm_X8_cell 0 0 false [.ref b0, .int x1, .int x2, .int x3] h (tt_ret (some (.long ρ.1)) ρ.2) := by
  refine tt_M.of0 (cc := cX8_cell) (maxL := 5) (ret := (some .long)) (by decide +kernel) rfl (Nat.le_of_ble_eq_true rfl) ?_
  intro p e s m args below meth c D ca ad n0 sz hwf hsz X hini
  unfold s_X8_cell at hs
  refine tt_aload_n X dX8_cell_0 rfl ?_
  refine tt_iconst (v := 0) X dX8_cell_1 (by decide) ?_
  obtain ⟨h2, e2, hs⟩ := gg_bind hs
  refine zr_put X e2 rfl in_X8_cell_X8 tyX8 tyX8_ok nmX8 (by decide) (by decide +kernel) rfl rfl (fun _ => rfl) (fun _ => rfl) dX8_cell_2 ?_
  refine tt_aload_n X dX8_cell_5 rfl ?_
  refine tt_iload_n X dX8_cell_6 rfl ?_
  obtain ⟨o7, f7, hs⟩ := gg_bind hs
  obtain ⟨w7, e7, hs⟩ := gg_bind hs
  refine zr_callV X f7 rfl (c_X8_sheetOf l e7) (fun hts => cwV 1 hts gX8_cell_X8_sheetOf rfl rfl rfl (by decide +kernel) ⟨by decide, by decide⟩) rfl rfl (Nat.le_of_ble_eq_true rfl) dX8_cell_7 ⟨Nat.zero_le _, Nat.zero_le _⟩ ?_
  refine zr_astore X w7.1 dX8_cell_10 (Nat.le_of_ble_eq_true rfl) ?_
  refine zr_aload X w7.1 dX8_cell_12 rfl ?_
  cases hr14 : w7.1 with
  | none =>
    rw [hr14, gg_opt_none] at hs
    refine tt_ifnullN (tgt := 24) X dX8_cell_14 (by decide) ?_
    refine tt_ldc2 (v := (-9223372036854775808)) X (by decide +kernel) dX8_cell_24 ?_
    obtain rfl := Option.some.inj hs
    exact tt_lret X rfl dX8_cell_27 ⟨rfl, rfl⟩
  | some b14 =>
    rw [hr14, gg_opt_some] at hs
    refine tt_ifnull X dX8_cell_14 ?_
    refine tt_iload_n X dX8_cell_17 rfl ?_
    obtain ⟨w18, e18, hs⟩ := gg_bind hs
    refine zr_callS X (c_X8_isSort l e18) (fun hts => va_cwS 1 hts gX8_cell_X8_isSort rfl rfl rfl (by decide +kernel) ⟨by decide, by decide⟩) rfl rfl (Nat.le_of_ble_eq_true rfl) dX8_cell_18 ⟨Nat.zero_le _, Nat.zero_le _⟩ ?_
    refine tt_if_ne (tgt := 28) X dX8_cell_21 (by decide) (fun c21 => ?_) (fun c21 => ?_)
    · rw [if_neg c21] at hs
      refine tt_aload_n X dX8_cell_28 rfl ?_
      refine tt_aload X dX8_cell_29 rfl ?_
      refine tt_iload_n X dX8_cell_31 rfl ?_
      obtain ⟨w32, e32, hs⟩ := gg_bind hs
      refine zr_callS X (c_X8_readingFault l e32) (fun hts => va_cwS 2 hts gX8_cell_X8_readingFault rfl rfl rfl (by decide +kernel) ⟨by decide, by decide⟩) rfl rfl (Nat.le_of_ble_eq_true rfl) dX8_cell_32 ⟨Nat.zero_le _, Nat.zero_le _⟩ ?_
      obtain ⟨h35, e35, hs⟩ := gg_bind hs
      refine zr_put X e35 rfl in_X8_cell_X8 tyX8 tyX8_ok nmX8 (by decide) (by decide +kernel) rfl rfl (fun _ => rfl) (fun _ => rfl) dX8_cell_35 ?_
      refine tt_aload_n X dX8_cell_38 rfl ?_
      obtain ⟨z39, e39, hs⟩ := gg_bind hs
      refine zr_fi X e39 rfl in_X8_cell_X8 (by decide) (by decide +kernel) rfl dX8_cell_39 ?_
      refine tt_if_eq (tgt := 49) X dX8_cell_42 (by decide) (fun c42 => ?_) (fun c42 => ?_)
      · rw [if_pos c42] at hs
        refine tt_aload X dX8_cell_49 rfl ?_
        refine tt_iload_n X dX8_cell_51 rfl ?_
        refine tt_iconst (v := 1) X dX8_cell_52 (by decide) ?_
        obtain ⟨o53, f53, hs⟩ := gg_bind hs
        obtain ⟨w53, e53, hs⟩ := gg_bind hs
        refine zr_callV X f53 rfl (c_X6_hasCells l e53) (fun hts => cwV 2 hts gX8_cell_X6_hasCells rfl rfl rfl (by decide +kernel) ⟨by decide, by decide⟩) rfl rfl (Nat.le_of_ble_eq_true rfl) dX8_cell_53 ⟨Nat.zero_le _, Nat.zero_le _⟩ ?_
        refine tt_if_ne (tgt := 68) X dX8_cell_56 (by decide) (fun c56 => ?_) (fun c56 => ?_)
        · rw [if_neg c56] at hs
          refine tt_aload X dX8_cell_68 rfl ?_
          refine tt_iload_n X dX8_cell_70 rfl ?_
          obtain ⟨o71, f71, hs⟩ := gg_bind hs
          obtain ⟨w71, e71, hs⟩ := gg_bind hs
          refine zr_callV X f71 rfl (c_X6_at l e71) (fun hts => cwV 1 hts gX8_cell_X6_at rfl rfl rfl (by decide +kernel) ⟨by decide, by decide⟩) rfl rfl (Nat.le_of_ble_eq_true rfl) dX8_cell_71 ⟨Nat.zero_le _, Nat.zero_le _⟩ ?_
          refine tt_i2l X dX8_cell_74 ?_
          obtain rfl := Option.some.inj hs
          exact tt_lret X rfl dX8_cell_75 ⟨rfl, rfl⟩
        · rw [if_pos c56] at hs
          refine tt_aload_n X dX8_cell_59 rfl ?_
          refine tt_iconst (v := 3) X dX8_cell_60 (by decide) ?_
          obtain ⟨h61, e61, hs⟩ := gg_bind hs
          refine zr_put X e61 rfl in_X8_cell_X8 tyX8 tyX8_ok nmX8 (by decide) (by decide +kernel) rfl rfl (fun _ => rfl) (fun _ => rfl) dX8_cell_61 ?_
          refine tt_ldc2 (v := (-9223372036854775808)) X (by decide +kernel) dX8_cell_64 ?_
          obtain rfl := Option.some.inj hs
          exact tt_lret X rfl dX8_cell_67 ⟨rfl, rfl⟩
      · rw [if_neg c42] at hs
        refine tt_ldc2 (v := (-9223372036854775808)) X (by decide +kernel) dX8_cell_45 ?_
        obtain rfl := Option.some.inj hs
        exact tt_lret X rfl dX8_cell_48 ⟨rfl, rfl⟩
    · rw [if_pos c21] at hs
      refine tt_ldc2 (v := (-9223372036854775808)) X (by decide +kernel) dX8_cell_24 ?_
      obtain rfl := Option.some.inj hs
      exact tt_lret X rfl dX8_cell_27 ⟨rfl, rfl⟩

theorem in_X8_copy_X8 : ∀ w ∈ u_ws RX8 TX8 13, w ∈ wsX8_copy := by decide +kernel
def s_X8_copy_J95 (b0 : Nat) (h : tt_H) : Option (Int32 × tt_H) :=
  (gg_obj h b0 8).bind fun _ =>
  (s_X8_fails b0 3 h).bind fun w97 =>
  some (w97.1, w97.2)
def s_X8_copy_J47 (b0 : Nat) (h : tt_H) : Option (Int32 × tt_H) :=
  (gg_obj h b0 8).bind fun _ =>
  (s_X8_fails b0 1 h).bind fun w49 =>
  some (w49.1, w49.2)
def s_X8_copy (b0 : Nat) (x1 : Int32) (x2 : Int32) (x3 : Int32) (x4 : Int32) (x5 : Int32) (h : tt_H) : Option (Int32 × tt_H) :=
  (gg_put h b0 8 12 (.int 0)).bind fun h2 =>
  (gg_obj h2 b0 8).bind fun _ =>
  (s_X8_sheetOf b0 x1 h2).bind fun w7 =>
  (gg_obj w7.2 b0 8).bind fun _ =>
  (s_X8_sheetOf b0 x3 w7.2).bind fun w14 =>
  gg_opt w7.1 (
    some ((-1), w14.2)
  ) fun b21 =>
  gg_opt w14.1 (
    some ((-1), w14.2)
  ) fun b26 =>
  (gg_obj w14.2 b21 6).bind fun _ =>
  (s_X6_isNothing b21 w14.2).bind fun w33 =>
  if w33.1 = 0 then
    (gg_obj w33.2 b26 6).bind fun _ =>
    (s_X6_isNothing b26 w33.2).bind fun w41 =>
    if w41.1 = 0 then
      (gg_obj w41.2 b21 6).bind fun _ =>
      (s_X6_sort b21 w41.2).bind fun w55 =>
      (gg_obj w55.2 b26 6).bind fun _ =>
      (s_X6_sort b26 w55.2).bind fun w60 =>
      if w55.1 = w60.1 then
        (gg_obj w60.2 b21 6).bind fun _ =>
        (s_X6_hasCells b21 x2 x5 w60.2).bind fun w77 =>
        if w77.1 = 0 then
          s_X8_copy_J95 b0 w77.2
        else
        (gg_obj w77.2 b26 6).bind fun _ =>
        (s_X6_hasCells b26 x4 x5 w77.2).bind fun w89 =>
        if w89.1 = 0 then
          s_X8_copy_J95 b0 w89.2
        else
        (gg_obj w89.2 b21 6).bind fun _ =>
        (s_X6_giveTo b21 x2 b26 x4 x5 w89.2).bind fun w110 =>
        some (x5, w110.2)
      else
      (gg_obj w60.2 b0 8).bind fun _ =>
      (s_X8_fails b0 2 w60.2).bind fun w68 =>
      some (w68.1, w68.2)
    else
    s_X8_copy_J47 b0 w41.2
  else
  s_X8_copy_J47 b0 w33.2
abbrev rm_X8_copy : Room := { frames := 2, cells := 0, slots := 0, locals := 64 }
set_option maxHeartbeats 4000000 in
set_option maxRecDepth 100000 in
theorem c_X8_copy (l : Launch) {b0 : Nat} {x1 : Int32} {x2 : Int32} {x3 : Int32} {x4 : Int32} {x5 : Int32} {h : tt_H} {ρ : Int32 × tt_H} (hs : s_X8_copy b0 x1 x2 x3 x4 x5 h = some ρ) : tt_M tt_cl l yX8_copy wsX8_copy rm_X8_copy 0 0 false [.ref b0, .int x1, .int x2, .int x3, .int x4, .int x5] h (tt_ret (some (.int ρ.1)) ρ.2) := by
  refine tt_M.of0 (cc := cX8_copy) (maxL := 8) (ret := (some .int)) (by decide +kernel) rfl (Nat.le_of_ble_eq_true rfl) ?_
  intro p e s m args below meth c D ca ad n0 sz hwf hsz X hini
  unfold s_X8_copy at hs
  have t_95 : ∀ (b0 : Nat) (h : tt_H), s_X8_copy_J95 b0 h = some ρ → tt_T tt_cl (p, l, e, rm_X8_copy, s, m, args, below, meth, c, MQ below (tt_Q tt_cl D ca ad n0 sz false (tt_ret (some (.int ρ.1)) ρ.2)) args s 0 0 (tt_A ad n0 sz), D, ca, tt_A ad n0 sz, 8, some n0) ad 0 0 95 [(0, .ref b0)] [] h := by
    intro b0 h hs
    unfold s_X8_copy_J95 at hs
    refine tt_aload_n X dX8_copy_95 rfl ?_
    refine tt_iconst (v := 3) X dX8_copy_96 (by decide) ?_
    obtain ⟨o97, f97, hs⟩ := gg_bind hs
    obtain ⟨w97, e97, hs⟩ := gg_bind hs
    refine zr_callV X f97 rfl (c_X8_fails l e97) (fun hts => cwV 1 hts gX8_copy_X8_fails rfl rfl rfl (by decide +kernel) ⟨by decide, by decide⟩) rfl rfl (Nat.le_of_ble_eq_true rfl) dX8_copy_97 ⟨Nat.zero_le _, Nat.zero_le _⟩ ?_
    obtain rfl := Option.some.inj hs
    exact tt_iret X rfl dX8_copy_100 ⟨rfl, rfl⟩
  have t_47 : ∀ (b0 : Nat) (h : tt_H), s_X8_copy_J47 b0 h = some ρ → tt_T tt_cl (p, l, e, rm_X8_copy, s, m, args, below, meth, c, MQ below (tt_Q tt_cl D ca ad n0 sz false (tt_ret (some (.int ρ.1)) ρ.2)) args s 0 0 (tt_A ad n0 sz), D, ca, tt_A ad n0 sz, 8, some n0) ad 0 0 47 [(0, .ref b0)] [] h := by
    intro b0 h hs
    unfold s_X8_copy_J47 at hs
    refine tt_aload_n X dX8_copy_47 rfl ?_
    refine tt_iconst (v := 1) X dX8_copy_48 (by decide) ?_
    obtain ⟨o49, f49, hs⟩ := gg_bind hs
    obtain ⟨w49, e49, hs⟩ := gg_bind hs
    refine zr_callV X f49 rfl (c_X8_fails l e49) (fun hts => cwV 1 hts gX8_copy_X8_fails rfl rfl rfl (by decide +kernel) ⟨by decide, by decide⟩) rfl rfl (Nat.le_of_ble_eq_true rfl) dX8_copy_49 ⟨Nat.zero_le _, Nat.zero_le _⟩ ?_
    obtain rfl := Option.some.inj hs
    exact tt_iret X rfl dX8_copy_52 ⟨rfl, rfl⟩
  refine tt_aload_n X dX8_copy_0 rfl ?_
  refine tt_iconst (v := 0) X dX8_copy_1 (by decide) ?_
  obtain ⟨h2, e2, hs⟩ := gg_bind hs
  refine zr_put X e2 rfl in_X8_copy_X8 tyX8 tyX8_ok nmX8 (by decide) (by decide +kernel) rfl rfl (fun _ => rfl) (fun _ => rfl) dX8_copy_2 ?_
  refine tt_aload_n X dX8_copy_5 rfl ?_
  refine tt_iload_n X dX8_copy_6 rfl ?_
  obtain ⟨o7, f7, hs⟩ := gg_bind hs
  obtain ⟨w7, e7, hs⟩ := gg_bind hs
  refine zr_callV X f7 rfl (c_X8_sheetOf l e7) (fun hts => cwV 1 hts gX8_copy_X8_sheetOf rfl rfl rfl (by decide +kernel) ⟨by decide, by decide⟩) rfl rfl (Nat.le_of_ble_eq_true rfl) dX8_copy_7 ⟨Nat.zero_le _, Nat.zero_le _⟩ ?_
  refine zr_astore X w7.1 dX8_copy_10 (Nat.le_of_ble_eq_true rfl) ?_
  refine tt_aload_n X dX8_copy_12 rfl ?_
  refine tt_iload_n X dX8_copy_13 rfl ?_
  obtain ⟨o14, f14, hs⟩ := gg_bind hs
  obtain ⟨w14, e14, hs⟩ := gg_bind hs
  refine zr_callV X f14 rfl (c_X8_sheetOf l e14) (fun hts => cwV 1 hts gX8_copy_X8_sheetOf rfl rfl rfl (by decide +kernel) ⟨by decide, by decide⟩) rfl rfl (Nat.le_of_ble_eq_true rfl) dX8_copy_14 ⟨Nat.zero_le _, Nat.zero_le _⟩ ?_
  refine zr_astore X w14.1 dX8_copy_17 (Nat.le_of_ble_eq_true rfl) ?_
  refine tt_setL (L2 := [(0, .ref b0), (1, .int x1), (2, .int x2), (3, .int x3), (4, .int x4), (5, .int x5), (6, va_rf w7.1), (7, va_rf w14.1)]) (by cases w7.1 <;> rfl) ?_
  refine zr_aload X w7.1 dX8_copy_19 rfl ?_
  cases hr21 : w7.1 with
  | none =>
    rw [hr21, gg_opt_none] at hs
    refine tt_ifnullN (tgt := 29) X dX8_copy_21 (by decide) ?_
    refine tt_iconst (v := (-1)) X dX8_copy_29 (by decide) ?_
    obtain rfl := Option.some.inj hs
    exact tt_iret X rfl dX8_copy_30 ⟨rfl, rfl⟩
  | some b21 =>
    rw [hr21, gg_opt_some] at hs
    refine tt_ifnull X dX8_copy_21 ?_
    refine zr_aload X w14.1 dX8_copy_24 rfl ?_
    cases hr26 : w14.1 with
    | none =>
      rw [hr26, gg_opt_none] at hs
      refine tt_ifnonnullN X dX8_copy_26 ?_
      refine tt_iconst (v := (-1)) X dX8_copy_29 (by decide) ?_
      obtain rfl := Option.some.inj hs
      exact tt_iret X rfl dX8_copy_30 ⟨rfl, rfl⟩
    | some b26 =>
      rw [hr26, gg_opt_some] at hs
      refine tt_ifnonnull (tgt := 31) X dX8_copy_26 (by decide) ?_
      refine tt_aload X dX8_copy_31 rfl ?_
      obtain ⟨o33, f33, hs⟩ := gg_bind hs
      obtain ⟨w33, e33, hs⟩ := gg_bind hs
      refine zr_callV X f33 rfl (c_X6_isNothing l e33) (fun hts => cwV 0 hts gX8_copy_X6_isNothing rfl rfl rfl (by decide +kernel) ⟨by decide, by decide⟩) rfl rfl (Nat.le_of_ble_eq_true rfl) dX8_copy_33 ⟨Nat.zero_le _, Nat.zero_le _⟩ ?_
      refine tt_if_ne (tgt := 47) X dX8_copy_36 (by decide) (fun c36 => ?_) (fun c36 => ?_)
      · rw [if_neg c36] at hs
        refine tt_drop [0] ?_
        exact t_47 b0 w33.2 hs
      · rw [if_pos c36] at hs
        refine tt_aload X dX8_copy_39 rfl ?_
        obtain ⟨o41, f41, hs⟩ := gg_bind hs
        obtain ⟨w41, e41, hs⟩ := gg_bind hs
        refine zr_callV X f41 rfl (c_X6_isNothing l e41) (fun hts => cwV 0 hts gX8_copy_X6_isNothing rfl rfl rfl (by decide +kernel) ⟨by decide, by decide⟩) rfl rfl (Nat.le_of_ble_eq_true rfl) dX8_copy_41 ⟨Nat.zero_le _, Nat.zero_le _⟩ ?_
        refine tt_if_eq (tgt := 53) X dX8_copy_44 (by decide) (fun c44 => ?_) (fun c44 => ?_)
        · rw [if_pos c44] at hs
          refine tt_aload X dX8_copy_53 rfl ?_
          obtain ⟨o55, f55, hs⟩ := gg_bind hs
          obtain ⟨w55, e55, hs⟩ := gg_bind hs
          refine zr_callV X f55 rfl (c_X6_sort l e55) (fun hts => cwV 0 hts gX8_copy_X6_sort rfl rfl rfl (by decide +kernel) ⟨by decide, by decide⟩) rfl rfl (Nat.le_of_ble_eq_true rfl) dX8_copy_55 ⟨Nat.zero_le _, Nat.zero_le _⟩ ?_
          refine tt_aload X dX8_copy_58 rfl ?_
          obtain ⟨o60, f60, hs⟩ := gg_bind hs
          obtain ⟨w60, e60, hs⟩ := gg_bind hs
          refine zr_callV X f60 rfl (c_X6_sort l e60) (fun hts => cwV 0 hts gX8_copy_X6_sort rfl rfl rfl (by decide +kernel) ⟨by decide, by decide⟩) rfl rfl (Nat.le_of_ble_eq_true rfl) dX8_copy_60 ⟨Nat.zero_le _, Nat.zero_le _⟩ ?_
          refine tt_icmp_eq (tgt := 72) X dX8_copy_63 (by decide) (fun c63 => ?_) (fun c63 => ?_)
          · rw [if_pos c63] at hs
            refine tt_aload X dX8_copy_72 rfl ?_
            refine tt_iload_n X dX8_copy_74 rfl ?_
            refine tt_iload X dX8_copy_75 rfl ?_
            obtain ⟨o77, f77, hs⟩ := gg_bind hs
            obtain ⟨w77, e77, hs⟩ := gg_bind hs
            refine zr_callV X f77 rfl (c_X6_hasCells l e77) (fun hts => cwV 2 hts gX8_copy_X6_hasCells rfl rfl rfl (by decide +kernel) ⟨by decide, by decide⟩) rfl rfl (Nat.le_of_ble_eq_true rfl) dX8_copy_77 ⟨Nat.zero_le _, Nat.zero_le _⟩ ?_
            refine tt_if_eq (tgt := 95) X dX8_copy_80 (by decide) (fun c80 => ?_) (fun c80 => ?_)
            · rw [if_pos c80] at hs
              refine tt_drop [0] ?_
              exact t_95 b0 w77.2 hs
            · rw [if_neg c80] at hs
              refine tt_aload X dX8_copy_83 rfl ?_
              refine tt_iload X dX8_copy_85 rfl ?_
              refine tt_iload X dX8_copy_87 rfl ?_
              obtain ⟨o89, f89, hs⟩ := gg_bind hs
              obtain ⟨w89, e89, hs⟩ := gg_bind hs
              refine zr_callV X f89 rfl (c_X6_hasCells l e89) (fun hts => cwV 2 hts gX8_copy_X6_hasCells rfl rfl rfl (by decide +kernel) ⟨by decide, by decide⟩) rfl rfl (Nat.le_of_ble_eq_true rfl) dX8_copy_89 ⟨Nat.zero_le _, Nat.zero_le _⟩ ?_
              refine tt_if_ne (tgt := 101) X dX8_copy_92 (by decide) (fun c92 => ?_) (fun c92 => ?_)
              · rw [if_neg c92] at hs
                refine tt_aload X dX8_copy_101 rfl ?_
                refine tt_iload_n X dX8_copy_103 rfl ?_
                refine tt_aload X dX8_copy_104 rfl ?_
                refine tt_iload X dX8_copy_106 rfl ?_
                refine tt_iload X dX8_copy_108 rfl ?_
                obtain ⟨o110, f110, hs⟩ := gg_bind hs
                obtain ⟨w110, e110, hs⟩ := gg_bind hs
                refine zr_callV X f110 rfl (c_X6_giveTo l e110) (fun hts => cwV 4 hts gX8_copy_X6_giveTo rfl rfl rfl (by decide +kernel) ⟨by decide, by decide⟩) rfl rfl (Nat.le_of_ble_eq_true rfl) dX8_copy_110 ⟨Nat.zero_le _, Nat.zero_le _⟩ ?_
                refine tt_iload X dX8_copy_113 rfl ?_
                obtain rfl := Option.some.inj hs
                exact tt_iret X rfl dX8_copy_115 ⟨rfl, rfl⟩
              · rw [if_pos c92] at hs
                refine tt_drop [0] ?_
                exact t_95 b0 w89.2 hs
          · rw [if_neg c63] at hs
            refine tt_aload_n X dX8_copy_66 rfl ?_
            refine tt_iconst (v := 2) X dX8_copy_67 (by decide) ?_
            obtain ⟨o68, f68, hs⟩ := gg_bind hs
            obtain ⟨w68, e68, hs⟩ := gg_bind hs
            refine zr_callV X f68 rfl (c_X8_fails l e68) (fun hts => cwV 1 hts gX8_copy_X8_fails rfl rfl rfl (by decide +kernel) ⟨by decide, by decide⟩) rfl rfl (Nat.le_of_ble_eq_true rfl) dX8_copy_68 ⟨Nat.zero_le _, Nat.zero_le _⟩ ?_
            obtain rfl := Option.some.inj hs
            exact tt_iret X rfl dX8_copy_71 ⟨rfl, rfl⟩
        · rw [if_neg c44] at hs
          refine tt_drop [0] ?_
          exact t_47 b0 w41.2 hs

def s_X8_isLetter (x0 : Int32) (h : tt_H) : Option (Int32 × tt_H) :=
  if x0 < 97 then
    some (0, h)
  else
  if 105 ≤ x0 then
    some (0, h)
  else
  some (1, h)
abbrev rm_X8_isLetter : Room := { frames := 0, cells := 0, slots := 0, locals := 0 }
set_option maxHeartbeats 4000000 in
set_option maxRecDepth 100000 in
theorem c_X8_isLetter (l : Launch) {x0 : Int32} {h : tt_H} {ρ : Int32 × tt_H} (hs : s_X8_isLetter x0 h = some ρ) : tt_M tt_cl l yX8_isLetter wsX8_isLetter rm_X8_isLetter 0 0 false [.int x0] h (tt_ret (some (.int ρ.1)) ρ.2) := by
  refine tt_M.of0 (cc := cX8_isLetter) (maxL := 1) (ret := (some .boolean)) (by decide +kernel) rfl (Nat.le_of_ble_eq_true rfl) ?_
  intro p e s m args below meth c D ca ad n0 sz hwf hsz X hini
  unfold s_X8_isLetter at hs
  refine tt_iload_n X dX8_isLetter_0 rfl ?_
  refine tt_bipush (v := 97) X dX8_isLetter_1 (by decide) ?_
  refine tt_icmp_lt (tgt := 16) X dX8_isLetter_3 (by decide) (fun c3 => ?_) (fun c3 => ?_)
  · rw [if_pos c3] at hs
    refine tt_iconst (v := 0) X dX8_isLetter_16 (by decide) ?_
    obtain rfl := Option.some.inj hs
    exact tt_zret X rfl rfl dX8_isLetter_17 ⟨rfl, rfl⟩
  · rw [if_neg c3] at hs
    refine tt_iload_n X dX8_isLetter_6 rfl ?_
    refine tt_bipush (v := 105) X dX8_isLetter_7 (by decide) ?_
    refine tt_icmp_ge (tgt := 16) X dX8_isLetter_9 (by decide) (fun c9 => ?_) (fun c9 => ?_)
    · rw [if_pos c9] at hs
      refine tt_iconst (v := 0) X dX8_isLetter_16 (by decide) ?_
      obtain rfl := Option.some.inj hs
      exact tt_zret X rfl rfl dX8_isLetter_17 ⟨rfl, rfl⟩
    · rw [if_neg c9] at hs
      refine tt_iconst (v := 1) X dX8_isLetter_12 (by decide) ?_
      refine tt_goto (tgt := 17) X dX8_isLetter_13 (by decide) ?_
      obtain rfl := Option.some.inj hs
      exact tt_zret X rfl rfl dX8_isLetter_17 ⟨rfl, rfl⟩

def s_X8_firstFaultOf_J75 (κ8 : Nat → Int32 → Int32 → Int32 → Int32 → Int32 → tt_H → Option (Int32 × tt_H)) (b0 : Nat) (x1 : Int32) (x2 : Int32) (x3 : Int32) (x4 : Int32) (x5 : Int32) (h : tt_H) : Option (Int32 × tt_H) :=
  κ8 b0 x1 x2 x3 x4 (x5 + 1) h
def s_X8_firstFaultOf_J45 (κ75 : Nat → Int32 → Int32 → Int32 → Int32 → Int32 → tt_H → Option (Int32 × tt_H)) (b0 : Nat) (x1 : Int32) (x2 : Int32) (x3 : Int32) (x4 : Int32) (x5 : Int32) (x6 : Int32) (h : tt_H) : Option (Int32 × tt_H) :=
  if x6 = 59 then
    if x4 ≤ 0 then
      some (x5, h)
    else
    if 6 ≤ x3 then
      some (x5, h)
    else
    κ75 b0 x1 x2 (x3 + 1) 0 x5 h
  else
  some (x5, h)
def s_X8_firstFaultOf_L8 : Nat → Nat → Int32 → Int32 → Int32 → Int32 → Int32 → tt_H → Option (Int32 × tt_H)
  | 0, _, _, _, _, _, _, _ => none
  | n + 1, b0, x1, x2, x3, x4, x5, h =>
    if x2 ≤ x5 then
      if x4 = 0 then
        some (x2, h)
      else
      some ((-9), h)
    else
    (gg_obj h b0 6).bind fun _ =>
    (s_X6_at b0 (x1 + x5) h).bind fun w19 =>
    (s_X8_isLetter w19.1 w19.2).bind fun w26 =>
    if w26.1 = 0 then
      s_X8_firstFaultOf_J45 (s_X8_firstFaultOf_J75 (s_X8_firstFaultOf_L8 n)) b0 x1 x2 x3 x4 x5 w19.1 w26.2
    else
    if 12 ≤ x4 then
      s_X8_firstFaultOf_J45 (s_X8_firstFaultOf_J75 (s_X8_firstFaultOf_L8 n)) b0 x1 x2 x3 x4 x5 w19.1 w26.2
    else
    s_X8_firstFaultOf_J75 (s_X8_firstFaultOf_L8 n) b0 x1 x2 x3 (x4 + 1) x5 w26.2
def s_X8_firstFaultOf (b0 : Nat) (x1 : Int32) (x2 : Int32) (h : tt_H) : Option (Int32 × tt_H) :=
  s_X8_firstFaultOf_L8 1000 b0 x1 x2 1 0 0 h
abbrev rm_X8_firstFaultOf : Room := { frames := 2, cells := 0, slots := 0, locals := 43 }
set_option maxHeartbeats 4000000 in
set_option maxRecDepth 100000 in
theorem c_X8_firstFaultOf (l : Launch) {b0 : Nat} {x1 : Int32} {x2 : Int32} {h : tt_H} {ρ : Int32 × tt_H} (hs : s_X8_firstFaultOf b0 x1 x2 h = some ρ) : tt_M tt_cl l yX8_firstFaultOf wsX8_firstFaultOf rm_X8_firstFaultOf 0 0 false [.ref b0, .int x1, .int x2] h (tt_ret (some (.int ρ.1)) ρ.2) := by
  refine tt_M.of0 (cc := cX8_firstFaultOf) (maxL := 7) (ret := (some .int)) (by decide +kernel) rfl (Nat.le_of_ble_eq_true rfl) ?_
  intro p e s m args below meth c D ca ad n0 sz hwf hsz X hini
  unfold s_X8_firstFaultOf at hs
  have t_8 : ∀ (fu : Nat) (b0 : Nat) (x1 : Int32) (x2 : Int32) (x3 : Int32) (x4 : Int32) (x5 : Int32) (h : tt_H), s_X8_firstFaultOf_L8 fu b0 x1 x2 x3 x4 x5 h = some ρ → tt_T tt_cl (p, l, e, rm_X8_firstFaultOf, s, m, args, below, meth, c, MQ below (tt_Q tt_cl D ca ad n0 sz false (tt_ret (some (.int ρ.1)) ρ.2)) args s 0 0 (tt_A ad n0 sz), D, ca, tt_A ad n0 sz, 7, some n0) ad 0 0 8 [(0, .ref b0), (1, .int x1), (2, .int x2), (3, .int x3), (4, .int x4), (5, .int x5)] [] h := by
    intro fu
    induction fu with
    | zero => intro b0 x1 x2 x3 x4 x5 h hs; exact absurd hs (by rw [s_X8_firstFaultOf_L8]; exact fun q => by cases q)
    | succ n8 ih =>
      intro b0 x1 x2 x3 x4 x5 h hs
      rw [s_X8_firstFaultOf_L8] at hs
      have t_8 := ih
      have t_75 : ∀ (b0 : Nat) (x1 : Int32) (x2 : Int32) (x3 : Int32) (x4 : Int32) (x5 : Int32) (h : tt_H), s_X8_firstFaultOf_J75 (s_X8_firstFaultOf_L8 n8) b0 x1 x2 x3 x4 x5 h = some ρ → tt_T tt_cl (p, l, e, rm_X8_firstFaultOf, s, m, args, below, meth, c, MQ below (tt_Q tt_cl D ca ad n0 sz false (tt_ret (some (.int ρ.1)) ρ.2)) args s 0 0 (tt_A ad n0 sz), D, ca, tt_A ad n0 sz, 7, some n0) ad 0 0 75 [(0, .ref b0), (1, .int x1), (2, .int x2), (3, .int x3), (4, .int x4), (5, .int x5)] [] h := by
        intro b0 x1 x2 x3 x4 x5 h hs
        unfold s_X8_firstFaultOf_J75 at hs
        refine tt_iinc (v := x5 + 1) X dX8_firstFaultOf_75 rfl rfl (Nat.le_of_ble_eq_true rfl) ?_
        refine tt_goto (tgt := 8) X dX8_firstFaultOf_78 (by decide) ?_
        refine tt_drop [0, 1, 2, 3, 4, 5] ?_
        exact t_8 b0 x1 x2 x3 x4 (x5 + 1) h hs
      have t_45 : ∀ (b0 : Nat) (x1 : Int32) (x2 : Int32) (x3 : Int32) (x4 : Int32) (x5 : Int32) (x6 : Int32) (h : tt_H), s_X8_firstFaultOf_J45 (s_X8_firstFaultOf_J75 (s_X8_firstFaultOf_L8 n8)) b0 x1 x2 x3 x4 x5 x6 h = some ρ → tt_T tt_cl (p, l, e, rm_X8_firstFaultOf, s, m, args, below, meth, c, MQ below (tt_Q tt_cl D ca ad n0 sz false (tt_ret (some (.int ρ.1)) ρ.2)) args s 0 0 (tt_A ad n0 sz), D, ca, tt_A ad n0 sz, 7, some n0) ad 0 0 45 [(0, .ref b0), (1, .int x1), (2, .int x2), (3, .int x3), (4, .int x4), (5, .int x5), (6, .int x6)] [] h := by
        intro b0 x1 x2 x3 x4 x5 x6 h hs
        unfold s_X8_firstFaultOf_J45 at hs
        refine tt_iload X dX8_firstFaultOf_45 rfl ?_
        refine tt_bipush (v := 59) X dX8_firstFaultOf_47 (by decide) ?_
        refine tt_icmp_ne (tgt := 72) X dX8_firstFaultOf_49 (by decide) (fun c49 => ?_) (fun c49 => ?_)
        · rw [if_neg c49] at hs
          refine tt_iload X dX8_firstFaultOf_72 rfl ?_
          obtain rfl := Option.some.inj hs
          exact tt_iret X rfl dX8_firstFaultOf_74 ⟨rfl, rfl⟩
        · rw [if_pos c49] at hs
          refine tt_iload X dX8_firstFaultOf_52 rfl ?_
          refine tt_if_le (tgt := 72) X dX8_firstFaultOf_54 (by decide) (fun c54 => ?_) (fun c54 => ?_)
          · rw [if_pos c54] at hs
            refine tt_iload X dX8_firstFaultOf_72 rfl ?_
            obtain rfl := Option.some.inj hs
            exact tt_iret X rfl dX8_firstFaultOf_74 ⟨rfl, rfl⟩
          · rw [if_neg c54] at hs
            refine tt_iload_n X dX8_firstFaultOf_57 rfl ?_
            refine tt_bipush (v := 6) X dX8_firstFaultOf_58 (by decide) ?_
            refine tt_icmp_ge (tgt := 72) X dX8_firstFaultOf_60 (by decide) (fun c60 => ?_) (fun c60 => ?_)
            · rw [if_pos c60] at hs
              refine tt_iload X dX8_firstFaultOf_72 rfl ?_
              obtain rfl := Option.some.inj hs
              exact tt_iret X rfl dX8_firstFaultOf_74 ⟨rfl, rfl⟩
            · rw [if_neg c60] at hs
              refine tt_iinc (v := x3 + 1) X dX8_firstFaultOf_63 rfl rfl (Nat.le_of_ble_eq_true rfl) ?_
              refine tt_iconst (v := 0) X dX8_firstFaultOf_66 (by decide) ?_
              refine tt_istore X dX8_firstFaultOf_67 (Nat.le_of_ble_eq_true rfl) ?_
              refine tt_goto (tgt := 75) X dX8_firstFaultOf_69 (by decide) ?_
              refine tt_drop [0, 1, 2, 3, 4, 5] ?_
              exact t_75 b0 x1 x2 (x3 + 1) 0 x5 h hs
      refine tt_iload X dX8_firstFaultOf_8 rfl ?_
      refine tt_iload_n X dX8_firstFaultOf_10 rfl ?_
      refine tt_icmp_ge (tgt := 81) X dX8_firstFaultOf_11 (by decide) (fun c11 => ?_) (fun c11 => ?_)
      · rw [if_pos c11] at hs
        refine tt_iload X dX8_firstFaultOf_81 rfl ?_
        refine tt_if_ne (tgt := 90) X dX8_firstFaultOf_83 (by decide) (fun c83 => ?_) (fun c83 => ?_)
        · rw [if_neg c83] at hs
          refine tt_bipush (v := (-9)) X dX8_firstFaultOf_90 (by decide) ?_
          obtain rfl := Option.some.inj hs
          exact tt_iret X rfl dX8_firstFaultOf_92 ⟨rfl, rfl⟩
        · rw [if_pos c83] at hs
          refine tt_iload_n X dX8_firstFaultOf_86 rfl ?_
          refine tt_goto (tgt := 92) X dX8_firstFaultOf_87 (by decide) ?_
          obtain rfl := Option.some.inj hs
          exact tt_iret X rfl dX8_firstFaultOf_92 ⟨rfl, rfl⟩
      · rw [if_neg c11] at hs
        refine tt_aload_n X dX8_firstFaultOf_14 rfl ?_
        refine tt_iload_n X dX8_firstFaultOf_15 rfl ?_
        refine tt_iload X dX8_firstFaultOf_16 rfl ?_
        refine tt_iadd X dX8_firstFaultOf_18 ?_
        obtain ⟨o19, f19, hs⟩ := gg_bind hs
        obtain ⟨w19, e19, hs⟩ := gg_bind hs
        refine zr_callV X f19 rfl (c_X6_at l e19) (fun hts => cwV 1 hts gX8_firstFaultOf_X6_at rfl rfl rfl (by decide +kernel) ⟨by decide, by decide⟩) rfl rfl (Nat.le_of_ble_eq_true rfl) dX8_firstFaultOf_19 ⟨Nat.zero_le _, Nat.zero_le _⟩ ?_
        refine tt_istore X dX8_firstFaultOf_22 (Nat.le_of_ble_eq_true rfl) ?_
        refine tt_iload X dX8_firstFaultOf_24 rfl ?_
        obtain ⟨w26, e26, hs⟩ := gg_bind hs
        refine zr_callS X (c_X8_isLetter l e26) (fun hts => va_cwS 1 hts gX8_firstFaultOf_X8_isLetter rfl rfl rfl (by decide +kernel) ⟨by decide, by decide⟩) rfl rfl (Nat.le_of_ble_eq_true rfl) dX8_firstFaultOf_26 ⟨Nat.zero_le _, Nat.zero_le _⟩ ?_
        refine tt_if_eq (tgt := 45) X dX8_firstFaultOf_29 (by decide) (fun c29 => ?_) (fun c29 => ?_)
        · rw [if_pos c29] at hs
          refine tt_drop [0, 1, 2, 3, 4, 5, 6] ?_
          exact t_45 b0 x1 x2 x3 x4 x5 w19.1 w26.2 hs
        · rw [if_neg c29] at hs
          refine tt_iload X dX8_firstFaultOf_32 rfl ?_
          refine tt_bipush (v := 12) X dX8_firstFaultOf_34 (by decide) ?_
          refine tt_icmp_ge (tgt := 45) X dX8_firstFaultOf_36 (by decide) (fun c36 => ?_) (fun c36 => ?_)
          · rw [if_pos c36] at hs
            refine tt_drop [0, 1, 2, 3, 4, 5, 6] ?_
            exact t_45 b0 x1 x2 x3 x4 x5 w19.1 w26.2 hs
          · rw [if_neg c36] at hs
            refine tt_iinc (v := x4 + 1) X dX8_firstFaultOf_39 rfl rfl (Nat.le_of_ble_eq_true rfl) ?_
            refine tt_goto (tgt := 75) X dX8_firstFaultOf_42 (by decide) ?_
            refine tt_drop [0, 1, 2, 3, 4, 5] ?_
            exact t_75 b0 x1 x2 x3 (x4 + 1) x5 w26.2 hs
  refine tt_iconst (v := 1) X dX8_firstFaultOf_0 (by decide) ?_
  refine tt_istore_n X dX8_firstFaultOf_1 (Nat.le_of_ble_eq_true rfl) ?_
  refine tt_iconst (v := 0) X dX8_firstFaultOf_2 (by decide) ?_
  refine tt_istore X dX8_firstFaultOf_3 (Nat.le_of_ble_eq_true rfl) ?_
  refine tt_iconst (v := 0) X dX8_firstFaultOf_5 (by decide) ?_
  refine tt_istore X dX8_firstFaultOf_6 (Nat.le_of_ble_eq_true rfl) ?_
  refine tt_drop [0, 1, 2, 3, 4, 5] ?_
  exact t_8 1000 b0 x1 x2 1 0 0 h hs

theorem in_X8_takeText_X8 : ∀ w ∈ u_ws RX8 TX8 13, w ∈ wsX8_takeText := by decide +kernel
def s_X8_takeText_J76 (κ12 : Nat → Nat → Int32 → Int32 → Int32 → tt_H → Option (Unit × tt_H)) (b0 : Nat) (b1 : Nat) (x2 : Int32) (x3 : Int32) (x4 : Int32) (h : tt_H) : Option (Unit × tt_H) :=
  κ12 b0 b1 x2 x3 (x4 + 1) h
def s_X8_takeText_L12 : Nat → Nat → Nat → Int32 → Int32 → Int32 → tt_H → Option (Unit × tt_H)
  | 0, _, _, _, _, _, _ => none
  | n + 1, b0, b1, x2, x3, x4, h =>
    if x3 ≤ x4 then
      some ((), h)
    else
    (gg_obj h b1 6).bind fun _ =>
    (s_X6_at b1 (x2 + x4) h).bind fun w23 =>
    (gg_obj w23.2 b0 8).bind fun _ =>
    (s_X8_lastCry b0 w23.2).bind fun w29 =>
    if w23.1 = 59 then
      (gg_obj w29.2 b0 8).bind fun _ =>
      (s_X8_beginDay b0 w29.2).bind fun w42 =>
      s_X8_takeText_J76 (s_X8_takeText_L12 n) b0 b1 x2 x3 x4 w42.2
    else
    gg_opt w29.1 (
      s_X8_takeText_J76 (s_X8_takeText_L12 n) b0 b1 x2 x3 x4 w29.2
    ) fun b50 =>
    (s_X8_isLetter w23.1 w29.2).bind fun w55 =>
    if w55.1 = 0 then
      s_X8_takeText_J76 (s_X8_takeText_L12 n) b0 b1 x2 x3 x4 w55.2
    else
    (gg_obj w55.2 b50 2).bind fun _ =>
    (s_X2_size b50 w55.2).bind fun w65 =>
    (gg_obj w65.2 b50 2).bind fun _ =>
    (s_X2_insert b50 w65.1 (w23.1 - 97) w65.2).bind fun w73 =>
    s_X8_takeText_J76 (s_X8_takeText_L12 n) b0 b1 x2 x3 x4 w73.2
def s_X8_takeText (b0 : Nat) (b1 : Nat) (x2 : Int32) (x3 : Int32) (h : tt_H) : Option (Unit × tt_H) :=
  (gg_put h b0 8 10 (.int 0)).bind fun h2 =>
  (gg_obj h2 b0 8).bind fun _ =>
  (s_X8_beginDay b0 h2).bind fun w6 =>
  s_X8_takeText_L12 1000 b0 b1 x2 x3 0 w6.2
abbrev rm_X8_takeText : Room := { frames := 3, cells := 0, slots := 0, locals := 62 }
set_option maxHeartbeats 4000000 in
set_option maxRecDepth 100000 in
theorem c_X8_takeText (l : Launch) {b0 : Nat} {b1 : Nat} {x2 : Int32} {x3 : Int32} {h : tt_H} {ρ : Unit × tt_H} (hs : s_X8_takeText b0 b1 x2 x3 h = some ρ) : tt_M tt_cl l yX8_takeText wsX8_takeText rm_X8_takeText 0 0 false [.ref b0, .ref b1, .int x2, .int x3] h (tt_ret (none) ρ.2) := by
  refine tt_M.of0 (cc := cX8_takeText) (maxL := 7) (ret := none) (by decide +kernel) rfl (Nat.le_of_ble_eq_true rfl) ?_
  intro p e s m args below meth c D ca ad n0 sz hwf hsz X hini
  unfold s_X8_takeText at hs
  have t_12 : ∀ (fu : Nat) (b0 : Nat) (b1 : Nat) (x2 : Int32) (x3 : Int32) (x4 : Int32) (h : tt_H), s_X8_takeText_L12 fu b0 b1 x2 x3 x4 h = some ρ → tt_T tt_cl (p, l, e, rm_X8_takeText, s, m, args, below, meth, c, MQ below (tt_Q tt_cl D ca ad n0 sz false (tt_ret (none) ρ.2)) args s 0 0 (tt_A ad n0 sz), D, ca, tt_A ad n0 sz, 7, some n0) ad 0 0 12 [(0, .ref b0), (1, .ref b1), (2, .int x2), (3, .int x3), (4, .int x4)] [] h := by
    intro fu
    induction fu with
    | zero => intro b0 b1 x2 x3 x4 h hs; exact absurd hs (by rw [s_X8_takeText_L12]; exact fun q => by cases q)
    | succ n12 ih =>
      intro b0 b1 x2 x3 x4 h hs
      rw [s_X8_takeText_L12] at hs
      have t_12 := ih
      have t_76 : ∀ (b0 : Nat) (b1 : Nat) (x2 : Int32) (x3 : Int32) (x4 : Int32) (h : tt_H), s_X8_takeText_J76 (s_X8_takeText_L12 n12) b0 b1 x2 x3 x4 h = some ρ → tt_T tt_cl (p, l, e, rm_X8_takeText, s, m, args, below, meth, c, MQ below (tt_Q tt_cl D ca ad n0 sz false (tt_ret (none) ρ.2)) args s 0 0 (tt_A ad n0 sz), D, ca, tt_A ad n0 sz, 7, some n0) ad 0 0 76 [(0, .ref b0), (1, .ref b1), (2, .int x2), (3, .int x3), (4, .int x4)] [] h := by
        intro b0 b1 x2 x3 x4 h hs
        unfold s_X8_takeText_J76 at hs
        refine tt_iinc (v := x4 + 1) X dX8_takeText_76 rfl rfl (Nat.le_of_ble_eq_true rfl) ?_
        refine tt_goto (tgt := 12) X dX8_takeText_79 (by decide) ?_
        refine tt_drop [0, 1, 2, 3, 4] ?_
        exact t_12 b0 b1 x2 x3 (x4 + 1) h hs
      refine tt_iload X dX8_takeText_12 rfl ?_
      refine tt_iload_n X dX8_takeText_14 rfl ?_
      refine tt_icmp_ge (tgt := 82) X dX8_takeText_15 (by decide) (fun c15 => ?_) (fun c15 => ?_)
      · rw [if_pos c15] at hs
        obtain rfl := Option.some.inj hs
        exact tt_vret X rfl dX8_takeText_82 ⟨rfl, rfl⟩
      · rw [if_neg c15] at hs
        refine tt_aload_n X dX8_takeText_18 rfl ?_
        refine tt_iload_n X dX8_takeText_19 rfl ?_
        refine tt_iload X dX8_takeText_20 rfl ?_
        refine tt_iadd X dX8_takeText_22 ?_
        obtain ⟨o23, f23, hs⟩ := gg_bind hs
        obtain ⟨w23, e23, hs⟩ := gg_bind hs
        refine zr_callV X f23 rfl (c_X6_at l e23) (fun hts => cwV 1 hts gX8_takeText_X6_at rfl rfl rfl (by decide +kernel) ⟨by decide, by decide⟩) rfl rfl (Nat.le_of_ble_eq_true rfl) dX8_takeText_23 ⟨Nat.zero_le _, Nat.zero_le _⟩ ?_
        refine tt_istore X dX8_takeText_26 (Nat.le_of_ble_eq_true rfl) ?_
        refine tt_aload_n X dX8_takeText_28 rfl ?_
        obtain ⟨o29, f29, hs⟩ := gg_bind hs
        obtain ⟨w29, e29, hs⟩ := gg_bind hs
        refine zr_callV X f29 rfl (c_X8_lastCry l e29) (fun hts => cwV 0 hts gX8_takeText_X8_lastCry rfl rfl rfl (by decide +kernel) ⟨by decide, by decide⟩) rfl rfl (Nat.le_of_ble_eq_true rfl) dX8_takeText_29 ⟨Nat.zero_le _, Nat.zero_le _⟩ ?_
        refine zr_astore X w29.1 dX8_takeText_32 (Nat.le_of_ble_eq_true rfl) ?_
        refine tt_iload X dX8_takeText_34 rfl ?_
        refine tt_bipush (v := 59) X dX8_takeText_36 (by decide) ?_
        refine tt_icmp_ne (tgt := 48) X dX8_takeText_38 (by decide) (fun c38 => ?_) (fun c38 => ?_)
        · rw [if_neg c38] at hs
          refine zr_aload X w29.1 dX8_takeText_48 rfl ?_
          cases hr50 : w29.1 with
          | none =>
            rw [hr50, gg_opt_none] at hs
            refine tt_ifnullN (tgt := 76) X dX8_takeText_50 (by decide) ?_
            refine tt_drop [0, 1, 2, 3, 4] ?_
            exact t_76 b0 b1 x2 x3 x4 w29.2 hs
          | some b50 =>
            rw [hr50, gg_opt_some] at hs
            refine tt_ifnull X dX8_takeText_50 ?_
            refine tt_iload X dX8_takeText_53 rfl ?_
            obtain ⟨w55, e55, hs⟩ := gg_bind hs
            refine zr_callS X (c_X8_isLetter l e55) (fun hts => va_cwS 1 hts gX8_takeText_X8_isLetter rfl rfl rfl (by decide +kernel) ⟨by decide, by decide⟩) rfl rfl (Nat.le_of_ble_eq_true rfl) dX8_takeText_55 ⟨Nat.zero_le _, Nat.zero_le _⟩ ?_
            refine tt_if_eq (tgt := 76) X dX8_takeText_58 (by decide) (fun c58 => ?_) (fun c58 => ?_)
            · rw [if_pos c58] at hs
              refine tt_drop [0, 1, 2, 3, 4] ?_
              exact t_76 b0 b1 x2 x3 x4 w55.2 hs
            · rw [if_neg c58] at hs
              refine tt_aload X dX8_takeText_61 rfl ?_
              refine tt_aload X dX8_takeText_63 rfl ?_
              obtain ⟨o65, f65, hs⟩ := gg_bind hs
              obtain ⟨w65, e65, hs⟩ := gg_bind hs
              refine zr_callV X f65 rfl (c_X2_size l e65) (fun hts => cwV 0 hts gX8_takeText_X2_size rfl rfl rfl (by decide +kernel) ⟨by decide, by decide⟩) rfl rfl (Nat.le_of_ble_eq_true rfl) dX8_takeText_65 ⟨Nat.zero_le _, Nat.zero_le _⟩ ?_
              refine tt_iload X dX8_takeText_68 rfl ?_
              refine tt_bipush (v := 97) X dX8_takeText_70 (by decide) ?_
              refine tt_isub X dX8_takeText_72 ?_
              obtain ⟨o73, f73, hs⟩ := gg_bind hs
              obtain ⟨w73, e73, hs⟩ := gg_bind hs
              refine zr_callV X f73 rfl (c_X2_insert l e73) (fun hts => cwV 2 hts gX8_takeText_X2_insert rfl rfl rfl (by decide +kernel) ⟨by decide, by decide⟩) rfl rfl (Nat.le_of_ble_eq_true rfl) dX8_takeText_73 ⟨Nat.zero_le _, Nat.zero_le _⟩ ?_
              refine tt_drop [0, 1, 2, 3, 4] ?_
              exact t_76 b0 b1 x2 x3 x4 w73.2 hs
        · rw [if_pos c38] at hs
          refine tt_aload_n X dX8_takeText_41 rfl ?_
          obtain ⟨o42, f42, hs⟩ := gg_bind hs
          obtain ⟨w42, e42, hs⟩ := gg_bind hs
          refine zr_callV X f42 rfl (c_X8_beginDay l e42) (fun hts => cwV 0 hts gX8_takeText_X8_beginDay rfl rfl rfl (by decide +kernel) ⟨by decide, by decide⟩) rfl rfl (Nat.le_of_ble_eq_true rfl) dX8_takeText_42 ⟨Nat.zero_le _, Nat.zero_le _⟩ ?_
          refine tt_goto (tgt := 76) X dX8_takeText_45 (by decide) ?_
          refine tt_drop [0, 1, 2, 3, 4] ?_
          exact t_76 b0 b1 x2 x3 x4 w42.2 hs
  refine tt_aload_n X dX8_takeText_0 rfl ?_
  refine tt_iconst (v := 0) X dX8_takeText_1 (by decide) ?_
  obtain ⟨h2, e2, hs⟩ := gg_bind hs
  refine zr_put X e2 rfl in_X8_takeText_X8 tyX8 tyX8_ok nmX8 (by decide) (by decide +kernel) rfl rfl (fun _ => rfl) (fun _ => rfl) dX8_takeText_2 ?_
  refine tt_aload_n X dX8_takeText_5 rfl ?_
  obtain ⟨o6, f6, hs⟩ := gg_bind hs
  obtain ⟨w6, e6, hs⟩ := gg_bind hs
  refine zr_callV X f6 rfl (c_X8_beginDay l e6) (fun hts => cwV 0 hts gX8_takeText_X8_beginDay rfl rfl rfl (by decide +kernel) ⟨by decide, by decide⟩) rfl rfl (Nat.le_of_ble_eq_true rfl) dX8_takeText_6 ⟨Nat.zero_le _, Nat.zero_le _⟩ ?_
  refine tt_iconst (v := 0) X dX8_takeText_9 (by decide) ?_
  refine tt_istore X dX8_takeText_10 (Nat.le_of_ble_eq_true rfl) ?_
  refine tt_drop [0, 1, 2, 3, 4] ?_
  exact t_12 1000 b0 b1 x2 x3 0 w6.2 hs

theorem in_X8_cries_X8 : ∀ w ∈ u_ws RX8 TX8 13, w ∈ wsX8_cries := by decide +kernel
def s_X8_cries (b0 : Nat) (x1 : Int32) (x2 : Int32) (x3 : Int32) (x4 : Int32) (h : tt_H) : Option (Int32 × tt_H) :=
  (gg_put h b0 8 12 (.int 0)).bind fun h2 =>
  (gg_obj h2 b0 8).bind fun _ =>
  (s_X8_sheetOf b0 x1 h2).bind fun w7 =>
  gg_opt w7.1 (
    some ((-1), w7.2)
  ) fun b14 =>
  (s_X8_isSort x2 w7.2).bind fun w20 =>
  if w20.1 = 0 then
    some ((-2), w20.2)
  else
  (s_X8_readingFault b14 x2 w20.2).bind fun w32 =>
  if w32.1 = 0 then
    if 0 ≤ x4 then
      (gg_obj w32.2 b14 6).bind fun _ =>
      (s_X6_hasCells b14 x3 x4 w32.2).bind fun w65 =>
      if w65.1 = 0 then
        (gg_obj w65.2 b0 8).bind fun _ =>
        (s_X8_fails b0 3 w65.2).bind fun w73 =>
        some (w73.1, w73.2)
      else
      (s_X8_firstFaultOf b14 x3 x4 w65.2).bind fun w82 =>
      if w82.1 = ((-9)) then
        (gg_obj w82.2 b0 8).bind fun _ =>
        (s_X8_takeText b0 b14 x3 x4 w82.2).bind fun w106 =>
        (gg_fi w106.2 b0 8 10).bind fun z110 =>
        some (z110, w106.2)
      else
      some (((-100)) - w82.1, w82.2)
    else
    (gg_obj w32.2 b0 8).bind fun _ =>
    (s_X8_fails b0 4 w32.2).bind fun w56 =>
    some (w56.1, w56.2)
  else
  (gg_obj w32.2 b0 8).bind fun _ =>
  (s_X8_fails b0 w32.1 w32.2).bind fun w45 =>
  some (w45.1, w45.2)
abbrev rm_X8_cries : Room := { frames := 4, cells := 0, slots := 0, locals := 88 }
set_option maxHeartbeats 4000000 in
set_option maxRecDepth 100000 in
theorem c_X8_cries (l : Launch) {b0 : Nat} {x1 : Int32} {x2 : Int32} {x3 : Int32} {x4 : Int32} {h : tt_H} {ρ : Int32 × tt_H} (hs : s_X8_cries b0 x1 x2 x3 x4 h = some ρ) : tt_M tt_cl l yX8_cries wsX8_cries rm_X8_cries 0 0 false [.ref b0, .int x1, .int x2, .int x3, .int x4] h (tt_ret (some (.int ρ.1)) ρ.2) := by
  refine tt_M.of0 (cc := cX8_cries) (maxL := 8) (ret := (some .int)) (by decide +kernel) rfl (Nat.le_of_ble_eq_true rfl) ?_
  intro p e s m args below meth c D ca ad n0 sz hwf hsz X hini
  unfold s_X8_cries at hs
  refine tt_aload_n X dX8_cries_0 rfl ?_
  refine tt_iconst (v := 0) X dX8_cries_1 (by decide) ?_
  obtain ⟨h2, e2, hs⟩ := gg_bind hs
  refine zr_put X e2 rfl in_X8_cries_X8 tyX8 tyX8_ok nmX8 (by decide) (by decide +kernel) rfl rfl (fun _ => rfl) (fun _ => rfl) dX8_cries_2 ?_
  refine tt_aload_n X dX8_cries_5 rfl ?_
  refine tt_iload_n X dX8_cries_6 rfl ?_
  obtain ⟨o7, f7, hs⟩ := gg_bind hs
  obtain ⟨w7, e7, hs⟩ := gg_bind hs
  refine zr_callV X f7 rfl (c_X8_sheetOf l e7) (fun hts => cwV 1 hts gX8_cries_X8_sheetOf rfl rfl rfl (by decide +kernel) ⟨by decide, by decide⟩) rfl rfl (Nat.le_of_ble_eq_true rfl) dX8_cries_7 ⟨Nat.zero_le _, Nat.zero_le _⟩ ?_
  refine zr_astore X w7.1 dX8_cries_10 (Nat.le_of_ble_eq_true rfl) ?_
  refine zr_aload X w7.1 dX8_cries_12 rfl ?_
  cases hr14 : w7.1 with
  | none =>
    rw [hr14, gg_opt_none] at hs
    refine tt_ifnonnullN X dX8_cries_14 ?_
    refine tt_iconst (v := (-1)) X dX8_cries_17 (by decide) ?_
    obtain rfl := Option.some.inj hs
    exact tt_iret X rfl dX8_cries_18 ⟨rfl, rfl⟩
  | some b14 =>
    rw [hr14, gg_opt_some] at hs
    refine tt_ifnonnull (tgt := 19) X dX8_cries_14 (by decide) ?_
    refine tt_iload_n X dX8_cries_19 rfl ?_
    obtain ⟨w20, e20, hs⟩ := gg_bind hs
    refine zr_callS X (c_X8_isSort l e20) (fun hts => va_cwS 1 hts gX8_cries_X8_isSort rfl rfl rfl (by decide +kernel) ⟨by decide, by decide⟩) rfl rfl (Nat.le_of_ble_eq_true rfl) dX8_cries_20 ⟨Nat.zero_le _, Nat.zero_le _⟩ ?_
    refine tt_if_ne (tgt := 29) X dX8_cries_23 (by decide) (fun c23 => ?_) (fun c23 => ?_)
    · rw [if_neg c23] at hs
      refine tt_aload X dX8_cries_29 rfl ?_
      refine tt_iload_n X dX8_cries_31 rfl ?_
      obtain ⟨w32, e32, hs⟩ := gg_bind hs
      refine zr_callS X (c_X8_readingFault l e32) (fun hts => va_cwS 2 hts gX8_cries_X8_readingFault rfl rfl rfl (by decide +kernel) ⟨by decide, by decide⟩) rfl rfl (Nat.le_of_ble_eq_true rfl) dX8_cries_32 ⟨Nat.zero_le _, Nat.zero_le _⟩ ?_
      refine tt_istore X dX8_cries_35 (Nat.le_of_ble_eq_true rfl) ?_
      refine tt_iload X dX8_cries_37 rfl ?_
      refine tt_if_eq (tgt := 49) X dX8_cries_39 (by decide) (fun c39 => ?_) (fun c39 => ?_)
      · rw [if_pos c39] at hs
        refine tt_iload X dX8_cries_49 rfl ?_
        refine tt_if_ge (tgt := 60) X dX8_cries_51 (by decide) (fun c51 => ?_) (fun c51 => ?_)
        · rw [if_pos c51] at hs
          refine tt_aload X dX8_cries_60 rfl ?_
          refine tt_iload_n X dX8_cries_62 rfl ?_
          refine tt_iload X dX8_cries_63 rfl ?_
          obtain ⟨o65, f65, hs⟩ := gg_bind hs
          obtain ⟨w65, e65, hs⟩ := gg_bind hs
          refine zr_callV X f65 rfl (c_X6_hasCells l e65) (fun hts => cwV 2 hts gX8_cries_X6_hasCells rfl rfl rfl (by decide +kernel) ⟨by decide, by decide⟩) rfl rfl (Nat.le_of_ble_eq_true rfl) dX8_cries_65 ⟨Nat.zero_le _, Nat.zero_le _⟩ ?_
          refine tt_if_ne (tgt := 77) X dX8_cries_68 (by decide) (fun c68 => ?_) (fun c68 => ?_)
          · rw [if_neg c68] at hs
            refine tt_aload X dX8_cries_77 rfl ?_
            refine tt_iload_n X dX8_cries_79 rfl ?_
            refine tt_iload X dX8_cries_80 rfl ?_
            obtain ⟨w82, e82, hs⟩ := gg_bind hs
            refine zr_callS X (c_X8_firstFaultOf l e82) (fun hts => va_cwS 3 hts gX8_cries_X8_firstFaultOf rfl rfl rfl (by decide +kernel) ⟨by decide, by decide⟩) rfl rfl (Nat.le_of_ble_eq_true rfl) dX8_cries_82 ⟨Nat.zero_le _, Nat.zero_le _⟩ ?_
            refine tt_istore X dX8_cries_85 (Nat.le_of_ble_eq_true rfl) ?_
            refine tt_iload X dX8_cries_87 rfl ?_
            refine tt_bipush (v := (-9)) X dX8_cries_89 (by decide) ?_
            refine tt_icmp_eq (tgt := 100) X dX8_cries_91 (by decide) (fun c91 => ?_) (fun c91 => ?_)
            · rw [if_pos c91] at hs
              refine tt_aload_n X dX8_cries_100 rfl ?_
              refine tt_aload X dX8_cries_101 rfl ?_
              refine tt_iload_n X dX8_cries_103 rfl ?_
              refine tt_iload X dX8_cries_104 rfl ?_
              obtain ⟨o106, f106, hs⟩ := gg_bind hs
              obtain ⟨w106, e106, hs⟩ := gg_bind hs
              refine zr_callV X f106 rfl (c_X8_takeText l e106) (fun hts => cwV 3 hts gX8_cries_X8_takeText rfl rfl rfl (by decide +kernel) ⟨by decide, by decide⟩) rfl rfl (Nat.le_of_ble_eq_true rfl) dX8_cries_106 ⟨Nat.zero_le _, Nat.zero_le _⟩ ?_
              refine tt_aload_n X dX8_cries_109 rfl ?_
              obtain ⟨z110, e110, hs⟩ := gg_bind hs
              refine zr_fi X e110 rfl in_X8_cries_X8 (by decide) (by decide +kernel) rfl dX8_cries_110 ?_
              obtain rfl := Option.some.inj hs
              exact tt_iret X rfl dX8_cries_113 ⟨rfl, rfl⟩
            · rw [if_neg c91] at hs
              refine tt_bipush (v := (-100)) X dX8_cries_94 (by decide) ?_
              refine tt_iload X dX8_cries_96 rfl ?_
              refine tt_isub X dX8_cries_98 ?_
              obtain rfl := Option.some.inj hs
              exact tt_iret X rfl dX8_cries_99 ⟨rfl, rfl⟩
          · rw [if_pos c68] at hs
            refine tt_aload_n X dX8_cries_71 rfl ?_
            refine tt_iconst (v := 3) X dX8_cries_72 (by decide) ?_
            obtain ⟨o73, f73, hs⟩ := gg_bind hs
            obtain ⟨w73, e73, hs⟩ := gg_bind hs
            refine zr_callV X f73 rfl (c_X8_fails l e73) (fun hts => cwV 1 hts gX8_cries_X8_fails rfl rfl rfl (by decide +kernel) ⟨by decide, by decide⟩) rfl rfl (Nat.le_of_ble_eq_true rfl) dX8_cries_73 ⟨Nat.zero_le _, Nat.zero_le _⟩ ?_
            obtain rfl := Option.some.inj hs
            exact tt_iret X rfl dX8_cries_76 ⟨rfl, rfl⟩
        · rw [if_neg c51] at hs
          refine tt_aload_n X dX8_cries_54 rfl ?_
          refine tt_iconst (v := 4) X dX8_cries_55 (by decide) ?_
          obtain ⟨o56, f56, hs⟩ := gg_bind hs
          obtain ⟨w56, e56, hs⟩ := gg_bind hs
          refine zr_callV X f56 rfl (c_X8_fails l e56) (fun hts => cwV 1 hts gX8_cries_X8_fails rfl rfl rfl (by decide +kernel) ⟨by decide, by decide⟩) rfl rfl (Nat.le_of_ble_eq_true rfl) dX8_cries_56 ⟨Nat.zero_le _, Nat.zero_le _⟩ ?_
          obtain rfl := Option.some.inj hs
          exact tt_iret X rfl dX8_cries_59 ⟨rfl, rfl⟩
      · rw [if_neg c39] at hs
        refine tt_aload_n X dX8_cries_42 rfl ?_
        refine tt_iload X dX8_cries_43 rfl ?_
        obtain ⟨o45, f45, hs⟩ := gg_bind hs
        obtain ⟨w45, e45, hs⟩ := gg_bind hs
        refine zr_callV X f45 rfl (c_X8_fails l e45) (fun hts => cwV 1 hts gX8_cries_X8_fails rfl rfl rfl (by decide +kernel) ⟨by decide, by decide⟩) rfl rfl (Nat.le_of_ble_eq_true rfl) dX8_cries_45 ⟨Nat.zero_le _, Nat.zero_le _⟩ ?_
        obtain rfl := Option.some.inj hs
        exact tt_iret X rfl dX8_cries_48 ⟨rfl, rfl⟩
    · rw [if_pos c23] at hs
      refine tt_bipush (v := (-2)) X dX8_cries_26 (by decide) ?_
      obtain rfl := Option.some.inj hs
      exact tt_iret X rfl dX8_cries_28 ⟨rfl, rfl⟩

theorem in_X8_leave_X8 : ∀ w ∈ u_ws RX8 TX8 13, w ∈ wsX8_leave := by decide +kernel
def s_X8_leave (b0 : Nat) (x1 : Int32) (h : tt_H) : Option (Unit × tt_H) :=
  (gg_fi h b0 8 11).bind fun z4 =>
  (gg_put h b0 8 11 (.int ((31 * z4) + x1))).bind fun h10 =>
  some ((), h10)
abbrev rm_X8_leave : Room := { frames := 0, cells := 0, slots := 0, locals := 0 }
set_option maxHeartbeats 4000000 in
set_option maxRecDepth 100000 in
theorem c_X8_leave (l : Launch) {b0 : Nat} {x1 : Int32} {h : tt_H} {ρ : Unit × tt_H} (hs : s_X8_leave b0 x1 h = some ρ) : tt_M tt_cl l yX8_leave wsX8_leave rm_X8_leave 0 0 false [.ref b0, .int x1] h (tt_ret (none) ρ.2) := by
  refine tt_M.of0 (cc := cX8_leave) (maxL := 2) (ret := none) (by decide +kernel) rfl (Nat.le_of_ble_eq_true rfl) ?_
  intro p e s m args below meth c D ca ad n0 sz hwf hsz X hini
  unfold s_X8_leave at hs
  refine tt_aload_n X dX8_leave_0 rfl ?_
  refine tt_bipush (v := 31) X dX8_leave_1 (by decide) ?_
  refine tt_aload_n X dX8_leave_3 rfl ?_
  obtain ⟨z4, e4, hs⟩ := gg_bind hs
  refine zr_fi X e4 rfl in_X8_leave_X8 (by decide) (by decide +kernel) rfl dX8_leave_4 ?_
  refine tt_imul X dX8_leave_7 ?_
  refine tt_iload_n X dX8_leave_8 rfl ?_
  refine tt_iadd X dX8_leave_9 ?_
  obtain ⟨h10, e10, hs⟩ := gg_bind hs
  refine zr_put X e10 rfl in_X8_leave_X8 tyX8 tyX8_ok nmX8 (by decide) (by decide +kernel) rfl rfl (fun _ => rfl) (fun _ => rfl) dX8_leave_10 ?_
  obtain rfl := Option.some.inj hs
  exact tt_vret X rfl dX8_leave_13 ⟨rfl, rfl⟩

theorem in_X8_wordTells_X8 : ∀ w ∈ u_ws RX8 TX8 13, w ∈ wsX8_wordTells := by decide +kernel
def s_X8_wordTells_J41 (κ9 : Nat → Int32 → Int32 → Int32 → tt_H → Option (Int32 × tt_H)) (b0 : Nat) (x1 : Int32) (x2 : Int32) (x3 : Int32) (h : tt_H) : Option (Int32 × tt_H) :=
  κ9 b0 x1 x2 (x3 + 1) h
def s_X8_wordTells_L9 : Nat → Nat → Int32 → Int32 → Int32 → tt_H → Option (Int32 × tt_H)
  | 0, _, _, _, _, _ => none
  | n + 1, b0, x1, x2, x3, h =>
    (gg_fi h b0 8 10).bind fun z11 =>
    if z11 ≤ x3 then
      some (x2, h)
    else
    (gg_obj h b0 8).bind fun _ =>
    (s_X8_cryOf b0 x3 h).bind fun w19 =>
    gg_opt w19.1 (
      s_X8_wordTells_J41 (s_X8_wordTells_L9 n) b0 x1 x2 x3 w19.2
    ) fun b26 =>
    (gg_obj w19.2 b26 2).bind fun _ =>
    (s_X2_hasWord b26 x1 w19.2).bind fun w32 =>
    if w32.1 = 0 then
      s_X8_wordTells_J41 (s_X8_wordTells_L9 n) b0 x1 x2 x3 w32.2
    else
    s_X8_wordTells_J41 (s_X8_wordTells_L9 n) b0 x1 (x2 + 1) x3 w32.2
def s_X8_wordTells (b0 : Nat) (x1 : Int32) (h : tt_H) : Option (Int32 × tt_H) :=
  (gg_obj h b0 8).bind fun _ =>
  (s_X8_leave b0 1 h).bind fun w2 =>
  s_X8_wordTells_L9 1000 b0 x1 0 0 w2.2
abbrev rm_X8_wordTells : Room := { frames := 1, cells := 0, slots := 0, locals := 22 }
set_option maxHeartbeats 4000000 in
set_option maxRecDepth 100000 in
theorem c_X8_wordTells (l : Launch) {b0 : Nat} {x1 : Int32} {h : tt_H} {ρ : Int32 × tt_H} (hs : s_X8_wordTells b0 x1 h = some ρ) : tt_M tt_cl l yX8_wordTells wsX8_wordTells rm_X8_wordTells 0 0 false [.ref b0, .int x1] h (tt_ret (some (.int ρ.1)) ρ.2) := by
  refine tt_M.of0 (cc := cX8_wordTells) (maxL := 5) (ret := (some .int)) (by decide +kernel) rfl (Nat.le_of_ble_eq_true rfl) ?_
  intro p e s m args below meth c D ca ad n0 sz hwf hsz X hini
  unfold s_X8_wordTells at hs
  have t_9 : ∀ (fu : Nat) (b0 : Nat) (x1 : Int32) (x2 : Int32) (x3 : Int32) (h : tt_H), s_X8_wordTells_L9 fu b0 x1 x2 x3 h = some ρ → tt_T tt_cl (p, l, e, rm_X8_wordTells, s, m, args, below, meth, c, MQ below (tt_Q tt_cl D ca ad n0 sz false (tt_ret (some (.int ρ.1)) ρ.2)) args s 0 0 (tt_A ad n0 sz), D, ca, tt_A ad n0 sz, 5, some n0) ad 0 0 9 [(0, .ref b0), (1, .int x1), (2, .int x2), (3, .int x3)] [] h := by
    intro fu
    induction fu with
    | zero => intro b0 x1 x2 x3 h hs; exact absurd hs (by rw [s_X8_wordTells_L9]; exact fun q => by cases q)
    | succ n9 ih =>
      intro b0 x1 x2 x3 h hs
      rw [s_X8_wordTells_L9] at hs
      have t_9 := ih
      have t_41 : ∀ (b0 : Nat) (x1 : Int32) (x2 : Int32) (x3 : Int32) (h : tt_H), s_X8_wordTells_J41 (s_X8_wordTells_L9 n9) b0 x1 x2 x3 h = some ρ → tt_T tt_cl (p, l, e, rm_X8_wordTells, s, m, args, below, meth, c, MQ below (tt_Q tt_cl D ca ad n0 sz false (tt_ret (some (.int ρ.1)) ρ.2)) args s 0 0 (tt_A ad n0 sz), D, ca, tt_A ad n0 sz, 5, some n0) ad 0 0 41 [(0, .ref b0), (1, .int x1), (2, .int x2), (3, .int x3)] [] h := by
        intro b0 x1 x2 x3 h hs
        unfold s_X8_wordTells_J41 at hs
        refine tt_iinc (v := x3 + 1) X dX8_wordTells_41 rfl rfl (Nat.le_of_ble_eq_true rfl) ?_
        refine tt_goto (tgt := 9) X dX8_wordTells_44 (by decide) ?_
        refine tt_drop [0, 1, 2, 3] ?_
        exact t_9 b0 x1 x2 (x3 + 1) h hs
      refine tt_iload_n X dX8_wordTells_9 rfl ?_
      refine tt_aload_n X dX8_wordTells_10 rfl ?_
      obtain ⟨z11, e11, hs⟩ := gg_bind hs
      refine zr_fi X e11 rfl in_X8_wordTells_X8 (by decide) (by decide +kernel) rfl dX8_wordTells_11 ?_
      refine tt_icmp_ge (tgt := 47) X dX8_wordTells_14 (by decide) (fun c14 => ?_) (fun c14 => ?_)
      · rw [if_pos c14] at hs
        refine tt_iload_n X dX8_wordTells_47 rfl ?_
        obtain rfl := Option.some.inj hs
        exact tt_iret X rfl dX8_wordTells_48 ⟨rfl, rfl⟩
      · rw [if_neg c14] at hs
        refine tt_aload_n X dX8_wordTells_17 rfl ?_
        refine tt_iload_n X dX8_wordTells_18 rfl ?_
        obtain ⟨o19, f19, hs⟩ := gg_bind hs
        obtain ⟨w19, e19, hs⟩ := gg_bind hs
        refine zr_callV X f19 rfl (c_X8_cryOf l e19) (fun hts => cwV 1 hts gX8_wordTells_X8_cryOf rfl rfl rfl (by decide +kernel) ⟨by decide, by decide⟩) rfl rfl (Nat.le_of_ble_eq_true rfl) dX8_wordTells_19 ⟨Nat.zero_le _, Nat.zero_le _⟩ ?_
        refine zr_astore X w19.1 dX8_wordTells_22 (Nat.le_of_ble_eq_true rfl) ?_
        refine zr_aload X w19.1 dX8_wordTells_24 rfl ?_
        cases hr26 : w19.1 with
        | none =>
          rw [hr26, gg_opt_none] at hs
          refine tt_ifnullN (tgt := 41) X dX8_wordTells_26 (by decide) ?_
          refine tt_drop [0, 1, 2, 3] ?_
          exact t_41 b0 x1 x2 x3 w19.2 hs
        | some b26 =>
          rw [hr26, gg_opt_some] at hs
          refine tt_ifnull X dX8_wordTells_26 ?_
          refine tt_aload X dX8_wordTells_29 rfl ?_
          refine tt_iload_n X dX8_wordTells_31 rfl ?_
          obtain ⟨o32, f32, hs⟩ := gg_bind hs
          obtain ⟨w32, e32, hs⟩ := gg_bind hs
          refine zr_callV X f32 rfl (c_X2_hasWord l e32) (fun hts => cwV 1 hts gX8_wordTells_X2_hasWord rfl rfl rfl (by decide +kernel) ⟨by decide, by decide⟩) rfl rfl (Nat.le_of_ble_eq_true rfl) dX8_wordTells_32 ⟨Nat.zero_le _, Nat.zero_le _⟩ ?_
          refine tt_if_eq (tgt := 41) X dX8_wordTells_35 (by decide) (fun c35 => ?_) (fun c35 => ?_)
          · rw [if_pos c35] at hs
            refine tt_drop [0, 1, 2, 3] ?_
            exact t_41 b0 x1 x2 x3 w32.2 hs
          · rw [if_neg c35] at hs
            refine tt_iinc (v := x2 + 1) X dX8_wordTells_38 rfl rfl (Nat.le_of_ble_eq_true rfl) ?_
            refine tt_drop [0, 1, 2, 3] ?_
            exact t_41 b0 x1 (x2 + 1) x3 w32.2 hs
  refine tt_aload_n X dX8_wordTells_0 rfl ?_
  refine tt_iconst (v := 1) X dX8_wordTells_1 (by decide) ?_
  obtain ⟨o2, f2, hs⟩ := gg_bind hs
  obtain ⟨w2, e2, hs⟩ := gg_bind hs
  refine zr_callV X f2 rfl (c_X8_leave l e2) (fun hts => cwV 1 hts gX8_wordTells_X8_leave rfl rfl rfl (by decide +kernel) ⟨by decide, by decide⟩) rfl rfl (Nat.le_of_ble_eq_true rfl) dX8_wordTells_2 ⟨Nat.zero_le _, Nat.zero_le _⟩ ?_
  refine tt_iconst (v := 0) X dX8_wordTells_5 (by decide) ?_
  refine tt_istore_n X dX8_wordTells_6 (Nat.le_of_ble_eq_true rfl) ?_
  refine tt_iconst (v := 0) X dX8_wordTells_7 (by decide) ?_
  refine tt_istore_n X dX8_wordTells_8 (Nat.le_of_ble_eq_true rfl) ?_
  refine tt_drop [0, 1, 2, 3] ?_
  exact t_9 1000 b0 x1 0 0 w2.2 hs

def s_X8_denialTells (b0 : Nat) (x1 : Int32) (h : tt_H) : Option (Int32 × tt_H) :=
  (gg_obj h b0 8).bind fun _ =>
  (s_X8_leave b0 2 h).bind fun w2 =>
  (gg_obj w2.2 b0 8).bind fun _ =>
  (s_X8_wordTells b0 x1 w2.2).bind fun w7 =>
  some (w7.1 + 100, w7.2)
abbrev rm_X8_denialTells : Room := { frames := 2, cells := 0, slots := 0, locals := 46 }
set_option maxHeartbeats 4000000 in
set_option maxRecDepth 100000 in
theorem c_X8_denialTells (l : Launch) {b0 : Nat} {x1 : Int32} {h : tt_H} {ρ : Int32 × tt_H} (hs : s_X8_denialTells b0 x1 h = some ρ) : tt_M tt_cl l yX8_denialTells wsX8_denialTells rm_X8_denialTells 0 0 false [.ref b0, .int x1] h (tt_ret (some (.int ρ.1)) ρ.2) := by
  refine tt_M.of0 (cc := cX8_denialTells) (maxL := 2) (ret := (some .int)) (by decide +kernel) rfl (Nat.le_of_ble_eq_true rfl) ?_
  intro p e s m args below meth c D ca ad n0 sz hwf hsz X hini
  unfold s_X8_denialTells at hs
  refine tt_aload_n X dX8_denialTells_0 rfl ?_
  refine tt_iconst (v := 2) X dX8_denialTells_1 (by decide) ?_
  obtain ⟨o2, f2, hs⟩ := gg_bind hs
  obtain ⟨w2, e2, hs⟩ := gg_bind hs
  refine zr_callV X f2 rfl (c_X8_leave l e2) (fun hts => cwV 1 hts gX8_denialTells_X8_leave rfl rfl rfl (by decide +kernel) ⟨by decide, by decide⟩) rfl rfl (Nat.le_of_ble_eq_true rfl) dX8_denialTells_2 ⟨Nat.zero_le _, Nat.zero_le _⟩ ?_
  refine tt_aload_n X dX8_denialTells_5 rfl ?_
  refine tt_iload_n X dX8_denialTells_6 rfl ?_
  obtain ⟨o7, f7, hs⟩ := gg_bind hs
  obtain ⟨w7, e7, hs⟩ := gg_bind hs
  refine zr_callV X f7 rfl (c_X8_wordTells l e7) (fun hts => cwV 1 hts gX8_denialTells_X8_wordTells rfl rfl rfl (by decide +kernel) ⟨by decide, by decide⟩) rfl rfl (Nat.le_of_ble_eq_true rfl) dX8_denialTells_7 ⟨Nat.zero_le _, Nat.zero_le _⟩ ?_
  refine tt_bipush (v := 100) X dX8_denialTells_10 (by decide) ?_
  refine tt_iadd X dX8_denialTells_12 ?_
  obtain rfl := Option.some.inj hs
  exact tt_iret X rfl dX8_denialTells_13 ⟨rfl, rfl⟩

def s_X8_doubtSings (b0 : Nat) (h : tt_H) : Option (Int32 × tt_H) :=
  (gg_obj h b0 8).bind fun _ =>
  (s_X8_leave b0 5 h).bind fun w2 =>
  some (40, w2.2)
abbrev rm_X8_doubtSings : Room := { frames := 1, cells := 0, slots := 0, locals := 21 }
set_option maxHeartbeats 4000000 in
set_option maxRecDepth 100000 in
theorem c_X8_doubtSings (l : Launch) {b0 : Nat} {h : tt_H} {ρ : Int32 × tt_H} (hs : s_X8_doubtSings b0 h = some ρ) : tt_M tt_cl l yX8_doubtSings wsX8_doubtSings rm_X8_doubtSings 0 0 false [.ref b0] h (tt_ret (some (.int ρ.1)) ρ.2) := by
  refine tt_M.of0 (cc := cX8_doubtSings) (maxL := 1) (ret := (some .int)) (by decide +kernel) rfl (Nat.le_of_ble_eq_true rfl) ?_
  intro p e s m args below meth c D ca ad n0 sz hwf hsz X hini
  unfold s_X8_doubtSings at hs
  refine tt_aload_n X dX8_doubtSings_0 rfl ?_
  refine tt_iconst (v := 5) X dX8_doubtSings_1 (by decide) ?_
  obtain ⟨o2, f2, hs⟩ := gg_bind hs
  obtain ⟨w2, e2, hs⟩ := gg_bind hs
  refine zr_callV X f2 rfl (c_X8_leave l e2) (fun hts => cwV 1 hts gX8_doubtSings_X8_leave rfl rfl rfl (by decide +kernel) ⟨by decide, by decide⟩) rfl rfl (Nat.le_of_ble_eq_true rfl) dX8_doubtSings_2 ⟨Nat.zero_le _, Nat.zero_le _⟩ ?_
  refine tt_bipush (v := 40) X dX8_doubtSings_5 (by decide) ?_
  obtain rfl := Option.some.inj hs
  exact tt_iret X rfl dX8_doubtSings_7 ⟨rfl, rfl⟩
