def s_X8_isWord (x0 : Int32) (h : tt_H) : Option (Int32 × tt_H) :=
  if x0 < 0 then
    some (0, h)
  else
  if 8 ≤ x0 then
    some (0, h)
  else
  some (1, h)
abbrev rm_X8_isWord : Room := { frames := 0, cells := 0, slots := 0, locals := 0 }
set_option maxHeartbeats 4000000 in
set_option maxRecDepth 100000 in
theorem c_X8_isWord (l : Launch) {x0 : Int32} {h : tt_H} {ρ : Int32 × tt_H} (hs : s_X8_isWord x0 h = some ρ) : tt_M tt_cl l yX8_isWord wsX8_isWord rm_X8_isWord 0 0 false [.int x0] h (tt_ret (some (.int ρ.1)) ρ.2) := by
  refine tt_M.of0 (cc := cX8_isWord) (maxL := 1) (ret := (some .boolean)) (by decide +kernel) rfl (Nat.le_of_ble_eq_true rfl) ?_
  intro p e s m args below meth c D ca ad n0 sz hwf hsz X hini
  unfold s_X8_isWord at hs
  refine tt_iload_n X dX8_isWord_0 rfl ?_
  refine tt_if_lt (tgt := 14) X dX8_isWord_1 (by decide) (fun c1 => ?_) (fun c1 => ?_)
  · rw [if_pos c1] at hs
    refine tt_iconst (v := 0) X dX8_isWord_14 (by decide) ?_
    obtain rfl := Option.some.inj hs
    exact tt_zret X rfl rfl dX8_isWord_15 ⟨rfl, rfl⟩
  · rw [if_neg c1] at hs
    refine tt_iload_n X dX8_isWord_4 rfl ?_
    refine tt_bipush (v := 8) X dX8_isWord_5 (by decide) ?_
    refine tt_icmp_ge (tgt := 14) X dX8_isWord_7 (by decide) (fun c7 => ?_) (fun c7 => ?_)
    · rw [if_pos c7] at hs
      refine tt_iconst (v := 0) X dX8_isWord_14 (by decide) ?_
      obtain rfl := Option.some.inj hs
      exact tt_zret X rfl rfl dX8_isWord_15 ⟨rfl, rfl⟩
    · rw [if_neg c7] at hs
      refine tt_iconst (v := 1) X dX8_isWord_10 (by decide) ?_
      refine tt_goto (tgt := 15) X dX8_isWord_11 (by decide) ?_
      obtain rfl := Option.some.inj hs
      exact tt_zret X rfl rfl dX8_isWord_15 ⟨rfl, rfl⟩

def s_X8_isKind (x0 : Int32) (h : tt_H) : Option (Int32 × tt_H) :=
  if x0 < 0 then
    some (0, h)
  else
  if 3 ≤ x0 then
    some (0, h)
  else
  some (1, h)
abbrev rm_X8_isKind : Room := { frames := 0, cells := 0, slots := 0, locals := 0 }
set_option maxHeartbeats 4000000 in
set_option maxRecDepth 100000 in
theorem c_X8_isKind (l : Launch) {x0 : Int32} {h : tt_H} {ρ : Int32 × tt_H} (hs : s_X8_isKind x0 h = some ρ) : tt_M tt_cl l yX8_isKind wsX8_isKind rm_X8_isKind 0 0 false [.int x0] h (tt_ret (some (.int ρ.1)) ρ.2) := by
  refine tt_M.of0 (cc := cX8_isKind) (maxL := 1) (ret := (some .boolean)) (by decide +kernel) rfl (Nat.le_of_ble_eq_true rfl) ?_
  intro p e s m args below meth c D ca ad n0 sz hwf hsz X hini
  unfold s_X8_isKind at hs
  refine tt_iload_n X dX8_isKind_0 rfl ?_
  refine tt_if_lt (tgt := 13) X dX8_isKind_1 (by decide) (fun c1 => ?_) (fun c1 => ?_)
  · rw [if_pos c1] at hs
    refine tt_iconst (v := 0) X dX8_isKind_13 (by decide) ?_
    obtain rfl := Option.some.inj hs
    exact tt_zret X rfl rfl dX8_isKind_14 ⟨rfl, rfl⟩
  · rw [if_neg c1] at hs
    refine tt_iload_n X dX8_isKind_4 rfl ?_
    refine tt_iconst (v := 3) X dX8_isKind_5 (by decide) ?_
    refine tt_icmp_ge (tgt := 13) X dX8_isKind_6 (by decide) (fun c6 => ?_) (fun c6 => ?_)
    · rw [if_pos c6] at hs
      refine tt_iconst (v := 0) X dX8_isKind_13 (by decide) ?_
      obtain rfl := Option.some.inj hs
      exact tt_zret X rfl rfl dX8_isKind_14 ⟨rfl, rfl⟩
    · rw [if_neg c6] at hs
      refine tt_iconst (v := 1) X dX8_isKind_9 (by decide) ?_
      refine tt_goto (tgt := 14) X dX8_isKind_10 (by decide) ?_
      obtain rfl := Option.some.inj hs
      exact tt_zret X rfl rfl dX8_isKind_14 ⟨rfl, rfl⟩

theorem in_X8_kind_X8 : ∀ w ∈ u_ws RX8 TX8 13, w ∈ wsX8_kind := by decide +kernel
def s_X8_kind (b0 : Nat) (x1 : Int32) (x2 : Int32) (h : tt_H) : Option (Int32 × tt_H) :=
  (s_X8_isWord x1 h).bind fun w1 =>
  if w1.1 = 0 then
    some ((-1), w1.2)
  else
  (s_X8_isKind x2 w1.2).bind fun w10 =>
  if w10.1 = 0 then
    some ((-2), w10.2)
  else
  (gg_fr w10.2 b0 8 0).bind fun o20 =>
  (gg_il w10.2 o20 x1).bind fun z24 =>
  (gg_fr w10.2 b0 8 0).bind fun o27 =>
  (gg_is w10.2 o27 x1 x2).bind fun h32 =>
  some (z24, h32)
abbrev rm_X8_kind : Room := { frames := 1, cells := 0, slots := 0, locals := 20 }
set_option maxHeartbeats 4000000 in
set_option maxRecDepth 100000 in
theorem c_X8_kind (l : Launch) {b0 : Nat} {x1 : Int32} {x2 : Int32} {h : tt_H} {ρ : Int32 × tt_H} (hs : s_X8_kind b0 x1 x2 h = some ρ) : tt_M tt_cl l yX8_kind wsX8_kind rm_X8_kind 0 0 false [.ref b0, .int x1, .int x2] h (tt_ret (some (.int ρ.1)) ρ.2) := by
  refine tt_M.of0 (cc := cX8_kind) (maxL := 4) (ret := (some .int)) (by decide +kernel) rfl (Nat.le_of_ble_eq_true rfl) ?_
  intro p e s m args below meth c D ca ad n0 sz hwf hsz X hini
  unfold s_X8_kind at hs
  refine tt_iload_n X dX8_kind_0 rfl ?_
  obtain ⟨w1, e1, hs⟩ := gg_bind hs
  refine zr_callS X (c_X8_isWord l e1) (fun hts => va_cwS 1 hts gX8_kind_X8_isWord rfl rfl rfl (by decide +kernel) ⟨by decide, by decide⟩) rfl rfl (Nat.le_of_ble_eq_true rfl) dX8_kind_1 ⟨Nat.zero_le _, Nat.zero_le _⟩ ?_
  refine tt_if_ne (tgt := 9) X dX8_kind_4 (by decide) (fun c4 => ?_) (fun c4 => ?_)
  · rw [if_neg c4] at hs
    refine tt_iload_n X dX8_kind_9 rfl ?_
    obtain ⟨w10, e10, hs⟩ := gg_bind hs
    refine zr_callS X (c_X8_isKind l e10) (fun hts => va_cwS 1 hts gX8_kind_X8_isKind rfl rfl rfl (by decide +kernel) ⟨by decide, by decide⟩) rfl rfl (Nat.le_of_ble_eq_true rfl) dX8_kind_10 ⟨Nat.zero_le _, Nat.zero_le _⟩ ?_
    refine tt_if_ne (tgt := 19) X dX8_kind_13 (by decide) (fun c13 => ?_) (fun c13 => ?_)
    · rw [if_neg c13] at hs
      refine tt_aload_n X dX8_kind_19 rfl ?_
      obtain ⟨o20, e20, hs⟩ := gg_bind hs
      refine zr_fr X e20 rfl in_X8_kind_X8 (by decide) (by decide +kernel) rfl dX8_kind_20 ?_
      refine tt_iload_n X dX8_kind_23 rfl ?_
      obtain ⟨z24, e24, hs⟩ := gg_bind hs
      refine zr_il X e24 dX8_kind_24 ?_
      refine tt_istore_n X dX8_kind_25 (Nat.le_of_ble_eq_true rfl) ?_
      refine tt_aload_n X dX8_kind_26 rfl ?_
      obtain ⟨o27, e27, hs⟩ := gg_bind hs
      refine zr_fr X e27 rfl in_X8_kind_X8 (by decide) (by decide +kernel) rfl dX8_kind_27 ?_
      refine tt_iload_n X dX8_kind_30 rfl ?_
      refine tt_iload_n X dX8_kind_31 rfl ?_
      obtain ⟨h32, e32, hs⟩ := gg_bind hs
      refine zr_is X e32 dX8_kind_32 ?_
      refine tt_iload_n X dX8_kind_33 rfl ?_
      obtain rfl := Option.some.inj hs
      exact tt_iret X rfl dX8_kind_34 ⟨rfl, rfl⟩
    · rw [if_pos c13] at hs
      refine tt_bipush (v := (-2)) X dX8_kind_16 (by decide) ?_
      obtain rfl := Option.some.inj hs
      exact tt_iret X rfl dX8_kind_18 ⟨rfl, rfl⟩
  · rw [if_pos c4] at hs
    refine tt_iconst (v := (-1)) X dX8_kind_7 (by decide) ?_
    obtain rfl := Option.some.inj hs
    exact tt_iret X rfl dX8_kind_8 ⟨rfl, rfl⟩

theorem in_X8_sheetOf_X8 : ∀ w ∈ u_ws RX8 TX8 13, w ∈ wsX8_sheetOf := by decide +kernel
def s_X8_sheetOf (b0 : Nat) (x1 : Int32) (h : tt_H) : Option (Option Nat × tt_H) :=
  if x1 < 0 then
    some (none, h)
  else
  if 4 ≤ x1 then
    some (none, h)
  else
  (gg_fr h b0 8 2).bind fun o10 =>
  (gg_ql 4 h o10 x1).bind fun o14 =>
  some ((some o14), h)
abbrev rm_X8_sheetOf : Room := { frames := 0, cells := 0, slots := 0, locals := 0 }
set_option maxHeartbeats 4000000 in
set_option maxRecDepth 100000 in
theorem c_X8_sheetOf (l : Launch) {b0 : Nat} {x1 : Int32} {h : tt_H} {ρ : Option Nat × tt_H} (hs : s_X8_sheetOf b0 x1 h = some ρ) : tt_M tt_cl l yX8_sheetOf wsX8_sheetOf rm_X8_sheetOf 0 0 false [.ref b0, .int x1] h (tt_ret (some (va_rf ρ.1)) ρ.2) := by
  refine tt_M.of0 (cc := cX8_sheetOf) (maxL := 2) (ret := (some (.object "AddedCries$Sheet"))) (by decide +kernel) rfl (Nat.le_of_ble_eq_true rfl) ?_
  intro p e s m args below meth c D ca ad n0 sz hwf hsz X hini
  unfold s_X8_sheetOf at hs
  refine tt_iload_n X dX8_sheetOf_0 rfl ?_
  refine tt_if_lt (tgt := 18) X dX8_sheetOf_1 (by decide) (fun c1 => ?_) (fun c1 => ?_)
  · rw [if_pos c1] at hs
    refine tt_null X dX8_sheetOf_18 ?_
    obtain rfl := Option.some.inj hs
    exact tt_aret X (tt_rf_or none) rfl dX8_sheetOf_19 ⟨rfl, rfl⟩
  · rw [if_neg c1] at hs
    refine tt_iload_n X dX8_sheetOf_4 rfl ?_
    refine tt_iconst (v := 4) X dX8_sheetOf_5 (by decide) ?_
    refine tt_icmp_ge (tgt := 18) X dX8_sheetOf_6 (by decide) (fun c6 => ?_) (fun c6 => ?_)
    · rw [if_pos c6] at hs
      refine tt_null X dX8_sheetOf_18 ?_
      obtain rfl := Option.some.inj hs
      exact tt_aret X (tt_rf_or none) rfl dX8_sheetOf_19 ⟨rfl, rfl⟩
    · rw [if_neg c6] at hs
      refine tt_aload_n X dX8_sheetOf_9 rfl ?_
      obtain ⟨o10, e10, hs⟩ := gg_bind hs
      refine zr_fr X e10 rfl in_X8_sheetOf_X8 (by decide) (by decide +kernel) rfl dX8_sheetOf_10 ?_
      refine tt_iload_n X dX8_sheetOf_13 rfl ?_
      obtain ⟨o14, e14, hs⟩ := gg_bind hs
      refine zr_ql X e14 rfl dX8_sheetOf_14 ?_
      refine tt_goto (tgt := 19) X dX8_sheetOf_15 (by decide) ?_
      obtain rfl := Option.some.inj hs
      exact tt_aret X (tt_rf_or (some o14)) rfl dX8_sheetOf_19 ⟨rfl, rfl⟩

def s_X8_isSort (x0 : Int32) (h : tt_H) : Option (Int32 × tt_H) :=
  if x0 < 0 then
    some (0, h)
  else
  if 3 ≤ x0 then
    some (0, h)
  else
  some (1, h)
abbrev rm_X8_isSort : Room := { frames := 0, cells := 0, slots := 0, locals := 0 }
set_option maxHeartbeats 4000000 in
set_option maxRecDepth 100000 in
theorem c_X8_isSort (l : Launch) {x0 : Int32} {h : tt_H} {ρ : Int32 × tt_H} (hs : s_X8_isSort x0 h = some ρ) : tt_M tt_cl l yX8_isSort wsX8_isSort rm_X8_isSort 0 0 false [.int x0] h (tt_ret (some (.int ρ.1)) ρ.2) := by
  refine tt_M.of0 (cc := cX8_isSort) (maxL := 1) (ret := (some .boolean)) (by decide +kernel) rfl (Nat.le_of_ble_eq_true rfl) ?_
  intro p e s m args below meth c D ca ad n0 sz hwf hsz X hini
  unfold s_X8_isSort at hs
  refine tt_iload_n X dX8_isSort_0 rfl ?_
  refine tt_if_lt (tgt := 13) X dX8_isSort_1 (by decide) (fun c1 => ?_) (fun c1 => ?_)
  · rw [if_pos c1] at hs
    refine tt_iconst (v := 0) X dX8_isSort_13 (by decide) ?_
    obtain rfl := Option.some.inj hs
    exact tt_zret X rfl rfl dX8_isSort_14 ⟨rfl, rfl⟩
  · rw [if_neg c1] at hs
    refine tt_iload_n X dX8_isSort_4 rfl ?_
    refine tt_iconst (v := 3) X dX8_isSort_5 (by decide) ?_
    refine tt_icmp_ge (tgt := 13) X dX8_isSort_6 (by decide) (fun c6 => ?_) (fun c6 => ?_)
    · rw [if_pos c6] at hs
      refine tt_iconst (v := 0) X dX8_isSort_13 (by decide) ?_
      obtain rfl := Option.some.inj hs
      exact tt_zret X rfl rfl dX8_isSort_14 ⟨rfl, rfl⟩
    · rw [if_neg c6] at hs
      refine tt_iconst (v := 1) X dX8_isSort_9 (by decide) ?_
      refine tt_goto (tgt := 14) X dX8_isSort_10 (by decide) ?_
      obtain rfl := Option.some.inj hs
      exact tt_zret X rfl rfl dX8_isSort_14 ⟨rfl, rfl⟩

theorem in_X8_fails_X8 : ∀ w ∈ u_ws RX8 TX8 13, w ∈ wsX8_fails := by decide +kernel
def s_X8_fails (b0 : Nat) (x1 : Int32) (h : tt_H) : Option (Int32 × tt_H) :=
  (gg_put h b0 8 12 (.int x1)).bind fun h2 =>
  some (((-10)) - x1, h2)
abbrev rm_X8_fails : Room := { frames := 0, cells := 0, slots := 0, locals := 0 }
set_option maxHeartbeats 4000000 in
set_option maxRecDepth 100000 in
theorem c_X8_fails (l : Launch) {b0 : Nat} {x1 : Int32} {h : tt_H} {ρ : Int32 × tt_H} (hs : s_X8_fails b0 x1 h = some ρ) : tt_M tt_cl l yX8_fails wsX8_fails rm_X8_fails 0 0 false [.ref b0, .int x1] h (tt_ret (some (.int ρ.1)) ρ.2) := by
  refine tt_M.of0 (cc := cX8_fails) (maxL := 2) (ret := (some .int)) (by decide +kernel) rfl (Nat.le_of_ble_eq_true rfl) ?_
  intro p e s m args below meth c D ca ad n0 sz hwf hsz X hini
  unfold s_X8_fails at hs
  refine tt_aload_n X dX8_fails_0 rfl ?_
  refine tt_iload_n X dX8_fails_1 rfl ?_
  obtain ⟨h2, e2, hs⟩ := gg_bind hs
  refine zr_put X e2 rfl in_X8_fails_X8 tyX8 tyX8_ok nmX8 (by decide) (by decide +kernel) rfl rfl (fun _ => rfl) (fun _ => rfl) dX8_fails_2 ?_
  refine tt_bipush (v := (-10)) X dX8_fails_5 (by decide) ?_
  refine tt_iload_n X dX8_fails_7 rfl ?_
  refine tt_isub X dX8_fails_8 ?_
  obtain rfl := Option.some.inj hs
  exact tt_iret X rfl dX8_fails_9 ⟨rfl, rfl⟩

theorem in_X8_sheet_X8 : ∀ w ∈ u_ws RX8 TX8 13, w ∈ wsX8_sheet := by decide +kernel
def s_X8_sheet (b0 : Nat) (x1 : Int32) (x2 : Int32) (x3 : Int32) (h : tt_H) : Option (Int32 × tt_H) :=
  (gg_put h b0 8 12 (.int 0)).bind fun h2 =>
  (gg_obj h2 b0 8).bind fun _ =>
  (s_X8_sheetOf b0 x1 h2).bind fun w7 =>
  gg_opt w7.1 (
    some ((-1), w7.2)
  ) fun b14 =>
  (s_X8_isSort x2 w7.2).bind fun w20 =>
  if w20.1 = 0 then
    some ((-2), w20.2)
  else
  if x3 ≤ 80 then
    if 0 ≤ x3 then
      (gg_obj w20.2 b14 6).bind fun _ =>
      (s_X6_renew b14 x2 x3 w20.2).bind fun w49 =>
      some (1, w49.2)
    else
    (gg_obj w20.2 b0 8).bind fun _ =>
    (s_X8_fails b0 4 w20.2).bind fun w41 =>
    some (w41.1, w41.2)
  else
  some ((-2), w20.2)
abbrev rm_X8_sheet : Room := { frames := 2, cells := 0, slots := 0, locals := 45 }
set_option maxHeartbeats 4000000 in
set_option maxRecDepth 100000 in
theorem c_X8_sheet (l : Launch) {b0 : Nat} {x1 : Int32} {x2 : Int32} {x3 : Int32} {h : tt_H} {ρ : Int32 × tt_H} (hs : s_X8_sheet b0 x1 x2 x3 h = some ρ) : tt_M tt_cl l yX8_sheet wsX8_sheet rm_X8_sheet 0 0 false [.ref b0, .int x1, .int x2, .int x3] h (tt_ret (some (.int ρ.1)) ρ.2) := by
  refine tt_M.of0 (cc := cX8_sheet) (maxL := 5) (ret := (some .int)) (by decide +kernel) rfl (Nat.le_of_ble_eq_true rfl) ?_
  intro p e s m args below meth c D ca ad n0 sz hwf hsz X hini
  unfold s_X8_sheet at hs
  refine tt_aload_n X dX8_sheet_0 rfl ?_
  refine tt_iconst (v := 0) X dX8_sheet_1 (by decide) ?_
  obtain ⟨h2, e2, hs⟩ := gg_bind hs
  refine zr_put X e2 rfl in_X8_sheet_X8 tyX8 tyX8_ok nmX8 (by decide) (by decide +kernel) rfl rfl (fun _ => rfl) (fun _ => rfl) dX8_sheet_2 ?_
  refine tt_aload_n X dX8_sheet_5 rfl ?_
  refine tt_iload_n X dX8_sheet_6 rfl ?_
  obtain ⟨o7, f7, hs⟩ := gg_bind hs
  obtain ⟨w7, e7, hs⟩ := gg_bind hs
  refine zr_callV X f7 rfl (c_X8_sheetOf l e7) (fun hts => cwV 1 hts gX8_sheet_X8_sheetOf rfl rfl rfl (by decide +kernel) ⟨by decide, by decide⟩) rfl rfl (Nat.le_of_ble_eq_true rfl) dX8_sheet_7 ⟨Nat.zero_le _, Nat.zero_le _⟩ ?_
  refine zr_astore X w7.1 dX8_sheet_10 (Nat.le_of_ble_eq_true rfl) ?_
  refine zr_aload X w7.1 dX8_sheet_12 rfl ?_
  cases hr14 : w7.1 with
  | none =>
    rw [hr14, gg_opt_none] at hs
    refine tt_ifnonnullN X dX8_sheet_14 ?_
    refine tt_iconst (v := (-1)) X dX8_sheet_17 (by decide) ?_
    obtain rfl := Option.some.inj hs
    exact tt_iret X rfl dX8_sheet_18 ⟨rfl, rfl⟩
  | some b14 =>
    rw [hr14, gg_opt_some] at hs
    refine tt_ifnonnull (tgt := 19) X dX8_sheet_14 (by decide) ?_
    refine tt_iload_n X dX8_sheet_19 rfl ?_
    obtain ⟨w20, e20, hs⟩ := gg_bind hs
    refine zr_callS X (c_X8_isSort l e20) (fun hts => va_cwS 1 hts gX8_sheet_X8_isSort rfl rfl rfl (by decide +kernel) ⟨by decide, by decide⟩) rfl rfl (Nat.le_of_ble_eq_true rfl) dX8_sheet_20 ⟨Nat.zero_le _, Nat.zero_le _⟩ ?_
    refine tt_if_eq (tgt := 32) X dX8_sheet_23 (by decide) (fun c23 => ?_) (fun c23 => ?_)
    · rw [if_pos c23] at hs
      refine tt_bipush (v := (-2)) X dX8_sheet_32 (by decide) ?_
      obtain rfl := Option.some.inj hs
      exact tt_iret X rfl dX8_sheet_34 ⟨rfl, rfl⟩
    · rw [if_neg c23] at hs
      refine tt_iload_n X dX8_sheet_26 rfl ?_
      refine tt_bipush (v := 80) X dX8_sheet_27 (by decide) ?_
      refine tt_icmp_le (tgt := 35) X dX8_sheet_29 (by decide) (fun c29 => ?_) (fun c29 => ?_)
      · rw [if_pos c29] at hs
        refine tt_iload_n X dX8_sheet_35 rfl ?_
        refine tt_if_ge (tgt := 45) X dX8_sheet_36 (by decide) (fun c36 => ?_) (fun c36 => ?_)
        · rw [if_pos c36] at hs
          refine tt_aload X dX8_sheet_45 rfl ?_
          refine tt_iload_n X dX8_sheet_47 rfl ?_
          refine tt_iload_n X dX8_sheet_48 rfl ?_
          obtain ⟨o49, f49, hs⟩ := gg_bind hs
          obtain ⟨w49, e49, hs⟩ := gg_bind hs
          refine zr_callV X f49 rfl (c_X6_renew l e49) (fun hts => cwV 2 hts gX8_sheet_X6_renew rfl rfl rfl (by decide +kernel) ⟨by decide, by decide⟩) rfl rfl (Nat.le_of_ble_eq_true rfl) dX8_sheet_49 ⟨Nat.zero_le _, Nat.zero_le _⟩ ?_
          refine tt_iconst (v := 1) X dX8_sheet_52 (by decide) ?_
          obtain rfl := Option.some.inj hs
          exact tt_iret X rfl dX8_sheet_53 ⟨rfl, rfl⟩
        · rw [if_neg c36] at hs
          refine tt_aload_n X dX8_sheet_39 rfl ?_
          refine tt_iconst (v := 4) X dX8_sheet_40 (by decide) ?_
          obtain ⟨o41, f41, hs⟩ := gg_bind hs
          obtain ⟨w41, e41, hs⟩ := gg_bind hs
          refine zr_callV X f41 rfl (c_X8_fails l e41) (fun hts => cwV 1 hts gX8_sheet_X8_fails rfl rfl rfl (by decide +kernel) ⟨by decide, by decide⟩) rfl rfl (Nat.le_of_ble_eq_true rfl) dX8_sheet_41 ⟨Nat.zero_le _, Nat.zero_le _⟩ ?_
          obtain rfl := Option.some.inj hs
          exact tt_iret X rfl dX8_sheet_44 ⟨rfl, rfl⟩
      · rw [if_neg c29] at hs
        refine tt_bipush (v := (-2)) X dX8_sheet_32 (by decide) ?_
        obtain rfl := Option.some.inj hs
        exact tt_iret X rfl dX8_sheet_34 ⟨rfl, rfl⟩

theorem in_X8_put_X8 : ∀ w ∈ u_ws RX8 TX8 13, w ∈ wsX8_put := by decide +kernel
def s_X8_put (b0 : Nat) (x1 : Int32) (x2 : Int32) (x3 : Int32) (h : tt_H) : Option (Int32 × tt_H) :=
  (gg_put h b0 8 12 (.int 0)).bind fun h2 =>
  (gg_obj h2 b0 8).bind fun _ =>
  (s_X8_sheetOf b0 x1 h2).bind fun w7 =>
  gg_opt w7.1 (
    some ((-1), w7.2)
  ) fun b14 =>
  (gg_obj w7.2 b14 6).bind fun _ =>
  (s_X6_isNothing b14 w7.2).bind fun w21 =>
  if w21.1 = 0 then
    (gg_obj w21.2 b14 6).bind fun _ =>
    (s_X6_hasCells b14 x2 1 w21.2).bind fun w37 =>
    if w37.1 = 0 then
      (gg_obj w37.2 b0 8).bind fun _ =>
      (s_X8_fails b0 3 w37.2).bind fun w45 =>
      some (w45.1, w45.2)
    else
    (gg_obj w37.2 b14 6).bind fun _ =>
    (s_X6_write b14 x2 x3 w37.2).bind fun w53 =>
    some (1, w53.2)
  else
  (gg_obj w21.2 b0 8).bind fun _ =>
  (s_X8_fails b0 1 w21.2).bind fun w29 =>
  some (w29.1, w29.2)
abbrev rm_X8_put : Room := { frames := 2, cells := 0, slots := 0, locals := 44 }
set_option maxHeartbeats 4000000 in
set_option maxRecDepth 100000 in
theorem c_X8_put (l : Launch) {b0 : Nat} {x1 : Int32} {x2 : Int32} {x3 : Int32} {h : tt_H} {ρ : Int32 × tt_H} (hs : s_X8_put b0 x1 x2 x3 h = some ρ) : tt_M tt_cl l yX8_put wsX8_put rm_X8_put 0 0 false [.ref b0, .int x1, .int x2, .int x3] h (tt_ret (some (.int ρ.1)) ρ.2) := by
  refine tt_M.of0 (cc := cX8_put) (maxL := 5) (ret := (some .int)) (by decide +kernel) rfl (Nat.le_of_ble_eq_true rfl) ?_
  intro p e s m args below meth c D ca ad n0 sz hwf hsz X hini
  unfold s_X8_put at hs
  refine tt_aload_n X dX8_put_0 rfl ?_
  refine tt_iconst (v := 0) X dX8_put_1 (by decide) ?_
  obtain ⟨h2, e2, hs⟩ := gg_bind hs
  refine zr_put X e2 rfl in_X8_put_X8 tyX8 tyX8_ok nmX8 (by decide) (by decide +kernel) rfl rfl (fun _ => rfl) (fun _ => rfl) dX8_put_2 ?_
  refine tt_aload_n X dX8_put_5 rfl ?_
  refine tt_iload_n X dX8_put_6 rfl ?_
  obtain ⟨o7, f7, hs⟩ := gg_bind hs
  obtain ⟨w7, e7, hs⟩ := gg_bind hs
  refine zr_callV X f7 rfl (c_X8_sheetOf l e7) (fun hts => cwV 1 hts gX8_put_X8_sheetOf rfl rfl rfl (by decide +kernel) ⟨by decide, by decide⟩) rfl rfl (Nat.le_of_ble_eq_true rfl) dX8_put_7 ⟨Nat.zero_le _, Nat.zero_le _⟩ ?_
  refine zr_astore X w7.1 dX8_put_10 (Nat.le_of_ble_eq_true rfl) ?_
  refine zr_aload X w7.1 dX8_put_12 rfl ?_
  cases hr14 : w7.1 with
  | none =>
    rw [hr14, gg_opt_none] at hs
    refine tt_ifnonnullN X dX8_put_14 ?_
    refine tt_iconst (v := (-1)) X dX8_put_17 (by decide) ?_
    obtain rfl := Option.some.inj hs
    exact tt_iret X rfl dX8_put_18 ⟨rfl, rfl⟩
  | some b14 =>
    rw [hr14, gg_opt_some] at hs
    refine tt_ifnonnull (tgt := 19) X dX8_put_14 (by decide) ?_
    refine tt_aload X dX8_put_19 rfl ?_
    obtain ⟨o21, f21, hs⟩ := gg_bind hs
    obtain ⟨w21, e21, hs⟩ := gg_bind hs
    refine zr_callV X f21 rfl (c_X6_isNothing l e21) (fun hts => cwV 0 hts gX8_put_X6_isNothing rfl rfl rfl (by decide +kernel) ⟨by decide, by decide⟩) rfl rfl (Nat.le_of_ble_eq_true rfl) dX8_put_21 ⟨Nat.zero_le _, Nat.zero_le _⟩ ?_
    refine tt_if_eq (tgt := 33) X dX8_put_24 (by decide) (fun c24 => ?_) (fun c24 => ?_)
    · rw [if_pos c24] at hs
      refine tt_aload X dX8_put_33 rfl ?_
      refine tt_iload_n X dX8_put_35 rfl ?_
      refine tt_iconst (v := 1) X dX8_put_36 (by decide) ?_
      obtain ⟨o37, f37, hs⟩ := gg_bind hs
      obtain ⟨w37, e37, hs⟩ := gg_bind hs
      refine zr_callV X f37 rfl (c_X6_hasCells l e37) (fun hts => cwV 2 hts gX8_put_X6_hasCells rfl rfl rfl (by decide +kernel) ⟨by decide, by decide⟩) rfl rfl (Nat.le_of_ble_eq_true rfl) dX8_put_37 ⟨Nat.zero_le _, Nat.zero_le _⟩ ?_
      refine tt_if_ne (tgt := 49) X dX8_put_40 (by decide) (fun c40 => ?_) (fun c40 => ?_)
      · rw [if_neg c40] at hs
        refine tt_aload X dX8_put_49 rfl ?_
        refine tt_iload_n X dX8_put_51 rfl ?_
        refine tt_iload_n X dX8_put_52 rfl ?_
        obtain ⟨o53, f53, hs⟩ := gg_bind hs
        obtain ⟨w53, e53, hs⟩ := gg_bind hs
        refine zr_callV X f53 rfl (c_X6_write l e53) (fun hts => cwV 2 hts gX8_put_X6_write rfl rfl rfl (by decide +kernel) ⟨by decide, by decide⟩) rfl rfl (Nat.le_of_ble_eq_true rfl) dX8_put_53 ⟨Nat.zero_le _, Nat.zero_le _⟩ ?_
        refine tt_iconst (v := 1) X dX8_put_56 (by decide) ?_
        obtain rfl := Option.some.inj hs
        exact tt_iret X rfl dX8_put_57 ⟨rfl, rfl⟩
      · rw [if_pos c40] at hs
        refine tt_aload_n X dX8_put_43 rfl ?_
        refine tt_iconst (v := 3) X dX8_put_44 (by decide) ?_
        obtain ⟨o45, f45, hs⟩ := gg_bind hs
        obtain ⟨w45, e45, hs⟩ := gg_bind hs
        refine zr_callV X f45 rfl (c_X8_fails l e45) (fun hts => cwV 1 hts gX8_put_X8_fails rfl rfl rfl (by decide +kernel) ⟨by decide, by decide⟩) rfl rfl (Nat.le_of_ble_eq_true rfl) dX8_put_45 ⟨Nat.zero_le _, Nat.zero_le _⟩ ?_
        obtain rfl := Option.some.inj hs
        exact tt_iret X rfl dX8_put_48 ⟨rfl, rfl⟩
    · rw [if_neg c24] at hs
      refine tt_aload_n X dX8_put_27 rfl ?_
      refine tt_iconst (v := 1) X dX8_put_28 (by decide) ?_
      obtain ⟨o29, f29, hs⟩ := gg_bind hs
      obtain ⟨w29, e29, hs⟩ := gg_bind hs
      refine zr_callV X f29 rfl (c_X8_fails l e29) (fun hts => cwV 1 hts gX8_put_X8_fails rfl rfl rfl (by decide +kernel) ⟨by decide, by decide⟩) rfl rfl (Nat.le_of_ble_eq_true rfl) dX8_put_29 ⟨Nat.zero_le _, Nat.zero_le _⟩ ?_
      obtain rfl := Option.some.inj hs
      exact tt_iret X rfl dX8_put_32 ⟨rfl, rfl⟩

def s_X8_readingFault (b0 : Nat) (x1 : Int32) (h : tt_H) : Option (Int32 × tt_H) :=
  (gg_obj h b0 6).bind fun _ =>
  (s_X6_isNothing b0 h).bind fun w1 =>
  if w1.1 = 0 then
    (gg_obj w1.2 b0 6).bind fun _ =>
    (s_X6_sort b0 w1.2).bind fun w10 =>
    if w10.1 = x1 then
      some (0, w10.2)
    else
    some (2, w10.2)
  else
  some (1, w1.2)
abbrev rm_X8_readingFault : Room := { frames := 1, cells := 0, slots := 0, locals := 20 }
set_option maxHeartbeats 4000000 in
set_option maxRecDepth 100000 in
theorem c_X8_readingFault (l : Launch) {b0 : Nat} {x1 : Int32} {h : tt_H} {ρ : Int32 × tt_H} (hs : s_X8_readingFault b0 x1 h = some ρ) : tt_M tt_cl l yX8_readingFault wsX8_readingFault rm_X8_readingFault 0 0 false [.ref b0, .int x1] h (tt_ret (some (.int ρ.1)) ρ.2) := by
  refine tt_M.of0 (cc := cX8_readingFault) (maxL := 2) (ret := (some .int)) (by decide +kernel) rfl (Nat.le_of_ble_eq_true rfl) ?_
  intro p e s m args below meth c D ca ad n0 sz hwf hsz X hini
  unfold s_X8_readingFault at hs
  refine tt_aload_n X dX8_readingFault_0 rfl ?_
  obtain ⟨o1, f1, hs⟩ := gg_bind hs
  obtain ⟨w1, e1, hs⟩ := gg_bind hs
  refine zr_callV X f1 rfl (c_X6_isNothing l e1) (fun hts => cwV 0 hts gX8_readingFault_X6_isNothing rfl rfl rfl (by decide +kernel) ⟨by decide, by decide⟩) rfl rfl (Nat.le_of_ble_eq_true rfl) dX8_readingFault_1 ⟨Nat.zero_le _, Nat.zero_le _⟩ ?_
  refine tt_if_eq (tgt := 9) X dX8_readingFault_4 (by decide) (fun c4 => ?_) (fun c4 => ?_)
  · rw [if_pos c4] at hs
    refine tt_aload_n X dX8_readingFault_9 rfl ?_
    obtain ⟨o10, f10, hs⟩ := gg_bind hs
    obtain ⟨w10, e10, hs⟩ := gg_bind hs
    refine zr_callV X f10 rfl (c_X6_sort l e10) (fun hts => cwV 0 hts gX8_readingFault_X6_sort rfl rfl rfl (by decide +kernel) ⟨by decide, by decide⟩) rfl rfl (Nat.le_of_ble_eq_true rfl) dX8_readingFault_10 ⟨Nat.zero_le _, Nat.zero_le _⟩ ?_
    refine tt_iload_n X dX8_readingFault_13 rfl ?_
    refine tt_icmp_ne (tgt := 21) X dX8_readingFault_14 (by decide) (fun c14 => ?_) (fun c14 => ?_)
    · rw [if_neg c14] at hs
      refine tt_iconst (v := 2) X dX8_readingFault_21 (by decide) ?_
      obtain rfl := Option.some.inj hs
      exact tt_iret X rfl dX8_readingFault_22 ⟨rfl, rfl⟩
    · rw [if_pos c14] at hs
      refine tt_iconst (v := 0) X dX8_readingFault_17 (by decide) ?_
      refine tt_goto (tgt := 22) X dX8_readingFault_18 (by decide) ?_
      obtain rfl := Option.some.inj hs
      exact tt_iret X rfl dX8_readingFault_22 ⟨rfl, rfl⟩
  · rw [if_neg c4] at hs
    refine tt_iconst (v := 1) X dX8_readingFault_7 (by decide) ?_
    obtain rfl := Option.some.inj hs
    exact tt_iret X rfl dX8_readingFault_8 ⟨rfl, rfl⟩

def s_X8_isLetter (x0 : Int32) (h : tt_H) : Option (Int32 × tt_H) :=
  if x0 < 97 then
    some (0, h)
  else
  if 105 ≤ x0 then
    some (0, h)
  else
  some (1, h)
abbrev rm_X8_isLetter : Room := { frames := 0, cells := 0, slots := 0, locals := 0 }
set_option maxHeartbeats 4000000 in
set_option maxRecDepth 100000 in
theorem c_X8_isLetter (l : Launch) {x0 : Int32} {h : tt_H} {ρ : Int32 × tt_H} (hs : s_X8_isLetter x0 h = some ρ) : tt_M tt_cl l yX8_isLetter wsX8_isLetter rm_X8_isLetter 0 0 false [.int x0] h (tt_ret (some (.int ρ.1)) ρ.2) := by
  refine tt_M.of0 (cc := cX8_isLetter) (maxL := 1) (ret := (some .boolean)) (by decide +kernel) rfl (Nat.le_of_ble_eq_true rfl) ?_
  intro p e s m args below meth c D ca ad n0 sz hwf hsz X hini
  unfold s_X8_isLetter at hs
  refine tt_iload_n X dX8_isLetter_0 rfl ?_
  refine tt_bipush (v := 97) X dX8_isLetter_1 (by decide) ?_
  refine tt_icmp_lt (tgt := 16) X dX8_isLetter_3 (by decide) (fun c3 => ?_) (fun c3 => ?_)
  · rw [if_pos c3] at hs
    refine tt_iconst (v := 0) X dX8_isLetter_16 (by decide) ?_
    obtain rfl := Option.some.inj hs
    exact tt_zret X rfl rfl dX8_isLetter_17 ⟨rfl, rfl⟩
  · rw [if_neg c3] at hs
    refine tt_iload_n X dX8_isLetter_6 rfl ?_
    refine tt_bipush (v := 105) X dX8_isLetter_7 (by decide) ?_
    refine tt_icmp_ge (tgt := 16) X dX8_isLetter_9 (by decide) (fun c9 => ?_) (fun c9 => ?_)
    · rw [if_pos c9] at hs
      refine tt_iconst (v := 0) X dX8_isLetter_16 (by decide) ?_
      obtain rfl := Option.some.inj hs
      exact tt_zret X rfl rfl dX8_isLetter_17 ⟨rfl, rfl⟩
    · rw [if_neg c9] at hs
      refine tt_iconst (v := 1) X dX8_isLetter_12 (by decide) ?_
      refine tt_goto (tgt := 17) X dX8_isLetter_13 (by decide) ?_
      obtain rfl := Option.some.inj hs
      exact tt_zret X rfl rfl dX8_isLetter_17 ⟨rfl, rfl⟩

def s_X8_firstFaultOf_J75 (κ8 : Nat → Int32 → Int32 → Int32 → Int32 → Int32 → tt_H → Option (Int32 × tt_H)) (b0 : Nat) (x1 : Int32) (x2 : Int32) (x3 : Int32) (x4 : Int32) (x5 : Int32) (h : tt_H) : Option (Int32 × tt_H) :=
  κ8 b0 x1 x2 x3 x4 (x5 + 1) h
def s_X8_firstFaultOf_J45 (κ75 : Nat → Int32 → Int32 → Int32 → Int32 → Int32 → tt_H → Option (Int32 × tt_H)) (b0 : Nat) (x1 : Int32) (x2 : Int32) (x3 : Int32) (x4 : Int32) (x5 : Int32) (x6 : Int32) (h : tt_H) : Option (Int32 × tt_H) :=
  if x6 = 59 then
    if x4 ≤ 0 then
      some (x5, h)
    else
    if 6 ≤ x3 then
      some (x5, h)
    else
    κ75 b0 x1 x2 (x3 + 1) 0 x5 h
  else
  some (x5, h)
def s_X8_firstFaultOf_L8 : Nat → Nat → Int32 → Int32 → Int32 → Int32 → Int32 → tt_H → Option (Int32 × tt_H)
  | 0, _, _, _, _, _, _, _ => none
  | n + 1, b0, x1, x2, x3, x4, x5, h =>
    if x2 ≤ x5 then
      if x4 = 0 then
        some (x2, h)
      else
      some ((-9), h)
    else
    (gg_obj h b0 6).bind fun _ =>
    (s_X6_at b0 (x1 + x5) h).bind fun w19 =>
    (s_X8_isLetter w19.1 w19.2).bind fun w26 =>
    if w26.1 = 0 then
      s_X8_firstFaultOf_J45 (s_X8_firstFaultOf_J75 (s_X8_firstFaultOf_L8 n)) b0 x1 x2 x3 x4 x5 w19.1 w26.2
    else
    if 12 ≤ x4 then
      s_X8_firstFaultOf_J45 (s_X8_firstFaultOf_J75 (s_X8_firstFaultOf_L8 n)) b0 x1 x2 x3 x4 x5 w19.1 w26.2
    else
    s_X8_firstFaultOf_J75 (s_X8_firstFaultOf_L8 n) b0 x1 x2 x3 (x4 + 1) x5 w26.2
def s_X8_firstFaultOf (b0 : Nat) (x1 : Int32) (x2 : Int32) (h : tt_H) : Option (Int32 × tt_H) :=
  s_X8_firstFaultOf_L8 1000 b0 x1 x2 1 0 0 h
abbrev rm_X8_firstFaultOf : Room := { frames := 2, cells := 0, slots := 0, locals := 43 }
set_option maxHeartbeats 4000000 in
set_option maxRecDepth 100000 in
theorem c_X8_firstFaultOf (l : Launch) {b0 : Nat} {x1 : Int32} {x2 : Int32} {h : tt_H} {ρ : Int32 × tt_H} (hs : s_X8_firstFaultOf b0 x1 x2 h = some ρ) : tt_M tt_cl l yX8_firstFaultOf wsX8_firstFaultOf rm_X8_firstFaultOf 0 0 false [.ref b0, .int x1, .int x2] h (tt_ret (some (.int ρ.1)) ρ.2) := by
  refine tt_M.of0 (cc := cX8_firstFaultOf) (maxL := 7) (ret := (some .int)) (by decide +kernel) rfl (Nat.le_of_ble_eq_true rfl) ?_
  intro p e s m args below meth c D ca ad n0 sz hwf hsz X hini
  unfold s_X8_firstFaultOf at hs
  have t_8 : ∀ (fu : Nat) (b0 : Nat) (x1 : Int32) (x2 : Int32) (x3 : Int32) (x4 : Int32) (x5 : Int32) (h : tt_H), s_X8_firstFaultOf_L8 fu b0 x1 x2 x3 x4 x5 h = some ρ → tt_T tt_cl (p, l, e, rm_X8_firstFaultOf, s, m, args, below, meth, c, MQ below (tt_Q tt_cl D ca ad n0 sz false (tt_ret (some (.int ρ.1)) ρ.2)) args s 0 0 (tt_A ad n0 sz), D, ca, tt_A ad n0 sz, 7, some n0) ad 0 0 8 [(0, .ref b0), (1, .int x1), (2, .int x2), (3, .int x3), (4, .int x4), (5, .int x5)] [] h := by
    intro fu
    induction fu with
    | zero => intro b0 x1 x2 x3 x4 x5 h hs; exact absurd hs (by rw [s_X8_firstFaultOf_L8]; exact fun q => by cases q)
    | succ n8 ih =>
      intro b0 x1 x2 x3 x4 x5 h hs
      rw [s_X8_firstFaultOf_L8] at hs
      have t_8 := ih
      have t_75 : ∀ (b0 : Nat) (x1 : Int32) (x2 : Int32) (x3 : Int32) (x4 : Int32) (x5 : Int32) (h : tt_H), s_X8_firstFaultOf_J75 (s_X8_firstFaultOf_L8 n8) b0 x1 x2 x3 x4 x5 h = some ρ → tt_T tt_cl (p, l, e, rm_X8_firstFaultOf, s, m, args, below, meth, c, MQ below (tt_Q tt_cl D ca ad n0 sz false (tt_ret (some (.int ρ.1)) ρ.2)) args s 0 0 (tt_A ad n0 sz), D, ca, tt_A ad n0 sz, 7, some n0) ad 0 0 75 [(0, .ref b0), (1, .int x1), (2, .int x2), (3, .int x3), (4, .int x4), (5, .int x5)] [] h := by
        intro b0 x1 x2 x3 x4 x5 h hs
        unfold s_X8_firstFaultOf_J75 at hs
        refine tt_iinc (v := x5 + 1) X dX8_firstFaultOf_75 rfl rfl (Nat.le_of_ble_eq_true rfl) ?_
        refine tt_goto (tgt := 8) X dX8_firstFaultOf_78 (by decide) ?_
        refine tt_drop [0, 1, 2, 3, 4, 5] ?_
        exact t_8 b0 x1 x2 x3 x4 (x5 + 1) h hs
      have t_45 : ∀ (b0 : Nat) (x1 : Int32) (x2 : Int32) (x3 : Int32) (x4 : Int32) (x5 : Int32) (x6 : Int32) (h : tt_H), s_X8_firstFaultOf_J45 (s_X8_firstFaultOf_J75 (s_X8_firstFaultOf_L8 n8)) b0 x1 x2 x3 x4 x5 x6 h = some ρ → tt_T tt_cl (p, l, e, rm_X8_firstFaultOf, s, m, args, below, meth, c, MQ below (tt_Q tt_cl D ca ad n0 sz false (tt_ret (some (.int ρ.1)) ρ.2)) args s 0 0 (tt_A ad n0 sz), D, ca, tt_A ad n0 sz, 7, some n0) ad 0 0 45 [(0, .ref b0), (1, .int x1), (2, .int x2), (3, .int x3), (4, .int x4), (5, .int x5), (6, .int x6)] [] h := by
        intro b0 x1 x2 x3 x4 x5 x6 h hs
        unfold s_X8_firstFaultOf_J45 at hs
        refine tt_iload X dX8_firstFaultOf_45 rfl ?_
        refine tt_bipush (v := 59) X dX8_firstFaultOf_47 (by decide) ?_
        refine tt_icmp_ne (tgt := 72) X dX8_firstFaultOf_49 (by decide) (fun c49 => ?_) (fun c49 => ?_)
        · rw [if_neg c49] at hs
          refine tt_iload X dX8_firstFaultOf_72 rfl ?_
          obtain rfl := Option.some.inj hs
          exact tt_iret X rfl dX8_firstFaultOf_74 ⟨rfl, rfl⟩
        · rw [if_pos c49] at hs
          refine tt_iload X dX8_firstFaultOf_52 rfl ?_
          refine tt_if_le (tgt := 72) X dX8_firstFaultOf_54 (by decide) (fun c54 => ?_) (fun c54 => ?_)
          · rw [if_pos c54] at hs
            refine tt_iload X dX8_firstFaultOf_72 rfl ?_
            obtain rfl := Option.some.inj hs
            exact tt_iret X rfl dX8_firstFaultOf_74 ⟨rfl, rfl⟩
          · rw [if_neg c54] at hs
            refine tt_iload_n X dX8_firstFaultOf_57 rfl ?_
            refine tt_bipush (v := 6) X dX8_firstFaultOf_58 (by decide) ?_
            refine tt_icmp_ge (tgt := 72) X dX8_firstFaultOf_60 (by decide) (fun c60 => ?_) (fun c60 => ?_)
            · rw [if_pos c60] at hs
              refine tt_iload X dX8_firstFaultOf_72 rfl ?_
              obtain rfl := Option.some.inj hs
              exact tt_iret X rfl dX8_firstFaultOf_74 ⟨rfl, rfl⟩
            · rw [if_neg c60] at hs
              refine tt_iinc (v := x3 + 1) X dX8_firstFaultOf_63 rfl rfl (Nat.le_of_ble_eq_true rfl) ?_
              refine tt_iconst (v := 0) X dX8_firstFaultOf_66 (by decide) ?_
              refine tt_istore X dX8_firstFaultOf_67 (Nat.le_of_ble_eq_true rfl) ?_
              refine tt_goto (tgt := 75) X dX8_firstFaultOf_69 (by decide) ?_
              refine tt_drop [0, 1, 2, 3, 4, 5] ?_
              exact t_75 b0 x1 x2 (x3 + 1) 0 x5 h hs
      refine tt_iload X dX8_firstFaultOf_8 rfl ?_
      refine tt_iload_n X dX8_firstFaultOf_10 rfl ?_
      refine tt_icmp_ge (tgt := 81) X dX8_firstFaultOf_11 (by decide) (fun c11 => ?_) (fun c11 => ?_)
      · rw [if_pos c11] at hs
        refine tt_iload X dX8_firstFaultOf_81 rfl ?_
        refine tt_if_ne (tgt := 90) X dX8_firstFaultOf_83 (by decide) (fun c83 => ?_) (fun c83 => ?_)
        · rw [if_neg c83] at hs
          refine tt_bipush (v := (-9)) X dX8_firstFaultOf_90 (by decide) ?_
          obtain rfl := Option.some.inj hs
          exact tt_iret X rfl dX8_firstFaultOf_92 ⟨rfl, rfl⟩
        · rw [if_pos c83] at hs
          refine tt_iload_n X dX8_firstFaultOf_86 rfl ?_
          refine tt_goto (tgt := 92) X dX8_firstFaultOf_87 (by decide) ?_
          obtain rfl := Option.some.inj hs
          exact tt_iret X rfl dX8_firstFaultOf_92 ⟨rfl, rfl⟩
      · rw [if_neg c11] at hs
        refine tt_aload_n X dX8_firstFaultOf_14 rfl ?_
        refine tt_iload_n X dX8_firstFaultOf_15 rfl ?_
        refine tt_iload X dX8_firstFaultOf_16 rfl ?_
        refine tt_iadd X dX8_firstFaultOf_18 ?_
        obtain ⟨o19, f19, hs⟩ := gg_bind hs
        obtain ⟨w19, e19, hs⟩ := gg_bind hs
        refine zr_callV X f19 rfl (c_X6_at l e19) (fun hts => cwV 1 hts gX8_firstFaultOf_X6_at rfl rfl rfl (by decide +kernel) ⟨by decide, by decide⟩) rfl rfl (Nat.le_of_ble_eq_true rfl) dX8_firstFaultOf_19 ⟨Nat.zero_le _, Nat.zero_le _⟩ ?_
        refine tt_istore X dX8_firstFaultOf_22 (Nat.le_of_ble_eq_true rfl) ?_
        refine tt_iload X dX8_firstFaultOf_24 rfl ?_
        obtain ⟨w26, e26, hs⟩ := gg_bind hs
        refine zr_callS X (c_X8_isLetter l e26) (fun hts => va_cwS 1 hts gX8_firstFaultOf_X8_isLetter rfl rfl rfl (by decide +kernel) ⟨by decide, by decide⟩) rfl rfl (Nat.le_of_ble_eq_true rfl) dX8_firstFaultOf_26 ⟨Nat.zero_le _, Nat.zero_le _⟩ ?_
        refine tt_if_eq (tgt := 45) X dX8_firstFaultOf_29 (by decide) (fun c29 => ?_) (fun c29 => ?_)
        · rw [if_pos c29] at hs
          refine tt_drop [0, 1, 2, 3, 4, 5, 6] ?_
          exact t_45 b0 x1 x2 x3 x4 x5 w19.1 w26.2 hs
        · rw [if_neg c29] at hs
          refine tt_iload X dX8_firstFaultOf_32 rfl ?_
          refine tt_bipush (v := 12) X dX8_firstFaultOf_34 (by decide) ?_
          refine tt_icmp_ge (tgt := 45) X dX8_firstFaultOf_36 (by decide) (fun c36 => ?_) (fun c36 => ?_)
          · rw [if_pos c36] at hs
            refine tt_drop [0, 1, 2, 3, 4, 5, 6] ?_
            exact t_45 b0 x1 x2 x3 x4 x5 w19.1 w26.2 hs
          · rw [if_neg c36] at hs
            refine tt_iinc (v := x4 + 1) X dX8_firstFaultOf_39 rfl rfl (Nat.le_of_ble_eq_true rfl) ?_
            refine tt_goto (tgt := 75) X dX8_firstFaultOf_42 (by decide) ?_
            refine tt_drop [0, 1, 2, 3, 4, 5] ?_
            exact t_75 b0 x1 x2 x3 (x4 + 1) x5 w26.2 hs
  refine tt_iconst (v := 1) X dX8_firstFaultOf_0 (by decide) ?_
  refine tt_istore_n X dX8_firstFaultOf_1 (Nat.le_of_ble_eq_true rfl) ?_
  refine tt_iconst (v := 0) X dX8_firstFaultOf_2 (by decide) ?_
  refine tt_istore X dX8_firstFaultOf_3 (Nat.le_of_ble_eq_true rfl) ?_
  refine tt_iconst (v := 0) X dX8_firstFaultOf_5 (by decide) ?_
  refine tt_istore X dX8_firstFaultOf_6 (Nat.le_of_ble_eq_true rfl) ?_
  refine tt_drop [0, 1, 2, 3, 4, 5] ?_
  exact t_8 1000 b0 x1 x2 1 0 0 h hs

theorem in_X8_cryOf_X8 : ∀ w ∈ u_ws RX8 TX8 13, w ∈ wsX8_cryOf := by decide +kernel
def s_X8_cryOf (b0 : Nat) (x1 : Int32) (h : tt_H) : Option (Option Nat × tt_H) :=
  if x1 < 0 then
    some (none, h)
  else
  (gg_fi h b0 8 10).bind fun z6 =>
  if z6 ≤ x1 then
    some (none, h)
  else
  if 6 ≤ x1 then
    some (none, h)
  else
  (gg_fr h b0 8 1).bind fun o19 =>
  (gg_ql 3 h o19 x1).bind fun o23 =>
  some ((some o23), h)
abbrev rm_X8_cryOf : Room := { frames := 0, cells := 0, slots := 0, locals := 0 }
set_option maxHeartbeats 4000000 in
set_option maxRecDepth 100000 in
theorem c_X8_cryOf (l : Launch) {b0 : Nat} {x1 : Int32} {h : tt_H} {ρ : Option Nat × tt_H} (hs : s_X8_cryOf b0 x1 h = some ρ) : tt_M tt_cl l yX8_cryOf wsX8_cryOf rm_X8_cryOf 0 0 false [.ref b0, .int x1] h (tt_ret (some (va_rf ρ.1)) ρ.2) := by
  refine tt_M.of0 (cc := cX8_cryOf) (maxL := 2) (ret := (some (.object "AddedCries$Cry"))) (by decide +kernel) rfl (Nat.le_of_ble_eq_true rfl) ?_
  intro p e s m args below meth c D ca ad n0 sz hwf hsz X hini
  unfold s_X8_cryOf at hs
  refine tt_iload_n X dX8_cryOf_0 rfl ?_
  refine tt_if_lt (tgt := 27) X dX8_cryOf_1 (by decide) (fun c1 => ?_) (fun c1 => ?_)
  · rw [if_pos c1] at hs
    refine tt_null X dX8_cryOf_27 ?_
    obtain rfl := Option.some.inj hs
    exact tt_aret X (tt_rf_or none) rfl dX8_cryOf_28 ⟨rfl, rfl⟩
  · rw [if_neg c1] at hs
    refine tt_iload_n X dX8_cryOf_4 rfl ?_
    refine tt_aload_n X dX8_cryOf_5 rfl ?_
    obtain ⟨z6, e6, hs⟩ := gg_bind hs
    refine zr_fi X e6 rfl in_X8_cryOf_X8 (by decide) (by decide +kernel) rfl dX8_cryOf_6 ?_
    refine tt_icmp_ge (tgt := 27) X dX8_cryOf_9 (by decide) (fun c9 => ?_) (fun c9 => ?_)
    · rw [if_pos c9] at hs
      refine tt_null X dX8_cryOf_27 ?_
      obtain rfl := Option.some.inj hs
      exact tt_aret X (tt_rf_or none) rfl dX8_cryOf_28 ⟨rfl, rfl⟩
    · rw [if_neg c9] at hs
      refine tt_iload_n X dX8_cryOf_12 rfl ?_
      refine tt_bipush (v := 6) X dX8_cryOf_13 (by decide) ?_
      refine tt_icmp_ge (tgt := 27) X dX8_cryOf_15 (by decide) (fun c15 => ?_) (fun c15 => ?_)
      · rw [if_pos c15] at hs
        refine tt_null X dX8_cryOf_27 ?_
        obtain rfl := Option.some.inj hs
        exact tt_aret X (tt_rf_or none) rfl dX8_cryOf_28 ⟨rfl, rfl⟩
      · rw [if_neg c15] at hs
        refine tt_aload_n X dX8_cryOf_18 rfl ?_
        obtain ⟨o19, e19, hs⟩ := gg_bind hs
        refine zr_fr X e19 rfl in_X8_cryOf_X8 (by decide) (by decide +kernel) rfl dX8_cryOf_19 ?_
        refine tt_iload_n X dX8_cryOf_22 rfl ?_
        obtain ⟨o23, e23, hs⟩ := gg_bind hs
        refine zr_ql X e23 rfl dX8_cryOf_23 ?_
        refine tt_goto (tgt := 28) X dX8_cryOf_24 (by decide) ?_
        obtain rfl := Option.some.inj hs
        exact tt_aret X (tt_rf_or (some o23)) rfl dX8_cryOf_28 ⟨rfl, rfl⟩

theorem in_X8_lastCry_X8 : ∀ w ∈ u_ws RX8 TX8 13, w ∈ wsX8_lastCry := by decide +kernel
def s_X8_lastCry (b0 : Nat) (h : tt_H) : Option (Option Nat × tt_H) :=
  (gg_fi h b0 8 10).bind fun z2 =>
  (gg_obj h b0 8).bind fun _ =>
  (s_X8_cryOf b0 (z2 - 1) h).bind fun w7 =>
  some (w7.1, w7.2)
abbrev rm_X8_lastCry : Room := { frames := 1, cells := 0, slots := 0, locals := 21 }
set_option maxHeartbeats 4000000 in
set_option maxRecDepth 100000 in
theorem c_X8_lastCry (l : Launch) {b0 : Nat} {h : tt_H} {ρ : Option Nat × tt_H} (hs : s_X8_lastCry b0 h = some ρ) : tt_M tt_cl l yX8_lastCry wsX8_lastCry rm_X8_lastCry 0 0 false [.ref b0] h (tt_ret (some (va_rf ρ.1)) ρ.2) := by
  refine tt_M.of0 (cc := cX8_lastCry) (maxL := 1) (ret := (some (.object "AddedCries$Cry"))) (by decide +kernel) rfl (Nat.le_of_ble_eq_true rfl) ?_
  intro p e s m args below meth c D ca ad n0 sz hwf hsz X hini
  unfold s_X8_lastCry at hs
  refine tt_aload_n X dX8_lastCry_0 rfl ?_
  refine tt_aload_n X dX8_lastCry_1 rfl ?_
  obtain ⟨z2, e2, hs⟩ := gg_bind hs
  refine zr_fi X e2 rfl in_X8_lastCry_X8 (by decide) (by decide +kernel) rfl dX8_lastCry_2 ?_
  refine tt_iconst (v := 1) X dX8_lastCry_5 (by decide) ?_
  refine tt_isub X dX8_lastCry_6 ?_
  obtain ⟨o7, f7, hs⟩ := gg_bind hs
  obtain ⟨w7, e7, hs⟩ := gg_bind hs
  refine zr_callV X f7 rfl (c_X8_cryOf l e7) (fun hts => cwV 1 hts gX8_lastCry_X8_cryOf rfl rfl rfl (by decide +kernel) ⟨by decide, by decide⟩) rfl rfl (Nat.le_of_ble_eq_true rfl) dX8_lastCry_7 ⟨Nat.zero_le _, Nat.zero_le _⟩ ?_
  obtain rfl := Option.some.inj hs
  exact tt_aret X (tt_rf_or w7.1) rfl dX8_lastCry_10 ⟨rfl, rfl⟩

theorem in_X8_beginDay_X8 : ∀ w ∈ u_ws RX8 TX8 13, w ∈ wsX8_beginDay := by decide +kernel
def s_X8_beginDay (b0 : Nat) (h : tt_H) : Option (Unit × tt_H) :=
  (gg_fi h b0 8 10).bind fun z1 =>
  if z1 < 6 then
    (gg_fi h b0 8 10).bind fun z12 =>
    (gg_put h b0 8 10 (.int (z12 + 1))).bind fun h17 =>
    (gg_obj h17 b0 8).bind fun _ =>
    (s_X8_lastCry b0 h17).bind fun w21 =>
    gg_opt w21.1 (
      some ((), w21.2)
    ) fun b26 =>
    (gg_obj w21.2 b26 2).bind fun _ =>
    (s_X2_clear b26 w21.2).bind fun w30 =>
    some ((), w30.2)
  else
  some ((), h)
abbrev rm_X8_beginDay : Room := { frames := 2, cells := 0, slots := 0, locals := 41 }
set_option maxHeartbeats 4000000 in
set_option maxRecDepth 100000 in
theorem c_X8_beginDay (l : Launch) {b0 : Nat} {h : tt_H} {ρ : Unit × tt_H} (hs : s_X8_beginDay b0 h = some ρ) : tt_M tt_cl l yX8_beginDay wsX8_beginDay rm_X8_beginDay 0 0 false [.ref b0] h (tt_ret (none) ρ.2) := by
  refine tt_M.of0 (cc := cX8_beginDay) (maxL := 2) (ret := none) (by decide +kernel) rfl (Nat.le_of_ble_eq_true rfl) ?_
  intro p e s m args below meth c D ca ad n0 sz hwf hsz X hini
  unfold s_X8_beginDay at hs
  refine tt_aload_n X dX8_beginDay_0 rfl ?_
  obtain ⟨z1, e1, hs⟩ := gg_bind hs
  refine zr_fi X e1 rfl in_X8_beginDay_X8 (by decide) (by decide +kernel) rfl dX8_beginDay_1 ?_
  refine tt_bipush (v := 6) X dX8_beginDay_4 (by decide) ?_
  refine tt_icmp_lt (tgt := 10) X dX8_beginDay_6 (by decide) (fun c6 => ?_) (fun c6 => ?_)
  · rw [if_pos c6] at hs
    refine tt_aload_n X dX8_beginDay_10 rfl ?_
    refine tt_dup X dX8_beginDay_11 rfl ?_
    obtain ⟨z12, e12, hs⟩ := gg_bind hs
    refine zr_fi X e12 rfl in_X8_beginDay_X8 (by decide) (by decide +kernel) rfl dX8_beginDay_12 ?_
    refine tt_iconst (v := 1) X dX8_beginDay_15 (by decide) ?_
    refine tt_iadd X dX8_beginDay_16 ?_
    obtain ⟨h17, e17, hs⟩ := gg_bind hs
    refine zr_put X e17 rfl in_X8_beginDay_X8 tyX8 tyX8_ok nmX8 (by decide) (by decide +kernel) rfl rfl (fun _ => rfl) (fun _ => rfl) dX8_beginDay_17 ?_
    refine tt_aload_n X dX8_beginDay_20 rfl ?_
    obtain ⟨o21, f21, hs⟩ := gg_bind hs
    obtain ⟨w21, e21, hs⟩ := gg_bind hs
    refine zr_callV X f21 rfl (c_X8_lastCry l e21) (fun hts => cwV 0 hts gX8_beginDay_X8_lastCry rfl rfl rfl (by decide +kernel) ⟨by decide, by decide⟩) rfl rfl (Nat.le_of_ble_eq_true rfl) dX8_beginDay_21 ⟨Nat.zero_le _, Nat.zero_le _⟩ ?_
    refine zr_astore_n X w21.1 dX8_beginDay_24 (Nat.le_of_ble_eq_true rfl) ?_
    refine zr_aload_n X w21.1 dX8_beginDay_25 rfl ?_
    cases hr26 : w21.1 with
    | none =>
      rw [hr26, gg_opt_none] at hs
      refine tt_ifnullN (tgt := 33) X dX8_beginDay_26 (by decide) ?_
      obtain rfl := Option.some.inj hs
      exact tt_vret X rfl dX8_beginDay_33 ⟨rfl, rfl⟩
    | some b26 =>
      rw [hr26, gg_opt_some] at hs
      refine tt_ifnull X dX8_beginDay_26 ?_
      refine tt_aload_n X dX8_beginDay_29 rfl ?_
      obtain ⟨o30, f30, hs⟩ := gg_bind hs
      obtain ⟨w30, e30, hs⟩ := gg_bind hs
      refine zr_callV X f30 rfl (c_X2_clear l e30) (fun hts => cwV 0 hts gX8_beginDay_X2_clear rfl rfl rfl (by decide +kernel) ⟨by decide, by decide⟩) rfl rfl (Nat.le_of_ble_eq_true rfl) dX8_beginDay_30 ⟨Nat.zero_le _, Nat.zero_le _⟩ ?_
      obtain rfl := Option.some.inj hs
      exact tt_vret X rfl dX8_beginDay_33 ⟨rfl, rfl⟩
  · rw [if_neg c6] at hs
    obtain rfl := Option.some.inj hs
    exact tt_vret X rfl dX8_beginDay_9 ⟨rfl, rfl⟩

theorem in_X8_takeText_X8 : ∀ w ∈ u_ws RX8 TX8 13, w ∈ wsX8_takeText := by decide +kernel
def s_X8_takeText_J76 (κ12 : Nat → Nat → Int32 → Int32 → Int32 → tt_H → Option (Unit × tt_H)) (b0 : Nat) (b1 : Nat) (x2 : Int32) (x3 : Int32) (x4 : Int32) (h : tt_H) : Option (Unit × tt_H) :=
  κ12 b0 b1 x2 x3 (x4 + 1) h
def s_X8_takeText_L12 : Nat → Nat → Nat → Int32 → Int32 → Int32 → tt_H → Option (Unit × tt_H)
  | 0, _, _, _, _, _, _ => none
  | n + 1, b0, b1, x2, x3, x4, h =>
    if x3 ≤ x4 then
      some ((), h)
    else
    (gg_obj h b1 6).bind fun _ =>
    (s_X6_at b1 (x2 + x4) h).bind fun w23 =>
    (gg_obj w23.2 b0 8).bind fun _ =>
    (s_X8_lastCry b0 w23.2).bind fun w29 =>
    if w23.1 = 59 then
      (gg_obj w29.2 b0 8).bind fun _ =>
      (s_X8_beginDay b0 w29.2).bind fun w42 =>
      s_X8_takeText_J76 (s_X8_takeText_L12 n) b0 b1 x2 x3 x4 w42.2
    else
    gg_opt w29.1 (
      s_X8_takeText_J76 (s_X8_takeText_L12 n) b0 b1 x2 x3 x4 w29.2
    ) fun b50 =>
    (s_X8_isLetter w23.1 w29.2).bind fun w55 =>
    if w55.1 = 0 then
      s_X8_takeText_J76 (s_X8_takeText_L12 n) b0 b1 x2 x3 x4 w55.2
    else
    (gg_obj w55.2 b50 2).bind fun _ =>
    (s_X2_size b50 w55.2).bind fun w65 =>
    (gg_obj w65.2 b50 2).bind fun _ =>
    (s_X2_insert b50 w65.1 (w23.1 - 97) w65.2).bind fun w73 =>
    s_X8_takeText_J76 (s_X8_takeText_L12 n) b0 b1 x2 x3 x4 w73.2
def s_X8_takeText (b0 : Nat) (b1 : Nat) (x2 : Int32) (x3 : Int32) (h : tt_H) : Option (Unit × tt_H) :=
  (gg_put h b0 8 10 (.int 0)).bind fun h2 =>
  (gg_obj h2 b0 8).bind fun _ =>
  (s_X8_beginDay b0 h2).bind fun w6 =>
  s_X8_takeText_L12 1000 b0 b1 x2 x3 0 w6.2
abbrev rm_X8_takeText : Room := { frames := 3, cells := 0, slots := 0, locals := 62 }
set_option maxHeartbeats 4000000 in
set_option maxRecDepth 100000 in
theorem c_X8_takeText (l : Launch) {b0 : Nat} {b1 : Nat} {x2 : Int32} {x3 : Int32} {h : tt_H} {ρ : Unit × tt_H} (hs : s_X8_takeText b0 b1 x2 x3 h = some ρ) : tt_M tt_cl l yX8_takeText wsX8_takeText rm_X8_takeText 0 0 false [.ref b0, .ref b1, .int x2, .int x3] h (tt_ret (none) ρ.2) := by
  refine tt_M.of0 (cc := cX8_takeText) (maxL := 7) (ret := none) (by decide +kernel) rfl (Nat.le_of_ble_eq_true rfl) ?_
  intro p e s m args below meth c D ca ad n0 sz hwf hsz X hini
  unfold s_X8_takeText at hs
  have t_12 : ∀ (fu : Nat) (b0 : Nat) (b1 : Nat) (x2 : Int32) (x3 : Int32) (x4 : Int32) (h : tt_H), s_X8_takeText_L12 fu b0 b1 x2 x3 x4 h = some ρ → tt_T tt_cl (p, l, e, rm_X8_takeText, s, m, args, below, meth, c, MQ below (tt_Q tt_cl D ca ad n0 sz false (tt_ret (none) ρ.2)) args s 0 0 (tt_A ad n0 sz), D, ca, tt_A ad n0 sz, 7, some n0) ad 0 0 12 [(0, .ref b0), (1, .ref b1), (2, .int x2), (3, .int x3), (4, .int x4)] [] h := by
    intro fu
    induction fu with
    | zero => intro b0 b1 x2 x3 x4 h hs; exact absurd hs (by rw [s_X8_takeText_L12]; exact fun q => by cases q)
    | succ n12 ih =>
      intro b0 b1 x2 x3 x4 h hs
      rw [s_X8_takeText_L12] at hs
      have t_12 := ih
      have t_76 : ∀ (b0 : Nat) (b1 : Nat) (x2 : Int32) (x3 : Int32) (x4 : Int32) (h : tt_H), s_X8_takeText_J76 (s_X8_takeText_L12 n12) b0 b1 x2 x3 x4 h = some ρ → tt_T tt_cl (p, l, e, rm_X8_takeText, s, m, args, below, meth, c, MQ below (tt_Q tt_cl D ca ad n0 sz false (tt_ret (none) ρ.2)) args s 0 0 (tt_A ad n0 sz), D, ca, tt_A ad n0 sz, 7, some n0) ad 0 0 76 [(0, .ref b0), (1, .ref b1), (2, .int x2), (3, .int x3), (4, .int x4)] [] h := by
        intro b0 b1 x2 x3 x4 h hs
        unfold s_X8_takeText_J76 at hs
        refine tt_iinc (v := x4 + 1) X dX8_takeText_76 rfl rfl (Nat.le_of_ble_eq_true rfl) ?_
        refine tt_goto (tgt := 12) X dX8_takeText_79 (by decide) ?_
        refine tt_drop [0, 1, 2, 3, 4] ?_
        exact t_12 b0 b1 x2 x3 (x4 + 1) h hs
      refine tt_iload X dX8_takeText_12 rfl ?_
      refine tt_iload_n X dX8_takeText_14 rfl ?_
      refine tt_icmp_ge (tgt := 82) X dX8_takeText_15 (by decide) (fun c15 => ?_) (fun c15 => ?_)
      · rw [if_pos c15] at hs
        obtain rfl := Option.some.inj hs
        exact tt_vret X rfl dX8_takeText_82 ⟨rfl, rfl⟩
      · rw [if_neg c15] at hs
        refine tt_aload_n X dX8_takeText_18 rfl ?_
        refine tt_iload_n X dX8_takeText_19 rfl ?_
        refine tt_iload X dX8_takeText_20 rfl ?_
        refine tt_iadd X dX8_takeText_22 ?_
        obtain ⟨o23, f23, hs⟩ := gg_bind hs
        obtain ⟨w23, e23, hs⟩ := gg_bind hs
        refine zr_callV X f23 rfl (c_X6_at l e23) (fun hts => cwV 1 hts gX8_takeText_X6_at rfl rfl rfl (by decide +kernel) ⟨by decide, by decide⟩) rfl rfl (Nat.le_of_ble_eq_true rfl) dX8_takeText_23 ⟨Nat.zero_le _, Nat.zero_le _⟩ ?_
        refine tt_istore X dX8_takeText_26 (Nat.le_of_ble_eq_true rfl) ?_
        refine tt_aload_n X dX8_takeText_28 rfl ?_
        obtain ⟨o29, f29, hs⟩ := gg_bind hs
        obtain ⟨w29, e29, hs⟩ := gg_bind hs
        refine zr_callV X f29 rfl (c_X8_lastCry l e29) (fun hts => cwV 0 hts gX8_takeText_X8_lastCry rfl rfl rfl (by decide +kernel) ⟨by decide, by decide⟩) rfl rfl (Nat.le_of_ble_eq_true rfl) dX8_takeText_29 ⟨Nat.zero_le _, Nat.zero_le _⟩ ?_
        refine zr_astore X w29.1 dX8_takeText_32 (Nat.le_of_ble_eq_true rfl) ?_
        refine tt_iload X dX8_takeText_34 rfl ?_
        refine tt_bipush (v := 59) X dX8_takeText_36 (by decide) ?_
        refine tt_icmp_ne (tgt := 48) X dX8_takeText_38 (by decide) (fun c38 => ?_) (fun c38 => ?_)
        · rw [if_neg c38] at hs
          refine zr_aload X w29.1 dX8_takeText_48 rfl ?_
          cases hr50 : w29.1 with
          | none =>
            rw [hr50, gg_opt_none] at hs
            refine tt_ifnullN (tgt := 76) X dX8_takeText_50 (by decide) ?_
            refine tt_drop [0, 1, 2, 3, 4] ?_
            exact t_76 b0 b1 x2 x3 x4 w29.2 hs
          | some b50 =>
            rw [hr50, gg_opt_some] at hs
            refine tt_ifnull X dX8_takeText_50 ?_
            refine tt_iload X dX8_takeText_53 rfl ?_
            obtain ⟨w55, e55, hs⟩ := gg_bind hs
            refine zr_callS X (c_X8_isLetter l e55) (fun hts => va_cwS 1 hts gX8_takeText_X8_isLetter rfl rfl rfl (by decide +kernel) ⟨by decide, by decide⟩) rfl rfl (Nat.le_of_ble_eq_true rfl) dX8_takeText_55 ⟨Nat.zero_le _, Nat.zero_le _⟩ ?_
            refine tt_if_eq (tgt := 76) X dX8_takeText_58 (by decide) (fun c58 => ?_) (fun c58 => ?_)
            · rw [if_pos c58] at hs
              refine tt_drop [0, 1, 2, 3, 4] ?_
              exact t_76 b0 b1 x2 x3 x4 w55.2 hs
            · rw [if_neg c58] at hs
              refine tt_aload X dX8_takeText_61 rfl ?_
              refine tt_aload X dX8_takeText_63 rfl ?_
              obtain ⟨o65, f65, hs⟩ := gg_bind hs
              obtain ⟨w65, e65, hs⟩ := gg_bind hs
              refine zr_callV X f65 rfl (c_X2_size l e65) (fun hts => cwV 0 hts gX8_takeText_X2_size rfl rfl rfl (by decide +kernel) ⟨by decide, by decide⟩) rfl rfl (Nat.le_of_ble_eq_true rfl) dX8_takeText_65 ⟨Nat.zero_le _, Nat.zero_le _⟩ ?_
              refine tt_iload X dX8_takeText_68 rfl ?_
              refine tt_bipush (v := 97) X dX8_takeText_70 (by decide) ?_
              refine tt_isub X dX8_takeText_72 ?_
              obtain ⟨o73, f73, hs⟩ := gg_bind hs
              obtain ⟨w73, e73, hs⟩ := gg_bind hs
              refine zr_callV X f73 rfl (c_X2_insert l e73) (fun hts => cwV 2 hts gX8_takeText_X2_insert rfl rfl rfl (by decide +kernel) ⟨by decide, by decide⟩) rfl rfl (Nat.le_of_ble_eq_true rfl) dX8_takeText_73 ⟨Nat.zero_le _, Nat.zero_le _⟩ ?_
              refine tt_drop [0, 1, 2, 3, 4] ?_
              exact t_76 b0 b1 x2 x3 x4 w73.2 hs
        · rw [if_pos c38] at hs
          refine tt_aload_n X dX8_takeText_41 rfl ?_
          obtain ⟨o42, f42, hs⟩ := gg_bind hs
          obtain ⟨w42, e42, hs⟩ := gg_bind hs
          refine zr_callV X f42 rfl (c_X8_beginDay l e42) (fun hts => cwV 0 hts gX8_takeText_X8_beginDay rfl rfl rfl (by decide +kernel) ⟨by decide, by decide⟩) rfl rfl (Nat.le_of_ble_eq_true rfl) dX8_takeText_42 ⟨Nat.zero_le _, Nat.zero_le _⟩ ?_
          refine tt_goto (tgt := 76) X dX8_takeText_45 (by decide) ?_
          refine tt_drop [0, 1, 2, 3, 4] ?_
          exact t_76 b0 b1 x2 x3 x4 w42.2 hs
  refine tt_aload_n X dX8_takeText_0 rfl ?_
  refine tt_iconst (v := 0) X dX8_takeText_1 (by decide) ?_
  obtain ⟨h2, e2, hs⟩ := gg_bind hs
  refine zr_put X e2 rfl in_X8_takeText_X8 tyX8 tyX8_ok nmX8 (by decide) (by decide +kernel) rfl rfl (fun _ => rfl) (fun _ => rfl) dX8_takeText_2 ?_
  refine tt_aload_n X dX8_takeText_5 rfl ?_
  obtain ⟨o6, f6, hs⟩ := gg_bind hs
  obtain ⟨w6, e6, hs⟩ := gg_bind hs
  refine zr_callV X f6 rfl (c_X8_beginDay l e6) (fun hts => cwV 0 hts gX8_takeText_X8_beginDay rfl rfl rfl (by decide +kernel) ⟨by decide, by decide⟩) rfl rfl (Nat.le_of_ble_eq_true rfl) dX8_takeText_6 ⟨Nat.zero_le _, Nat.zero_le _⟩ ?_
  refine tt_iconst (v := 0) X dX8_takeText_9 (by decide) ?_
  refine tt_istore X dX8_takeText_10 (Nat.le_of_ble_eq_true rfl) ?_
  refine tt_drop [0, 1, 2, 3, 4] ?_
  exact t_12 1000 b0 b1 x2 x3 0 w6.2 hs

theorem in_X8_cries_X8 : ∀ w ∈ u_ws RX8 TX8 13, w ∈ wsX8_cries := by decide +kernel
def s_X8_cries (b0 : Nat) (x1 : Int32) (x2 : Int32) (x3 : Int32) (x4 : Int32) (h : tt_H) : Option (Int32 × tt_H) :=
  (gg_put h b0 8 12 (.int 0)).bind fun h2 =>
  (gg_obj h2 b0 8).bind fun _ =>
  (s_X8_sheetOf b0 x1 h2).bind fun w7 =>
  gg_opt w7.1 (
    some ((-1), w7.2)
  ) fun b14 =>
  (s_X8_isSort x2 w7.2).bind fun w20 =>
  if w20.1 = 0 then
    some ((-2), w20.2)
  else
  (s_X8_readingFault b14 x2 w20.2).bind fun w32 =>
  if w32.1 = 0 then
    if 0 ≤ x4 then
      (gg_obj w32.2 b14 6).bind fun _ =>
      (s_X6_hasCells b14 x3 x4 w32.2).bind fun w65 =>
      if w65.1 = 0 then
        (gg_obj w65.2 b0 8).bind fun _ =>
        (s_X8_fails b0 3 w65.2).bind fun w73 =>
        some (w73.1, w73.2)
      else
      (s_X8_firstFaultOf b14 x3 x4 w65.2).bind fun w82 =>
      if w82.1 = ((-9)) then
        (gg_obj w82.2 b0 8).bind fun _ =>
        (s_X8_takeText b0 b14 x3 x4 w82.2).bind fun w106 =>
        (gg_fi w106.2 b0 8 10).bind fun z110 =>
        some (z110, w106.2)
      else
      some (((-100)) - w82.1, w82.2)
    else
    (gg_obj w32.2 b0 8).bind fun _ =>
    (s_X8_fails b0 4 w32.2).bind fun w56 =>
    some (w56.1, w56.2)
  else
  (gg_obj w32.2 b0 8).bind fun _ =>
  (s_X8_fails b0 w32.1 w32.2).bind fun w45 =>
  some (w45.1, w45.2)
abbrev rm_X8_cries : Room := { frames := 4, cells := 0, slots := 0, locals := 88 }
set_option maxHeartbeats 4000000 in
set_option maxRecDepth 100000 in
theorem c_X8_cries (l : Launch) {b0 : Nat} {x1 : Int32} {x2 : Int32} {x3 : Int32} {x4 : Int32} {h : tt_H} {ρ : Int32 × tt_H} (hs : s_X8_cries b0 x1 x2 x3 x4 h = some ρ) : tt_M tt_cl l yX8_cries wsX8_cries rm_X8_cries 0 0 false [.ref b0, .int x1, .int x2, .int x3, .int x4] h (tt_ret (some (.int ρ.1)) ρ.2) := by
  refine tt_M.of0 (cc := cX8_cries) (maxL := 8) (ret := (some .int)) (by decide +kernel) rfl (Nat.le_of_ble_eq_true rfl) ?_
  intro p e s m args below meth c D ca ad n0 sz hwf hsz X hini
  unfold s_X8_cries at hs
  refine tt_aload_n X dX8_cries_0 rfl ?_
  refine tt_iconst (v := 0) X dX8_cries_1 (by decide) ?_
  obtain ⟨h2, e2, hs⟩ := gg_bind hs
  refine zr_put X e2 rfl in_X8_cries_X8 tyX8 tyX8_ok nmX8 (by decide) (by decide +kernel) rfl rfl (fun _ => rfl) (fun _ => rfl) dX8_cries_2 ?_
  refine tt_aload_n X dX8_cries_5 rfl ?_
  refine tt_iload_n X dX8_cries_6 rfl ?_
  obtain ⟨o7, f7, hs⟩ := gg_bind hs
  obtain ⟨w7, e7, hs⟩ := gg_bind hs
  refine zr_callV X f7 rfl (c_X8_sheetOf l e7) (fun hts => cwV 1 hts gX8_cries_X8_sheetOf rfl rfl rfl (by decide +kernel) ⟨by decide, by decide⟩) rfl rfl (Nat.le_of_ble_eq_true rfl) dX8_cries_7 ⟨Nat.zero_le _, Nat.zero_le _⟩ ?_
  refine zr_astore X w7.1 dX8_cries_10 (Nat.le_of_ble_eq_true rfl) ?_
  refine zr_aload X w7.1 dX8_cries_12 rfl ?_
  cases hr14 : w7.1 with
  | none =>
    rw [hr14, gg_opt_none] at hs
    refine tt_ifnonnullN X dX8_cries_14 ?_
    refine tt_iconst (v := (-1)) X dX8_cries_17 (by decide) ?_
    obtain rfl := Option.some.inj hs
    exact tt_iret X rfl dX8_cries_18 ⟨rfl, rfl⟩
  | some b14 =>
    rw [hr14, gg_opt_some] at hs
    refine tt_ifnonnull (tgt := 19) X dX8_cries_14 (by decide) ?_
    refine tt_iload_n X dX8_cries_19 rfl ?_
    obtain ⟨w20, e20, hs⟩ := gg_bind hs
    refine zr_callS X (c_X8_isSort l e20) (fun hts => va_cwS 1 hts gX8_cries_X8_isSort rfl rfl rfl (by decide +kernel) ⟨by decide, by decide⟩) rfl rfl (Nat.le_of_ble_eq_true rfl) dX8_cries_20 ⟨Nat.zero_le _, Nat.zero_le _⟩ ?_
    refine tt_if_ne (tgt := 29) X dX8_cries_23 (by decide) (fun c23 => ?_) (fun c23 => ?_)
    · rw [if_neg c23] at hs
      refine tt_aload X dX8_cries_29 rfl ?_
      refine tt_iload_n X dX8_cries_31 rfl ?_
      obtain ⟨w32, e32, hs⟩ := gg_bind hs
      refine zr_callS X (c_X8_readingFault l e32) (fun hts => va_cwS 2 hts gX8_cries_X8_readingFault rfl rfl rfl (by decide +kernel) ⟨by decide, by decide⟩) rfl rfl (Nat.le_of_ble_eq_true rfl) dX8_cries_32 ⟨Nat.zero_le _, Nat.zero_le _⟩ ?_
      refine tt_istore X dX8_cries_35 (Nat.le_of_ble_eq_true rfl) ?_
      refine tt_iload X dX8_cries_37 rfl ?_
      refine tt_if_eq (tgt := 49) X dX8_cries_39 (by decide) (fun c39 => ?_) (fun c39 => ?_)
      · rw [if_pos c39] at hs
        refine tt_iload X dX8_cries_49 rfl ?_
        refine tt_if_ge (tgt := 60) X dX8_cries_51 (by decide) (fun c51 => ?_) (fun c51 => ?_)
        · rw [if_pos c51] at hs
          refine tt_aload X dX8_cries_60 rfl ?_
          refine tt_iload_n X dX8_cries_62 rfl ?_
          refine tt_iload X dX8_cries_63 rfl ?_
          obtain ⟨o65, f65, hs⟩ := gg_bind hs
          obtain ⟨w65, e65, hs⟩ := gg_bind hs
          refine zr_callV X f65 rfl (c_X6_hasCells l e65) (fun hts => cwV 2 hts gX8_cries_X6_hasCells rfl rfl rfl (by decide +kernel) ⟨by decide, by decide⟩) rfl rfl (Nat.le_of_ble_eq_true rfl) dX8_cries_65 ⟨Nat.zero_le _, Nat.zero_le _⟩ ?_
          refine tt_if_ne (tgt := 77) X dX8_cries_68 (by decide) (fun c68 => ?_) (fun c68 => ?_)
          · rw [if_neg c68] at hs
            refine tt_aload X dX8_cries_77 rfl ?_
            refine tt_iload_n X dX8_cries_79 rfl ?_
            refine tt_iload X dX8_cries_80 rfl ?_
            obtain ⟨w82, e82, hs⟩ := gg_bind hs
            refine zr_callS X (c_X8_firstFaultOf l e82) (fun hts => va_cwS 3 hts gX8_cries_X8_firstFaultOf rfl rfl rfl (by decide +kernel) ⟨by decide, by decide⟩) rfl rfl (Nat.le_of_ble_eq_true rfl) dX8_cries_82 ⟨Nat.zero_le _, Nat.zero_le _⟩ ?_
            refine tt_istore X dX8_cries_85 (Nat.le_of_ble_eq_true rfl) ?_
            refine tt_iload X dX8_cries_87 rfl ?_
            refine tt_bipush (v := (-9)) X dX8_cries_89 (by decide) ?_
            refine tt_icmp_eq (tgt := 100) X dX8_cries_91 (by decide) (fun c91 => ?_) (fun c91 => ?_)
            · rw [if_pos c91] at hs
              refine tt_aload_n X dX8_cries_100 rfl ?_
              refine tt_aload X dX8_cries_101 rfl ?_
              refine tt_iload_n X dX8_cries_103 rfl ?_
              refine tt_iload X dX8_cries_104 rfl ?_
              obtain ⟨o106, f106, hs⟩ := gg_bind hs
              obtain ⟨w106, e106, hs⟩ := gg_bind hs
              refine zr_callV X f106 rfl (c_X8_takeText l e106) (fun hts => cwV 3 hts gX8_cries_X8_takeText rfl rfl rfl (by decide +kernel) ⟨by decide, by decide⟩) rfl rfl (Nat.le_of_ble_eq_true rfl) dX8_cries_106 ⟨Nat.zero_le _, Nat.zero_le _⟩ ?_
              refine tt_aload_n X dX8_cries_109 rfl ?_
              obtain ⟨z110, e110, hs⟩ := gg_bind hs
              refine zr_fi X e110 rfl in_X8_cries_X8 (by decide) (by decide +kernel) rfl dX8_cries_110 ?_
              obtain rfl := Option.some.inj hs
              exact tt_iret X rfl dX8_cries_113 ⟨rfl, rfl⟩
            · rw [if_neg c91] at hs
              refine tt_bipush (v := (-100)) X dX8_cries_94 (by decide) ?_
              refine tt_iload X dX8_cries_96 rfl ?_
              refine tt_isub X dX8_cries_98 ?_
              obtain rfl := Option.some.inj hs
              exact tt_iret X rfl dX8_cries_99 ⟨rfl, rfl⟩
          · rw [if_pos c68] at hs
            refine tt_aload_n X dX8_cries_71 rfl ?_
            refine tt_iconst (v := 3) X dX8_cries_72 (by decide) ?_
            obtain ⟨o73, f73, hs⟩ := gg_bind hs
            obtain ⟨w73, e73, hs⟩ := gg_bind hs
            refine zr_callV X f73 rfl (c_X8_fails l e73) (fun hts => cwV 1 hts gX8_cries_X8_fails rfl rfl rfl (by decide +kernel) ⟨by decide, by decide⟩) rfl rfl (Nat.le_of_ble_eq_true rfl) dX8_cries_73 ⟨Nat.zero_le _, Nat.zero_le _⟩ ?_
            obtain rfl := Option.some.inj hs
            exact tt_iret X rfl dX8_cries_76 ⟨rfl, rfl⟩
        · rw [if_neg c51] at hs
          refine tt_aload_n X dX8_cries_54 rfl ?_
          refine tt_iconst (v := 4) X dX8_cries_55 (by decide) ?_
          obtain ⟨o56, f56, hs⟩ := gg_bind hs
          obtain ⟨w56, e56, hs⟩ := gg_bind hs
          refine zr_callV X f56 rfl (c_X8_fails l e56) (fun hts => cwV 1 hts gX8_cries_X8_fails rfl rfl rfl (by decide +kernel) ⟨by decide, by decide⟩) rfl rfl (Nat.le_of_ble_eq_true rfl) dX8_cries_56 ⟨Nat.zero_le _, Nat.zero_le _⟩ ?_
          obtain rfl := Option.some.inj hs
          exact tt_iret X rfl dX8_cries_59 ⟨rfl, rfl⟩
      · rw [if_neg c39] at hs
        refine tt_aload_n X dX8_cries_42 rfl ?_
        refine tt_iload X dX8_cries_43 rfl ?_
        obtain ⟨o45, f45, hs⟩ := gg_bind hs
        obtain ⟨w45, e45, hs⟩ := gg_bind hs
        refine zr_callV X f45 rfl (c_X8_fails l e45) (fun hts => cwV 1 hts gX8_cries_X8_fails rfl rfl rfl (by decide +kernel) ⟨by decide, by decide⟩) rfl rfl (Nat.le_of_ble_eq_true rfl) dX8_cries_45 ⟨Nat.zero_le _, Nat.zero_le _⟩ ?_
        obtain rfl := Option.some.inj hs
        exact tt_iret X rfl dX8_cries_48 ⟨rfl, rfl⟩
    · rw [if_pos c23] at hs
      refine tt_bipush (v := (-2)) X dX8_cries_26 (by decide) ?_
      obtain rfl := Option.some.inj hs
      exact tt_iret X rfl dX8_cries_28 ⟨rfl, rfl⟩

theorem in_X8_many_X8 : ∀ w ∈ u_ws RX8 TX8 13, w ∈ wsX8_many := by decide +kernel
def s_X8_many (b0 : Nat) (h : tt_H) : Option (Int32 × tt_H) :=
  (gg_fi h b0 8 10).bind fun z1 =>
  some (z1, h)
abbrev rm_X8_many : Room := { frames := 0, cells := 0, slots := 0, locals := 0 }
set_option maxHeartbeats 4000000 in
set_option maxRecDepth 100000 in
theorem c_X8_many (l : Launch) {b0 : Nat} {h : tt_H} {ρ : Int32 × tt_H} (hs : s_X8_many b0 h = some ρ) : tt_M tt_cl l yX8_many wsX8_many rm_X8_many 0 0 false [.ref b0] h (tt_ret (some (.int ρ.1)) ρ.2) := by
  refine tt_M.of0 (cc := cX8_many) (maxL := 1) (ret := (some .int)) (by decide +kernel) rfl (Nat.le_of_ble_eq_true rfl) ?_
  intro p e s m args below meth c D ca ad n0 sz hwf hsz X hini
  unfold s_X8_many at hs
  refine tt_aload_n X dX8_many_0 rfl ?_
  obtain ⟨z1, e1, hs⟩ := gg_bind hs
  refine zr_fi X e1 rfl in_X8_many_X8 (by decide) (by decide +kernel) rfl dX8_many_1 ?_
  obtain rfl := Option.some.inj hs
  exact tt_iret X rfl dX8_many_4 ⟨rfl, rfl⟩

theorem in_X8_leftOut_X8 : ∀ w ∈ u_ws RX8 TX8 13, w ∈ wsX8_leftOut := by decide +kernel
def s_X8_leftOut_J46 (κ2 : Nat → Int32 → tt_H → Option (Int32 × tt_H)) (b0 : Nat) (x1 : Int32) (h : tt_H) : Option (Int32 × tt_H) :=
  κ2 b0 (x1 + 1) h
def s_X8_leftOut_L2 : Nat → Nat → Int32 → tt_H → Option (Int32 × tt_H)
  | 0, _, _, _ => none
  | n + 1, b0, x1, h =>
    (gg_fi h b0 8 10).bind fun z4 =>
    if z4 ≤ x1 then
      some ((-9), h)
    else
    (gg_obj h b0 8).bind fun _ =>
    (s_X8_cryOf b0 (x1 - 1) h).bind fun w14 =>
    (gg_obj w14.2 b0 8).bind fun _ =>
    (s_X8_cryOf b0 x1 w14.2).bind fun w20 =>
    gg_opt w14.1 (
      s_X8_leftOut_J46 (s_X8_leftOut_L2 n) b0 x1 w20.2
    ) fun b25 =>
    gg_opt w20.1 (
      s_X8_leftOut_J46 (s_X8_leftOut_L2 n) b0 x1 w20.2
    ) fun b29 =>
    (gg_fr w20.2 b0 8 4).bind fun o33 =>
    (gg_obj w20.2 o33 3).bind fun _ =>
    (s_X3_make o33 b25 b29 w20.2).bind fun w38 =>
    if w38.1 = 0 then
      some (x1, w38.2)
    else
    s_X8_leftOut_J46 (s_X8_leftOut_L2 n) b0 x1 w38.2
def s_X8_leftOut (b0 : Nat) (h : tt_H) : Option (Int32 × tt_H) :=
  s_X8_leftOut_L2 1000 b0 1 h
abbrev rm_X8_leftOut : Room := { frames := 3, cells := 0, slots := 0, locals := 66 }
set_option maxHeartbeats 4000000 in
set_option maxRecDepth 100000 in
theorem c_X8_leftOut (l : Launch) {b0 : Nat} {h : tt_H} {ρ : Int32 × tt_H} (hs : s_X8_leftOut b0 h = some ρ) : tt_M tt_cl l yX8_leftOut wsX8_leftOut rm_X8_leftOut 0 0 false [.ref b0] h (tt_ret (some (.int ρ.1)) ρ.2) := by
  refine tt_M.of0 (cc := cX8_leftOut) (maxL := 4) (ret := (some .int)) (by decide +kernel) rfl (Nat.le_of_ble_eq_true rfl) ?_
  intro p e s m args below meth c D ca ad n0 sz hwf hsz X hini
  unfold s_X8_leftOut at hs
  have t_2 : ∀ (fu : Nat) (b0 : Nat) (x1 : Int32) (h : tt_H), s_X8_leftOut_L2 fu b0 x1 h = some ρ → tt_T tt_cl (p, l, e, rm_X8_leftOut, s, m, args, below, meth, c, MQ below (tt_Q tt_cl D ca ad n0 sz false (tt_ret (some (.int ρ.1)) ρ.2)) args s 0 0 (tt_A ad n0 sz), D, ca, tt_A ad n0 sz, 4, some n0) ad 0 0 2 [(0, .ref b0), (1, .int x1)] [] h := by
    intro fu
    induction fu with
    | zero => intro b0 x1 h hs; exact absurd hs (by rw [s_X8_leftOut_L2]; exact fun q => by cases q)
    | succ n2 ih =>
      intro b0 x1 h hs
      rw [s_X8_leftOut_L2] at hs
      have t_2 := ih
      have t_46 : ∀ (b0 : Nat) (x1 : Int32) (h : tt_H), s_X8_leftOut_J46 (s_X8_leftOut_L2 n2) b0 x1 h = some ρ → tt_T tt_cl (p, l, e, rm_X8_leftOut, s, m, args, below, meth, c, MQ below (tt_Q tt_cl D ca ad n0 sz false (tt_ret (some (.int ρ.1)) ρ.2)) args s 0 0 (tt_A ad n0 sz), D, ca, tt_A ad n0 sz, 4, some n0) ad 0 0 46 [(0, .ref b0), (1, .int x1)] [] h := by
        intro b0 x1 h hs
        unfold s_X8_leftOut_J46 at hs
        refine tt_iinc (v := x1 + 1) X dX8_leftOut_46 rfl rfl (Nat.le_of_ble_eq_true rfl) ?_
        refine tt_goto (tgt := 2) X dX8_leftOut_49 (by decide) ?_
        refine tt_drop [0, 1] ?_
        exact t_2 b0 (x1 + 1) h hs
      refine tt_iload_n X dX8_leftOut_2 rfl ?_
      refine tt_aload_n X dX8_leftOut_3 rfl ?_
      obtain ⟨z4, e4, hs⟩ := gg_bind hs
      refine zr_fi X e4 rfl in_X8_leftOut_X8 (by decide) (by decide +kernel) rfl dX8_leftOut_4 ?_
      refine tt_icmp_ge (tgt := 52) X dX8_leftOut_7 (by decide) (fun c7 => ?_) (fun c7 => ?_)
      · rw [if_pos c7] at hs
        refine tt_bipush (v := (-9)) X dX8_leftOut_52 (by decide) ?_
        obtain rfl := Option.some.inj hs
        exact tt_iret X rfl dX8_leftOut_54 ⟨rfl, rfl⟩
      · rw [if_neg c7] at hs
        refine tt_aload_n X dX8_leftOut_10 rfl ?_
        refine tt_iload_n X dX8_leftOut_11 rfl ?_
        refine tt_iconst (v := 1) X dX8_leftOut_12 (by decide) ?_
        refine tt_isub X dX8_leftOut_13 ?_
        obtain ⟨o14, f14, hs⟩ := gg_bind hs
        obtain ⟨w14, e14, hs⟩ := gg_bind hs
        refine zr_callV X f14 rfl (c_X8_cryOf l e14) (fun hts => cwV 1 hts gX8_leftOut_X8_cryOf rfl rfl rfl (by decide +kernel) ⟨by decide, by decide⟩) rfl rfl (Nat.le_of_ble_eq_true rfl) dX8_leftOut_14 ⟨Nat.zero_le _, Nat.zero_le _⟩ ?_
        refine zr_astore_n X w14.1 dX8_leftOut_17 (Nat.le_of_ble_eq_true rfl) ?_
        refine tt_aload_n X dX8_leftOut_18 rfl ?_
        refine tt_iload_n X dX8_leftOut_19 rfl ?_
        obtain ⟨o20, f20, hs⟩ := gg_bind hs
        obtain ⟨w20, e20, hs⟩ := gg_bind hs
        refine zr_callV X f20 rfl (c_X8_cryOf l e20) (fun hts => cwV 1 hts gX8_leftOut_X8_cryOf rfl rfl rfl (by decide +kernel) ⟨by decide, by decide⟩) rfl rfl (Nat.le_of_ble_eq_true rfl) dX8_leftOut_20 ⟨Nat.zero_le _, Nat.zero_le _⟩ ?_
        refine zr_astore_n X w20.1 dX8_leftOut_23 (Nat.le_of_ble_eq_true rfl) ?_
        refine tt_setL (L2 := [(0, .ref b0), (1, .int x1), (2, va_rf w14.1), (3, va_rf w20.1)]) (by cases w14.1 <;> rfl) ?_
        refine zr_aload_n X w14.1 dX8_leftOut_24 rfl ?_
        cases hr25 : w14.1 with
        | none =>
          rw [hr25, gg_opt_none] at hs
          refine tt_ifnullN (tgt := 46) X dX8_leftOut_25 (by decide) ?_
          refine tt_drop [0, 1] ?_
          exact t_46 b0 x1 w20.2 hs
        | some b25 =>
          rw [hr25, gg_opt_some] at hs
          refine tt_ifnull X dX8_leftOut_25 ?_
          refine zr_aload_n X w20.1 dX8_leftOut_28 rfl ?_
          cases hr29 : w20.1 with
          | none =>
            rw [hr29, gg_opt_none] at hs
            refine tt_ifnullN (tgt := 46) X dX8_leftOut_29 (by decide) ?_
            refine tt_drop [0, 1] ?_
            exact t_46 b0 x1 w20.2 hs
          | some b29 =>
            rw [hr29, gg_opt_some] at hs
            refine tt_ifnull X dX8_leftOut_29 ?_
            refine tt_aload_n X dX8_leftOut_32 rfl ?_
            obtain ⟨o33, e33, hs⟩ := gg_bind hs
            refine zr_fr X e33 rfl in_X8_leftOut_X8 (by decide) (by decide +kernel) rfl dX8_leftOut_33 ?_
            refine tt_aload_n X dX8_leftOut_36 rfl ?_
            refine tt_aload_n X dX8_leftOut_37 rfl ?_
            obtain ⟨o38, f38, hs⟩ := gg_bind hs
            obtain ⟨w38, e38, hs⟩ := gg_bind hs
            refine zr_callV X f38 rfl (c_X3_make l e38) (fun hts => cwV 2 hts gX8_leftOut_X3_make rfl rfl rfl (by decide +kernel) ⟨by decide, by decide⟩) rfl rfl (Nat.le_of_ble_eq_true rfl) dX8_leftOut_38 ⟨Nat.zero_le _, Nat.zero_le _⟩ ?_
            refine tt_if_ne (tgt := 46) X dX8_leftOut_41 (by decide) (fun c41 => ?_) (fun c41 => ?_)
            · rw [if_neg c41] at hs
              refine tt_drop [0, 1] ?_
              exact t_46 b0 x1 w38.2 hs
            · rw [if_pos c41] at hs
              refine tt_iload_n X dX8_leftOut_44 rfl ?_
              obtain rfl := Option.some.inj hs
              exact tt_iret X rfl dX8_leftOut_45 ⟨rfl, rfl⟩
  refine tt_iconst (v := 1) X dX8_leftOut_0 (by decide) ?_
  refine tt_istore_n X dX8_leftOut_1 (Nat.le_of_ble_eq_true rfl) ?_
  refine tt_drop [0, 1] ?_
  exact t_2 1000 b0 1 h hs

def s_X8_ofDay (b0 : Nat) (x1 : Int32) (x2 : Int32) (h : tt_H) : Option (Int32 × tt_H) :=
  (gg_obj h b0 8).bind fun _ =>
  (s_X8_cryOf b0 x1 h).bind fun w2 =>
  gg_opt w2.1 (
    some ((-1), w2.2)
  ) fun b7 =>
  if x2 = ((-1)) then
    (gg_obj w2.2 b7 2).bind fun _ =>
    (s_X2_size b7 w2.2).bind fun w18 =>
    some (w18.1, w18.2)
  else
  (gg_obj w2.2 b7 2).bind fun _ =>
  (s_X2_has b7 x2 w2.2).bind fun w24 =>
  if w24.1 = 0 then
    some ((-1), w24.2)
  else
  (gg_obj w24.2 b7 2).bind fun _ =>
  (s_X2_at b7 x2 w24.2).bind fun w32 =>
  some (w32.1, w32.2)
abbrev rm_X8_ofDay : Room := { frames := 2, cells := 0, slots := 0, locals := 42 }
set_option maxHeartbeats 4000000 in
set_option maxRecDepth 100000 in
theorem c_X8_ofDay (l : Launch) {b0 : Nat} {x1 : Int32} {x2 : Int32} {h : tt_H} {ρ : Int32 × tt_H} (hs : s_X8_ofDay b0 x1 x2 h = some ρ) : tt_M tt_cl l yX8_ofDay wsX8_ofDay rm_X8_ofDay 0 0 false [.ref b0, .int x1, .int x2] h (tt_ret (some (.int ρ.1)) ρ.2) := by
  refine tt_M.of0 (cc := cX8_ofDay) (maxL := 4) (ret := (some .int)) (by decide +kernel) rfl (Nat.le_of_ble_eq_true rfl) ?_
  intro p e s m args below meth c D ca ad n0 sz hwf hsz X hini
  unfold s_X8_ofDay at hs
  refine tt_aload_n X dX8_ofDay_0 rfl ?_
  refine tt_iload_n X dX8_ofDay_1 rfl ?_
  obtain ⟨o2, f2, hs⟩ := gg_bind hs
  obtain ⟨w2, e2, hs⟩ := gg_bind hs
  refine zr_callV X f2 rfl (c_X8_cryOf l e2) (fun hts => cwV 1 hts gX8_ofDay_X8_cryOf rfl rfl rfl (by decide +kernel) ⟨by decide, by decide⟩) rfl rfl (Nat.le_of_ble_eq_true rfl) dX8_ofDay_2 ⟨Nat.zero_le _, Nat.zero_le _⟩ ?_
  refine zr_astore_n X w2.1 dX8_ofDay_5 (Nat.le_of_ble_eq_true rfl) ?_
  refine zr_aload_n X w2.1 dX8_ofDay_6 rfl ?_
  cases hr7 : w2.1 with
  | none =>
    rw [hr7, gg_opt_none] at hs
    refine tt_ifnonnullN X dX8_ofDay_7 ?_
    refine tt_iconst (v := (-1)) X dX8_ofDay_10 (by decide) ?_
    obtain rfl := Option.some.inj hs
    exact tt_iret X rfl dX8_ofDay_11 ⟨rfl, rfl⟩
  | some b7 =>
    rw [hr7, gg_opt_some] at hs
    refine tt_ifnonnull (tgt := 12) X dX8_ofDay_7 (by decide) ?_
    refine tt_iload_n X dX8_ofDay_12 rfl ?_
    refine tt_iconst (v := (-1)) X dX8_ofDay_13 (by decide) ?_
    refine tt_icmp_ne (tgt := 22) X dX8_ofDay_14 (by decide) (fun c14 => ?_) (fun c14 => ?_)
    · rw [if_neg c14] at hs
      refine tt_aload_n X dX8_ofDay_22 rfl ?_
      refine tt_iload_n X dX8_ofDay_23 rfl ?_
      obtain ⟨o24, f24, hs⟩ := gg_bind hs
      obtain ⟨w24, e24, hs⟩ := gg_bind hs
      refine zr_callV X f24 rfl (c_X2_has l e24) (fun hts => cwV 1 hts gX8_ofDay_X2_has rfl rfl rfl (by decide +kernel) ⟨by decide, by decide⟩) rfl rfl (Nat.le_of_ble_eq_true rfl) dX8_ofDay_24 ⟨Nat.zero_le _, Nat.zero_le _⟩ ?_
      refine tt_if_eq (tgt := 38) X dX8_ofDay_27 (by decide) (fun c27 => ?_) (fun c27 => ?_)
      · rw [if_pos c27] at hs
        refine tt_iconst (v := (-1)) X dX8_ofDay_38 (by decide) ?_
        obtain rfl := Option.some.inj hs
        exact tt_iret X rfl dX8_ofDay_39 ⟨rfl, rfl⟩
      · rw [if_neg c27] at hs
        refine tt_aload_n X dX8_ofDay_30 rfl ?_
        refine tt_iload_n X dX8_ofDay_31 rfl ?_
        obtain ⟨o32, f32, hs⟩ := gg_bind hs
        obtain ⟨w32, e32, hs⟩ := gg_bind hs
        refine zr_callV X f32 rfl (c_X2_at l e32) (fun hts => cwV 1 hts gX8_ofDay_X2_at rfl rfl rfl (by decide +kernel) ⟨by decide, by decide⟩) rfl rfl (Nat.le_of_ble_eq_true rfl) dX8_ofDay_32 ⟨Nat.zero_le _, Nat.zero_le _⟩ ?_
        refine tt_goto (tgt := 39) X dX8_ofDay_35 (by decide) ?_
        obtain rfl := Option.some.inj hs
        exact tt_iret X rfl dX8_ofDay_39 ⟨rfl, rfl⟩
    · rw [if_pos c14] at hs
      refine tt_aload_n X dX8_ofDay_17 rfl ?_
      obtain ⟨o18, f18, hs⟩ := gg_bind hs
      obtain ⟨w18, e18, hs⟩ := gg_bind hs
      refine zr_callV X f18 rfl (c_X2_size l e18) (fun hts => cwV 0 hts gX8_ofDay_X2_size rfl rfl rfl (by decide +kernel) ⟨by decide, by decide⟩) rfl rfl (Nat.le_of_ble_eq_true rfl) dX8_ofDay_18 ⟨Nat.zero_le _, Nat.zero_le _⟩ ?_
      obtain rfl := Option.some.inj hs
      exact tt_iret X rfl dX8_ofDay_21 ⟨rfl, rfl⟩

theorem in_X8_within_X8 : ∀ w ∈ u_ws RX8 TX8 13, w ∈ wsX8_within := by decide +kernel
def s_X8_within (b0 : Nat) (x1 : Int32) (x2 : Int32) (h : tt_H) : Option (Int32 × tt_H) :=
  (gg_obj h b0 8).bind fun _ =>
  (s_X8_cryOf b0 x1 h).bind fun w2 =>
  (gg_obj w2.2 b0 8).bind fun _ =>
  (s_X8_cryOf b0 x2 w2.2).bind fun w8 =>
  gg_opt w2.1 (
    some ((-1), w8.2)
  ) fun b14 =>
  gg_opt w8.1 (
    some ((-1), w8.2)
  ) fun b19 =>
  (gg_fr w8.2 b0 8 4).bind fun o25 =>
  (gg_obj w8.2 o25 3).bind fun _ =>
  (s_X3_make o25 b14 b19 w8.2).bind fun w31 =>
  if w31.1 = 0 then
    some (0, w31.2)
  else
  some (1, w31.2)
abbrev rm_X8_within : Room := { frames := 3, cells := 0, slots := 0, locals := 66 }
set_option maxHeartbeats 4000000 in
set_option maxRecDepth 100000 in
theorem c_X8_within (l : Launch) {b0 : Nat} {x1 : Int32} {x2 : Int32} {h : tt_H} {ρ : Int32 × tt_H} (hs : s_X8_within b0 x1 x2 h = some ρ) : tt_M tt_cl l yX8_within wsX8_within rm_X8_within 0 0 false [.ref b0, .int x1, .int x2] h (tt_ret (some (.int ρ.1)) ρ.2) := by
  refine tt_M.of0 (cc := cX8_within) (maxL := 5) (ret := (some .int)) (by decide +kernel) rfl (Nat.le_of_ble_eq_true rfl) ?_
  intro p e s m args below meth c D ca ad n0 sz hwf hsz X hini
  unfold s_X8_within at hs
  refine tt_aload_n X dX8_within_0 rfl ?_
  refine tt_iload_n X dX8_within_1 rfl ?_
  obtain ⟨o2, f2, hs⟩ := gg_bind hs
  obtain ⟨w2, e2, hs⟩ := gg_bind hs
  refine zr_callV X f2 rfl (c_X8_cryOf l e2) (fun hts => cwV 1 hts gX8_within_X8_cryOf rfl rfl rfl (by decide +kernel) ⟨by decide, by decide⟩) rfl rfl (Nat.le_of_ble_eq_true rfl) dX8_within_2 ⟨Nat.zero_le _, Nat.zero_le _⟩ ?_
  refine zr_astore_n X w2.1 dX8_within_5 (Nat.le_of_ble_eq_true rfl) ?_
  refine tt_aload_n X dX8_within_6 rfl ?_
  refine tt_iload_n X dX8_within_7 rfl ?_
  obtain ⟨o8, f8, hs⟩ := gg_bind hs
  obtain ⟨w8, e8, hs⟩ := gg_bind hs
  refine zr_callV X f8 rfl (c_X8_cryOf l e8) (fun hts => cwV 1 hts gX8_within_X8_cryOf rfl rfl rfl (by decide +kernel) ⟨by decide, by decide⟩) rfl rfl (Nat.le_of_ble_eq_true rfl) dX8_within_8 ⟨Nat.zero_le _, Nat.zero_le _⟩ ?_
  refine zr_astore X w8.1 dX8_within_11 (Nat.le_of_ble_eq_true rfl) ?_
  refine tt_setL (L2 := [(0, .ref b0), (1, .int x1), (2, .int x2), (3, va_rf w2.1), (4, va_rf w8.1)]) (by cases w2.1 <;> rfl) ?_
  refine zr_aload_n X w2.1 dX8_within_13 rfl ?_
  cases hr14 : w2.1 with
  | none =>
    rw [hr14, gg_opt_none] at hs
    refine tt_ifnullN (tgt := 22) X dX8_within_14 (by decide) ?_
    refine tt_iconst (v := (-1)) X dX8_within_22 (by decide) ?_
    obtain rfl := Option.some.inj hs
    exact tt_iret X rfl dX8_within_23 ⟨rfl, rfl⟩
  | some b14 =>
    rw [hr14, gg_opt_some] at hs
    refine tt_ifnull X dX8_within_14 ?_
    refine zr_aload X w8.1 dX8_within_17 rfl ?_
    cases hr19 : w8.1 with
    | none =>
      rw [hr19, gg_opt_none] at hs
      refine tt_ifnonnullN X dX8_within_19 ?_
      refine tt_iconst (v := (-1)) X dX8_within_22 (by decide) ?_
      obtain rfl := Option.some.inj hs
      exact tt_iret X rfl dX8_within_23 ⟨rfl, rfl⟩
    | some b19 =>
      rw [hr19, gg_opt_some] at hs
      refine tt_ifnonnull (tgt := 24) X dX8_within_19 (by decide) ?_
      refine tt_aload_n X dX8_within_24 rfl ?_
      obtain ⟨o25, e25, hs⟩ := gg_bind hs
      refine zr_fr X e25 rfl in_X8_within_X8 (by decide) (by decide +kernel) rfl dX8_within_25 ?_
      refine tt_aload_n X dX8_within_28 rfl ?_
      refine tt_aload X dX8_within_29 rfl ?_
      obtain ⟨o31, f31, hs⟩ := gg_bind hs
      obtain ⟨w31, e31, hs⟩ := gg_bind hs
      refine zr_callV X f31 rfl (c_X3_make l e31) (fun hts => cwV 2 hts gX8_within_X3_make rfl rfl rfl (by decide +kernel) ⟨by decide, by decide⟩) rfl rfl (Nat.le_of_ble_eq_true rfl) dX8_within_31 ⟨Nat.zero_le _, Nat.zero_le _⟩ ?_
      refine tt_if_eq (tgt := 41) X dX8_within_34 (by decide) (fun c34 => ?_) (fun c34 => ?_)
      · rw [if_pos c34] at hs
        refine tt_iconst (v := 0) X dX8_within_41 (by decide) ?_
        obtain rfl := Option.some.inj hs
        exact tt_iret X rfl dX8_within_42 ⟨rfl, rfl⟩
      · rw [if_neg c34] at hs
        refine tt_iconst (v := 1) X dX8_within_37 (by decide) ?_
        refine tt_goto (tgt := 42) X dX8_within_38 (by decide) ?_
        obtain rfl := Option.some.inj hs
        exact tt_iret X rfl dX8_within_42 ⟨rfl, rfl⟩

theorem in_X8_ways_X8 : ∀ w ∈ u_ws RX8 TX8 13, w ∈ wsX8_ways := by decide +kernel
def s_X8_ways (b0 : Nat) (x1 : Int32) (x2 : Int32) (h : tt_H) : Option (Int64 × tt_H) :=
  (gg_obj h b0 8).bind fun _ =>
  (s_X8_cryOf b0 x1 h).bind fun w2 =>
  (gg_obj w2.2 b0 8).bind fun _ =>
  (s_X8_cryOf b0 x2 w2.2).bind fun w8 =>
  gg_opt w2.1 (
    some ((-9223372036854775808), w8.2)
  ) fun b14 =>
  gg_opt w8.1 (
    some ((-9223372036854775808), w8.2)
  ) fun b19 =>
  (gg_fr w8.2 b0 8 4).bind fun o27 =>
  (gg_obj w8.2 o27 3).bind fun _ =>
  (s_X3_choices o27 b14 b19 w8.2).bind fun w33 =>
  some (w33.1, w33.2)
abbrev rm_X8_ways : Room := { frames := 3, cells := 0, slots := 0, locals := 67 }
set_option maxHeartbeats 4000000 in
set_option maxRecDepth 100000 in
theorem c_X8_ways (l : Launch) {b0 : Nat} {x1 : Int32} {x2 : Int32} {h : tt_H} {ρ : Int64 × tt_H} (hs : s_X8_ways b0 x1 x2 h = some ρ) : tt_M tt_cl l yX8_ways wsX8_ways rm_X8_ways 0 0 false [.ref b0, .int x1, .int x2] h (tt_ret (some (.long ρ.1)) ρ.2) := by
  refine tt_M.of0 (cc := cX8_ways) (maxL := 5) (ret := (some .long)) (by decide +kernel) rfl (Nat.le_of_ble_eq_true rfl) ?_
  intro p e s m args below meth c D ca ad n0 sz hwf hsz X hini
  unfold s_X8_ways at hs
  refine tt_aload_n X dX8_ways_0 rfl ?_
  refine tt_iload_n X dX8_ways_1 rfl ?_
  obtain ⟨o2, f2, hs⟩ := gg_bind hs
  obtain ⟨w2, e2, hs⟩ := gg_bind hs
  refine zr_callV X f2 rfl (c_X8_cryOf l e2) (fun hts => cwV 1 hts gX8_ways_X8_cryOf rfl rfl rfl (by decide +kernel) ⟨by decide, by decide⟩) rfl rfl (Nat.le_of_ble_eq_true rfl) dX8_ways_2 ⟨Nat.zero_le _, Nat.zero_le _⟩ ?_
  refine zr_astore_n X w2.1 dX8_ways_5 (Nat.le_of_ble_eq_true rfl) ?_
  refine tt_aload_n X dX8_ways_6 rfl ?_
  refine tt_iload_n X dX8_ways_7 rfl ?_
  obtain ⟨o8, f8, hs⟩ := gg_bind hs
  obtain ⟨w8, e8, hs⟩ := gg_bind hs
  refine zr_callV X f8 rfl (c_X8_cryOf l e8) (fun hts => cwV 1 hts gX8_ways_X8_cryOf rfl rfl rfl (by decide +kernel) ⟨by decide, by decide⟩) rfl rfl (Nat.le_of_ble_eq_true rfl) dX8_ways_8 ⟨Nat.zero_le _, Nat.zero_le _⟩ ?_
  refine zr_astore X w8.1 dX8_ways_11 (Nat.le_of_ble_eq_true rfl) ?_
  refine tt_setL (L2 := [(0, .ref b0), (1, .int x1), (2, .int x2), (3, va_rf w2.1), (4, va_rf w8.1)]) (by cases w2.1 <;> rfl) ?_
  refine zr_aload_n X w2.1 dX8_ways_13 rfl ?_
  cases hr14 : w2.1 with
  | none =>
    rw [hr14, gg_opt_none] at hs
    refine tt_ifnullN (tgt := 22) X dX8_ways_14 (by decide) ?_
    refine tt_ldc2 (v := (-9223372036854775808)) X (by decide +kernel) dX8_ways_22 ?_
    obtain rfl := Option.some.inj hs
    exact tt_lret X rfl dX8_ways_25 ⟨rfl, rfl⟩
  | some b14 =>
    rw [hr14, gg_opt_some] at hs
    refine tt_ifnull X dX8_ways_14 ?_
    refine zr_aload X w8.1 dX8_ways_17 rfl ?_
    cases hr19 : w8.1 with
    | none =>
      rw [hr19, gg_opt_none] at hs
      refine tt_ifnonnullN X dX8_ways_19 ?_
      refine tt_ldc2 (v := (-9223372036854775808)) X (by decide +kernel) dX8_ways_22 ?_
      obtain rfl := Option.some.inj hs
      exact tt_lret X rfl dX8_ways_25 ⟨rfl, rfl⟩
    | some b19 =>
      rw [hr19, gg_opt_some] at hs
      refine tt_ifnonnull (tgt := 26) X dX8_ways_19 (by decide) ?_
      refine tt_aload_n X dX8_ways_26 rfl ?_
      obtain ⟨o27, e27, hs⟩ := gg_bind hs
      refine zr_fr X e27 rfl in_X8_ways_X8 (by decide) (by decide +kernel) rfl dX8_ways_27 ?_
      refine tt_aload_n X dX8_ways_30 rfl ?_
      refine tt_aload X dX8_ways_31 rfl ?_
      obtain ⟨o33, f33, hs⟩ := gg_bind hs
      obtain ⟨w33, e33, hs⟩ := gg_bind hs
      refine zr_callV X f33 rfl (c_X3_choices l e33) (fun hts => cwV 2 hts gX8_ways_X3_choices rfl rfl rfl (by decide +kernel) ⟨by decide, by decide⟩) rfl rfl (Nat.le_of_ble_eq_true rfl) dX8_ways_33 ⟨Nat.zero_le _, Nat.zero_le _⟩ ?_
      obtain rfl := Option.some.inj hs
      exact tt_lret X rfl dX8_ways_36 ⟨rfl, rfl⟩

def s_X8_isFirstOrSecond_J9 (h : tt_H) : Option (Int32 × tt_H) :=
  some (1, h)
def s_X8_isFirstOrSecond (x0 : Int32) (h : tt_H) : Option (Int32 × tt_H) :=
  if x0 = 0 then
    s_X8_isFirstOrSecond_J9 h
  else
  if x0 = 1 then
    s_X8_isFirstOrSecond_J9 h
  else
  some (0, h)
abbrev rm_X8_isFirstOrSecond : Room := { frames := 0, cells := 0, slots := 0, locals := 0 }
set_option maxHeartbeats 4000000 in
set_option maxRecDepth 100000 in
theorem c_X8_isFirstOrSecond (l : Launch) {x0 : Int32} {h : tt_H} {ρ : Int32 × tt_H} (hs : s_X8_isFirstOrSecond x0 h = some ρ) : tt_M tt_cl l yX8_isFirstOrSecond wsX8_isFirstOrSecond rm_X8_isFirstOrSecond 0 0 false [.int x0] h (tt_ret (some (.int ρ.1)) ρ.2) := by
  refine tt_M.of0 (cc := cX8_isFirstOrSecond) (maxL := 1) (ret := (some .boolean)) (by decide +kernel) rfl (Nat.le_of_ble_eq_true rfl) ?_
  intro p e s m args below meth c D ca ad n0 sz hwf hsz X hini
  unfold s_X8_isFirstOrSecond at hs
  have t_9 : ∀  (h : tt_H), s_X8_isFirstOrSecond_J9 h = some ρ → tt_T tt_cl (p, l, e, rm_X8_isFirstOrSecond, s, m, args, below, meth, c, MQ below (tt_Q tt_cl D ca ad n0 sz false (tt_ret (some (.int ρ.1)) ρ.2)) args s 0 0 (tt_A ad n0 sz), D, ca, tt_A ad n0 sz, 1, some n0) ad 0 0 9 [] [] h := by
    intro h hs
    unfold s_X8_isFirstOrSecond_J9 at hs
    refine tt_iconst (v := 1) X dX8_isFirstOrSecond_9 (by decide) ?_
    refine tt_goto (tgt := 14) X dX8_isFirstOrSecond_10 (by decide) ?_
    obtain rfl := Option.some.inj hs
    exact tt_zret X rfl rfl dX8_isFirstOrSecond_14 ⟨rfl, rfl⟩
  refine tt_iload_n X dX8_isFirstOrSecond_0 rfl ?_
  refine tt_if_eq (tgt := 9) X dX8_isFirstOrSecond_1 (by decide) (fun c1 => ?_) (fun c1 => ?_)
  · rw [if_pos c1] at hs
    refine tt_drop [] ?_
    exact t_9 h hs
  · rw [if_neg c1] at hs
    refine tt_iload_n X dX8_isFirstOrSecond_4 rfl ?_
    refine tt_iconst (v := 1) X dX8_isFirstOrSecond_5 (by decide) ?_
    refine tt_icmp_ne (tgt := 13) X dX8_isFirstOrSecond_6 (by decide) (fun c6 => ?_) (fun c6 => ?_)
    · rw [if_neg c6] at hs
      refine tt_iconst (v := 0) X dX8_isFirstOrSecond_13 (by decide) ?_
      obtain rfl := Option.some.inj hs
      exact tt_zret X rfl rfl dX8_isFirstOrSecond_14 ⟨rfl, rfl⟩
    · rw [if_pos c6] at hs
      refine tt_drop [] ?_
      exact t_9 h hs

theorem in_X8_place_X8 : ∀ w ∈ u_ws RX8 TX8 13, w ∈ wsX8_place := by decide +kernel
def s_X8_place (b0 : Nat) (x1 : Int32) (x2 : Int32) (x3 : Int32) (x4 : Int32) (h : tt_H) : Option (Int32 × tt_H) :=
  (gg_obj h b0 8).bind fun _ =>
  (s_X8_cryOf b0 x1 h).bind fun w2 =>
  (gg_obj w2.2 b0 8).bind fun _ =>
  (s_X8_cryOf b0 x2 w2.2).bind fun w9 =>
  gg_opt w2.1 (
    some ((-1), w9.2)
  ) fun b16 =>
  gg_opt w9.1 (
    some ((-1), w9.2)
  ) fun b21 =>
  (gg_obj w9.2 b16 2).bind fun _ =>
  (s_X2_has b16 x3 w9.2).bind fun w27 =>
  if w27.1 = 0 then
    some ((-1), w27.2)
  else
  (s_X8_isFirstOrSecond x4 w27.2).bind fun w37 =>
  if w37.1 = 0 then
    some ((-2), w37.2)
  else
  (gg_fr w37.2 b0 8 4).bind fun o47 =>
  (gg_obj w37.2 o47 3).bind fun _ =>
  (s_X3_make o47 b16 b21 w37.2).bind fun w54 =>
  if w54.1 = 0 then
    some ((-9), w54.2)
  else
  if x4 = 0 then
    (gg_fr w54.2 b0 8 4).bind fun o69 =>
    (gg_obj w54.2 o69 3).bind fun _ =>
    (s_X3_first o69 x3 w54.2).bind fun w73 =>
    some (w73.1, w73.2)
  else
  (gg_fr w54.2 b0 8 4).bind fun o80 =>
  (gg_obj w54.2 o80 3).bind fun _ =>
  (s_X3_last o80 x3 w54.2).bind fun w84 =>
  some (w84.1, w84.2)
abbrev rm_X8_place : Room := { frames := 3, cells := 0, slots := 0, locals := 66 }
set_option maxHeartbeats 4000000 in
set_option maxRecDepth 100000 in
theorem c_X8_place (l : Launch) {b0 : Nat} {x1 : Int32} {x2 : Int32} {x3 : Int32} {x4 : Int32} {h : tt_H} {ρ : Int32 × tt_H} (hs : s_X8_place b0 x1 x2 x3 x4 h = some ρ) : tt_M tt_cl l yX8_place wsX8_place rm_X8_place 0 0 false [.ref b0, .int x1, .int x2, .int x3, .int x4] h (tt_ret (some (.int ρ.1)) ρ.2) := by
  refine tt_M.of0 (cc := cX8_place) (maxL := 7) (ret := (some .int)) (by decide +kernel) rfl (Nat.le_of_ble_eq_true rfl) ?_
  intro p e s m args below meth c D ca ad n0 sz hwf hsz X hini
  unfold s_X8_place at hs
  refine tt_aload_n X dX8_place_0 rfl ?_
  refine tt_iload_n X dX8_place_1 rfl ?_
  obtain ⟨o2, f2, hs⟩ := gg_bind hs
  obtain ⟨w2, e2, hs⟩ := gg_bind hs
  refine zr_callV X f2 rfl (c_X8_cryOf l e2) (fun hts => cwV 1 hts gX8_place_X8_cryOf rfl rfl rfl (by decide +kernel) ⟨by decide, by decide⟩) rfl rfl (Nat.le_of_ble_eq_true rfl) dX8_place_2 ⟨Nat.zero_le _, Nat.zero_le _⟩ ?_
  refine zr_astore X w2.1 dX8_place_5 (Nat.le_of_ble_eq_true rfl) ?_
  refine tt_aload_n X dX8_place_7 rfl ?_
  refine tt_iload_n X dX8_place_8 rfl ?_
  obtain ⟨o9, f9, hs⟩ := gg_bind hs
  obtain ⟨w9, e9, hs⟩ := gg_bind hs
  refine zr_callV X f9 rfl (c_X8_cryOf l e9) (fun hts => cwV 1 hts gX8_place_X8_cryOf rfl rfl rfl (by decide +kernel) ⟨by decide, by decide⟩) rfl rfl (Nat.le_of_ble_eq_true rfl) dX8_place_9 ⟨Nat.zero_le _, Nat.zero_le _⟩ ?_
  refine zr_astore X w9.1 dX8_place_12 (Nat.le_of_ble_eq_true rfl) ?_
  refine tt_setL (L2 := [(0, .ref b0), (1, .int x1), (2, .int x2), (3, .int x3), (4, .int x4), (5, va_rf w2.1), (6, va_rf w9.1)]) (by cases w2.1 <;> rfl) ?_
  refine zr_aload X w2.1 dX8_place_14 rfl ?_
  cases hr16 : w2.1 with
  | none =>
    rw [hr16, gg_opt_none] at hs
    refine tt_ifnullN (tgt := 33) X dX8_place_16 (by decide) ?_
    refine tt_iconst (v := (-1)) X dX8_place_33 (by decide) ?_
    obtain rfl := Option.some.inj hs
    exact tt_iret X rfl dX8_place_34 ⟨rfl, rfl⟩
  | some b16 =>
    rw [hr16, gg_opt_some] at hs
    refine tt_ifnull X dX8_place_16 ?_
    refine zr_aload X w9.1 dX8_place_19 rfl ?_
    cases hr21 : w9.1 with
    | none =>
      rw [hr21, gg_opt_none] at hs
      refine tt_ifnullN (tgt := 33) X dX8_place_21 (by decide) ?_
      refine tt_iconst (v := (-1)) X dX8_place_33 (by decide) ?_
      obtain rfl := Option.some.inj hs
      exact tt_iret X rfl dX8_place_34 ⟨rfl, rfl⟩
    | some b21 =>
      rw [hr21, gg_opt_some] at hs
      refine tt_ifnull X dX8_place_21 ?_
      refine tt_aload X dX8_place_24 rfl ?_
      refine tt_iload_n X dX8_place_26 rfl ?_
      obtain ⟨o27, f27, hs⟩ := gg_bind hs
      obtain ⟨w27, e27, hs⟩ := gg_bind hs
      refine zr_callV X f27 rfl (c_X2_has l e27) (fun hts => cwV 1 hts gX8_place_X2_has rfl rfl rfl (by decide +kernel) ⟨by decide, by decide⟩) rfl rfl (Nat.le_of_ble_eq_true rfl) dX8_place_27 ⟨Nat.zero_le _, Nat.zero_le _⟩ ?_
      refine tt_if_ne (tgt := 35) X dX8_place_30 (by decide) (fun c30 => ?_) (fun c30 => ?_)
      · rw [if_neg c30] at hs
        refine tt_iload X dX8_place_35 rfl ?_
        obtain ⟨w37, e37, hs⟩ := gg_bind hs
        refine zr_callS X (c_X8_isFirstOrSecond l e37) (fun hts => va_cwS 1 hts gX8_place_X8_isFirstOrSecond rfl rfl rfl (by decide +kernel) ⟨by decide, by decide⟩) rfl rfl (Nat.le_of_ble_eq_true rfl) dX8_place_37 ⟨Nat.zero_le _, Nat.zero_le _⟩ ?_
        refine tt_if_ne (tgt := 46) X dX8_place_40 (by decide) (fun c40 => ?_) (fun c40 => ?_)
        · rw [if_neg c40] at hs
          refine tt_aload_n X dX8_place_46 rfl ?_
          obtain ⟨o47, e47, hs⟩ := gg_bind hs
          refine zr_fr X e47 rfl in_X8_place_X8 (by decide) (by decide +kernel) rfl dX8_place_47 ?_
          refine tt_aload X dX8_place_50 rfl ?_
          refine tt_aload X dX8_place_52 rfl ?_
          obtain ⟨o54, f54, hs⟩ := gg_bind hs
          obtain ⟨w54, e54, hs⟩ := gg_bind hs
          refine zr_callV X f54 rfl (c_X3_make l e54) (fun hts => cwV 2 hts gX8_place_X3_make rfl rfl rfl (by decide +kernel) ⟨by decide, by decide⟩) rfl rfl (Nat.le_of_ble_eq_true rfl) dX8_place_54 ⟨Nat.zero_le _, Nat.zero_le _⟩ ?_
          refine tt_if_ne (tgt := 63) X dX8_place_57 (by decide) (fun c57 => ?_) (fun c57 => ?_)
          · rw [if_neg c57] at hs
            refine tt_iload X dX8_place_63 rfl ?_
            refine tt_if_ne (tgt := 79) X dX8_place_65 (by decide) (fun c65 => ?_) (fun c65 => ?_)
            · rw [if_neg c65] at hs
              refine tt_aload_n X dX8_place_79 rfl ?_
              obtain ⟨o80, e80, hs⟩ := gg_bind hs
              refine zr_fr X e80 rfl in_X8_place_X8 (by decide) (by decide +kernel) rfl dX8_place_80 ?_
              refine tt_iload_n X dX8_place_83 rfl ?_
              obtain ⟨o84, f84, hs⟩ := gg_bind hs
              obtain ⟨w84, e84, hs⟩ := gg_bind hs
              refine zr_callV X f84 rfl (c_X3_last l e84) (fun hts => cwV 1 hts gX8_place_X3_last rfl rfl rfl (by decide +kernel) ⟨by decide, by decide⟩) rfl rfl (Nat.le_of_ble_eq_true rfl) dX8_place_84 ⟨Nat.zero_le _, Nat.zero_le _⟩ ?_
              obtain rfl := Option.some.inj hs
              exact tt_iret X rfl dX8_place_87 ⟨rfl, rfl⟩
            · rw [if_pos c65] at hs
              refine tt_aload_n X dX8_place_68 rfl ?_
              obtain ⟨o69, e69, hs⟩ := gg_bind hs
              refine zr_fr X e69 rfl in_X8_place_X8 (by decide) (by decide +kernel) rfl dX8_place_69 ?_
              refine tt_iload_n X dX8_place_72 rfl ?_
              obtain ⟨o73, f73, hs⟩ := gg_bind hs
              obtain ⟨w73, e73, hs⟩ := gg_bind hs
              refine zr_callV X f73 rfl (c_X3_first l e73) (fun hts => cwV 1 hts gX8_place_X3_first rfl rfl rfl (by decide +kernel) ⟨by decide, by decide⟩) rfl rfl (Nat.le_of_ble_eq_true rfl) dX8_place_73 ⟨Nat.zero_le _, Nat.zero_le _⟩ ?_
              refine tt_goto (tgt := 87) X dX8_place_76 (by decide) ?_
              obtain rfl := Option.some.inj hs
              exact tt_iret X rfl dX8_place_87 ⟨rfl, rfl⟩
          · rw [if_pos c57] at hs
            refine tt_bipush (v := (-9)) X dX8_place_60 (by decide) ?_
            obtain rfl := Option.some.inj hs
            exact tt_iret X rfl dX8_place_62 ⟨rfl, rfl⟩
        · rw [if_pos c40] at hs
          refine tt_bipush (v := (-2)) X dX8_place_43 (by decide) ?_
          obtain rfl := Option.some.inj hs
          exact tt_iret X rfl dX8_place_45 ⟨rfl, rfl⟩
      · rw [if_pos c30] at hs
        refine tt_iconst (v := (-1)) X dX8_place_33 (by decide) ?_
        obtain rfl := Option.some.inj hs
        exact tt_iret X rfl dX8_place_34 ⟨rfl, rfl⟩

theorem in_X8_mayBe_X8 : ∀ w ∈ u_ws RX8 TX8 13, w ∈ wsX8_mayBe := by decide +kernel
def s_X8_mayBe_J67 (κ24 : Nat → Int32 → Nat → Int32 → Int32 → tt_H → Option (Int32 × tt_H)) (b0 : Nat) (x1 : Int32) (b2 : Nat) (x3 : Int32) (x4 : Int32) (h : tt_H) : Option (Int32 × tt_H) :=
  κ24 b0 x1 b2 x3 (x4 + 1) h
def s_X8_mayBe_L24 : Nat → Nat → Int32 → Nat → Int32 → Int32 → tt_H → Option (Int32 × tt_H)
  | 0, _, _, _, _, _, _ => none
  | n + 1, b0, x1, b2, x3, x4, h =>
    (gg_fi h b0 8 10).bind fun z27 =>
    if z27 ≤ x4 then
      some (x3, h)
    else
    (gg_obj h b0 8).bind fun _ =>
    (s_X8_cryOf b0 x4 h).bind fun w36 =>
    gg_opt w36.1 (
      s_X8_mayBe_J67 (s_X8_mayBe_L24 n) b0 x1 b2 x3 x4 w36.2
    ) fun b43 =>
    (gg_fr w36.2 b0 8 4).bind fun o47 =>
    (gg_obj w36.2 o47 3).bind fun _ =>
    (s_X3_canStand o47 b43 b2 x1 w36.2).bind fun w54 =>
    if w54.1 = 0 then
      s_X8_mayBe_J67 (s_X8_mayBe_L24 n) b0 x1 b2 x3 x4 w54.2
    else
    s_X8_mayBe_J67 (s_X8_mayBe_L24 n) b0 x1 b2 (x3 ||| ((1 : Int32) <<< (x4 &&& 31))) x4 w54.2
def s_X8_mayBe (b0 : Nat) (x1 : Int32) (h : tt_H) : Option (Int32 × tt_H) :=
  (gg_obj h b0 8).bind fun _ =>
  (s_X8_lastCry b0 h).bind fun w1 =>
  gg_opt w1.1 (
    some ((-1), w1.2)
  ) fun b6 =>
  (gg_obj w1.2 b6 2).bind fun _ =>
  (s_X2_has b6 x1 w1.2).bind fun w11 =>
  if w11.1 = 0 then
    some ((-1), w11.2)
  else
  s_X8_mayBe_L24 1000 b0 x1 b6 0 0 w11.2
abbrev rm_X8_mayBe : Room := { frames := 4, cells := 0, slots := 0, locals := 90 }
set_option maxHeartbeats 4000000 in
set_option maxRecDepth 100000 in
theorem c_X8_mayBe (l : Launch) {b0 : Nat} {x1 : Int32} {h : tt_H} {ρ : Int32 × tt_H} (hs : s_X8_mayBe b0 x1 h = some ρ) : tt_M tt_cl l yX8_mayBe wsX8_mayBe rm_X8_mayBe 0 0 false [.ref b0, .int x1] h (tt_ret (some (.int ρ.1)) ρ.2) := by
  refine tt_M.of0 (cc := cX8_mayBe) (maxL := 6) (ret := (some .int)) (by decide +kernel) rfl (Nat.le_of_ble_eq_true rfl) ?_
  intro p e s m args below meth c D ca ad n0 sz hwf hsz X hini
  unfold s_X8_mayBe at hs
  have t_24 : ∀ (fu : Nat) (b0 : Nat) (x1 : Int32) (b2 : Nat) (x3 : Int32) (x4 : Int32) (h : tt_H), s_X8_mayBe_L24 fu b0 x1 b2 x3 x4 h = some ρ → tt_T tt_cl (p, l, e, rm_X8_mayBe, s, m, args, below, meth, c, MQ below (tt_Q tt_cl D ca ad n0 sz false (tt_ret (some (.int ρ.1)) ρ.2)) args s 0 0 (tt_A ad n0 sz), D, ca, tt_A ad n0 sz, 6, some n0) ad 0 0 24 [(0, .ref b0), (1, .int x1), (2, .ref b2), (3, .int x3), (4, .int x4)] [] h := by
    intro fu
    induction fu with
    | zero => intro b0 x1 b2 x3 x4 h hs; exact absurd hs (by rw [s_X8_mayBe_L24]; exact fun q => by cases q)
    | succ n24 ih =>
      intro b0 x1 b2 x3 x4 h hs
      rw [s_X8_mayBe_L24] at hs
      have t_24 := ih
      have t_67 : ∀ (b0 : Nat) (x1 : Int32) (b2 : Nat) (x3 : Int32) (x4 : Int32) (h : tt_H), s_X8_mayBe_J67 (s_X8_mayBe_L24 n24) b0 x1 b2 x3 x4 h = some ρ → tt_T tt_cl (p, l, e, rm_X8_mayBe, s, m, args, below, meth, c, MQ below (tt_Q tt_cl D ca ad n0 sz false (tt_ret (some (.int ρ.1)) ρ.2)) args s 0 0 (tt_A ad n0 sz), D, ca, tt_A ad n0 sz, 6, some n0) ad 0 0 67 [(0, .ref b0), (1, .int x1), (2, .ref b2), (3, .int x3), (4, .int x4)] [] h := by
        intro b0 x1 b2 x3 x4 h hs
        unfold s_X8_mayBe_J67 at hs
        refine tt_iinc (v := x4 + 1) X dX8_mayBe_67 rfl rfl (Nat.le_of_ble_eq_true rfl) ?_
        refine tt_goto (tgt := 24) X dX8_mayBe_70 (by decide) ?_
        refine tt_drop [0, 1, 2, 3, 4] ?_
        exact t_24 b0 x1 b2 x3 (x4 + 1) h hs
      refine tt_iload X dX8_mayBe_24 rfl ?_
      refine tt_aload_n X dX8_mayBe_26 rfl ?_
      obtain ⟨z27, e27, hs⟩ := gg_bind hs
      refine zr_fi X e27 rfl in_X8_mayBe_X8 (by decide) (by decide +kernel) rfl dX8_mayBe_27 ?_
      refine tt_icmp_ge (tgt := 73) X dX8_mayBe_30 (by decide) (fun c30 => ?_) (fun c30 => ?_)
      · rw [if_pos c30] at hs
        refine tt_iload_n X dX8_mayBe_73 rfl ?_
        obtain rfl := Option.some.inj hs
        exact tt_iret X rfl dX8_mayBe_74 ⟨rfl, rfl⟩
      · rw [if_neg c30] at hs
        refine tt_aload_n X dX8_mayBe_33 rfl ?_
        refine tt_iload X dX8_mayBe_34 rfl ?_
        obtain ⟨o36, f36, hs⟩ := gg_bind hs
        obtain ⟨w36, e36, hs⟩ := gg_bind hs
        refine zr_callV X f36 rfl (c_X8_cryOf l e36) (fun hts => cwV 1 hts gX8_mayBe_X8_cryOf rfl rfl rfl (by decide +kernel) ⟨by decide, by decide⟩) rfl rfl (Nat.le_of_ble_eq_true rfl) dX8_mayBe_36 ⟨Nat.zero_le _, Nat.zero_le _⟩ ?_
        refine zr_astore X w36.1 dX8_mayBe_39 (Nat.le_of_ble_eq_true rfl) ?_
        refine zr_aload X w36.1 dX8_mayBe_41 rfl ?_
        cases hr43 : w36.1 with
        | none =>
          rw [hr43, gg_opt_none] at hs
          refine tt_ifnullN (tgt := 67) X dX8_mayBe_43 (by decide) ?_
          refine tt_drop [0, 1, 2, 3, 4] ?_
          exact t_67 b0 x1 b2 x3 x4 w36.2 hs
        | some b43 =>
          rw [hr43, gg_opt_some] at hs
          refine tt_ifnull X dX8_mayBe_43 ?_
          refine tt_aload_n X dX8_mayBe_46 rfl ?_
          obtain ⟨o47, e47, hs⟩ := gg_bind hs
          refine zr_fr X e47 rfl in_X8_mayBe_X8 (by decide) (by decide +kernel) rfl dX8_mayBe_47 ?_
          refine tt_aload X dX8_mayBe_50 rfl ?_
          refine tt_aload_n X dX8_mayBe_52 rfl ?_
          refine tt_iload_n X dX8_mayBe_53 rfl ?_
          obtain ⟨o54, f54, hs⟩ := gg_bind hs
          obtain ⟨w54, e54, hs⟩ := gg_bind hs
          refine zr_callV X f54 rfl (c_X3_canStand l e54) (fun hts => cwV 3 hts gX8_mayBe_X3_canStand rfl rfl rfl (by decide +kernel) ⟨by decide, by decide⟩) rfl rfl (Nat.le_of_ble_eq_true rfl) dX8_mayBe_54 ⟨Nat.zero_le _, Nat.zero_le _⟩ ?_
          refine tt_if_eq (tgt := 67) X dX8_mayBe_57 (by decide) (fun c57 => ?_) (fun c57 => ?_)
          · rw [if_pos c57] at hs
            refine tt_drop [0, 1, 2, 3, 4] ?_
            exact t_67 b0 x1 b2 x3 x4 w54.2 hs
          · rw [if_neg c57] at hs
            refine tt_iload_n X dX8_mayBe_60 rfl ?_
            refine tt_iconst (v := 1) X dX8_mayBe_61 (by decide) ?_
            refine tt_iload X dX8_mayBe_62 rfl ?_
            refine tt_ishl X dX8_mayBe_64 ?_
            refine tt_ior X dX8_mayBe_65 ?_
            refine tt_istore_n X dX8_mayBe_66 (Nat.le_of_ble_eq_true rfl) ?_
            refine tt_drop [0, 1, 2, 3, 4] ?_
            exact t_67 b0 x1 b2 (x3 ||| ((1 : Int32) <<< (x4 &&& 31))) x4 w54.2 hs
  refine tt_aload_n X dX8_mayBe_0 rfl ?_
  obtain ⟨o1, f1, hs⟩ := gg_bind hs
  obtain ⟨w1, e1, hs⟩ := gg_bind hs
  refine zr_callV X f1 rfl (c_X8_lastCry l e1) (fun hts => cwV 0 hts gX8_mayBe_X8_lastCry rfl rfl rfl (by decide +kernel) ⟨by decide, by decide⟩) rfl rfl (Nat.le_of_ble_eq_true rfl) dX8_mayBe_1 ⟨Nat.zero_le _, Nat.zero_le _⟩ ?_
  refine zr_astore_n X w1.1 dX8_mayBe_4 (Nat.le_of_ble_eq_true rfl) ?_
  refine zr_aload_n X w1.1 dX8_mayBe_5 rfl ?_
  cases hr6 : w1.1 with
  | none =>
    rw [hr6, gg_opt_none] at hs
    refine tt_ifnullN (tgt := 17) X dX8_mayBe_6 (by decide) ?_
    refine tt_iconst (v := (-1)) X dX8_mayBe_17 (by decide) ?_
    obtain rfl := Option.some.inj hs
    exact tt_iret X rfl dX8_mayBe_18 ⟨rfl, rfl⟩
  | some b6 =>
    rw [hr6, gg_opt_some] at hs
    refine tt_ifnull X dX8_mayBe_6 ?_
    refine tt_aload_n X dX8_mayBe_9 rfl ?_
    refine tt_iload_n X dX8_mayBe_10 rfl ?_
    obtain ⟨o11, f11, hs⟩ := gg_bind hs
    obtain ⟨w11, e11, hs⟩ := gg_bind hs
    refine zr_callV X f11 rfl (c_X2_has l e11) (fun hts => cwV 1 hts gX8_mayBe_X2_has rfl rfl rfl (by decide +kernel) ⟨by decide, by decide⟩) rfl rfl (Nat.le_of_ble_eq_true rfl) dX8_mayBe_11 ⟨Nat.zero_le _, Nat.zero_le _⟩ ?_
    refine tt_if_ne (tgt := 19) X dX8_mayBe_14 (by decide) (fun c14 => ?_) (fun c14 => ?_)
    · rw [if_neg c14] at hs
      refine tt_iconst (v := 0) X dX8_mayBe_19 (by decide) ?_
      refine tt_istore_n X dX8_mayBe_20 (Nat.le_of_ble_eq_true rfl) ?_
      refine tt_iconst (v := 0) X dX8_mayBe_21 (by decide) ?_
      refine tt_istore X dX8_mayBe_22 (Nat.le_of_ble_eq_true rfl) ?_
      refine tt_drop [0, 1, 2, 3, 4] ?_
      exact t_24 1000 b0 x1 b6 0 0 w11.2 hs
    · rw [if_pos c14] at hs
      refine tt_iconst (v := (-1)) X dX8_mayBe_17 (by decide) ?_
      obtain rfl := Option.some.inj hs
      exact tt_iret X rfl dX8_mayBe_18 ⟨rfl, rfl⟩

theorem in_X8_said_X8 : ∀ w ∈ u_ws RX8 TX8 13, w ∈ wsX8_said := by decide +kernel
def s_X8_said_J54 (κ17 : Nat → Nat → Int32 → Int32 → tt_H → Option (Int32 × tt_H)) (b0 : Nat) (b2 : Nat) (x3 : Int32) (x4 : Int32) (h : tt_H) : Option (Int32 × tt_H) :=
  κ17 b0 b2 x3 (x4 + 1) h
def s_X8_said_L17 : Nat → Nat → Nat → Int32 → Int32 → tt_H → Option (Int32 × tt_H)
  | 0, _, _, _, _, _ => none
  | n + 1, b0, b2, x3, x4, h =>
    if 8 ≤ x4 then
      some (x3, h)
    else
    (gg_fr h b0 8 0).bind fun o25 =>
    (gg_il h o25 x4).bind fun z30 =>
    if z30 = 0 then
      (gg_fr h b0 8 0).bind fun o36 =>
      (s_X5_isSaid b2 o36 x4 h).bind fun w41 =>
      if w41.1 = 0 then
        s_X8_said_J54 (s_X8_said_L17 n) b0 b2 x3 x4 w41.2
      else
      s_X8_said_J54 (s_X8_said_L17 n) b0 b2 (x3 ||| ((1 : Int32) <<< (x4 &&& 31))) x4 w41.2
    else
    s_X8_said_J54 (s_X8_said_L17 n) b0 b2 x3 x4 h
def s_X8_said (b0 : Nat) (x1 : Int32) (h : tt_H) : Option (Int32 × tt_H) :=
  (gg_obj h b0 8).bind fun _ =>
  (s_X8_cryOf b0 x1 h).bind fun w2 =>
  gg_opt w2.1 (
    some ((-1), w2.2)
  ) fun b7 =>
  s_X8_said_L17 1000 b0 b7 0 0 w2.2
abbrev rm_X8_said : Room := { frames := 3, cells := 0, slots := 0, locals := 66 }
set_option maxHeartbeats 4000000 in
set_option maxRecDepth 100000 in
theorem c_X8_said (l : Launch) {b0 : Nat} {x1 : Int32} {h : tt_H} {ρ : Int32 × tt_H} (hs : s_X8_said b0 x1 h = some ρ) : tt_M tt_cl l yX8_said wsX8_said rm_X8_said 0 0 false [.ref b0, .int x1] h (tt_ret (some (.int ρ.1)) ρ.2) := by
  refine tt_M.of0 (cc := cX8_said) (maxL := 5) (ret := (some .int)) (by decide +kernel) rfl (Nat.le_of_ble_eq_true rfl) ?_
  intro p e s m args below meth c D ca ad n0 sz hwf hsz X hini
  unfold s_X8_said at hs
  have t_17 : ∀ (fu : Nat) (b0 : Nat) (b2 : Nat) (x3 : Int32) (x4 : Int32) (h : tt_H), s_X8_said_L17 fu b0 b2 x3 x4 h = some ρ → tt_T tt_cl (p, l, e, rm_X8_said, s, m, args, below, meth, c, MQ below (tt_Q tt_cl D ca ad n0 sz false (tt_ret (some (.int ρ.1)) ρ.2)) args s 0 0 (tt_A ad n0 sz), D, ca, tt_A ad n0 sz, 5, some n0) ad 0 0 17 [(0, .ref b0), (2, .ref b2), (3, .int x3), (4, .int x4)] [] h := by
    intro fu
    induction fu with
    | zero => intro b0 b2 x3 x4 h hs; exact absurd hs (by rw [s_X8_said_L17]; exact fun q => by cases q)
    | succ n17 ih =>
      intro b0 b2 x3 x4 h hs
      rw [s_X8_said_L17] at hs
      have t_17 := ih
      have t_54 : ∀ (b0 : Nat) (b2 : Nat) (x3 : Int32) (x4 : Int32) (h : tt_H), s_X8_said_J54 (s_X8_said_L17 n17) b0 b2 x3 x4 h = some ρ → tt_T tt_cl (p, l, e, rm_X8_said, s, m, args, below, meth, c, MQ below (tt_Q tt_cl D ca ad n0 sz false (tt_ret (some (.int ρ.1)) ρ.2)) args s 0 0 (tt_A ad n0 sz), D, ca, tt_A ad n0 sz, 5, some n0) ad 0 0 54 [(0, .ref b0), (2, .ref b2), (3, .int x3), (4, .int x4)] [] h := by
        intro b0 b2 x3 x4 h hs
        unfold s_X8_said_J54 at hs
        refine tt_iinc (v := x4 + 1) X dX8_said_54 rfl rfl (Nat.le_of_ble_eq_true rfl) ?_
        refine tt_goto (tgt := 17) X dX8_said_57 (by decide) ?_
        refine tt_drop [0, 2, 3, 4] ?_
        exact t_17 b0 b2 x3 (x4 + 1) h hs
      refine tt_iload X dX8_said_17 rfl ?_
      refine tt_bipush (v := 8) X dX8_said_19 (by decide) ?_
      refine tt_icmp_ge (tgt := 60) X dX8_said_21 (by decide) (fun c21 => ?_) (fun c21 => ?_)
      · rw [if_pos c21] at hs
        refine tt_iload_n X dX8_said_60 rfl ?_
        obtain rfl := Option.some.inj hs
        exact tt_iret X rfl dX8_said_61 ⟨rfl, rfl⟩
      · rw [if_neg c21] at hs
        refine tt_aload_n X dX8_said_24 rfl ?_
        obtain ⟨o25, e25, hs⟩ := gg_bind hs
        refine zr_fr X e25 rfl in_X8_said_X8 (by decide) (by decide +kernel) rfl dX8_said_25 ?_
        refine tt_iload X dX8_said_28 rfl ?_
        obtain ⟨z30, e30, hs⟩ := gg_bind hs
        refine zr_il X e30 dX8_said_30 ?_
        refine tt_if_ne (tgt := 54) X dX8_said_31 (by decide) (fun c31 => ?_) (fun c31 => ?_)
        · rw [if_neg c31] at hs
          refine tt_drop [0, 2, 3, 4] ?_
          exact t_54 b0 b2 x3 x4 h hs
        · rw [if_pos c31] at hs
          refine tt_aload_n X dX8_said_34 rfl ?_
          refine tt_aload_n X dX8_said_35 rfl ?_
          obtain ⟨o36, e36, hs⟩ := gg_bind hs
          refine zr_fr X e36 rfl in_X8_said_X8 (by decide) (by decide +kernel) rfl dX8_said_36 ?_
          refine tt_iload X dX8_said_39 rfl ?_
          obtain ⟨w41, e41, hs⟩ := gg_bind hs
          refine zr_callS X (c_X5_isSaid l e41) (fun hts => va_cwS 3 hts gX8_said_X5_isSaid rfl rfl rfl (by decide +kernel) ⟨by decide, by decide⟩) rfl rfl (Nat.le_of_ble_eq_true rfl) dX8_said_41 ⟨Nat.zero_le _, Nat.zero_le _⟩ ?_
          refine tt_if_eq (tgt := 54) X dX8_said_44 (by decide) (fun c44 => ?_) (fun c44 => ?_)
          · rw [if_pos c44] at hs
            refine tt_drop [0, 2, 3, 4] ?_
            exact t_54 b0 b2 x3 x4 w41.2 hs
          · rw [if_neg c44] at hs
            refine tt_iload_n X dX8_said_47 rfl ?_
            refine tt_iconst (v := 1) X dX8_said_48 (by decide) ?_
            refine tt_iload X dX8_said_49 rfl ?_
            refine tt_ishl X dX8_said_51 ?_
            refine tt_ior X dX8_said_52 ?_
            refine tt_istore_n X dX8_said_53 (Nat.le_of_ble_eq_true rfl) ?_
            refine tt_drop [0, 2, 3, 4] ?_
            exact t_54 b0 b2 (x3 ||| ((1 : Int32) <<< (x4 &&& 31))) x4 w41.2 hs
  refine tt_aload_n X dX8_said_0 rfl ?_
  refine tt_iload_n X dX8_said_1 rfl ?_
  obtain ⟨o2, f2, hs⟩ := gg_bind hs
  obtain ⟨w2, e2, hs⟩ := gg_bind hs
  refine zr_callV X f2 rfl (c_X8_cryOf l e2) (fun hts => cwV 1 hts gX8_said_X8_cryOf rfl rfl rfl (by decide +kernel) ⟨by decide, by decide⟩) rfl rfl (Nat.le_of_ble_eq_true rfl) dX8_said_2 ⟨Nat.zero_le _, Nat.zero_le _⟩ ?_
  refine zr_astore_n X w2.1 dX8_said_5 (Nat.le_of_ble_eq_true rfl) ?_
  refine zr_aload_n X w2.1 dX8_said_6 rfl ?_
  cases hr7 : w2.1 with
  | none =>
    rw [hr7, gg_opt_none] at hs
    refine tt_ifnonnullN X dX8_said_7 ?_
    refine tt_iconst (v := (-1)) X dX8_said_10 (by decide) ?_
    obtain rfl := Option.some.inj hs
    exact tt_iret X rfl dX8_said_11 ⟨rfl, rfl⟩
  | some b7 =>
    rw [hr7, gg_opt_some] at hs
    refine tt_ifnonnull (tgt := 12) X dX8_said_7 (by decide) ?_
    refine tt_iconst (v := 0) X dX8_said_12 (by decide) ?_
    refine tt_istore_n X dX8_said_13 (Nat.le_of_ble_eq_true rfl) ?_
    refine tt_iconst (v := 0) X dX8_said_14 (by decide) ?_
    refine tt_istore X dX8_said_15 (Nat.le_of_ble_eq_true rfl) ?_
    refine tt_drop [0, 2, 3, 4] ?_
    exact t_17 1000 b0 b7 0 0 w2.2 hs
