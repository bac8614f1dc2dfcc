def s_L_cell (Ls : Nat) (xs : Nat → Int32) (x1 : Int32) (h : tt_H) : Option (Int32 × tt_H) :=
  if (nI Ls) ≤ x1 then
    some (747796405 * (x1 + 1), h)
  else
  (gg_ix x1 Ls (xs x1.toNatClampNeg)).bind fun z8 =>
  some (z8, h)
abbrev rm_L_cell : Room := { frames := 0, cells := 0, slots := 0, locals := 0 }
set_option maxHeartbeats 4000000 in
set_option maxRecDepth 100000 in
theorem c_L_cell (l : Launch) {Ls : Nat} {xs : Nat → Int32} {x1 : Int32} {h : tt_H} {ρ : Int32 × tt_H} (hs : s_L_cell Ls xs x1 h = some ρ) : tt_MY tt_cl l yL_cell wsL_cell rm_L_cell Ls xs [.ref 1000000, .int x1] h (tt_ret (some (.int ρ.1)) ρ.2) := by
  refine tt_MY.of0 (cc := cL_cell) (maxL := 2) (ret := (some .int)) (by decide +kernel) rfl (Nat.le_of_ble_eq_true rfl) ?_
  intro p e s m args below meth c D ca ad n0 sz hwf hsz Y X hini
  unfold s_L_cell at hs
  refine tt_iload_n X dL_cell_0 rfl ?_
  refine tt_aload_n X dL_cell_1 rfl ?_
  refine zr_slen X Y dL_cell_2 ?_
  refine tt_icmp_ge (tgt := 12) X dL_cell_3 (by decide) (fun c3 => ?_) (fun c3 => ?_)
  · rw [if_pos c3] at hs
    refine tt_ldc (v := 747796405) X (by decide +kernel) dL_cell_12 ?_
    refine tt_iload_n X dL_cell_14 rfl ?_
    refine tt_iconst (v := 1) X dL_cell_15 (by decide) ?_
    refine tt_iadd X dL_cell_16 ?_
    refine tt_imul X dL_cell_17 ?_
    obtain rfl := Option.some.inj hs
    exact tt_iret X rfl dL_cell_18 ⟨rfl, rfl⟩
  · rw [if_neg c3] at hs
    refine tt_aload_n X dL_cell_6 rfl ?_
    refine tt_iload_n X dL_cell_7 rfl ?_
    obtain ⟨z8, e8, hs⟩ := gg_bind hs
    refine zr_sl X Y e8 dL_cell_8 ?_
    refine tt_goto (tgt := 18) X dL_cell_9 (by decide) ?_
    obtain rfl := Option.some.inj hs
    exact tt_iret X rfl dL_cell_18 ⟨rfl, rfl⟩

def s_L_some (x0 : Int32) (x1 : Int32) (h : tt_H) : Option (Int32 × tt_H) :=
  (gg_nz x1).bind fun _ =>
  some ((x0 &&& 2147483647) - (x0 &&& 2147483647) / x1 * x1, h)
abbrev rm_L_some : Room := { frames := 0, cells := 0, slots := 0, locals := 0 }
set_option maxHeartbeats 4000000 in
set_option maxRecDepth 100000 in
theorem c_L_some (l : Launch) {x0 : Int32} {x1 : Int32} {h : tt_H} {ρ : Int32 × tt_H} (hs : s_L_some x0 x1 h = some ρ) : tt_M tt_cl l yL_some wsL_some rm_L_some 0 0 false [.int x0, .int x1] h (tt_ret (some (.int ρ.1)) ρ.2) := by
  refine tt_M.of0 (cc := cL_some) (maxL := 2) (ret := (some .int)) (by decide +kernel) rfl (Nat.le_of_ble_eq_true rfl) ?_
  intro p e s m args below meth c D ca ad n0 sz hwf hsz X hini
  unfold s_L_some at hs
  refine tt_iload_n X dL_some_0 rfl ?_
  refine tt_ldc (v := 2147483647) X (by decide +kernel) dL_some_1 ?_
  refine tt_iand X dL_some_3 ?_
  refine tt_iload_n X dL_some_4 rfl ?_
  obtain ⟨q5, e5, hs⟩ := gg_bind hs
  refine tt_irem X dL_some_5 (zr_nz e5) ?_
  obtain rfl := Option.some.inj hs
  exact tt_iret X rfl dL_some_6 ⟨rfl, rfl⟩

def s_L_kinds_L2 : Nat → Nat → Int32 → Nat → Int32 → tt_H → Option (Int32 × tt_H)
  | 0, _, _, _, _, _ => none
  | n + 1, b0, x1, b2, x3, h =>
    if 3 ≤ x3 then
      some (1, h)
    else
    (s_L_some (x1 >>> ((4 * x3) &&& 31)) 8 h).bind fun w14 =>
    (s_L_some (x1 >>> ((3 + (4 * x3)) &&& 31)) 3 w14.2).bind fun w27 =>
    (gg_obj w27.2 b0 8).bind fun _ =>
    (s_X8_kind b0 w14.1 w27.1 w27.2).bind fun w37 =>
    (gg_il w37.2 b2 w14.1).bind fun z43 =>
    if w37.1 = z43 then
      (gg_is w37.2 b2 w14.1 w27.1).bind fun h54 =>
      s_L_kinds_L2 n b0 x1 b2 (x3 + 1) h54
    else
    some (0, w37.2)
def s_L_kinds (b0 : Nat) (x1 : Int32) (b2 : Nat) (h : tt_H) : Option (Int32 × tt_H) :=
  s_L_kinds_L2 1000 b0 x1 b2 0 h
abbrev rm_L_kinds : Room := { frames := 2, cells := 0, slots := 0, locals := 43 }
set_option maxHeartbeats 4000000 in
set_option maxRecDepth 100000 in
theorem c_L_kinds (l : Launch) {b0 : Nat} {x1 : Int32} {b2 : Nat} {h : tt_H} {ρ : Int32 × tt_H} (hs : s_L_kinds b0 x1 b2 h = some ρ) : tt_M tt_cl l yL_kinds wsL_kinds rm_L_kinds 0 0 false [.ref b0, .int x1, .ref b2] h (tt_ret (some (.int ρ.1)) ρ.2) := by
  refine tt_M.of0 (cc := cL_kinds) (maxL := 6) (ret := (some .boolean)) (by decide +kernel) rfl (Nat.le_of_ble_eq_true rfl) ?_
  intro p e s m args below meth c D ca ad n0 sz hwf hsz X hini
  unfold s_L_kinds at hs
  have t_2 : ∀ (fu : Nat) (b0 : Nat) (x1 : Int32) (b2 : Nat) (x3 : Int32) (h : tt_H), s_L_kinds_L2 fu b0 x1 b2 x3 h = some ρ → tt_T tt_cl (p, l, e, rm_L_kinds, s, m, args, below, meth, c, MQ below (tt_Q tt_cl D ca ad n0 sz false (tt_ret (some (.int ρ.1)) ρ.2)) args s 0 0 (tt_A ad n0 sz), D, ca, tt_A ad n0 sz, 6, some n0) ad 0 0 2 [(0, .ref b0), (1, .int x1), (2, .ref b2), (3, .int x3)] [] h := by
    intro fu
    induction fu with
    | zero => intro b0 x1 b2 x3 h hs; exact absurd hs (by rw [s_L_kinds_L2]; exact fun q => by cases q)
    | succ n2 ih =>
      intro b0 x1 b2 x3 h hs
      rw [s_L_kinds_L2] at hs
      have t_2 := ih
      refine tt_iload_n X dL_kinds_2 rfl ?_
      refine tt_iconst (v := 3) X dL_kinds_3 (by decide) ?_
      refine tt_icmp_ge (tgt := 61) X dL_kinds_4 (by decide) (fun c4 => ?_) (fun c4 => ?_)
      · rw [if_pos c4] at hs
        refine tt_iconst (v := 1) X dL_kinds_61 (by decide) ?_
        obtain rfl := Option.some.inj hs
        exact tt_zret X rfl rfl dL_kinds_62 ⟨rfl, rfl⟩
      · rw [if_neg c4] at hs
        refine tt_iload_n X dL_kinds_7 rfl ?_
        refine tt_iconst (v := 4) X dL_kinds_8 (by decide) ?_
        refine tt_iload_n X dL_kinds_9 rfl ?_
        refine tt_imul X dL_kinds_10 ?_
        refine tt_ishr X dL_kinds_11 ?_
        refine tt_bipush (v := 8) X dL_kinds_12 (by decide) ?_
        obtain ⟨w14, e14, hs⟩ := gg_bind hs
        refine zr_callS X (c_L_some l e14) (fun hts => va_cwS 2 hts gL_kinds_L_some rfl rfl rfl (by decide +kernel) ⟨by decide, by decide⟩) rfl rfl (Nat.le_of_ble_eq_true rfl) dL_kinds_14 ⟨Nat.zero_le _, Nat.zero_le _⟩ ?_
        refine tt_istore X dL_kinds_17 (Nat.le_of_ble_eq_true rfl) ?_
        refine tt_iload_n X dL_kinds_19 rfl ?_
        refine tt_iconst (v := 3) X dL_kinds_20 (by decide) ?_
        refine tt_iconst (v := 4) X dL_kinds_21 (by decide) ?_
        refine tt_iload_n X dL_kinds_22 rfl ?_
        refine tt_imul X dL_kinds_23 ?_
        refine tt_iadd X dL_kinds_24 ?_
        refine tt_ishr X dL_kinds_25 ?_
        refine tt_iconst (v := 3) X dL_kinds_26 (by decide) ?_
        obtain ⟨w27, e27, hs⟩ := gg_bind hs
        refine zr_callS X (c_L_some l e27) (fun hts => va_cwS 2 hts gL_kinds_L_some rfl rfl rfl (by decide +kernel) ⟨by decide, by decide⟩) rfl rfl (Nat.le_of_ble_eq_true rfl) dL_kinds_27 ⟨Nat.zero_le _, Nat.zero_le _⟩ ?_
        refine tt_istore X dL_kinds_30 (Nat.le_of_ble_eq_true rfl) ?_
        refine tt_aload_n X dL_kinds_32 rfl ?_
        refine tt_iload X dL_kinds_33 rfl ?_
        refine tt_iload X dL_kinds_35 rfl ?_
        obtain ⟨o37, f37, hs⟩ := gg_bind hs
        obtain ⟨w37, e37, hs⟩ := gg_bind hs
        refine zr_callV X f37 rfl (c_X8_kind l e37) (fun hts => cwV 2 hts gL_kinds_X8_kind rfl rfl rfl (by decide +kernel) ⟨by decide, by decide⟩) rfl rfl (Nat.le_of_ble_eq_true rfl) dL_kinds_37 ⟨Nat.zero_le _, Nat.zero_le _⟩ ?_
        refine tt_aload_n X dL_kinds_40 rfl ?_
        refine tt_iload X dL_kinds_41 rfl ?_
        obtain ⟨z43, e43, hs⟩ := gg_bind hs
        refine zr_il X e43 dL_kinds_43 ?_
        refine tt_icmp_eq (tgt := 49) X dL_kinds_44 (by decide) (fun c44 => ?_) (fun c44 => ?_)
        · rw [if_pos c44] at hs
          refine tt_aload_n X dL_kinds_49 rfl ?_
          refine tt_iload X dL_kinds_50 rfl ?_
          refine tt_iload X dL_kinds_52 rfl ?_
          obtain ⟨h54, e54, hs⟩ := gg_bind hs
          refine zr_is X e54 dL_kinds_54 ?_
          refine tt_iinc (v := x3 + 1) X dL_kinds_55 rfl rfl (Nat.le_of_ble_eq_true rfl) ?_
          refine tt_goto (tgt := 2) X dL_kinds_58 (by decide) ?_
          refine tt_drop [0, 1, 2, 3] ?_
          exact t_2 b0 x1 b2 (x3 + 1) h54 hs
        · rw [if_neg c44] at hs
          refine tt_iconst (v := 0) X dL_kinds_47 (by decide) ?_
          obtain rfl := Option.some.inj hs
          exact tt_zret X rfl rfl dL_kinds_48 ⟨rfl, rfl⟩
  refine tt_iconst (v := 0) X dL_kinds_0 (by decide) ?_
  refine tt_istore_n X dL_kinds_1 (Nat.le_of_ble_eq_true rfl) ?_
  refine tt_drop [0, 1, 2, 3] ?_
  exact t_2 1000 b0 x1 b2 0 h hs

def s_L_with (y0 : Int64) (x2 : Int32) (x3 : Int32) (h : tt_H) : Option (Int64 × tt_H) :=
  some (((y0 &&& (((1 : Int64) <<< ((3 * x2).toInt64 &&& 63)) - 1)) ||| (x3.toInt64 <<< ((3 * x2).toInt64 &&& 63))) ||| ((y0 >>> ((3 * x2).toInt64 &&& 63)) <<< (((3 * x2) + 3).toInt64 &&& 63)), h)
abbrev rm_L_with : Room := { frames := 0, cells := 0, slots := 0, locals := 0 }
set_option maxHeartbeats 4000000 in
set_option maxRecDepth 100000 in
theorem c_L_with (l : Launch) {y0 : Int64} {x2 : Int32} {x3 : Int32} {h : tt_H} {ρ : Int64 × tt_H} (hs : s_L_with y0 x2 x3 h = some ρ) : tt_M tt_cl l yL_with wsL_with rm_L_with 0 0 false [.long y0, .int x2, .int x3] h (tt_ret (some (.long ρ.1)) ρ.2) := by
  refine tt_M.of0 (cc := cL_with) (maxL := 6) (ret := (some .long)) (by decide +kernel) rfl (Nat.le_of_ble_eq_true rfl) ?_
  intro p e s m args below meth c D ca ad n0 sz hwf hsz X hini
  unfold s_L_with at hs
  refine tt_lload_n X dL_with_0 rfl ?_
  refine tt_lconst (v := 1) X dL_with_1 (by decide) ?_
  refine tt_iconst (v := 3) X dL_with_2 (by decide) ?_
  refine tt_iload_n X dL_with_3 rfl ?_
  refine tt_imul X dL_with_4 ?_
  refine tt_lshl X dL_with_5 ?_
  refine tt_lconst (v := 1) X dL_with_6 (by decide) ?_
  refine tt_lsub X dL_with_7 ?_
  refine tt_land X dL_with_8 ?_
  refine tt_lstore X dL_with_9 (Nat.le_of_ble_eq_true rfl) ?_
  refine tt_lload X dL_with_11 rfl ?_
  refine tt_iload_n X dL_with_13 rfl ?_
  refine tt_i2l X dL_with_14 ?_
  refine tt_iconst (v := 3) X dL_with_15 (by decide) ?_
  refine tt_iload_n X dL_with_16 rfl ?_
  refine tt_imul X dL_with_17 ?_
  refine tt_lshl X dL_with_18 ?_
  refine tt_lor X dL_with_19 ?_
  refine tt_lload_n X dL_with_20 rfl ?_
  refine tt_iconst (v := 3) X dL_with_21 (by decide) ?_
  refine tt_iload_n X dL_with_22 rfl ?_
  refine tt_imul X dL_with_23 ?_
  refine tt_lshr X dL_with_24 ?_
  refine tt_iconst (v := 3) X dL_with_25 (by decide) ?_
  refine tt_iload_n X dL_with_26 rfl ?_
  refine tt_imul X dL_with_27 ?_
  refine tt_iconst (v := 3) X dL_with_28 (by decide) ?_
  refine tt_iadd X dL_with_29 ?_
  refine tt_lshl X dL_with_30 ?_
  refine tt_lor X dL_with_31 ?_
  obtain rfl := Option.some.inj hs
  exact tt_lret X rfl dL_with_32 ⟨rfl, rfl⟩

def s_L_word (y0 : Int64) (x2 : Int32) (h : tt_H) : Option (Int32 × tt_H) :=
  some (((y0 >>> ((3 * x2).toInt64 &&& 63)) &&& 7).toInt32, h)
abbrev rm_L_word : Room := { frames := 0, cells := 0, slots := 0, locals := 0 }
set_option maxHeartbeats 4000000 in
set_option maxRecDepth 100000 in
theorem c_L_word (l : Launch) {y0 : Int64} {x2 : Int32} {h : tt_H} {ρ : Int32 × tt_H} (hs : s_L_word y0 x2 h = some ρ) : tt_M tt_cl l yL_word wsL_word rm_L_word 0 0 false [.long y0, .int x2] h (tt_ret (some (.int ρ.1)) ρ.2) := by
  refine tt_M.of0 (cc := cL_word) (maxL := 3) (ret := (some .int)) (by decide +kernel) rfl (Nat.le_of_ble_eq_true rfl) ?_
  intro p e s m args below meth c D ca ad n0 sz hwf hsz X hini
  unfold s_L_word at hs
  refine tt_lload_n X dL_word_0 rfl ?_
  refine tt_iconst (v := 3) X dL_word_1 (by decide) ?_
  refine tt_iload_n X dL_word_2 rfl ?_
  refine tt_imul X dL_word_3 ?_
  refine tt_lshr X dL_word_4 ?_
  refine tt_ldc2 (v := 7) X (by decide +kernel) dL_word_5 ?_
  refine tt_land X dL_word_8 ?_
  refine tt_l2i X dL_word_9 ?_
  obtain rfl := Option.some.inj hs
  exact tt_iret X rfl dL_word_10 ⟨rfl, rfl⟩

def s_L_put_L298 (Ls : Nat) (xs : Nat → Int32) (κ41 : Nat → Int32 → Int32 → Nat → Nat → Int32 → Int32 → Int32 → tt_H → Option (Int32 × tt_H)) : Nat → Nat → Int32 → Int32 → Nat → Nat → Int32 → Int32 → Int32 → Int32 → tt_H → Option (Int32 × tt_H)
  | 0, _, _, _, _, _, _, _, _, _, _ => none
  | n + 1, b0, x2, x3, b4, b5, x6, x7, x8, x12, h =>
    (gg_il h b5 (1 + x8)).bind fun z306 =>
    if z306 ≤ x12 then
      κ41 b0 x2 x3 b4 b5 x6 x7 (x8 + 1) h
    else
    (gg_jl h b4 x8).bind fun z323 =>
    (s_L_word z323 x12 h).bind fun w326 =>
    (gg_obj w326.2 b0 8).bind fun _ =>
    (s_X8_put b0 0 x7 (97 + w326.1) w326.2).bind fun w330 =>
    if w330.1 = 1 then
      s_L_put_L298 Ls xs κ41 n b0 x2 x3 b4 b5 x6 (x7 + 1) x8 (x12 + 1) w330.2
    else
    some ((-99), w330.2)
def s_L_put_J295 (Ls : Nat) (xs : Nat → Int32) (κ41 : Nat → Int32 → Int32 → Nat → Nat → Int32 → Int32 → Int32 → tt_H → Option (Int32 × tt_H)) (b0 : Nat) (x2 : Int32) (x3 : Int32) (b4 : Nat) (b5 : Nat) (x6 : Int32) (x7 : Int32) (x8 : Int32) (h : tt_H) : Option (Int32 × tt_H) :=
  s_L_put_L298 Ls xs κ41 1000 b0 x2 x3 b4 b5 x6 x7 x8 0 h
def s_L_put_J271 (Ls : Nat) (xs : Nat → Int32) (κ41 : Nat → Int32 → Int32 → Nat → Nat → Int32 → Int32 → Int32 → tt_H → Option (Int32 × tt_H)) (b0 : Nat) (x2 : Int32) (x3 : Int32) (b4 : Nat) (b5 : Nat) (x6 : Int32) (x7 : Int32) (x8 : Int32) (h : tt_H) : Option (Int32 × tt_H) :=
  if x8 ≤ 0 then
    s_L_put_J295 Ls xs κ41 b0 x2 x3 b4 b5 x6 x7 x8 h
  else
  (gg_obj h b0 8).bind fun _ =>
  (s_X8_put b0 0 x7 59 h).bind fun w285 =>
  if w285.1 = 1 then
    s_L_put_J295 Ls xs κ41 b0 x2 x3 b4 b5 x6 (x7 + 1) x8 w285.2
  else
  some ((-99), w285.2)
def s_L_put_J232 (Ls : Nat) (xs : Nat → Int32) (κ167 : Nat → Int32 → Int32 → Nat → Nat → Int32 → Int32 → Int32 → Int32 → Int32 → Int32 → tt_H → Option (Int32 × tt_H)) (b0 : Nat) (x2 : Int32) (x3 : Int32) (b4 : Nat) (b5 : Nat) (x6 : Int32) (x7 : Int32) (x8 : Int32) (x9 : Int32) (x11 : Int32) (x12 : Int32) (x13 : Int32) (ux0 : Int32) (ux1 : Int32) (h : tt_H) : Option (Int32 × tt_H) :=
  (s_L_some ux0 ux1 h).bind fun w232 =>
  (gg_jl w232.2 b4 x8).bind fun z245 =>
  (s_L_with z245 x13 w232.1 w232.2).bind fun w250 =>
  (gg_js w250.2 b4 x8 w250.1).bind fun h253 =>
  (gg_il h253 b5 (1 + x8)).bind fun z261 =>
  (gg_is h253 b5 (1 + x8) (z261 + 1)).bind fun h264 =>
  κ167 b0 x2 x3 b4 b5 x6 x7 x8 x9 x11 (x12 + 1) h264
def s_L_put_L167 (Ls : Nat) (xs : Nat → Int32) (κ41 : Nat → Int32 → Int32 → Nat → Nat → Int32 → Int32 → Int32 → tt_H → Option (Int32 × tt_H)) : Nat → Nat → Int32 → Int32 → Nat → Nat → Int32 → Int32 → Int32 → Int32 → Int32 → Int32 → tt_H → Option (Int32 × tt_H)
  | 0, _, _, _, _, _, _, _, _, _, _, _, _ => none
  | n + 1, b0, x2, x3, b4, b5, x6, x7, x8, x9, x11, x12, h =>
    if x11 ≤ x12 then
      s_L_put_J271 Ls xs κ41 b0 x2 x3 b4 b5 x6 x7 x8 h
    else
    (gg_il h b5 (1 + x8)).bind fun z180 =>
    if x3 ≤ z180 then
      s_L_put_J271 Ls xs κ41 b0 x2 x3 b4 b5 x6 x7 x8 h
    else
    (gg_il h b5 (1 + x8)).bind fun z198 =>
    (s_L_some (x9 >>> ((4 + x12) &&& 31)) (z198 + 1) h).bind fun w201 =>
    (s_L_some (x6 >>> (5 &&& 31)) 2 w201.2).bind fun w220 =>
    if w220.1 = 0 then
      s_L_put_J232 Ls xs (s_L_put_L167 Ls xs κ41 n) b0 x2 x3 b4 b5 x6 x7 x8 x9 x11 x12 w201.1 (x9 >>> ((3 + (2 * x12)) &&& 31)) 8 w220.2
    else
    s_L_put_J232 Ls xs (s_L_put_L167 Ls xs κ41 n) b0 x2 x3 b4 b5 x6 x7 x8 x9 x11 x12 w201.1 (x9 >>> ((3 + (2 * x12)) &&& 31)) 3 w220.2
def s_L_put_J162 (Ls : Nat) (xs : Nat → Int32) (κ41 : Nat → Int32 → Int32 → Nat → Nat → Int32 → Int32 → Int32 → tt_H → Option (Int32 × tt_H)) (b0 : Nat) (x2 : Int32) (x3 : Int32) (b4 : Nat) (b5 : Nat) (x6 : Int32) (x7 : Int32) (x8 : Int32) (x9 : Int32) (ux0 : Int32) (h : tt_H) : Option (Int32 × tt_H) :=
  s_L_put_L167 Ls xs κ41 1000 b0 x2 x3 b4 b5 x6 x7 x8 x9 ux0 0 h
def s_L_put_J134 (Ls : Nat) (xs : Nat → Int32) (κ41 : Nat → Int32 → Int32 → Nat → Nat → Int32 → Int32 → Int32 → tt_H → Option (Int32 × tt_H)) (b0 : Nat) (x2 : Int32) (x3 : Int32) (b4 : Nat) (b5 : Nat) (x6 : Int32) (x7 : Int32) (x8 : Int32) (x9 : Int32) (x10 : Int32) (ub0 : Nat) (ux1 : Int32) (ux2 : Int32) (h : tt_H) : Option (Int32 × tt_H) :=
  (gg_is h ub0 ux1 ux2).bind fun h134 =>
  if x10 = 0 then
    (s_L_some (x9 >>> (2 &&& 31)) 6 h134).bind fun w158 =>
    s_L_put_J162 Ls xs κ41 b0 x2 x3 b4 b5 x6 x7 x8 x9 (1 + w158.1) w158.2
  else
  (s_L_some (x9 >>> (2 &&& 31)) 3 h134).bind fun w145 =>
  s_L_put_J162 Ls xs κ41 b0 x2 x3 b4 b5 x6 x7 x8 x9 w145.1 w145.2
def s_L_put_J113 (Ls : Nat) (xs : Nat → Int32) (κ41 : Nat → Int32 → Int32 → Nat → Nat → Int32 → Int32 → Int32 → tt_H → Option (Int32 × tt_H)) (b0 : Nat) (x2 : Int32) (x3 : Int32) (b4 : Nat) (b5 : Nat) (x6 : Int32) (x7 : Int32) (x8 : Int32) (x9 : Int32) (x10 : Int32) (ub0 : Nat) (ux1 : Int32) (uy2 : Int64) (h : tt_H) : Option (Int32 × tt_H) :=
  (gg_js h ub0 ux1 uy2).bind fun h113 =>
  if x10 = 0 then
    s_L_put_J134 Ls xs κ41 b0 x2 x3 b4 b5 x6 x7 x8 x9 x10 b5 (1 + x8) 0 h113
  else
  (gg_il h113 b5 x8).bind fun z129 =>
  s_L_put_J134 Ls xs κ41 b0 x2 x3 b4 b5 x6 x7 x8 x9 x10 b5 (1 + x8) z129 h113
def s_L_put_J91 (Ls : Nat) (xs : Nat → Int32) (κ41 : Nat → Int32 → Int32 → Nat → Nat → Int32 → Int32 → Int32 → tt_H → Option (Int32 × tt_H)) (b0 : Nat) (x2 : Int32) (x3 : Int32) (b4 : Nat) (b5 : Nat) (x6 : Int32) (x7 : Int32) (x8 : Int32) (x9 : Int32) (ux0 : Int32) (h : tt_H) : Option (Int32 × tt_H) :=
  if ux0 = 0 then
    s_L_put_J113 Ls xs κ41 b0 x2 x3 b4 b5 x6 x7 x8 x9 ux0 b4 x8 0 h
  else
  (gg_jl h b4 (x8 - 1)).bind fun z108 =>
  s_L_put_J113 Ls xs κ41 b0 x2 x3 b4 b5 x6 x7 x8 x9 ux0 b4 x8 z108 h
def s_L_put_J90 (Ls : Nat) (xs : Nat → Int32) (κ91 : Nat → Int32 → Int32 → Nat → Nat → Int32 → Int32 → Int32 → Int32 → Int32 → tt_H → Option (Int32 × tt_H)) (b0 : Nat) (x2 : Int32) (x3 : Int32) (b4 : Nat) (b5 : Nat) (x6 : Int32) (x7 : Int32) (x8 : Int32) (x9 : Int32) (h : tt_H) : Option (Int32 × tt_H) :=
  κ91 b0 x2 x3 b4 b5 x6 x7 x8 x9 0 h
def s_L_put_L41 (Ls : Nat) (xs : Nat → Int32) : Nat → Nat → Int32 → Int32 → Nat → Nat → Int32 → Int32 → Int32 → tt_H → Option (Int32 × tt_H)
  | 0, _, _, _, _, _, _, _, _, _ => none
  | n + 1, b0, x2, x3, b4, b5, x6, x7, x8, h =>
    (gg_il h b5 0).bind fun z46 =>
    if z46 ≤ x8 then
      some (x7, h)
    else
    (gg_nz 3).bind fun _ =>
    (s_L_cell Ls xs ((x2 + 1) + (x8 - x8 / 3 * 3)) h).bind fun w59 =>
    (gg_nz 3).bind fun _ =>
    if x8 ≤ 0 then
      s_L_put_J90 Ls xs (s_L_put_J91 Ls xs (s_L_put_L41 Ls xs n)) b0 x2 x3 b4 b5 x6 x7 x8 (w59.1 >>> (((x8 / 3) * 9) &&& 31)) w59.2
    else
    (s_L_some (w59.1 >>> (((x8 / 3) * 9) &&& 31)) 4 w59.2).bind fun w80 =>
    if w80.1 ≤ 0 then
      s_L_put_J90 Ls xs (s_L_put_J91 Ls xs (s_L_put_L41 Ls xs n)) b0 x2 x3 b4 b5 x6 x7 x8 (w59.1 >>> (((x8 / 3) * 9) &&& 31)) w80.2
    else
    s_L_put_J91 Ls xs (s_L_put_L41 Ls xs n) b0 x2 x3 b4 b5 x6 x7 x8 (w59.1 >>> (((x8 / 3) * 9) &&& 31)) 1 w80.2
def s_L_put (Ls : Nat) (xs : Nat → Int32) (b0 : Nat) (x2 : Int32) (x3 : Int32) (b4 : Nat) (b5 : Nat) (h : tt_H) : Option (Int32 × tt_H) :=
  (s_L_cell Ls xs x2 h).bind fun w2 =>
  (s_L_some w2.1 6 w2.2).bind fun w15 =>
  (gg_is w15.2 b5 0 (1 + w15.1)).bind fun h19 =>
  (gg_obj h19 b0 8).bind fun _ =>
  (s_X8_sheet b0 0 0 80 h19).bind fun w25 =>
  if w25.1 = 1 then
    s_L_put_L41 Ls xs 1000 b0 x2 x3 b4 b5 w2.1 0 0 w25.2
  else
  some ((-99), w25.2)
abbrev rm_L_put : Room := { frames := 3, cells := 0, slots := 0, locals := 69 }
set_option maxHeartbeats 4000000 in
set_option maxRecDepth 100000 in
theorem c_L_put (l : Launch) {Ls : Nat} {xs : Nat → Int32} {b0 : Nat} {x2 : Int32} {x3 : Int32} {b4 : Nat} {b5 : Nat} {h : tt_H} {ρ : Int32 × tt_H} (hs : s_L_put Ls xs b0 x2 x3 b4 b5 h = some ρ) : tt_MY tt_cl l yL_put wsL_put rm_L_put Ls xs [.ref b0, .ref 1000000, .int x2, .int x3, .ref b4, .ref b5] h (tt_ret (some (.int ρ.1)) ρ.2) := by
  refine tt_MY.of0 (cc := cL_put) (maxL := 15) (ret := (some .int)) (by decide +kernel) rfl (Nat.le_of_ble_eq_true rfl) ?_
  intro p e s m args below meth c D ca ad n0 sz hwf hsz Y X hini
  unfold s_L_put at hs
  have t_41 : ∀ (fu : Nat) (b0 : Nat) (x2 : Int32) (x3 : Int32) (b4 : Nat) (b5 : Nat) (x6 : Int32) (x7 : Int32) (x8 : Int32) (h : tt_H), s_L_put_L41 Ls xs fu b0 x2 x3 b4 b5 x6 x7 x8 h = some ρ → tt_T tt_cl (p, l, e, rm_L_put, s, m, args, below, meth, c, MQ below (tt_Q tt_cl D ca ad n0 sz false (tt_ret (some (.int ρ.1)) ρ.2)) args s 0 0 (tt_A ad n0 sz), D, ca, tt_A ad n0 sz, 15, some n0) ad 0 0 41 [(0, .ref b0), (1, .ref 1000000), (2, .int x2), (3, .int x3), (4, .ref b4), (5, .ref b5), (6, .int x6), (7, .int x7), (8, .int x8)] [] h := by
    intro fu
    induction fu with
    | zero => intro b0 x2 x3 b4 b5 x6 x7 x8 h hs; exact absurd hs (by rw [s_L_put_L41]; exact fun q => by cases q)
    | succ n41 ih =>
      intro b0 x2 x3 b4 b5 x6 x7 x8 h hs
      rw [s_L_put_L41] at hs
      have t_41 := ih
      have t_91 : ∀ (b0 : Nat) (x2 : Int32) (x3 : Int32) (b4 : Nat) (b5 : Nat) (x6 : Int32) (x7 : Int32) (x8 : Int32) (x9 : Int32) (ux0 : Int32) (h : tt_H), s_L_put_J91 Ls xs (s_L_put_L41 Ls xs n41) b0 x2 x3 b4 b5 x6 x7 x8 x9 ux0 h = some ρ → tt_T tt_cl (p, l, e, rm_L_put, s, m, args, below, meth, c, MQ below (tt_Q tt_cl D ca ad n0 sz false (tt_ret (some (.int ρ.1)) ρ.2)) args s 0 0 (tt_A ad n0 sz), D, ca, tt_A ad n0 sz, 15, some n0) ad 0 0 91 [(0, .ref b0), (1, .ref 1000000), (2, .int x2), (3, .int x3), (4, .ref b4), (5, .ref b5), (6, .int x6), (7, .int x7), (8, .int x8), (9, .int x9)] [.int ux0] h := by
        intro b0 x2 x3 b4 b5 x6 x7 x8 x9 ux0 h hs
        unfold s_L_put_J91 at hs
        have t_113 : ∀ (b0 : Nat) (x2 : Int32) (x3 : Int32) (b4 : Nat) (b5 : Nat) (x6 : Int32) (x7 : Int32) (x8 : Int32) (x9 : Int32) (x10 : Int32) (ub0 : Nat) (ux1 : Int32) (uy2 : Int64) (h : tt_H), s_L_put_J113 Ls xs (s_L_put_L41 Ls xs n41) b0 x2 x3 b4 b5 x6 x7 x8 x9 x10 ub0 ux1 uy2 h = some ρ → tt_T tt_cl (p, l, e, rm_L_put, s, m, args, below, meth, c, MQ below (tt_Q tt_cl D ca ad n0 sz false (tt_ret (some (.int ρ.1)) ρ.2)) args s 0 0 (tt_A ad n0 sz), D, ca, tt_A ad n0 sz, 15, some n0) ad 0 0 113 [(0, .ref b0), (1, .ref 1000000), (2, .int x2), (3, .int x3), (4, .ref b4), (5, .ref b5), (6, .int x6), (7, .int x7), (8, .int x8), (9, .int x9), (10, .int x10)] [.long uy2, .int ux1, .ref ub0] h := by
          intro b0 x2 x3 b4 b5 x6 x7 x8 x9 x10 ub0 ux1 uy2 h hs
          unfold s_L_put_J113 at hs
          have t_134 : ∀ (b0 : Nat) (x2 : Int32) (x3 : Int32) (b4 : Nat) (b5 : Nat) (x6 : Int32) (x7 : Int32) (x8 : Int32) (x9 : Int32) (x10 : Int32) (ub0 : Nat) (ux1 : Int32) (ux2 : Int32) (h : tt_H), s_L_put_J134 Ls xs (s_L_put_L41 Ls xs n41) b0 x2 x3 b4 b5 x6 x7 x8 x9 x10 ub0 ux1 ux2 h = some ρ → tt_T tt_cl (p, l, e, rm_L_put, s, m, args, below, meth, c, MQ below (tt_Q tt_cl D ca ad n0 sz false (tt_ret (some (.int ρ.1)) ρ.2)) args s 0 0 (tt_A ad n0 sz), D, ca, tt_A ad n0 sz, 15, some n0) ad 0 0 134 [(0, .ref b0), (1, .ref 1000000), (2, .int x2), (3, .int x3), (4, .ref b4), (5, .ref b5), (6, .int x6), (7, .int x7), (8, .int x8), (9, .int x9), (10, .int x10)] [.int ux2, .int ux1, .ref ub0] h := by
            intro b0 x2 x3 b4 b5 x6 x7 x8 x9 x10 ub0 ux1 ux2 h hs
            unfold s_L_put_J134 at hs
            have t_162 : ∀ (b0 : Nat) (x2 : Int32) (x3 : Int32) (b4 : Nat) (b5 : Nat) (x6 : Int32) (x7 : Int32) (x8 : Int32) (x9 : Int32) (ux0 : Int32) (h : tt_H), s_L_put_J162 Ls xs (s_L_put_L41 Ls xs n41) b0 x2 x3 b4 b5 x6 x7 x8 x9 ux0 h = some ρ → tt_T tt_cl (p, l, e, rm_L_put, s, m, args, below, meth, c, MQ below (tt_Q tt_cl D ca ad n0 sz false (tt_ret (some (.int ρ.1)) ρ.2)) args s 0 0 (tt_A ad n0 sz), D, ca, tt_A ad n0 sz, 15, some n0) ad 0 0 162 [(0, .ref b0), (1, .ref 1000000), (2, .int x2), (3, .int x3), (4, .ref b4), (5, .ref b5), (6, .int x6), (7, .int x7), (8, .int x8), (9, .int x9)] [.int ux0] h := by
              intro b0 x2 x3 b4 b5 x6 x7 x8 x9 ux0 h hs
              unfold s_L_put_J162 at hs
              have t_167 : ∀ (fu : Nat) (b0 : Nat) (x2 : Int32) (x3 : Int32) (b4 : Nat) (b5 : Nat) (x6 : Int32) (x7 : Int32) (x8 : Int32) (x9 : Int32) (x11 : Int32) (x12 : Int32) (h : tt_H), s_L_put_L167 Ls xs (s_L_put_L41 Ls xs n41) fu b0 x2 x3 b4 b5 x6 x7 x8 x9 x11 x12 h = some ρ → tt_T tt_cl (p, l, e, rm_L_put, s, m, args, below, meth, c, MQ below (tt_Q tt_cl D ca ad n0 sz false (tt_ret (some (.int ρ.1)) ρ.2)) args s 0 0 (tt_A ad n0 sz), D, ca, tt_A ad n0 sz, 15, some n0) ad 0 0 167 [(0, .ref b0), (1, .ref 1000000), (2, .int x2), (3, .int x3), (4, .ref b4), (5, .ref b5), (6, .int x6), (7, .int x7), (8, .int x8), (9, .int x9), (11, .int x11), (12, .int x12)] [] h := by
                intro fu
                induction fu with
                | zero => intro b0 x2 x3 b4 b5 x6 x7 x8 x9 x11 x12 h hs; exact absurd hs (by rw [s_L_put_L167]; exact fun q => by cases q)
                | succ n167 ih =>
                  intro b0 x2 x3 b4 b5 x6 x7 x8 x9 x11 x12 h hs
                  rw [s_L_put_L167] at hs
                  have t_167 := ih
                  have t_271 : ∀ (b0 : Nat) (x2 : Int32) (x3 : Int32) (b4 : Nat) (b5 : Nat) (x6 : Int32) (x7 : Int32) (x8 : Int32) (h : tt_H), s_L_put_J271 Ls xs (s_L_put_L41 Ls xs n41) b0 x2 x3 b4 b5 x6 x7 x8 h = some ρ → tt_T tt_cl (p, l, e, rm_L_put, s, m, args, below, meth, c, MQ below (tt_Q tt_cl D ca ad n0 sz false (tt_ret (some (.int ρ.1)) ρ.2)) args s 0 0 (tt_A ad n0 sz), D, ca, tt_A ad n0 sz, 15, some n0) ad 0 0 271 [(0, .ref b0), (1, .ref 1000000), (2, .int x2), (3, .int x3), (4, .ref b4), (5, .ref b5), (6, .int x6), (7, .int x7), (8, .int x8)] [] h := by
                    intro b0 x2 x3 b4 b5 x6 x7 x8 h hs
                    unfold s_L_put_J271 at hs
                    have t_295 : ∀ (b0 : Nat) (x2 : Int32) (x3 : Int32) (b4 : Nat) (b5 : Nat) (x6 : Int32) (x7 : Int32) (x8 : Int32) (h : tt_H), s_L_put_J295 Ls xs (s_L_put_L41 Ls xs n41) b0 x2 x3 b4 b5 x6 x7 x8 h = some ρ → tt_T tt_cl (p, l, e, rm_L_put, s, m, args, below, meth, c, MQ below (tt_Q tt_cl D ca ad n0 sz false (tt_ret (some (.int ρ.1)) ρ.2)) args s 0 0 (tt_A ad n0 sz), D, ca, tt_A ad n0 sz, 15, some n0) ad 0 0 295 [(0, .ref b0), (1, .ref 1000000), (2, .int x2), (3, .int x3), (4, .ref b4), (5, .ref b5), (6, .int x6), (7, .int x7), (8, .int x8)] [] h := by
                      intro b0 x2 x3 b4 b5 x6 x7 x8 h hs
                      unfold s_L_put_J295 at hs
                      have t_298 : ∀ (fu : Nat) (b0 : Nat) (x2 : Int32) (x3 : Int32) (b4 : Nat) (b5 : Nat) (x6 : Int32) (x7 : Int32) (x8 : Int32) (x12 : Int32) (h : tt_H), s_L_put_L298 Ls xs (s_L_put_L41 Ls xs n41) fu b0 x2 x3 b4 b5 x6 x7 x8 x12 h = some ρ → tt_T tt_cl (p, l, e, rm_L_put, s, m, args, below, meth, c, MQ below (tt_Q tt_cl D ca ad n0 sz false (tt_ret (some (.int ρ.1)) ρ.2)) args s 0 0 (tt_A ad n0 sz), D, ca, tt_A ad n0 sz, 15, some n0) ad 0 0 298 [(0, .ref b0), (1, .ref 1000000), (2, .int x2), (3, .int x3), (4, .ref b4), (5, .ref b5), (6, .int x6), (7, .int x7), (8, .int x8), (12, .int x12)] [] h := by
                        intro fu
                        induction fu with
                        | zero => intro b0 x2 x3 b4 b5 x6 x7 x8 x12 h hs; exact absurd hs (by rw [s_L_put_L298]; exact fun q => by cases q)
                        | succ n298 ih =>
                          intro b0 x2 x3 b4 b5 x6 x7 x8 x12 h hs
                          rw [s_L_put_L298] at hs
                          have t_298 := ih
                          refine tt_iload X dL_put_298 rfl ?_
                          refine tt_aload X dL_put_300 rfl ?_
                          refine tt_iconst (v := 1) X dL_put_302 (by decide) ?_
                          refine tt_iload X dL_put_303 rfl ?_
                          refine tt_iadd X dL_put_305 ?_
                          obtain ⟨z306, e306, hs⟩ := gg_bind hs
                          refine zr_il X e306 dL_put_306 ?_
                          refine tt_icmp_ge (tgt := 346) X dL_put_307 (by decide) (fun c307 => ?_) (fun c307 => ?_)
                          · rw [if_pos c307] at hs
                            refine tt_iinc (v := x8 + 1) X dL_put_346 rfl rfl (Nat.le_of_ble_eq_true rfl) ?_
                            refine tt_goto (tgt := 41) X dL_put_349 (by decide) ?_
                            refine tt_drop [0, 1, 2, 3, 4, 5, 6, 7, 8] ?_
                            exact t_41 b0 x2 x3 b4 b5 x6 x7 (x8 + 1) h hs
                          · rw [if_neg c307] at hs
                            refine tt_aload_n X dL_put_310 rfl ?_
                            refine tt_iconst (v := 0) X dL_put_311 (by decide) ?_
                            refine tt_iload X dL_put_312 rfl ?_
                            refine tt_iinc (v := x7 + 1) X dL_put_314 rfl rfl (Nat.le_of_ble_eq_true rfl) ?_
                            refine tt_bipush (v := 97) X dL_put_317 (by decide) ?_
                            refine tt_aload X dL_put_319 rfl ?_
                            refine tt_iload X dL_put_321 rfl ?_
                            obtain ⟨z323, e323, hs⟩ := gg_bind hs
                            refine zr_jl X e323 dL_put_323 ?_
                            refine tt_iload X dL_put_324 rfl ?_
                            obtain ⟨w326, e326, hs⟩ := gg_bind hs
                            refine zr_callS X (c_L_word l e326) (fun hts => va_cwS 2 hts gL_put_L_word rfl rfl rfl (by decide +kernel) ⟨by decide, by decide⟩) rfl rfl (Nat.le_of_ble_eq_true rfl) dL_put_326 ⟨Nat.zero_le _, Nat.zero_le _⟩ ?_
                            refine tt_iadd X dL_put_329 ?_
                            obtain ⟨o330, f330, hs⟩ := gg_bind hs
                            obtain ⟨w330, e330, hs⟩ := gg_bind hs
                            refine zr_callV X f330 rfl (c_X8_put l e330) (fun hts => cwV 3 hts gL_put_X8_put rfl rfl rfl (by decide +kernel) ⟨by decide, by decide⟩) rfl rfl (Nat.le_of_ble_eq_true rfl) dL_put_330 ⟨Nat.zero_le _, Nat.zero_le _⟩ ?_
                            refine tt_iconst (v := 1) X dL_put_333 (by decide) ?_
                            refine tt_icmp_eq (tgt := 340) X dL_put_334 (by decide) (fun c334 => ?_) (fun c334 => ?_)
                            · rw [if_pos c334] at hs
                              refine tt_iinc (v := x12 + 1) X dL_put_340 rfl rfl (Nat.le_of_ble_eq_true rfl) ?_
                              refine tt_goto (tgt := 298) X dL_put_343 (by decide) ?_
                              refine tt_drop [0, 1, 2, 3, 4, 5, 6, 7, 8, 12] ?_
                              exact t_298 b0 x2 x3 b4 b5 x6 (x7 + 1) x8 (x12 + 1) w330.2 hs
                            · rw [if_neg c334] at hs
                              refine tt_bipush (v := (-99)) X dL_put_337 (by decide) ?_
                              obtain rfl := Option.some.inj hs
                              exact tt_iret X rfl dL_put_339 ⟨rfl, rfl⟩
                      refine tt_iconst (v := 0) X dL_put_295 (by decide) ?_
                      refine tt_istore X dL_put_296 (Nat.le_of_ble_eq_true rfl) ?_
                      refine tt_drop [0, 1, 2, 3, 4, 5, 6, 7, 8, 12] ?_
                      exact t_298 1000 b0 x2 x3 b4 b5 x6 x7 x8 0 h hs
                    refine tt_iload X dL_put_271 rfl ?_
                    refine tt_if_le (tgt := 295) X dL_put_273 (by decide) (fun c273 => ?_) (fun c273 => ?_)
                    · rw [if_pos c273] at hs
                      refine tt_drop [0, 1, 2, 3, 4, 5, 6, 7, 8] ?_
                      exact t_295 b0 x2 x3 b4 b5 x6 x7 x8 h hs
                    · rw [if_neg c273] at hs
                      refine tt_aload_n X dL_put_276 rfl ?_
                      refine tt_iconst (v := 0) X dL_put_277 (by decide) ?_
                      refine tt_iload X dL_put_278 rfl ?_
                      refine tt_iinc (v := x7 + 1) X dL_put_280 rfl rfl (Nat.le_of_ble_eq_true rfl) ?_
                      refine tt_bipush (v := 59) X dL_put_283 (by decide) ?_
                      obtain ⟨o285, f285, hs⟩ := gg_bind hs
                      obtain ⟨w285, e285, hs⟩ := gg_bind hs
                      refine zr_callV X f285 rfl (c_X8_put l e285) (fun hts => cwV 3 hts gL_put_X8_put rfl rfl rfl (by decide +kernel) ⟨by decide, by decide⟩) rfl rfl (Nat.le_of_ble_eq_true rfl) dL_put_285 ⟨Nat.zero_le _, Nat.zero_le _⟩ ?_
                      refine tt_iconst (v := 1) X dL_put_288 (by decide) ?_
                      refine tt_icmp_eq (tgt := 295) X dL_put_289 (by decide) (fun c289 => ?_) (fun c289 => ?_)
                      · rw [if_pos c289] at hs
                        refine tt_drop [0, 1, 2, 3, 4, 5, 6, 7, 8] ?_
                        exact t_295 b0 x2 x3 b4 b5 x6 (x7 + 1) x8 w285.2 hs
                      · rw [if_neg c289] at hs
                        refine tt_bipush (v := (-99)) X dL_put_292 (by decide) ?_
                        obtain rfl := Option.some.inj hs
                        exact tt_iret X rfl dL_put_294 ⟨rfl, rfl⟩
                  have t_232 : ∀ (b0 : Nat) (x2 : Int32) (x3 : Int32) (b4 : Nat) (b5 : Nat) (x6 : Int32) (x7 : Int32) (x8 : Int32) (x9 : Int32) (x11 : Int32) (x12 : Int32) (x13 : Int32) (ux0 : Int32) (ux1 : Int32) (h : tt_H), s_L_put_J232 Ls xs (s_L_put_L167 Ls xs (s_L_put_L41 Ls xs n41) n167) b0 x2 x3 b4 b5 x6 x7 x8 x9 x11 x12 x13 ux0 ux1 h = some ρ → tt_T tt_cl (p, l, e, rm_L_put, s, m, args, below, meth, c, MQ below (tt_Q tt_cl D ca ad n0 sz false (tt_ret (some (.int ρ.1)) ρ.2)) args s 0 0 (tt_A ad n0 sz), D, ca, tt_A ad n0 sz, 15, some n0) ad 0 0 232 [(0, .ref b0), (1, .ref 1000000), (2, .int x2), (3, .int x3), (4, .ref b4), (5, .ref b5), (6, .int x6), (7, .int x7), (8, .int x8), (9, .int x9), (11, .int x11), (12, .int x12), (13, .int x13)] [.int ux1, .int ux0] h := by
                    intro b0 x2 x3 b4 b5 x6 x7 x8 x9 x11 x12 x13 ux0 ux1 h hs
                    unfold s_L_put_J232 at hs
                    obtain ⟨w232, e232, hs⟩ := gg_bind hs
                    refine zr_callS X (c_L_some l e232) (fun hts => va_cwS 2 hts gL_put_L_some rfl rfl rfl (by decide +kernel) ⟨by decide, by decide⟩) rfl rfl (Nat.le_of_ble_eq_true rfl) dL_put_232 ⟨Nat.zero_le _, Nat.zero_le _⟩ ?_
                    refine tt_istore X dL_put_235 (Nat.le_of_ble_eq_true rfl) ?_
                    refine tt_aload X dL_put_237 rfl ?_
                    refine tt_iload X dL_put_239 rfl ?_
                    refine tt_aload X dL_put_241 rfl ?_
                    refine tt_iload X dL_put_243 rfl ?_
                    obtain ⟨z245, e245, hs⟩ := gg_bind hs
                    refine zr_jl X e245 dL_put_245 ?_
                    refine tt_iload X dL_put_246 rfl ?_
                    refine tt_iload X dL_put_248 rfl ?_
                    obtain ⟨w250, e250, hs⟩ := gg_bind hs
                    refine zr_callS X (c_L_with l e250) (fun hts => va_cwS 3 hts gL_put_L_with rfl rfl rfl (by decide +kernel) ⟨by decide, by decide⟩) rfl rfl (Nat.le_of_ble_eq_true rfl) dL_put_250 ⟨Nat.zero_le _, Nat.zero_le _⟩ ?_
                    obtain ⟨h253, e253, hs⟩ := gg_bind hs
                    refine zr_js X e253 dL_put_253 ?_
                    refine tt_aload X dL_put_254 rfl ?_
                    refine tt_iconst (v := 1) X dL_put_256 (by decide) ?_
                    refine tt_iload X dL_put_257 rfl ?_
                    refine tt_iadd X dL_put_259 ?_
                    refine tt_dup2 X dL_put_260 rfl rfl ?_
                    obtain ⟨z261, e261, hs⟩ := gg_bind hs
                    refine zr_il X e261 dL_put_261 ?_
                    refine tt_iconst (v := 1) X dL_put_262 (by decide) ?_
                    refine tt_iadd X dL_put_263 ?_
                    obtain ⟨h264, e264, hs⟩ := gg_bind hs
                    refine zr_is X e264 dL_put_264 ?_
                    refine tt_iinc (v := x12 + 1) X dL_put_265 rfl rfl (Nat.le_of_ble_eq_true rfl) ?_
                    refine tt_goto (tgt := 167) X dL_put_268 (by decide) ?_
                    refine tt_drop [0, 1, 2, 3, 4, 5, 6, 7, 8, 9, 11, 12] ?_
                    exact t_167 b0 x2 x3 b4 b5 x6 x7 x8 x9 x11 (x12 + 1) h264 hs
                  refine tt_iload X dL_put_167 rfl ?_
                  refine tt_iload X dL_put_169 rfl ?_
                  refine tt_icmp_ge (tgt := 271) X dL_put_171 (by decide) (fun c171 => ?_) (fun c171 => ?_)
                  · rw [if_pos c171] at hs
                    refine tt_drop [0, 1, 2, 3, 4, 5, 6, 7, 8] ?_
                    exact t_271 b0 x2 x3 b4 b5 x6 x7 x8 h hs
                  · rw [if_neg c171] at hs
                    refine tt_aload X dL_put_174 rfl ?_
                    refine tt_iconst (v := 1) X dL_put_176 (by decide) ?_
                    refine tt_iload X dL_put_177 rfl ?_
                    refine tt_iadd X dL_put_179 ?_
                    obtain ⟨z180, e180, hs⟩ := gg_bind hs
                    refine zr_il X e180 dL_put_180 ?_
                    refine tt_iload_n X dL_put_181 rfl ?_
                    refine tt_icmp_ge (tgt := 271) X dL_put_182 (by decide) (fun c182 => ?_) (fun c182 => ?_)
                    · rw [if_pos c182] at hs
                      refine tt_drop [0, 1, 2, 3, 4, 5, 6, 7, 8] ?_
                      exact t_271 b0 x2 x3 b4 b5 x6 x7 x8 h hs
                    · rw [if_neg c182] at hs
                      refine tt_iload X dL_put_185 rfl ?_
                      refine tt_iconst (v := 4) X dL_put_187 (by decide) ?_
                      refine tt_iload X dL_put_188 rfl ?_
                      refine tt_iadd X dL_put_190 ?_
                      refine tt_ishr X dL_put_191 ?_
                      refine tt_aload X dL_put_192 rfl ?_
                      refine tt_iconst (v := 1) X dL_put_194 (by decide) ?_
                      refine tt_iload X dL_put_195 rfl ?_
                      refine tt_iadd X dL_put_197 ?_
                      obtain ⟨z198, e198, hs⟩ := gg_bind hs
                      refine zr_il X e198 dL_put_198 ?_
                      refine tt_iconst (v := 1) X dL_put_199 (by decide) ?_
                      refine tt_iadd X dL_put_200 ?_
                      obtain ⟨w201, e201, hs⟩ := gg_bind hs
                      refine zr_callS X (c_L_some l e201) (fun hts => va_cwS 2 hts gL_put_L_some rfl rfl rfl (by decide +kernel) ⟨by decide, by decide⟩) rfl rfl (Nat.le_of_ble_eq_true rfl) dL_put_201 ⟨Nat.zero_le _, Nat.zero_le _⟩ ?_
                      refine tt_istore X dL_put_204 (Nat.le_of_ble_eq_true rfl) ?_
                      refine tt_iload X dL_put_206 rfl ?_
                      refine tt_iconst (v := 3) X dL_put_208 (by decide) ?_
                      refine tt_iconst (v := 2) X dL_put_209 (by decide) ?_
                      refine tt_iload X dL_put_210 rfl ?_
                      refine tt_imul X dL_put_212 ?_
                      refine tt_iadd X dL_put_213 ?_
                      refine tt_ishr X dL_put_214 ?_
                      refine tt_iload X dL_put_215 rfl ?_
                      refine tt_iconst (v := 5) X dL_put_217 (by decide) ?_
                      refine tt_ishr X dL_put_218 ?_
                      refine tt_iconst (v := 2) X dL_put_219 (by decide) ?_
                      obtain ⟨w220, e220, hs⟩ := gg_bind hs
                      refine zr_callS X (c_L_some l e220) (fun hts => va_cwS 2 hts gL_put_L_some rfl rfl rfl (by decide +kernel) ⟨by decide, by decide⟩) rfl rfl (Nat.le_of_ble_eq_true rfl) dL_put_220 ⟨Nat.zero_le _, Nat.zero_le _⟩ ?_
                      refine tt_if_ne (tgt := 231) X dL_put_223 (by decide) (fun c223 => ?_) (fun c223 => ?_)
                      · rw [if_neg c223] at hs
                        refine tt_iconst (v := 3) X dL_put_231 (by decide) ?_
                        refine tt_drop [0, 1, 2, 3, 4, 5, 6, 7, 8, 9, 11, 12, 13] ?_
                        exact t_232 b0 x2 x3 b4 b5 x6 x7 x8 x9 x11 x12 w201.1 (x9 >>> ((3 + (2 * x12)) &&& 31)) 3 w220.2 hs
                      · rw [if_pos c223] at hs
                        refine tt_bipush (v := 8) X dL_put_226 (by decide) ?_
                        refine tt_goto (tgt := 232) X dL_put_228 (by decide) ?_
                        refine tt_drop [0, 1, 2, 3, 4, 5, 6, 7, 8, 9, 11, 12, 13] ?_
                        exact t_232 b0 x2 x3 b4 b5 x6 x7 x8 x9 x11 x12 w201.1 (x9 >>> ((3 + (2 * x12)) &&& 31)) 8 w220.2 hs
              refine tt_istore X dL_put_162 (Nat.le_of_ble_eq_true rfl) ?_
              refine tt_iconst (v := 0) X dL_put_164 (by decide) ?_
              refine tt_istore X dL_put_165 (Nat.le_of_ble_eq_true rfl) ?_
              refine tt_drop [0, 1, 2, 3, 4, 5, 6, 7, 8, 9, 11, 12] ?_
              exact t_167 1000 b0 x2 x3 b4 b5 x6 x7 x8 x9 ux0 0 h hs
            obtain ⟨h134, e134, hs⟩ := gg_bind hs
            refine zr_is X e134 dL_put_134 ?_
            refine tt_iload X dL_put_135 rfl ?_
            refine tt_if_eq (tgt := 151) X dL_put_137 (by decide) (fun c137 => ?_) (fun c137 => ?_)
            · rw [if_pos c137] at hs
              refine tt_iconst (v := 1) X dL_put_151 (by decide) ?_
              refine tt_iload X dL_put_152 rfl ?_
              refine tt_iconst (v := 2) X dL_put_154 (by decide) ?_
              refine tt_ishr X dL_put_155 ?_
              refine tt_bipush (v := 6) X dL_put_156 (by decide) ?_
              obtain ⟨w158, e158, hs⟩ := gg_bind hs
              refine zr_callS X (c_L_some l e158) (fun hts => va_cwS 2 hts gL_put_L_some rfl rfl rfl (by decide +kernel) ⟨by decide, by decide⟩) rfl rfl (Nat.le_of_ble_eq_true rfl) dL_put_158 ⟨Nat.zero_le _, Nat.zero_le _⟩ ?_
              refine tt_iadd X dL_put_161 ?_
              refine tt_drop [0, 1, 2, 3, 4, 5, 6, 7, 8, 9] ?_
              exact t_162 b0 x2 x3 b4 b5 x6 x7 x8 x9 (1 + w158.1) w158.2 hs
            · rw [if_neg c137] at hs
              refine tt_iload X dL_put_140 rfl ?_
              refine tt_iconst (v := 2) X dL_put_142 (by decide) ?_
              refine tt_ishr X dL_put_143 ?_
              refine tt_iconst (v := 3) X dL_put_144 (by decide) ?_
              obtain ⟨w145, e145, hs⟩ := gg_bind hs
              refine zr_callS X (c_L_some l e145) (fun hts => va_cwS 2 hts gL_put_L_some rfl rfl rfl (by decide +kernel) ⟨by decide, by decide⟩) rfl rfl (Nat.le_of_ble_eq_true rfl) dL_put_145 ⟨Nat.zero_le _, Nat.zero_le _⟩ ?_
              refine tt_goto (tgt := 162) X dL_put_148 (by decide) ?_
              refine tt_drop [0, 1, 2, 3, 4, 5, 6, 7, 8, 9] ?_
              exact t_162 b0 x2 x3 b4 b5 x6 x7 x8 x9 w145.1 w145.2 hs
          obtain ⟨h113, e113, hs⟩ := gg_bind hs
          refine zr_js X e113 dL_put_113 ?_
          refine tt_aload X dL_put_114 rfl ?_
          refine tt_iconst (v := 1) X dL_put_116 (by decide) ?_
          refine tt_iload X dL_put_117 rfl ?_
          refine tt_iadd X dL_put_119 ?_
          refine tt_iload X dL_put_120 rfl ?_
          refine tt_if_eq (tgt := 133) X dL_put_122 (by decide) (fun c122 => ?_) (fun c122 => ?_)
          · rw [if_pos c122] at hs
            refine tt_iconst (v := 0) X dL_put_133 (by decide) ?_
            refine tt_drop [0, 1, 2, 3, 4, 5, 6, 7, 8, 9, 10] ?_
            exact t_134 b0 x2 x3 b4 b5 x6 x7 x8 x9 x10 b5 (1 + x8) 0 h113 hs
          · rw [if_neg c122] at hs
            refine tt_aload X dL_put_125 rfl ?_
            refine tt_iload X dL_put_127 rfl ?_
            obtain ⟨z129, e129, hs⟩ := gg_bind hs
            refine zr_il X e129 dL_put_129 ?_
            refine tt_goto (tgt := 134) X dL_put_130 (by decide) ?_
            refine tt_drop [0, 1, 2, 3, 4, 5, 6, 7, 8, 9, 10] ?_
            exact t_134 b0 x2 x3 b4 b5 x6 x7 x8 x9 x10 b5 (1 + x8) z129 h113 hs
        refine tt_istore X dL_put_91 (Nat.le_of_ble_eq_true rfl) ?_
        refine tt_aload X dL_put_93 rfl ?_
        refine tt_iload X dL_put_95 rfl ?_
        refine tt_iload X dL_put_97 rfl ?_
        refine tt_if_eq (tgt := 112) X dL_put_99 (by decide) (fun c99 => ?_) (fun c99 => ?_)
        · rw [if_pos c99] at hs
          refine tt_lconst (v := 0) X dL_put_112 (by decide) ?_
          refine tt_drop [0, 1, 2, 3, 4, 5, 6, 7, 8, 9, 10] ?_
          exact t_113 b0 x2 x3 b4 b5 x6 x7 x8 x9 ux0 b4 x8 0 h hs
        · rw [if_neg c99] at hs
          refine tt_aload X dL_put_102 rfl ?_
          refine tt_iload X dL_put_104 rfl ?_
          refine tt_iconst (v := 1) X dL_put_106 (by decide) ?_
          refine tt_isub X dL_put_107 ?_
          obtain ⟨z108, e108, hs⟩ := gg_bind hs
          refine zr_jl X e108 dL_put_108 ?_
          refine tt_goto (tgt := 113) X dL_put_109 (by decide) ?_
          refine tt_drop [0, 1, 2, 3, 4, 5, 6, 7, 8, 9, 10] ?_
          exact t_113 b0 x2 x3 b4 b5 x6 x7 x8 x9 ux0 b4 x8 z108 h hs
      have t_90 : ∀ (b0 : Nat) (x2 : Int32) (x3 : Int32) (b4 : Nat) (b5 : Nat) (x6 : Int32) (x7 : Int32) (x8 : Int32) (x9 : Int32) (h : tt_H), s_L_put_J90 Ls xs (s_L_put_J91 Ls xs (s_L_put_L41 Ls xs n41)) b0 x2 x3 b4 b5 x6 x7 x8 x9 h = some ρ → tt_T tt_cl (p, l, e, rm_L_put, s, m, args, below, meth, c, MQ below (tt_Q tt_cl D ca ad n0 sz false (tt_ret (some (.int ρ.1)) ρ.2)) args s 0 0 (tt_A ad n0 sz), D, ca, tt_A ad n0 sz, 15, some n0) ad 0 0 90 [(0, .ref b0), (1, .ref 1000000), (2, .int x2), (3, .int x3), (4, .ref b4), (5, .ref b5), (6, .int x6), (7, .int x7), (8, .int x8), (9, .int x9)] [] h := by
        intro b0 x2 x3 b4 b5 x6 x7 x8 x9 h hs
        unfold s_L_put_J90 at hs
        refine tt_iconst (v := 0) X dL_put_90 (by decide) ?_
        refine tt_drop [0, 1, 2, 3, 4, 5, 6, 7, 8, 9] ?_
        exact t_91 b0 x2 x3 b4 b5 x6 x7 x8 x9 0 h hs
      refine tt_iload X dL_put_41 rfl ?_
      refine tt_aload X dL_put_43 rfl ?_
      refine tt_iconst (v := 0) X dL_put_45 (by decide) ?_
      obtain ⟨z46, e46, hs⟩ := gg_bind hs
      refine zr_il X e46 dL_put_46 ?_
      refine tt_icmp_ge (tgt := 352) X dL_put_47 (by decide) (fun c47 => ?_) (fun c47 => ?_)
      · rw [if_pos c47] at hs
        refine tt_iload X dL_put_352 rfl ?_
        obtain rfl := Option.some.inj hs
        exact tt_iret X rfl dL_put_354 ⟨rfl, rfl⟩
      · rw [if_neg c47] at hs
        refine tt_aload_n X dL_put_50 rfl ?_
        refine tt_iload_n X dL_put_51 rfl ?_
        refine tt_iconst (v := 1) X dL_put_52 (by decide) ?_
        refine tt_iadd X dL_put_53 ?_
        refine tt_iload X dL_put_54 rfl ?_
        refine tt_iconst (v := 3) X dL_put_56 (by decide) ?_
        obtain ⟨q57, e57, hs⟩ := gg_bind hs
        refine tt_irem X dL_put_57 (zr_nz e57) ?_
        refine tt_iadd X dL_put_58 ?_
        obtain ⟨w59, e59, hs⟩ := gg_bind hs
        refine zr_callSY X Y (c_L_cell l e59) (fun hts => va_cwS 2 hts gL_put_L_cell rfl rfl rfl (by decide +kernel) ⟨by decide, by decide⟩) rfl rfl (Nat.le_of_ble_eq_true rfl) dL_put_59 ⟨Nat.zero_le _, Nat.zero_le _⟩ ?_
        refine tt_iload X dL_put_62 rfl ?_
        refine tt_iconst (v := 3) X dL_put_64 (by decide) ?_
        obtain ⟨q65, e65, hs⟩ := gg_bind hs
        refine tt_idiv X dL_put_65 (zr_nz e65) ?_
        refine tt_bipush (v := 9) X dL_put_66 (by decide) ?_
        refine tt_imul X dL_put_68 ?_
        refine tt_ishr X dL_put_69 ?_
        refine tt_istore X dL_put_70 (Nat.le_of_ble_eq_true rfl) ?_
        refine tt_iload X dL_put_72 rfl ?_
        refine tt_if_le (tgt := 90) X dL_put_74 (by decide) (fun c74 => ?_) (fun c74 => ?_)
        · rw [if_pos c74] at hs
          refine tt_drop [0, 1, 2, 3, 4, 5, 6, 7, 8, 9] ?_
          exact t_90 b0 x2 x3 b4 b5 x6 x7 x8 (w59.1 >>> (((x8 / 3) * 9) &&& 31)) w59.2 hs
        · rw [if_neg c74] at hs
          refine tt_iload X dL_put_77 rfl ?_
          refine tt_iconst (v := 4) X dL_put_79 (by decide) ?_
          obtain ⟨w80, e80, hs⟩ := gg_bind hs
          refine zr_callS X (c_L_some l e80) (fun hts => va_cwS 2 hts gL_put_L_some rfl rfl rfl (by decide +kernel) ⟨by decide, by decide⟩) rfl rfl (Nat.le_of_ble_eq_true rfl) dL_put_80 ⟨Nat.zero_le _, Nat.zero_le _⟩ ?_
          refine tt_if_le (tgt := 90) X dL_put_83 (by decide) (fun c83 => ?_) (fun c83 => ?_)
          · rw [if_pos c83] at hs
            refine tt_drop [0, 1, 2, 3, 4, 5, 6, 7, 8, 9] ?_
            exact t_90 b0 x2 x3 b4 b5 x6 x7 x8 (w59.1 >>> (((x8 / 3) * 9) &&& 31)) w80.2 hs
          · rw [if_neg c83] at hs
            refine tt_iconst (v := 1) X dL_put_86 (by decide) ?_
            refine tt_goto (tgt := 91) X dL_put_87 (by decide) ?_
            refine tt_drop [0, 1, 2, 3, 4, 5, 6, 7, 8, 9] ?_
            exact t_91 b0 x2 x3 b4 b5 x6 x7 x8 (w59.1 >>> (((x8 / 3) * 9) &&& 31)) 1 w80.2 hs
  refine tt_aload_n X dL_put_0 rfl ?_
  refine tt_iload_n X dL_put_1 rfl ?_
  obtain ⟨w2, e2, hs⟩ := gg_bind hs
  refine zr_callSY X Y (c_L_cell l e2) (fun hts => va_cwS 2 hts gL_put_L_cell rfl rfl rfl (by decide +kernel) ⟨by decide, by decide⟩) rfl rfl (Nat.le_of_ble_eq_true rfl) dL_put_2 ⟨Nat.zero_le _, Nat.zero_le _⟩ ?_
  refine tt_istore X dL_put_5 (Nat.le_of_ble_eq_true rfl) ?_
  refine tt_aload X dL_put_7 rfl ?_
  refine tt_iconst (v := 0) X dL_put_9 (by decide) ?_
  refine tt_iconst (v := 1) X dL_put_10 (by decide) ?_
  refine tt_iload X dL_put_11 rfl ?_
  refine tt_bipush (v := 6) X dL_put_13 (by decide) ?_
  obtain ⟨w15, e15, hs⟩ := gg_bind hs
  refine zr_callS X (c_L_some l e15) (fun hts => va_cwS 2 hts gL_put_L_some rfl rfl rfl (by decide +kernel) ⟨by decide, by decide⟩) rfl rfl (Nat.le_of_ble_eq_true rfl) dL_put_15 ⟨Nat.zero_le _, Nat.zero_le _⟩ ?_
  refine tt_iadd X dL_put_18 ?_
  obtain ⟨h19, e19, hs⟩ := gg_bind hs
  refine zr_is X e19 dL_put_19 ?_
  refine tt_aload_n X dL_put_20 rfl ?_
  refine tt_iconst (v := 0) X dL_put_21 (by decide) ?_
  refine tt_iconst (v := 0) X dL_put_22 (by decide) ?_
  refine tt_bipush (v := 80) X dL_put_23 (by decide) ?_
  obtain ⟨o25, f25, hs⟩ := gg_bind hs
  obtain ⟨w25, e25, hs⟩ := gg_bind hs
  refine zr_callV X f25 rfl (c_X8_sheet l e25) (fun hts => cwV 3 hts gL_put_X8_sheet rfl rfl rfl (by decide +kernel) ⟨by decide, by decide⟩) rfl rfl (Nat.le_of_ble_eq_true rfl) dL_put_25 ⟨Nat.zero_le _, Nat.zero_le _⟩ ?_
  refine tt_iconst (v := 1) X dL_put_28 (by decide) ?_
  refine tt_icmp_eq (tgt := 35) X dL_put_29 (by decide) (fun c29 => ?_) (fun c29 => ?_)
  · rw [if_pos c29] at hs
    refine tt_iconst (v := 0) X dL_put_35 (by decide) ?_
    refine tt_istore X dL_put_36 (Nat.le_of_ble_eq_true rfl) ?_
    refine tt_iconst (v := 0) X dL_put_38 (by decide) ?_
    refine tt_istore X dL_put_39 (Nat.le_of_ble_eq_true rfl) ?_
    refine tt_drop [0, 1, 2, 3, 4, 5, 6, 7, 8] ?_
    exact t_41 1000 b0 x2 x3 b4 b5 w2.1 0 0 w25.2 hs
  · rw [if_neg c29] at hs
    refine tt_bipush (v := (-99)) X dL_put_32 (by decide) ?_
    obtain rfl := Option.some.inj hs
    exact tt_iret X rfl dL_put_34 ⟨rfl, rfl⟩

def s_L_within_J50 (x2 : Int32) (x6 : Int32) (h : tt_H) : Option (Int32 × tt_H) :=
  if x6 = x2 then
    some (1, h)
  else
  some (0, h)
def s_L_within_J41 (κ6 : Int64 → Int32 → Int64 → Int32 → Int32 → Int32 → tt_H → Option (Int32 × tt_H)) (y0 : Int64) (x2 : Int32) (y3 : Int64) (x5 : Int32) (x7 : Int32) (ux0 : Int32) (ux1 : Int32) (h : tt_H) : Option (Int32 × tt_H) :=
  κ6 y0 x2 y3 x5 (ux0 + ux1) (x7 + 1) h
def s_L_within_L6 : Nat → Int64 → Int32 → Int64 → Int32 → Int32 → Int32 → tt_H → Option (Int32 × tt_H)
  | 0, _, _, _, _, _, _, _ => none
  | n + 1, y0, x2, y3, x5, x6, x7, h =>
    if x5 ≤ x7 then
      s_L_within_J50 x2 x6 h
    else
    if x2 ≤ x6 then
      s_L_within_J50 x2 x6 h
    else
    (s_L_word y0 x6 h).bind fun w24 =>
    (s_L_word y3 x7 w24.2).bind fun w30 =>
    if w24.1 = w30.1 then
      s_L_within_J41 (s_L_within_L6 n) y0 x2 y3 x5 x7 x6 1 w30.2
    else
    s_L_within_J41 (s_L_within_L6 n) y0 x2 y3 x5 x7 x6 0 w30.2
def s_L_within (y0 : Int64) (x2 : Int32) (y3 : Int64) (x5 : Int32) (h : tt_H) : Option (Int32 × tt_H) :=
  s_L_within_L6 1000 y0 x2 y3 x5 0 0 h
abbrev rm_L_within : Room := { frames := 1, cells := 0, slots := 0, locals := 22 }
set_option maxHeartbeats 4000000 in
set_option maxRecDepth 100000 in
theorem c_L_within (l : Launch) {y0 : Int64} {x2 : Int32} {y3 : Int64} {x5 : Int32} {h : tt_H} {ρ : Int32 × tt_H} (hs : s_L_within y0 x2 y3 x5 h = some ρ) : tt_M tt_cl l yL_within wsL_within rm_L_within 0 0 false [.long y0, .int x2, .long y3, .int x5] h (tt_ret (some (.int ρ.1)) ρ.2) := by
  refine tt_M.of0 (cc := cL_within) (maxL := 8) (ret := (some .boolean)) (by decide +kernel) rfl (Nat.le_of_ble_eq_true rfl) ?_
  intro p e s m args below meth c D ca ad n0 sz hwf hsz X hini
  unfold s_L_within at hs
  have t_6 : ∀ (fu : Nat) (y0 : Int64) (x2 : Int32) (y3 : Int64) (x5 : Int32) (x6 : Int32) (x7 : Int32) (h : tt_H), s_L_within_L6 fu y0 x2 y3 x5 x6 x7 h = some ρ → tt_T tt_cl (p, l, e, rm_L_within, s, m, args, below, meth, c, MQ below (tt_Q tt_cl D ca ad n0 sz false (tt_ret (some (.int ρ.1)) ρ.2)) args s 0 0 (tt_A ad n0 sz), D, ca, tt_A ad n0 sz, 8, some n0) ad 0 0 6 [(0, .long y0), (2, .int x2), (3, .long y3), (5, .int x5), (6, .int x6), (7, .int x7)] [] h := by
    intro fu
    induction fu with
    | zero => intro y0 x2 y3 x5 x6 x7 h hs; exact absurd hs (by rw [s_L_within_L6]; exact fun q => by cases q)
    | succ n6 ih =>
      intro y0 x2 y3 x5 x6 x7 h hs
      rw [s_L_within_L6] at hs
      have t_6 := ih
      have t_50 : ∀ (x2 : Int32) (x6 : Int32) (h : tt_H), s_L_within_J50 x2 x6 h = some ρ → tt_T tt_cl (p, l, e, rm_L_within, s, m, args, below, meth, c, MQ below (tt_Q tt_cl D ca ad n0 sz false (tt_ret (some (.int ρ.1)) ρ.2)) args s 0 0 (tt_A ad n0 sz), D, ca, tt_A ad n0 sz, 8, some n0) ad 0 0 50 [(2, .int x2), (6, .int x6)] [] h := by
        intro x2 x6 h hs
        unfold s_L_within_J50 at hs
        refine tt_iload X dL_within_50 rfl ?_
        refine tt_iload_n X dL_within_52 rfl ?_
        refine tt_icmp_ne (tgt := 60) X dL_within_53 (by decide) (fun c53 => ?_) (fun c53 => ?_)
        · rw [if_neg c53] at hs
          refine tt_iconst (v := 0) X dL_within_60 (by decide) ?_
          obtain rfl := Option.some.inj hs
          exact tt_zret X rfl rfl dL_within_61 ⟨rfl, rfl⟩
        · rw [if_pos c53] at hs
          refine tt_iconst (v := 1) X dL_within_56 (by decide) ?_
          refine tt_goto (tgt := 61) X dL_within_57 (by decide) ?_
          obtain rfl := Option.some.inj hs
          exact tt_zret X rfl rfl dL_within_61 ⟨rfl, rfl⟩
      have t_41 : ∀ (y0 : Int64) (x2 : Int32) (y3 : Int64) (x5 : Int32) (x7 : Int32) (ux0 : Int32) (ux1 : Int32) (h : tt_H), s_L_within_J41 (s_L_within_L6 n6) y0 x2 y3 x5 x7 ux0 ux1 h = some ρ → tt_T tt_cl (p, l, e, rm_L_within, s, m, args, below, meth, c, MQ below (tt_Q tt_cl D ca ad n0 sz false (tt_ret (some (.int ρ.1)) ρ.2)) args s 0 0 (tt_A ad n0 sz), D, ca, tt_A ad n0 sz, 8, some n0) ad 0 0 41 [(0, .long y0), (2, .int x2), (3, .long y3), (5, .int x5), (7, .int x7)] [.int ux1, .int ux0] h := by
        intro y0 x2 y3 x5 x7 ux0 ux1 h hs
        unfold s_L_within_J41 at hs
        refine tt_iadd X dL_within_41 ?_
        refine tt_istore X dL_within_42 (Nat.le_of_ble_eq_true rfl) ?_
        refine tt_iinc (v := x7 + 1) X dL_within_44 rfl rfl (Nat.le_of_ble_eq_true rfl) ?_
        refine tt_goto (tgt := 6) X dL_within_47 (by decide) ?_
        refine tt_drop [0, 2, 3, 5, 6, 7] ?_
        exact t_6 y0 x2 y3 x5 (ux0 + ux1) (x7 + 1) h hs
      refine tt_iload X dL_within_6 rfl ?_
      refine tt_iload X dL_within_8 rfl ?_
      refine tt_icmp_ge (tgt := 50) X dL_within_10 (by decide) (fun c10 => ?_) (fun c10 => ?_)
      · rw [if_pos c10] at hs
        refine tt_drop [2, 6] ?_
        exact t_50 x2 x6 h hs
      · rw [if_neg c10] at hs
        refine tt_iload X dL_within_13 rfl ?_
        refine tt_iload_n X dL_within_15 rfl ?_
        refine tt_icmp_ge (tgt := 50) X dL_within_16 (by decide) (fun c16 => ?_) (fun c16 => ?_)
        · rw [if_pos c16] at hs
          refine tt_drop [2, 6] ?_
          exact t_50 x2 x6 h hs
        · rw [if_neg c16] at hs
          refine tt_iload X dL_within_19 rfl ?_
          refine tt_lload_n X dL_within_21 rfl ?_
          refine tt_iload X dL_within_22 rfl ?_
          obtain ⟨w24, e24, hs⟩ := gg_bind hs
          refine zr_callS X (c_L_word l e24) (fun hts => va_cwS 2 hts gL_within_L_word rfl rfl rfl (by decide +kernel) ⟨by decide, by decide⟩) rfl rfl (Nat.le_of_ble_eq_true rfl) dL_within_24 ⟨Nat.zero_le _, Nat.zero_le _⟩ ?_
          refine tt_lload_n X dL_within_27 rfl ?_
          refine tt_iload X dL_within_28 rfl ?_
          obtain ⟨w30, e30, hs⟩ := gg_bind hs
          refine zr_callS X (c_L_word l e30) (fun hts => va_cwS 2 hts gL_within_L_word rfl rfl rfl (by decide +kernel) ⟨by decide, by decide⟩) rfl rfl (Nat.le_of_ble_eq_true rfl) dL_within_30 ⟨Nat.zero_le _, Nat.zero_le _⟩ ?_
          refine tt_icmp_ne (tgt := 40) X dL_within_33 (by decide) (fun c33 => ?_) (fun c33 => ?_)
          · rw [if_neg c33] at hs
            refine tt_iconst (v := 0) X dL_within_40 (by decide) ?_
            refine tt_drop [0, 2, 3, 5, 7] ?_
            exact t_41 y0 x2 y3 x5 x7 x6 0 w30.2 hs
          · rw [if_pos c33] at hs
            refine tt_iconst (v := 1) X dL_within_36 (by decide) ?_
            refine tt_goto (tgt := 41) X dL_within_37 (by decide) ?_
            refine tt_drop [0, 2, 3, 5, 7] ?_
            exact t_41 y0 x2 y3 x5 x7 x6 1 w30.2 hs
  refine tt_iconst (v := 0) X dL_within_0 (by decide) ?_
  refine tt_istore X dL_within_1 (Nat.le_of_ble_eq_true rfl) ?_
  refine tt_iconst (v := 0) X dL_within_3 (by decide) ?_
  refine tt_istore X dL_within_4 (Nat.le_of_ble_eq_true rfl) ?_
  refine tt_drop [0, 2, 3, 5, 6, 7] ?_
  exact t_6 1000 y0 x2 y3 x5 0 0 h hs

def s_L_size_L4 : Nat → Int32 → Int32 → tt_H → Option (Int32 × tt_H)
  | 0, _, _, _ => none
  | n + 1, x1, x2, h =>
    if x2 ≤ 0 then
      some (x1, h)
    else
    s_L_size_L4 n (x1 + 1) (x2 &&& (x2 - 1)) h
def s_L_size (x0 : Int32) (h : tt_H) : Option (Int32 × tt_H) :=
  s_L_size_L4 1000 0 x0 h
abbrev rm_L_size : Room := { frames := 0, cells := 0, slots := 0, locals := 0 }
set_option maxHeartbeats 4000000 in
set_option maxRecDepth 100000 in
theorem c_L_size (l : Launch) {x0 : Int32} {h : tt_H} {ρ : Int32 × tt_H} (hs : s_L_size x0 h = some ρ) : tt_M tt_cl l yL_size wsL_size rm_L_size 0 0 false [.int x0] h (tt_ret (some (.int ρ.1)) ρ.2) := by
  refine tt_M.of0 (cc := cL_size) (maxL := 3) (ret := (some .int)) (by decide +kernel) rfl (Nat.le_of_ble_eq_true rfl) ?_
  intro p e s m args below meth c D ca ad n0 sz hwf hsz X hini
  unfold s_L_size at hs
  have t_4 : ∀ (fu : Nat) (x1 : Int32) (x2 : Int32) (h : tt_H), s_L_size_L4 fu x1 x2 h = some ρ → tt_T tt_cl (p, l, e, rm_L_size, s, m, args, below, meth, c, MQ below (tt_Q tt_cl D ca ad n0 sz false (tt_ret (some (.int ρ.1)) ρ.2)) args s 0 0 (tt_A ad n0 sz), D, ca, tt_A ad n0 sz, 3, some n0) ad 0 0 4 [(1, .int x1), (2, .int x2)] [] h := by
    intro fu
    induction fu with
    | zero => intro x1 x2 h hs; exact absurd hs (by rw [s_L_size_L4]; exact fun q => by cases q)
    | succ n4 ih =>
      intro x1 x2 h hs
      rw [s_L_size_L4] at hs
      have t_4 := ih
      refine tt_iload_n X dL_size_4 rfl ?_
      refine tt_if_le (tgt := 20) X dL_size_5 (by decide) (fun c5 => ?_) (fun c5 => ?_)
      · rw [if_pos c5] at hs
        refine tt_iload_n X dL_size_20 rfl ?_
        obtain rfl := Option.some.inj hs
        exact tt_iret X rfl dL_size_21 ⟨rfl, rfl⟩
      · rw [if_neg c5] at hs
        refine tt_iinc (v := x1 + 1) X dL_size_8 rfl rfl (Nat.le_of_ble_eq_true rfl) ?_
        refine tt_iload_n X dL_size_11 rfl ?_
        refine tt_iload_n X dL_size_12 rfl ?_
        refine tt_iconst (v := 1) X dL_size_13 (by decide) ?_
        refine tt_isub X dL_size_14 ?_
        refine tt_iand X dL_size_15 ?_
        refine tt_istore_n X dL_size_16 (Nat.le_of_ble_eq_true rfl) ?_
        refine tt_goto (tgt := 4) X dL_size_17 (by decide) ?_
        refine tt_drop [1, 2] ?_
        exact t_4 (x1 + 1) (x2 &&& (x2 - 1)) h hs
  refine tt_iconst (v := 0) X dL_size_0 (by decide) ?_
  refine tt_istore_n X dL_size_1 (Nat.le_of_ble_eq_true rfl) ?_
  refine tt_iload_n X dL_size_2 rfl ?_
  refine tt_istore_n X dL_size_3 (Nat.le_of_ble_eq_true rfl) ?_
  refine tt_drop [1, 2] ?_
  exact t_4 1000 0 x0 h hs

def s_L_part_J47 (κ9 : Int64 → Int32 → Int32 → Int64 → Int32 → Int32 → tt_H → Option (Int64 × tt_H)) (y0 : Int64) (x2 : Int32) (x3 : Int32) (y4 : Int64) (x6 : Int32) (x7 : Int32) (h : tt_H) : Option (Int64 × tt_H) :=
  κ9 y0 x2 x3 y4 x6 (x7 + 1) h
def s_L_part_L9 : Nat → Int64 → Int32 → Int32 → Int64 → Int32 → Int32 → tt_H → Option (Int64 × tt_H)
  | 0, _, _, _, _, _, _, _ => none
  | n + 1, y0, x2, x3, y4, x6, x7, h =>
    if x2 ≤ x7 then
      some (y4, h)
    else
    if ((x3 >>> (x7 &&& 31)) &&& 1) = 0 then
      s_L_part_J47 (s_L_part_L9 n) y0 x2 x3 y4 x6 x7 h
    else
    (s_L_word y0 x7 h).bind fun w32 =>
    s_L_part_J47 (s_L_part_L9 n) y0 x2 x3 (y4 ||| (w32.1.toInt64 <<< ((3 * x6).toInt64 &&& 63))) (x6 + 1) x7 w32.2
def s_L_part (y0 : Int64) (x2 : Int32) (x3 : Int32) (h : tt_H) : Option (Int64 × tt_H) :=
  s_L_part_L9 1000 y0 x2 x3 0 0 0 h
abbrev rm_L_part : Room := { frames := 1, cells := 0, slots := 0, locals := 22 }
set_option maxHeartbeats 4000000 in
set_option maxRecDepth 100000 in
theorem c_L_part (l : Launch) {y0 : Int64} {x2 : Int32} {x3 : Int32} {h : tt_H} {ρ : Int64 × tt_H} (hs : s_L_part y0 x2 x3 h = some ρ) : tt_M tt_cl l yL_part wsL_part rm_L_part 0 0 false [.long y0, .int x2, .int x3] h (tt_ret (some (.long ρ.1)) ρ.2) := by
  refine tt_M.of0 (cc := cL_part) (maxL := 8) (ret := (some .long)) (by decide +kernel) rfl (Nat.le_of_ble_eq_true rfl) ?_
  intro p e s m args below meth c D ca ad n0 sz hwf hsz X hini
  unfold s_L_part at hs
  have t_9 : ∀ (fu : Nat) (y0 : Int64) (x2 : Int32) (x3 : Int32) (y4 : Int64) (x6 : Int32) (x7 : Int32) (h : tt_H), s_L_part_L9 fu y0 x2 x3 y4 x6 x7 h = some ρ → tt_T tt_cl (p, l, e, rm_L_part, s, m, args, below, meth, c, MQ below (tt_Q tt_cl D ca ad n0 sz false (tt_ret (some (.long ρ.1)) ρ.2)) args s 0 0 (tt_A ad n0 sz), D, ca, tt_A ad n0 sz, 8, some n0) ad 0 0 9 [(0, .long y0), (2, .int x2), (3, .int x3), (4, .long y4), (6, .int x6), (7, .int x7)] [] h := by
    intro fu
    induction fu with
    | zero => intro y0 x2 x3 y4 x6 x7 h hs; exact absurd hs (by rw [s_L_part_L9]; exact fun q => by cases q)
    | succ n9 ih =>
      intro y0 x2 x3 y4 x6 x7 h hs
      rw [s_L_part_L9] at hs
      have t_9 := ih
      have t_47 : ∀ (y0 : Int64) (x2 : Int32) (x3 : Int32) (y4 : Int64) (x6 : Int32) (x7 : Int32) (h : tt_H), s_L_part_J47 (s_L_part_L9 n9) y0 x2 x3 y4 x6 x7 h = some ρ → tt_T tt_cl (p, l, e, rm_L_part, s, m, args, below, meth, c, MQ below (tt_Q tt_cl D ca ad n0 sz false (tt_ret (some (.long ρ.1)) ρ.2)) args s 0 0 (tt_A ad n0 sz), D, ca, tt_A ad n0 sz, 8, some n0) ad 0 0 47 [(0, .long y0), (2, .int x2), (3, .int x3), (4, .long y4), (6, .int x6), (7, .int x7)] [] h := by
        intro y0 x2 x3 y4 x6 x7 h hs
        unfold s_L_part_J47 at hs
        refine tt_iinc (v := x7 + 1) X dL_part_47 rfl rfl (Nat.le_of_ble_eq_true rfl) ?_
        refine tt_goto (tgt := 9) X dL_part_50 (by decide) ?_
        refine tt_drop [0, 2, 3, 4, 6, 7] ?_
        exact t_9 y0 x2 x3 y4 x6 (x7 + 1) h hs
      refine tt_iload X dL_part_9 rfl ?_
      refine tt_iload_n X dL_part_11 rfl ?_
      refine tt_icmp_ge (tgt := 53) X dL_part_12 (by decide) (fun c12 => ?_) (fun c12 => ?_)
      · rw [if_pos c12] at hs
        refine tt_lload X dL_part_53 rfl ?_
        obtain rfl := Option.some.inj hs
        exact tt_lret X rfl dL_part_55 ⟨rfl, rfl⟩
      · rw [if_neg c12] at hs
        refine tt_iload_n X dL_part_15 rfl ?_
        refine tt_iload X dL_part_16 rfl ?_
        refine tt_ishr X dL_part_18 ?_
        refine tt_iconst (v := 1) X dL_part_19 (by decide) ?_
        refine tt_iand X dL_part_20 ?_
        refine tt_if_ne (tgt := 27) X dL_part_21 (by decide) (fun c21 => ?_) (fun c21 => ?_)
        · rw [if_neg c21] at hs
          refine tt_lload X dL_part_27 rfl ?_
          refine tt_lload_n X dL_part_29 rfl ?_
          refine tt_iload X dL_part_30 rfl ?_
          obtain ⟨w32, e32, hs⟩ := gg_bind hs
          refine zr_callS X (c_L_word l e32) (fun hts => va_cwS 2 hts gL_part_L_word rfl rfl rfl (by decide +kernel) ⟨by decide, by decide⟩) rfl rfl (Nat.le_of_ble_eq_true rfl) dL_part_32 ⟨Nat.zero_le _, Nat.zero_le _⟩ ?_
          refine tt_i2l X dL_part_35 ?_
          refine tt_iconst (v := 3) X dL_part_36 (by decide) ?_
          refine tt_iload X dL_part_37 rfl ?_
          refine tt_imul X dL_part_39 ?_
          refine tt_lshl X dL_part_40 ?_
          refine tt_lor X dL_part_41 ?_
          refine tt_lstore X dL_part_42 (Nat.le_of_ble_eq_true rfl) ?_
          refine tt_iinc (v := x6 + 1) X dL_part_44 rfl rfl (Nat.le_of_ble_eq_true rfl) ?_
          refine tt_drop [0, 2, 3, 4, 6, 7] ?_
          exact t_47 y0 x2 x3 (y4 ||| (w32.1.toInt64 <<< ((3 * x6).toInt64 &&& 63))) (x6 + 1) x7 w32.2 hs
        · rw [if_pos c21] at hs
          refine tt_goto (tgt := 47) X dL_part_24 (by decide) ?_
          refine tt_drop [0, 2, 3, 4, 6, 7] ?_
          exact t_47 y0 x2 x3 y4 x6 x7 h hs
  refine tt_lconst (v := 0) X dL_part_0 (by decide) ?_
  refine tt_lstore X dL_part_1 (Nat.le_of_ble_eq_true rfl) ?_
  refine tt_iconst (v := 0) X dL_part_3 (by decide) ?_
  refine tt_istore X dL_part_4 (Nat.le_of_ble_eq_true rfl) ?_
  refine tt_iconst (v := 0) X dL_part_6 (by decide) ?_
  refine tt_istore X dL_part_7 (Nat.le_of_ble_eq_true rfl) ?_
  refine tt_drop [0, 2, 3, 4, 6, 7] ?_
  exact t_9 1000 y0 x2 x3 0 0 0 h hs

def s_L_said_J107 (κ12 : Nat → Int64 → Int32 → Int32 → Int32 → Int32 → Int32 → tt_H → Option (Int32 × tt_H)) (b0 : Nat) (y1 : Int64) (x3 : Int32) (x4 : Int32) (x5 : Int32) (x6 : Int32) (x7 : Int32) (h : tt_H) : Option (Int32 × tt_H) :=
  κ12 b0 y1 x3 x4 x5 x6 (x7 + 1) h
def s_L_said_J98 (κ107 : Nat → Int64 → Int32 → Int32 → Int32 → Int32 → Int32 → tt_H → Option (Int32 × tt_H)) (b0 : Nat) (y1 : Int64) (x3 : Int32) (x7 : Int32) (x8 : Int32) (ux0 : Int32) (h : tt_H) : Option (Int32 × tt_H) :=
  κ107 b0 y1 x3 ux0 0 x8 x7 h
def s_L_said_J63 (κ12 : Nat → Int64 → Int32 → Int32 → Int32 → Int32 → Int32 → tt_H → Option (Int32 × tt_H)) (b0 : Nat) (y1 : Int64) (x3 : Int32) (x4 : Int32) (x5 : Int32) (x6 : Int32) (x7 : Int32) (x8 : Int32) (h : tt_H) : Option (Int32 × tt_H) :=
  (gg_il h b0 x8).bind fun z66 =>
  if z66 ≤ 0 then
    if x5 = 1 then
      s_L_said_J98 (s_L_said_J107 κ12) b0 y1 x3 x7 x8 (x4 &&& (((1 : Int32) <<< (x8 &&& 31)) ^^^ ((-1)))) h
    else
    s_L_said_J98 (s_L_said_J107 κ12) b0 y1 x3 x7 x8 (x4 ||| ((1 : Int32) <<< (x8 &&& 31))) h
  else
  s_L_said_J107 κ12 b0 y1 x3 x4 x5 x6 x7 h
def s_L_said_J39 (κ12 : Nat → Int64 → Int32 → Int32 → Int32 → Int32 → Int32 → tt_H → Option (Int32 × tt_H)) (b0 : Nat) (y1 : Int64) (x3 : Int32) (x4 : Int32) (x5 : Int32) (x6 : Int32) (x7 : Int32) (x8 : Int32) (h : tt_H) : Option (Int32 × tt_H) :=
  (gg_il h b0 x8).bind fun z42 =>
  if z42 = 2 then
    if x6 < 0 then
      s_L_said_J63 κ12 b0 y1 x3 x4 x5 x6 x7 x8 h
    else
    s_L_said_J63 κ12 b0 y1 x3 (x4 &&& (((1 : Int32) <<< (x6 &&& 31)) ^^^ ((-1)))) x5 x6 x7 x8 h
  else
  s_L_said_J63 κ12 b0 y1 x3 x4 x5 x6 x7 x8 h
def s_L_said_L12 : Nat → Nat → Int64 → Int32 → Int32 → Int32 → Int32 → Int32 → tt_H → Option (Int32 × tt_H)
  | 0, _, _, _, _, _, _, _, _ => none
  | n + 1, b0, y1, x3, x4, x5, x6, x7, h =>
    if x3 ≤ x7 then
      some (x4, h)
    else
    (s_L_word y1 x7 h).bind fun w21 =>
    (gg_il w21.2 b0 w21.1).bind fun z29 =>
    if z29 ≤ 0 then
      s_L_said_J39 (s_L_said_L12 n) b0 y1 x3 x4 x5 x6 x7 w21.1 w21.2
    else
    s_L_said_J39 (s_L_said_L12 n) b0 y1 x3 x4 (x5 ^^^ 1) x6 x7 w21.1 w21.2
def s_L_said (b0 : Nat) (y1 : Int64) (x3 : Int32) (h : tt_H) : Option (Int32 × tt_H) :=
  s_L_said_L12 1000 b0 y1 x3 0 0 ((-1)) 0 h
abbrev rm_L_said : Room := { frames := 1, cells := 0, slots := 0, locals := 22 }
set_option maxHeartbeats 4000000 in
set_option maxRecDepth 100000 in
theorem c_L_said (l : Launch) {b0 : Nat} {y1 : Int64} {x3 : Int32} {h : tt_H} {ρ : Int32 × tt_H} (hs : s_L_said b0 y1 x3 h = some ρ) : tt_M tt_cl l yL_said wsL_said rm_L_said 0 0 false [.ref b0, .long y1, .int x3] h (tt_ret (some (.int ρ.1)) ρ.2) := by
  refine tt_M.of0 (cc := cL_said) (maxL := 9) (ret := (some .int)) (by decide +kernel) rfl (Nat.le_of_ble_eq_true rfl) ?_
  intro p e s m args below meth c D ca ad n0 sz hwf hsz X hini
  unfold s_L_said at hs
  have t_12 : ∀ (fu : Nat) (b0 : Nat) (y1 : Int64) (x3 : Int32) (x4 : Int32) (x5 : Int32) (x6 : Int32) (x7 : Int32) (h : tt_H), s_L_said_L12 fu b0 y1 x3 x4 x5 x6 x7 h = some ρ → tt_T tt_cl (p, l, e, rm_L_said, s, m, args, below, meth, c, MQ below (tt_Q tt_cl D ca ad n0 sz false (tt_ret (some (.int ρ.1)) ρ.2)) args s 0 0 (tt_A ad n0 sz), D, ca, tt_A ad n0 sz, 9, some n0) ad 0 0 12 [(0, .ref b0), (1, .long y1), (3, .int x3), (4, .int x4), (5, .int x5), (6, .int x6), (7, .int x7)] [] h := by
    intro fu
    induction fu with
    | zero => intro b0 y1 x3 x4 x5 x6 x7 h hs; exact absurd hs (by rw [s_L_said_L12]; exact fun q => by cases q)
    | succ n12 ih =>
      intro b0 y1 x3 x4 x5 x6 x7 h hs
      rw [s_L_said_L12] at hs
      have t_12 := ih
      have t_39 : ∀ (b0 : Nat) (y1 : Int64) (x3 : Int32) (x4 : Int32) (x5 : Int32) (x6 : Int32) (x7 : Int32) (x8 : Int32) (h : tt_H), s_L_said_J39 (s_L_said_L12 n12) b0 y1 x3 x4 x5 x6 x7 x8 h = some ρ → tt_T tt_cl (p, l, e, rm_L_said, s, m, args, below, meth, c, MQ below (tt_Q tt_cl D ca ad n0 sz false (tt_ret (some (.int ρ.1)) ρ.2)) args s 0 0 (tt_A ad n0 sz), D, ca, tt_A ad n0 sz, 9, some n0) ad 0 0 39 [(0, .ref b0), (1, .long y1), (3, .int x3), (4, .int x4), (5, .int x5), (6, .int x6), (7, .int x7), (8, .int x8)] [] h := by
        intro b0 y1 x3 x4 x5 x6 x7 x8 h hs
        unfold s_L_said_J39 at hs
        have t_63 : ∀ (b0 : Nat) (y1 : Int64) (x3 : Int32) (x4 : Int32) (x5 : Int32) (x6 : Int32) (x7 : Int32) (x8 : Int32) (h : tt_H), s_L_said_J63 (s_L_said_L12 n12) b0 y1 x3 x4 x5 x6 x7 x8 h = some ρ → tt_T tt_cl (p, l, e, rm_L_said, s, m, args, below, meth, c, MQ below (tt_Q tt_cl D ca ad n0 sz false (tt_ret (some (.int ρ.1)) ρ.2)) args s 0 0 (tt_A ad n0 sz), D, ca, tt_A ad n0 sz, 9, some n0) ad 0 0 63 [(0, .ref b0), (1, .long y1), (3, .int x3), (4, .int x4), (5, .int x5), (6, .int x6), (7, .int x7), (8, .int x8)] [] h := by
          intro b0 y1 x3 x4 x5 x6 x7 x8 h hs
          unfold s_L_said_J63 at hs
          have t_107 : ∀ (b0 : Nat) (y1 : Int64) (x3 : Int32) (x4 : Int32) (x5 : Int32) (x6 : Int32) (x7 : Int32) (h : tt_H), s_L_said_J107 (s_L_said_L12 n12) b0 y1 x3 x4 x5 x6 x7 h = some ρ → tt_T tt_cl (p, l, e, rm_L_said, s, m, args, below, meth, c, MQ below (tt_Q tt_cl D ca ad n0 sz false (tt_ret (some (.int ρ.1)) ρ.2)) args s 0 0 (tt_A ad n0 sz), D, ca, tt_A ad n0 sz, 9, some n0) ad 0 0 107 [(0, .ref b0), (1, .long y1), (3, .int x3), (4, .int x4), (5, .int x5), (6, .int x6), (7, .int x7)] [] h := by
            intro b0 y1 x3 x4 x5 x6 x7 h hs
            unfold s_L_said_J107 at hs
            refine tt_iinc (v := x7 + 1) X dL_said_107 rfl rfl (Nat.le_of_ble_eq_true rfl) ?_
            refine tt_goto (tgt := 12) X dL_said_110 (by decide) ?_
            refine tt_drop [0, 1, 3, 4, 5, 6, 7] ?_
            exact t_12 b0 y1 x3 x4 x5 x6 (x7 + 1) h hs
          have t_98 : ∀ (b0 : Nat) (y1 : Int64) (x3 : Int32) (x7 : Int32) (x8 : Int32) (ux0 : Int32) (h : tt_H), s_L_said_J98 (s_L_said_J107 (s_L_said_L12 n12)) b0 y1 x3 x7 x8 ux0 h = some ρ → tt_T tt_cl (p, l, e, rm_L_said, s, m, args, below, meth, c, MQ below (tt_Q tt_cl D ca ad n0 sz false (tt_ret (some (.int ρ.1)) ρ.2)) args s 0 0 (tt_A ad n0 sz), D, ca, tt_A ad n0 sz, 9, some n0) ad 0 0 98 [(0, .ref b0), (1, .long y1), (3, .int x3), (7, .int x7), (8, .int x8)] [.int ux0] h := by
            intro b0 y1 x3 x7 x8 ux0 h hs
            unfold s_L_said_J98 at hs
            refine tt_istore X dL_said_98 (Nat.le_of_ble_eq_true rfl) ?_
            refine tt_iconst (v := 0) X dL_said_100 (by decide) ?_
            refine tt_istore X dL_said_101 (Nat.le_of_ble_eq_true rfl) ?_
            refine tt_iload X dL_said_103 rfl ?_
            refine tt_istore X dL_said_105 (Nat.le_of_ble_eq_true rfl) ?_
            refine tt_drop [0, 1, 3, 4, 5, 6, 7] ?_
            exact t_107 b0 y1 x3 ux0 0 x8 x7 h hs
          refine tt_aload_n X dL_said_63 rfl ?_
          refine tt_iload X dL_said_64 rfl ?_
          obtain ⟨z66, e66, hs⟩ := gg_bind hs
          refine zr_il X e66 dL_said_66 ?_
          refine tt_if_le (tgt := 73) X dL_said_67 (by decide) (fun c67 => ?_) (fun c67 => ?_)
          · rw [if_pos c67] at hs
            refine tt_iload X dL_said_73 rfl ?_
            refine tt_iconst (v := 1) X dL_said_75 (by decide) ?_
            refine tt_icmp_ne (tgt := 91) X dL_said_76 (by decide) (fun c76 => ?_) (fun c76 => ?_)
            · rw [if_neg c76] at hs
              refine tt_iload X dL_said_91 rfl ?_
              refine tt_iconst (v := 1) X dL_said_93 (by decide) ?_
              refine tt_iload X dL_said_94 rfl ?_
              refine tt_ishl X dL_said_96 ?_
              refine tt_ior X dL_said_97 ?_
              refine tt_drop [0, 1, 3, 7, 8] ?_
              exact t_98 b0 y1 x3 x7 x8 (x4 ||| ((1 : Int32) <<< (x8 &&& 31))) h hs
            · rw [if_pos c76] at hs
              refine tt_iload X dL_said_79 rfl ?_
              refine tt_iconst (v := 1) X dL_said_81 (by decide) ?_
              refine tt_iload X dL_said_82 rfl ?_
              refine tt_ishl X dL_said_84 ?_
              refine tt_iconst (v := (-1)) X dL_said_85 (by decide) ?_
              refine tt_ixor X dL_said_86 ?_
              refine tt_iand X dL_said_87 ?_
              refine tt_goto (tgt := 98) X dL_said_88 (by decide) ?_
              refine tt_drop [0, 1, 3, 7, 8] ?_
              exact t_98 b0 y1 x3 x7 x8 (x4 &&& (((1 : Int32) <<< (x8 &&& 31)) ^^^ ((-1)))) h hs
          · rw [if_neg c67] at hs
            refine tt_goto (tgt := 107) X dL_said_70 (by decide) ?_
            refine tt_drop [0, 1, 3, 4, 5, 6, 7] ?_
            exact t_107 b0 y1 x3 x4 x5 x6 x7 h hs
        refine tt_aload_n X dL_said_39 rfl ?_
        refine tt_iload X dL_said_40 rfl ?_
        obtain ⟨z42, e42, hs⟩ := gg_bind hs
        refine zr_il X e42 dL_said_42 ?_
        refine tt_iconst (v := 2) X dL_said_43 (by decide) ?_
        refine tt_icmp_ne (tgt := 63) X dL_said_44 (by decide) (fun c44 => ?_) (fun c44 => ?_)
        · rw [if_neg c44] at hs
          refine tt_drop [0, 1, 3, 4, 5, 6, 7, 8] ?_
          exact t_63 b0 y1 x3 x4 x5 x6 x7 x8 h hs
        · rw [if_pos c44] at hs
          refine tt_iload X dL_said_47 rfl ?_
          refine tt_if_lt (tgt := 63) X dL_said_49 (by decide) (fun c49 => ?_) (fun c49 => ?_)
          · rw [if_pos c49] at hs
            refine tt_drop [0, 1, 3, 4, 5, 6, 7, 8] ?_
            exact t_63 b0 y1 x3 x4 x5 x6 x7 x8 h hs
          · rw [if_neg c49] at hs
            refine tt_iload X dL_said_52 rfl ?_
            refine tt_iconst (v := 1) X dL_said_54 (by decide) ?_
            refine tt_iload X dL_said_55 rfl ?_
            refine tt_ishl X dL_said_57 ?_
            refine tt_iconst (v := (-1)) X dL_said_58 (by decide) ?_
            refine tt_ixor X dL_said_59 ?_
            refine tt_iand X dL_said_60 ?_
            refine tt_istore X dL_said_61 (Nat.le_of_ble_eq_true rfl) ?_
            refine tt_drop [0, 1, 3, 4, 5, 6, 7, 8] ?_
            exact t_63 b0 y1 x3 (x4 &&& (((1 : Int32) <<< (x6 &&& 31)) ^^^ ((-1)))) x5 x6 x7 x8 h hs
      refine tt_iload X dL_said_12 rfl ?_
      refine tt_iload_n X dL_said_14 rfl ?_
      refine tt_icmp_ge (tgt := 113) X dL_said_15 (by decide) (fun c15 => ?_) (fun c15 => ?_)
      · rw [if_pos c15] at hs
        refine tt_iload X dL_said_113 rfl ?_
        obtain rfl := Option.some.inj hs
        exact tt_iret X rfl dL_said_115 ⟨rfl, rfl⟩
      · rw [if_neg c15] at hs
        refine tt_lload_n X dL_said_18 rfl ?_
        refine tt_iload X dL_said_19 rfl ?_
        obtain ⟨w21, e21, hs⟩ := gg_bind hs
        refine zr_callS X (c_L_word l e21) (fun hts => va_cwS 2 hts gL_said_L_word rfl rfl rfl (by decide +kernel) ⟨by decide, by decide⟩) rfl rfl (Nat.le_of_ble_eq_true rfl) dL_said_21 ⟨Nat.zero_le _, Nat.zero_le _⟩ ?_
        refine tt_istore X dL_said_24 (Nat.le_of_ble_eq_true rfl) ?_
        refine tt_aload_n X dL_said_26 rfl ?_
        refine tt_iload X dL_said_27 rfl ?_
        obtain ⟨z29, e29, hs⟩ := gg_bind hs
        refine zr_il X e29 dL_said_29 ?_
        refine tt_if_le (tgt := 39) X dL_said_30 (by decide) (fun c30 => ?_) (fun c30 => ?_)
        · rw [if_pos c30] at hs
          refine tt_drop [0, 1, 3, 4, 5, 6, 7, 8] ?_
          exact t_39 b0 y1 x3 x4 x5 x6 x7 w21.1 w21.2 hs
        · rw [if_neg c30] at hs
          refine tt_iload X dL_said_33 rfl ?_
          refine tt_iconst (v := 1) X dL_said_35 (by decide) ?_
          refine tt_ixor X dL_said_36 ?_
          refine tt_istore X dL_said_37 (Nat.le_of_ble_eq_true rfl) ?_
          refine tt_drop [0, 1, 3, 4, 5, 6, 7, 8] ?_
          exact t_39 b0 y1 x3 x4 (x5 ^^^ 1) x6 x7 w21.1 w21.2 hs
  refine tt_iconst (v := 0) X dL_said_0 (by decide) ?_
  refine tt_istore X dL_said_1 (Nat.le_of_ble_eq_true rfl) ?_
  refine tt_iconst (v := 0) X dL_said_3 (by decide) ?_
  refine tt_istore X dL_said_4 (Nat.le_of_ble_eq_true rfl) ?_
  refine tt_iconst (v := (-1)) X dL_said_6 (by decide) ?_
  refine tt_istore X dL_said_7 (Nat.le_of_ble_eq_true rfl) ?_
  refine tt_iconst (v := 0) X dL_said_9 (by decide) ?_
  refine tt_istore X dL_said_10 (Nat.le_of_ble_eq_true rfl) ?_
  refine tt_drop [0, 1, 3, 4, 5, 6, 7] ?_
  exact t_12 1000 b0 y1 x3 0 0 ((-1)) 0 h hs
