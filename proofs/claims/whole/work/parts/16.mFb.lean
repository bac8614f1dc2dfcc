theorem in_X9_findPut_X9 : ∀ w ∈ u_ws RX9 TX9 26, w ∈ wsX9_findPut := by decide +kernel
def s_X9_findPut_J212 (κ113 : Nat → Int32 → Int32 → Int32 → Int32 → Int32 → tt_H → Option (Unit × tt_H)) (b0 : Nat) (x1 : Int32) (x2 : Int32) (x3 : Int32) (x4 : Int32) (x5 : Int32) (h : tt_H) : Option (Unit × tt_H) :=
  κ113 b0 x1 x2 x3 x4 (x5 + 1) h
def s_X9_findPut_J206 (κ139 : Nat → Int32 → Int32 → Int32 → Int32 → Int32 → Int32 → tt_H → Option (Unit × tt_H)) (b0 : Nat) (x1 : Int32) (x2 : Int32) (x3 : Int32) (x4 : Int32) (x5 : Int32) (x6 : Int32) (h : tt_H) : Option (Unit × tt_H) :=
  κ139 b0 x1 x2 x3 x4 x5 (x6 + 1) h
def s_X9_findPut_L139 (κ113 : Nat → Int32 → Int32 → Int32 → Int32 → Int32 → tt_H → Option (Unit × tt_H)) : Nat → Nat → Int32 → Int32 → Int32 → Int32 → Int32 → Int32 → tt_H → Option (Unit × tt_H)
  | 0, _, _, _, _, _, _, _, _ => none
  | n + 1, b0, x1, x2, x3, x4, x5, x6, h =>
    if x4 ≤ x6 then
      s_X9_findPut_J212 κ113 b0 x1 x2 x3 x4 x5 h
    else
    (gg_fi h b0 9 16).bind fun z147 =>
    if z147 = ((-9)) then
      (gg_nz 10).bind fun _ =>
      if 8 ≤ (x5 - x5 / 10 * 10) then
        s_X9_findPut_J206 (s_X9_findPut_L139 κ113 n) b0 x1 x2 x3 x4 x5 x6 h
      else
      (gg_nz 10).bind fun _ =>
      if 8 ≤ (x6 - x6 / 10 * 10) then
        s_X9_findPut_J206 (s_X9_findPut_L139 κ113 n) b0 x1 x2 x3 x4 x5 x6 h
      else
      (gg_obj h b0 9).bind fun _ =>
      (s_X9_isSo b0 x1 x2 x3 x5 x6 h).bind fun w183 =>
      if w183.1 = 0 then
        s_X9_findPut_J206 (s_X9_findPut_L139 κ113 n) b0 x1 x2 x3 x4 x5 x6 w183.2
      else
      (gg_put w183.2 b0 9 16 (.int 2)).bind fun h191 =>
      (gg_put h191 b0 9 17 (.int x5)).bind fun h197 =>
      (gg_put h197 b0 9 18 (.int x6)).bind fun h203 =>
      s_X9_findPut_J206 (s_X9_findPut_L139 κ113 n) b0 x1 x2 x3 x4 x5 x6 h203
    else
    s_X9_findPut_J212 κ113 b0 x1 x2 x3 x4 x5 h
def s_X9_findPut_L113 : Nat → Nat → Int32 → Int32 → Int32 → Int32 → Int32 → tt_H → Option (Unit × tt_H)
  | 0, _, _, _, _, _, _, _ => none
  | n + 1, b0, x1, x2, x3, x4, x5, h =>
    if x4 ≤ x5 then
      some ((), h)
    else
    (gg_fi h b0 9 16).bind fun z121 =>
    if z121 = ((-9)) then
      (gg_nz 10).bind fun _ =>
      s_X9_findPut_L139 (s_X9_findPut_L113 n) 1000 b0 x1 x2 x3 x4 x5 ((x5 / 10) * 10) h
    else
    some ((), h)
def s_X9_findPut_J110 (b0 : Nat) (x1 : Int32) (x2 : Int32) (x3 : Int32) (x4 : Int32) (h : tt_H) : Option (Unit × tt_H) :=
  s_X9_findPut_L113 1000 b0 x1 x2 x3 x4 0 h
def s_X9_findPut_J104 (κ53 : Nat → Int32 → Int32 → Int32 → Int32 → Int32 → tt_H → Option (Unit × tt_H)) (b0 : Nat) (x1 : Int32) (x2 : Int32) (x3 : Int32) (x4 : Int32) (x5 : Int32) (h : tt_H) : Option (Unit × tt_H) :=
  κ53 b0 x1 x2 x3 x4 (x5 + 1) h
def s_X9_findPut_L53 : Nat → Nat → Int32 → Int32 → Int32 → Int32 → Int32 → tt_H → Option (Unit × tt_H)
  | 0, _, _, _, _, _, _, _ => none
  | n + 1, b0, x1, x2, x3, x4, x5, h =>
    if x4 ≤ x5 then
      s_X9_findPut_J110 b0 x1 x2 x3 x4 h
    else
    (gg_fi h b0 9 16).bind fun z61 =>
    if z61 = ((-9)) then
      (gg_nz 10).bind fun _ =>
      if 8 ≤ (x5 - x5 / 10 * 10) then
        s_X9_findPut_J104 (s_X9_findPut_L53 n) b0 x1 x2 x3 x4 x5 h
      else
      (gg_obj h b0 9).bind fun _ =>
      (s_X9_isSo b0 x1 x2 x3 x5 ((-9)) h).bind fun w87 =>
      if w87.1 = 0 then
        s_X9_findPut_J104 (s_X9_findPut_L53 n) b0 x1 x2 x3 x4 x5 w87.2
      else
      (gg_put w87.2 b0 9 16 (.int 1)).bind fun h95 =>
      (gg_put h95 b0 9 17 (.int x5)).bind fun h101 =>
      s_X9_findPut_J104 (s_X9_findPut_L53 n) b0 x1 x2 x3 x4 x5 h101
    else
    s_X9_findPut_J110 b0 x1 x2 x3 x4 h
def s_X9_findPut_J21 (b0 : Nat) (x1 : Int32) (x2 : Int32) (x3 : Int32) (ub0 : Nat) (ux1 : Int32) (h : tt_H) : Option (Unit × tt_H) :=
  (gg_put h ub0 9 16 (.int ux1)).bind fun h21 =>
  (gg_put h21 b0 9 17 (.int ((-9)))).bind fun h27 =>
  (gg_put h27 b0 9 18 (.int ((-9)))).bind fun h33 =>
  (gg_fr h33 b0 9 7).bind fun o39 =>
  (gg_il h33 o39 x1).bind fun z43 =>
  s_X9_findPut_L53 1000 b0 x1 x2 x3 ((10 * z43) + 8) 0 h33
def s_X9_findPut (b0 : Nat) (x1 : Int32) (x2 : Int32) (x3 : Int32) (h : tt_H) : Option (Unit × tt_H) :=
  (gg_obj h b0 9).bind fun _ =>
  (s_X9_isSo b0 x1 x2 x3 ((-9)) ((-9)) h).bind fun w9 =>
  if w9.1 = 0 then
    s_X9_findPut_J21 b0 x1 x2 x3 b0 ((-9)) w9.2
  else
  s_X9_findPut_J21 b0 x1 x2 x3 b0 0 w9.2
abbrev rm_X9_findPut : Room := { frames := 3, cells := 0, slots := 0, locals := 76 }
set_option maxHeartbeats 4000000 in
set_option maxRecDepth 100000 in
theorem c_X9_findPut (l : Launch) {b0 : Nat} {x1 : Int32} {x2 : Int32} {x3 : Int32} {h : tt_H} {ρ : Unit × tt_H} (hs : s_X9_findPut b0 x1 x2 x3 h = some ρ) : tt_M tt_cl l yX9_findPut wsX9_findPut rm_X9_findPut 0 0 false [.ref b0, .int x1, .int x2, .int x3] h (tt_ret (none) ρ.2) := by
  refine tt_M.of0 (cc := cX9_findPut) (maxL := 7) (ret := none) (by decide +kernel) rfl (Nat.le_of_ble_eq_true rfl) ?_
  intro p e s m args below meth c D ca ad n0 sz hwf hsz X hini
  unfold s_X9_findPut at hs
  have t_21 : ∀ (b0 : Nat) (x1 : Int32) (x2 : Int32) (x3 : Int32) (ub0 : Nat) (ux1 : Int32) (h : tt_H), s_X9_findPut_J21 b0 x1 x2 x3 ub0 ux1 h = some ρ → tt_T tt_cl (p, l, e, rm_X9_findPut, s, m, args, below, meth, c, MQ below (tt_Q tt_cl D ca ad n0 sz false (tt_ret (none) ρ.2)) args s 0 0 (tt_A ad n0 sz), D, ca, tt_A ad n0 sz, 7, some n0) ad 0 0 21 [(0, .ref b0), (1, .int x1), (2, .int x2), (3, .int x3)] [.int ux1, .ref ub0] h := by
    intro b0 x1 x2 x3 ub0 ux1 h hs
    unfold s_X9_findPut_J21 at hs
    have t_53 : ∀ (fu : Nat) (b0 : Nat) (x1 : Int32) (x2 : Int32) (x3 : Int32) (x4 : Int32) (x5 : Int32) (h : tt_H), s_X9_findPut_L53 fu b0 x1 x2 x3 x4 x5 h = some ρ → tt_T tt_cl (p, l, e, rm_X9_findPut, s, m, args, below, meth, c, MQ below (tt_Q tt_cl D ca ad n0 sz false (tt_ret (none) ρ.2)) args s 0 0 (tt_A ad n0 sz), D, ca, tt_A ad n0 sz, 7, some n0) ad 0 0 53 [(0, .ref b0), (1, .int x1), (2, .int x2), (3, .int x3), (4, .int x4), (5, .int x5)] [] h := by
      intro fu
      induction fu with
      | zero => intro b0 x1 x2 x3 x4 x5 h hs; exact absurd hs (by rw [s_X9_findPut_L53]; exact fun q => by cases q)
      | succ n53 ih =>
        intro b0 x1 x2 x3 x4 x5 h hs
        rw [s_X9_findPut_L53] at hs
        have t_53 := ih
        have t_110 : ∀ (b0 : Nat) (x1 : Int32) (x2 : Int32) (x3 : Int32) (x4 : Int32) (h : tt_H), s_X9_findPut_J110 b0 x1 x2 x3 x4 h = some ρ → tt_T tt_cl (p, l, e, rm_X9_findPut, s, m, args, below, meth, c, MQ below (tt_Q tt_cl D ca ad n0 sz false (tt_ret (none) ρ.2)) args s 0 0 (tt_A ad n0 sz), D, ca, tt_A ad n0 sz, 7, some n0) ad 0 0 110 [(0, .ref b0), (1, .int x1), (2, .int x2), (3, .int x3), (4, .int x4)] [] h := by
          intro b0 x1 x2 x3 x4 h hs
          unfold s_X9_findPut_J110 at hs
          have t_113 : ∀ (fu : Nat) (b0 : Nat) (x1 : Int32) (x2 : Int32) (x3 : Int32) (x4 : Int32) (x5 : Int32) (h : tt_H), s_X9_findPut_L113 fu b0 x1 x2 x3 x4 x5 h = some ρ → tt_T tt_cl (p, l, e, rm_X9_findPut, s, m, args, below, meth, c, MQ below (tt_Q tt_cl D ca ad n0 sz false (tt_ret (none) ρ.2)) args s 0 0 (tt_A ad n0 sz), D, ca, tt_A ad n0 sz, 7, some n0) ad 0 0 113 [(0, .ref b0), (1, .int x1), (2, .int x2), (3, .int x3), (4, .int x4), (5, .int x5)] [] h := by
            intro fu
            induction fu with
            | zero => intro b0 x1 x2 x3 x4 x5 h hs; exact absurd hs (by rw [s_X9_findPut_L113]; exact fun q => by cases q)
            | succ n113 ih =>
              intro b0 x1 x2 x3 x4 x5 h hs
              rw [s_X9_findPut_L113] at hs
              have t_113 := ih
              have t_139 : ∀ (fu : Nat) (b0 : Nat) (x1 : Int32) (x2 : Int32) (x3 : Int32) (x4 : Int32) (x5 : Int32) (x6 : Int32) (h : tt_H), s_X9_findPut_L139 (s_X9_findPut_L113 n113) fu b0 x1 x2 x3 x4 x5 x6 h = some ρ → tt_T tt_cl (p, l, e, rm_X9_findPut, s, m, args, below, meth, c, MQ below (tt_Q tt_cl D ca ad n0 sz false (tt_ret (none) ρ.2)) args s 0 0 (tt_A ad n0 sz), D, ca, tt_A ad n0 sz, 7, some n0) ad 0 0 139 [(0, .ref b0), (1, .int x1), (2, .int x2), (3, .int x3), (4, .int x4), (5, .int x5), (6, .int x6)] [] h := by
                intro fu
                induction fu with
                | zero => intro b0 x1 x2 x3 x4 x5 x6 h hs; exact absurd hs (by rw [s_X9_findPut_L139]; exact fun q => by cases q)
                | succ n139 ih =>
                  intro b0 x1 x2 x3 x4 x5 x6 h hs
                  rw [s_X9_findPut_L139] at hs
                  have t_139 := ih
                  have t_212 : ∀ (b0 : Nat) (x1 : Int32) (x2 : Int32) (x3 : Int32) (x4 : Int32) (x5 : Int32) (h : tt_H), s_X9_findPut_J212 (s_X9_findPut_L113 n113) b0 x1 x2 x3 x4 x5 h = some ρ → tt_T tt_cl (p, l, e, rm_X9_findPut, s, m, args, below, meth, c, MQ below (tt_Q tt_cl D ca ad n0 sz false (tt_ret (none) ρ.2)) args s 0 0 (tt_A ad n0 sz), D, ca, tt_A ad n0 sz, 7, some n0) ad 0 0 212 [(0, .ref b0), (1, .int x1), (2, .int x2), (3, .int x3), (4, .int x4), (5, .int x5)] [] h := by
                    intro b0 x1 x2 x3 x4 x5 h hs
                    unfold s_X9_findPut_J212 at hs
                    refine tt_iinc (v := x5 + 1) X dX9_findPut_212 rfl rfl (Nat.le_of_ble_eq_true rfl) ?_
                    refine tt_goto (tgt := 113) X dX9_findPut_215 (by decide) ?_
                    refine tt_drop [0, 1, 2, 3, 4, 5] ?_
                    exact t_113 b0 x1 x2 x3 x4 (x5 + 1) h hs
                  have t_206 : ∀ (b0 : Nat) (x1 : Int32) (x2 : Int32) (x3 : Int32) (x4 : Int32) (x5 : Int32) (x6 : Int32) (h : tt_H), s_X9_findPut_J206 (s_X9_findPut_L139 (s_X9_findPut_L113 n113) n139) b0 x1 x2 x3 x4 x5 x6 h = some ρ → tt_T tt_cl (p, l, e, rm_X9_findPut, s, m, args, below, meth, c, MQ below (tt_Q tt_cl D ca ad n0 sz false (tt_ret (none) ρ.2)) args s 0 0 (tt_A ad n0 sz), D, ca, tt_A ad n0 sz, 7, some n0) ad 0 0 206 [(0, .ref b0), (1, .int x1), (2, .int x2), (3, .int x3), (4, .int x4), (5, .int x5), (6, .int x6)] [] h := by
                    intro b0 x1 x2 x3 x4 x5 x6 h hs
                    unfold s_X9_findPut_J206 at hs
                    refine tt_iinc (v := x6 + 1) X dX9_findPut_206 rfl rfl (Nat.le_of_ble_eq_true rfl) ?_
                    refine tt_goto (tgt := 139) X dX9_findPut_209 (by decide) ?_
                    refine tt_drop [0, 1, 2, 3, 4, 5, 6] ?_
                    exact t_139 b0 x1 x2 x3 x4 x5 (x6 + 1) h hs
                  refine tt_iload X dX9_findPut_139 rfl ?_
                  refine tt_iload X dX9_findPut_141 rfl ?_
                  refine tt_icmp_ge (tgt := 212) X dX9_findPut_143 (by decide) (fun c143 => ?_) (fun c143 => ?_)
                  · rw [if_pos c143] at hs
                    refine tt_drop [0, 1, 2, 3, 4, 5] ?_
                    exact t_212 b0 x1 x2 x3 x4 x5 h hs
                  · rw [if_neg c143] at hs
                    refine tt_aload_n X dX9_findPut_146 rfl ?_
                    obtain ⟨z147, e147, hs⟩ := gg_bind hs
                    refine zr_fi X e147 rfl in_X9_findPut_X9 (by decide) (by decide +kernel) rfl dX9_findPut_147 ?_
                    refine tt_bipush (v := (-9)) X dX9_findPut_150 (by decide) ?_
                    refine tt_icmp_ne (tgt := 212) X dX9_findPut_152 (by decide) (fun c152 => ?_) (fun c152 => ?_)
                    · rw [if_neg c152] at hs
                      refine tt_drop [0, 1, 2, 3, 4, 5] ?_
                      exact t_212 b0 x1 x2 x3 x4 x5 h hs
                    · rw [if_pos c152] at hs
                      refine tt_iload X dX9_findPut_155 rfl ?_
                      refine tt_bipush (v := 10) X dX9_findPut_157 (by decide) ?_
                      obtain ⟨q159, e159, hs⟩ := gg_bind hs
                      refine tt_irem X dX9_findPut_159 (zr_nz e159) ?_
                      refine tt_bipush (v := 8) X dX9_findPut_160 (by decide) ?_
                      refine tt_icmp_ge (tgt := 206) X dX9_findPut_162 (by decide) (fun c162 => ?_) (fun c162 => ?_)
                      · rw [if_pos c162] at hs
                        refine tt_drop [0, 1, 2, 3, 4, 5, 6] ?_
                        exact t_206 b0 x1 x2 x3 x4 x5 x6 h hs
                      · rw [if_neg c162] at hs
                        refine tt_iload X dX9_findPut_165 rfl ?_
                        refine tt_bipush (v := 10) X dX9_findPut_167 (by decide) ?_
                        obtain ⟨q169, e169, hs⟩ := gg_bind hs
                        refine tt_irem X dX9_findPut_169 (zr_nz e169) ?_
                        refine tt_bipush (v := 8) X dX9_findPut_170 (by decide) ?_
                        refine tt_icmp_ge (tgt := 206) X dX9_findPut_172 (by decide) (fun c172 => ?_) (fun c172 => ?_)
                        · rw [if_pos c172] at hs
                          refine tt_drop [0, 1, 2, 3, 4, 5, 6] ?_
                          exact t_206 b0 x1 x2 x3 x4 x5 x6 h hs
                        · rw [if_neg c172] at hs
                          refine tt_aload_n X dX9_findPut_175 rfl ?_
                          refine tt_iload_n X dX9_findPut_176 rfl ?_
                          refine tt_iload_n X dX9_findPut_177 rfl ?_
                          refine tt_iload_n X dX9_findPut_178 rfl ?_
                          refine tt_iload X dX9_findPut_179 rfl ?_
                          refine tt_iload X dX9_findPut_181 rfl ?_
                          obtain ⟨o183, f183, hs⟩ := gg_bind hs
                          obtain ⟨w183, e183, hs⟩ := gg_bind hs
                          refine zr_callV X f183 rfl (c_X9_isSo l e183) (fun hts => cwV 5 hts gX9_findPut_X9_isSo rfl rfl rfl (by decide +kernel) ⟨by decide, by decide⟩) rfl rfl (Nat.le_of_ble_eq_true rfl) dX9_findPut_183 ⟨Nat.zero_le _, Nat.zero_le _⟩ ?_
                          refine tt_if_eq (tgt := 206) X dX9_findPut_186 (by decide) (fun c186 => ?_) (fun c186 => ?_)
                          · rw [if_pos c186] at hs
                            refine tt_drop [0, 1, 2, 3, 4, 5, 6] ?_
                            exact t_206 b0 x1 x2 x3 x4 x5 x6 w183.2 hs
                          · rw [if_neg c186] at hs
                            refine tt_aload_n X dX9_findPut_189 rfl ?_
                            refine tt_iconst (v := 2) X dX9_findPut_190 (by decide) ?_
                            obtain ⟨h191, e191, hs⟩ := gg_bind hs
                            refine zr_put X e191 rfl in_X9_findPut_X9 tyX9 tyX9_ok nmX9 (by decide) (by decide +kernel) rfl rfl (fun _ => rfl) (fun _ => rfl) dX9_findPut_191 ?_
                            refine tt_aload_n X dX9_findPut_194 rfl ?_
                            refine tt_iload X dX9_findPut_195 rfl ?_
                            obtain ⟨h197, e197, hs⟩ := gg_bind hs
                            refine zr_put X e197 rfl in_X9_findPut_X9 tyX9 tyX9_ok nmX9 (by decide) (by decide +kernel) rfl rfl (fun _ => rfl) (fun _ => rfl) dX9_findPut_197 ?_
                            refine tt_aload_n X dX9_findPut_200 rfl ?_
                            refine tt_iload X dX9_findPut_201 rfl ?_
                            obtain ⟨h203, e203, hs⟩ := gg_bind hs
                            refine zr_put X e203 rfl in_X9_findPut_X9 tyX9 tyX9_ok nmX9 (by decide) (by decide +kernel) rfl rfl (fun _ => rfl) (fun _ => rfl) dX9_findPut_203 ?_
                            refine tt_drop [0, 1, 2, 3, 4, 5, 6] ?_
                            exact t_206 b0 x1 x2 x3 x4 x5 x6 h203 hs
              refine tt_iload X dX9_findPut_113 rfl ?_
              refine tt_iload X dX9_findPut_115 rfl ?_
              refine tt_icmp_ge (tgt := 218) X dX9_findPut_117 (by decide) (fun c117 => ?_) (fun c117 => ?_)
              · rw [if_pos c117] at hs
                obtain rfl := Option.some.inj hs
                exact tt_vret X rfl dX9_findPut_218 ⟨rfl, rfl⟩
              · rw [if_neg c117] at hs
                refine tt_aload_n X dX9_findPut_120 rfl ?_
                obtain ⟨z121, e121, hs⟩ := gg_bind hs
                refine zr_fi X e121 rfl in_X9_findPut_X9 (by decide) (by decide +kernel) rfl dX9_findPut_121 ?_
                refine tt_bipush (v := (-9)) X dX9_findPut_124 (by decide) ?_
                refine tt_icmp_ne (tgt := 218) X dX9_findPut_126 (by decide) (fun c126 => ?_) (fun c126 => ?_)
                · rw [if_neg c126] at hs
                  obtain rfl := Option.some.inj hs
                  exact tt_vret X rfl dX9_findPut_218 ⟨rfl, rfl⟩
                · rw [if_pos c126] at hs
                  refine tt_iload X dX9_findPut_129 rfl ?_
                  refine tt_bipush (v := 10) X dX9_findPut_131 (by decide) ?_
                  obtain ⟨q133, e133, hs⟩ := gg_bind hs
                  refine tt_idiv X dX9_findPut_133 (zr_nz e133) ?_
                  refine tt_bipush (v := 10) X dX9_findPut_134 (by decide) ?_
                  refine tt_imul X dX9_findPut_136 ?_
                  refine tt_istore X dX9_findPut_137 (Nat.le_of_ble_eq_true rfl) ?_
                  refine tt_drop [0, 1, 2, 3, 4, 5, 6] ?_
                  exact t_139 1000 b0 x1 x2 x3 x4 x5 ((x5 / 10) * 10) h hs
          refine tt_iconst (v := 0) X dX9_findPut_110 (by decide) ?_
          refine tt_istore X dX9_findPut_111 (Nat.le_of_ble_eq_true rfl) ?_
          refine tt_drop [0, 1, 2, 3, 4, 5] ?_
          exact t_113 1000 b0 x1 x2 x3 x4 0 h hs
        have t_104 : ∀ (b0 : Nat) (x1 : Int32) (x2 : Int32) (x3 : Int32) (x4 : Int32) (x5 : Int32) (h : tt_H), s_X9_findPut_J104 (s_X9_findPut_L53 n53) b0 x1 x2 x3 x4 x5 h = some ρ → tt_T tt_cl (p, l, e, rm_X9_findPut, s, m, args, below, meth, c, MQ below (tt_Q tt_cl D ca ad n0 sz false (tt_ret (none) ρ.2)) args s 0 0 (tt_A ad n0 sz), D, ca, tt_A ad n0 sz, 7, some n0) ad 0 0 104 [(0, .ref b0), (1, .int x1), (2, .int x2), (3, .int x3), (4, .int x4), (5, .int x5)] [] h := by
          intro b0 x1 x2 x3 x4 x5 h hs
          unfold s_X9_findPut_J104 at hs
          refine tt_iinc (v := x5 + 1) X dX9_findPut_104 rfl rfl (Nat.le_of_ble_eq_true rfl) ?_
          refine tt_goto (tgt := 53) X dX9_findPut_107 (by decide) ?_
          refine tt_drop [0, 1, 2, 3, 4, 5] ?_
          exact t_53 b0 x1 x2 x3 x4 (x5 + 1) h hs
        refine tt_iload X dX9_findPut_53 rfl ?_
        refine tt_iload X dX9_findPut_55 rfl ?_
        refine tt_icmp_ge (tgt := 110) X dX9_findPut_57 (by decide) (fun c57 => ?_) (fun c57 => ?_)
        · rw [if_pos c57] at hs
          refine tt_drop [0, 1, 2, 3, 4] ?_
          exact t_110 b0 x1 x2 x3 x4 h hs
        · rw [if_neg c57] at hs
          refine tt_aload_n X dX9_findPut_60 rfl ?_
          obtain ⟨z61, e61, hs⟩ := gg_bind hs
          refine zr_fi X e61 rfl in_X9_findPut_X9 (by decide) (by decide +kernel) rfl dX9_findPut_61 ?_
          refine tt_bipush (v := (-9)) X dX9_findPut_64 (by decide) ?_
          refine tt_icmp_ne (tgt := 110) X dX9_findPut_66 (by decide) (fun c66 => ?_) (fun c66 => ?_)
          · rw [if_neg c66] at hs
            refine tt_drop [0, 1, 2, 3, 4] ?_
            exact t_110 b0 x1 x2 x3 x4 h hs
          · rw [if_pos c66] at hs
            refine tt_iload X dX9_findPut_69 rfl ?_
            refine tt_bipush (v := 10) X dX9_findPut_71 (by decide) ?_
            obtain ⟨q73, e73, hs⟩ := gg_bind hs
            refine tt_irem X dX9_findPut_73 (zr_nz e73) ?_
            refine tt_bipush (v := 8) X dX9_findPut_74 (by decide) ?_
            refine tt_icmp_ge (tgt := 104) X dX9_findPut_76 (by decide) (fun c76 => ?_) (fun c76 => ?_)
            · rw [if_pos c76] at hs
              refine tt_drop [0, 1, 2, 3, 4, 5] ?_
              exact t_104 b0 x1 x2 x3 x4 x5 h hs
            · rw [if_neg c76] at hs
              refine tt_aload_n X dX9_findPut_79 rfl ?_
              refine tt_iload_n X dX9_findPut_80 rfl ?_
              refine tt_iload_n X dX9_findPut_81 rfl ?_
              refine tt_iload_n X dX9_findPut_82 rfl ?_
              refine tt_iload X dX9_findPut_83 rfl ?_
              refine tt_bipush (v := (-9)) X dX9_findPut_85 (by decide) ?_
              obtain ⟨o87, f87, hs⟩ := gg_bind hs
              obtain ⟨w87, e87, hs⟩ := gg_bind hs
              refine zr_callV X f87 rfl (c_X9_isSo l e87) (fun hts => cwV 5 hts gX9_findPut_X9_isSo rfl rfl rfl (by decide +kernel) ⟨by decide, by decide⟩) rfl rfl (Nat.le_of_ble_eq_true rfl) dX9_findPut_87 ⟨Nat.zero_le _, Nat.zero_le _⟩ ?_
              refine tt_if_eq (tgt := 104) X dX9_findPut_90 (by decide) (fun c90 => ?_) (fun c90 => ?_)
              · rw [if_pos c90] at hs
                refine tt_drop [0, 1, 2, 3, 4, 5] ?_
                exact t_104 b0 x1 x2 x3 x4 x5 w87.2 hs
              · rw [if_neg c90] at hs
                refine tt_aload_n X dX9_findPut_93 rfl ?_
                refine tt_iconst (v := 1) X dX9_findPut_94 (by decide) ?_
                obtain ⟨h95, e95, hs⟩ := gg_bind hs
                refine zr_put X e95 rfl in_X9_findPut_X9 tyX9 tyX9_ok nmX9 (by decide) (by decide +kernel) rfl rfl (fun _ => rfl) (fun _ => rfl) dX9_findPut_95 ?_
                refine tt_aload_n X dX9_findPut_98 rfl ?_
                refine tt_iload X dX9_findPut_99 rfl ?_
                obtain ⟨h101, e101, hs⟩ := gg_bind hs
                refine zr_put X e101 rfl in_X9_findPut_X9 tyX9 tyX9_ok nmX9 (by decide) (by decide +kernel) rfl rfl (fun _ => rfl) (fun _ => rfl) dX9_findPut_101 ?_
                refine tt_drop [0, 1, 2, 3, 4, 5] ?_
                exact t_104 b0 x1 x2 x3 x4 x5 h101 hs
    obtain ⟨h21, e21, hs⟩ := gg_bind hs
    refine zr_put X e21 rfl in_X9_findPut_X9 tyX9 tyX9_ok nmX9 (by decide) (by decide +kernel) rfl rfl (fun _ => rfl) (fun _ => rfl) dX9_findPut_21 ?_
    refine tt_aload_n X dX9_findPut_24 rfl ?_
    refine tt_bipush (v := (-9)) X dX9_findPut_25 (by decide) ?_
    obtain ⟨h27, e27, hs⟩ := gg_bind hs
    refine zr_put X e27 rfl in_X9_findPut_X9 tyX9 tyX9_ok nmX9 (by decide) (by decide +kernel) rfl rfl (fun _ => rfl) (fun _ => rfl) dX9_findPut_27 ?_
    refine tt_aload_n X dX9_findPut_30 rfl ?_
    refine tt_bipush (v := (-9)) X dX9_findPut_31 (by decide) ?_
    obtain ⟨h33, e33, hs⟩ := gg_bind hs
    refine zr_put X e33 rfl in_X9_findPut_X9 tyX9 tyX9_ok nmX9 (by decide) (by decide +kernel) rfl rfl (fun _ => rfl) (fun _ => rfl) dX9_findPut_33 ?_
    refine tt_bipush (v := 10) X dX9_findPut_36 (by decide) ?_
    refine tt_aload_n X dX9_findPut_38 rfl ?_
    obtain ⟨o39, e39, hs⟩ := gg_bind hs
    refine zr_fr X e39 rfl in_X9_findPut_X9 (by decide) (by decide +kernel) rfl dX9_findPut_39 ?_
    refine tt_iload_n X dX9_findPut_42 rfl ?_
    obtain ⟨z43, e43, hs⟩ := gg_bind hs
    refine zr_il X e43 dX9_findPut_43 ?_
    refine tt_imul X dX9_findPut_44 ?_
    refine tt_bipush (v := 8) X dX9_findPut_45 (by decide) ?_
    refine tt_iadd X dX9_findPut_47 ?_
    refine tt_istore X dX9_findPut_48 (Nat.le_of_ble_eq_true rfl) ?_
    refine tt_iconst (v := 0) X dX9_findPut_50 (by decide) ?_
    refine tt_istore X dX9_findPut_51 (Nat.le_of_ble_eq_true rfl) ?_
    refine tt_drop [0, 1, 2, 3, 4, 5] ?_
    exact t_53 1000 b0 x1 x2 x3 ((10 * z43) + 8) 0 h33 hs
  refine tt_aload_n X dX9_findPut_0 rfl ?_
  refine tt_aload_n X dX9_findPut_1 rfl ?_
  refine tt_iload_n X dX9_findPut_2 rfl ?_
  refine tt_iload_n X dX9_findPut_3 rfl ?_
  refine tt_iload_n X dX9_findPut_4 rfl ?_
  refine tt_bipush (v := (-9)) X dX9_findPut_5 (by decide) ?_
  refine tt_bipush (v := (-9)) X dX9_findPut_7 (by decide) ?_
  obtain ⟨o9, f9, hs⟩ := gg_bind hs
  obtain ⟨w9, e9, hs⟩ := gg_bind hs
  refine zr_callV X f9 rfl (c_X9_isSo l e9) (fun hts => cwV 5 hts gX9_findPut_X9_isSo rfl rfl rfl (by decide +kernel) ⟨by decide, by decide⟩) rfl rfl (Nat.le_of_ble_eq_true rfl) dX9_findPut_9 ⟨Nat.zero_le _, Nat.zero_le _⟩ ?_
  refine tt_if_eq (tgt := 19) X dX9_findPut_12 (by decide) (fun c12 => ?_) (fun c12 => ?_)
  · rw [if_pos c12] at hs
    refine tt_bipush (v := (-9)) X dX9_findPut_19 (by decide) ?_
    refine tt_drop [0, 1, 2, 3] ?_
    exact t_21 b0 x1 x2 x3 b0 ((-9)) w9.2 hs
  · rw [if_neg c12] at hs
    refine tt_iconst (v := 0) X dX9_findPut_15 (by decide) ?_
    refine tt_goto (tgt := 21) X dX9_findPut_16 (by decide) ?_
    refine tt_drop [0, 1, 2, 3] ?_
    exact t_21 b0 x1 x2 x3 b0 0 w9.2 hs

def s_X9_isIn_L3 : Nat → Nat → Int32 → Int32 → Int32 → Int32 → tt_H → Option (Int32 × tt_H)
  | 0, _, _, _, _, _, _ => none
  | n + 1, b0, x1, x2, x3, x4, h =>
    if x3 ≤ x4 then
      some (0, h)
    else
    (gg_obj h b0 9).bind fun _ =>
    (s_X9_wordAt b0 x1 x4 h).bind fun w13 =>
    if w13.1 = x2 then
      some (1, w13.2)
    else
    s_X9_isIn_L3 n b0 x1 x2 x3 (x4 + 1) w13.2
def s_X9_isIn (b0 : Nat) (x1 : Int32) (x2 : Int32) (x3 : Int32) (h : tt_H) : Option (Int32 × tt_H) :=
  s_X9_isIn_L3 1000 b0 x1 x2 x3 0 h
abbrev rm_X9_isIn : Room := { frames := 1, cells := 0, slots := 0, locals := 22 }
set_option maxHeartbeats 4000000 in
set_option maxRecDepth 100000 in
theorem c_X9_isIn (l : Launch) {b0 : Nat} {x1 : Int32} {x2 : Int32} {x3 : Int32} {h : tt_H} {ρ : Int32 × tt_H} (hs : s_X9_isIn b0 x1 x2 x3 h = some ρ) : tt_M tt_cl l yX9_isIn wsX9_isIn rm_X9_isIn 0 0 false [.ref b0, .int x1, .int x2, .int x3] h (tt_ret (some (.int ρ.1)) ρ.2) := by
  refine tt_M.of0 (cc := cX9_isIn) (maxL := 5) (ret := (some .boolean)) (by decide +kernel) rfl (Nat.le_of_ble_eq_true rfl) ?_
  intro p e s m args below meth c D ca ad n0 sz hwf hsz X hini
  unfold s_X9_isIn at hs
  have t_3 : ∀ (fu : Nat) (b0 : Nat) (x1 : Int32) (x2 : Int32) (x3 : Int32) (x4 : Int32) (h : tt_H), s_X9_isIn_L3 fu b0 x1 x2 x3 x4 h = some ρ → tt_T tt_cl (p, l, e, rm_X9_isIn, s, m, args, below, meth, c, MQ below (tt_Q tt_cl D ca ad n0 sz false (tt_ret (some (.int ρ.1)) ρ.2)) args s 0 0 (tt_A ad n0 sz), D, ca, tt_A ad n0 sz, 5, some n0) ad 0 0 3 [(0, .ref b0), (1, .int x1), (2, .int x2), (3, .int x3), (4, .int x4)] [] h := by
    intro fu
    induction fu with
    | zero => intro b0 x1 x2 x3 x4 h hs; exact absurd hs (by rw [s_X9_isIn_L3]; exact fun q => by cases q)
    | succ n3 ih =>
      intro b0 x1 x2 x3 x4 h hs
      rw [s_X9_isIn_L3] at hs
      have t_3 := ih
      refine tt_iload X dX9_isIn_3 rfl ?_
      refine tt_iload_n X dX9_isIn_5 rfl ?_
      refine tt_icmp_ge (tgt := 28) X dX9_isIn_6 (by decide) (fun c6 => ?_) (fun c6 => ?_)
      · rw [if_pos c6] at hs
        refine tt_iconst (v := 0) X dX9_isIn_28 (by decide) ?_
        obtain rfl := Option.some.inj hs
        exact tt_zret X rfl rfl dX9_isIn_29 ⟨rfl, rfl⟩
      · rw [if_neg c6] at hs
        refine tt_aload_n X dX9_isIn_9 rfl ?_
        refine tt_iload_n X dX9_isIn_10 rfl ?_
        refine tt_iload X dX9_isIn_11 rfl ?_
        obtain ⟨o13, f13, hs⟩ := gg_bind hs
        obtain ⟨w13, e13, hs⟩ := gg_bind hs
        refine zr_callV X f13 rfl (c_X9_wordAt l e13) (fun hts => cwV 2 hts gX9_isIn_X9_wordAt rfl rfl rfl (by decide +kernel) ⟨by decide, by decide⟩) rfl rfl (Nat.le_of_ble_eq_true rfl) dX9_isIn_13 ⟨Nat.zero_le _, Nat.zero_le _⟩ ?_
        refine tt_iload_n X dX9_isIn_16 rfl ?_
        refine tt_icmp_ne (tgt := 22) X dX9_isIn_17 (by decide) (fun c17 => ?_) (fun c17 => ?_)
        · rw [if_neg c17] at hs
          refine tt_iinc (v := x4 + 1) X dX9_isIn_22 rfl rfl (Nat.le_of_ble_eq_true rfl) ?_
          refine tt_goto (tgt := 3) X dX9_isIn_25 (by decide) ?_
          refine tt_drop [0, 1, 2, 3, 4] ?_
          exact t_3 b0 x1 x2 x3 (x4 + 1) w13.2 hs
        · rw [if_pos c17] at hs
          refine tt_iconst (v := 1) X dX9_isIn_20 (by decide) ?_
          obtain rfl := Option.some.inj hs
          exact tt_zret X rfl rfl dX9_isIn_21 ⟨rfl, rfl⟩
  refine tt_iconst (v := 0) X dX9_isIn_0 (by decide) ?_
  refine tt_istore X dX9_isIn_1 (Nat.le_of_ble_eq_true rfl) ?_
  refine tt_drop [0, 1, 2, 3, 4] ?_
  exact t_3 1000 b0 x1 x2 x3 0 h hs

theorem in_X9_inCries_X9 : ∀ w ∈ u_ws RX9 TX9 26, w ∈ wsX9_inCries := by decide +kernel
def s_X9_inCries_J33 (κ4 : Nat → Int32 → Int32 → Int32 → tt_H → Option (Int32 × tt_H)) (b0 : Nat) (x1 : Int32) (x3 : Int32) (ux0 : Int32) (ux1 : Int32) (h : tt_H) : Option (Int32 × tt_H) :=
  κ4 b0 x1 (ux0 + ux1) (x3 + 1) h
def s_X9_inCries_L4 : Nat → Nat → Int32 → Int32 → Int32 → tt_H → Option (Int32 × tt_H)
  | 0, _, _, _, _, _ => none
  | n + 1, b0, x1, x2, x3, h =>
    (gg_fi h b0 9 6).bind fun z6 =>
    if z6 ≤ x3 then
      some (x2, h)
    else
    (gg_fr h b0 9 7).bind fun o17 =>
    (gg_il h o17 x3).bind fun z21 =>
    (gg_obj h b0 9).bind fun _ =>
    (s_X9_isIn b0 x3 x1 z21 h).bind fun w22 =>
    if w22.1 = 0 then
      s_X9_inCries_J33 (s_X9_inCries_L4 n) b0 x1 x3 x2 0 w22.2
    else
    s_X9_inCries_J33 (s_X9_inCries_L4 n) b0 x1 x3 x2 1 w22.2
def s_X9_inCries (b0 : Nat) (x1 : Int32) (h : tt_H) : Option (Int32 × tt_H) :=
  s_X9_inCries_L4 1000 b0 x1 0 0 h
abbrev rm_X9_inCries : Room := { frames := 2, cells := 0, slots := 0, locals := 46 }
set_option maxHeartbeats 4000000 in
set_option maxRecDepth 100000 in
theorem c_X9_inCries (l : Launch) {b0 : Nat} {x1 : Int32} {h : tt_H} {ρ : Int32 × tt_H} (hs : s_X9_inCries b0 x1 h = some ρ) : tt_M tt_cl l yX9_inCries wsX9_inCries rm_X9_inCries 0 0 false [.ref b0, .int x1] h (tt_ret (some (.int ρ.1)) ρ.2) := by
  refine tt_M.of0 (cc := cX9_inCries) (maxL := 4) (ret := (some .int)) (by decide +kernel) rfl (Nat.le_of_ble_eq_true rfl) ?_
  intro p e s m args below meth c D ca ad n0 sz hwf hsz X hini
  unfold s_X9_inCries at hs
  have t_4 : ∀ (fu : Nat) (b0 : Nat) (x1 : Int32) (x2 : Int32) (x3 : Int32) (h : tt_H), s_X9_inCries_L4 fu b0 x1 x2 x3 h = some ρ → tt_T tt_cl (p, l, e, rm_X9_inCries, s, m, args, below, meth, c, MQ below (tt_Q tt_cl D ca ad n0 sz false (tt_ret (some (.int ρ.1)) ρ.2)) args s 0 0 (tt_A ad n0 sz), D, ca, tt_A ad n0 sz, 4, some n0) ad 0 0 4 [(0, .ref b0), (1, .int x1), (2, .int x2), (3, .int x3)] [] h := by
    intro fu
    induction fu with
    | zero => intro b0 x1 x2 x3 h hs; exact absurd hs (by rw [s_X9_inCries_L4]; exact fun q => by cases q)
    | succ n4 ih =>
      intro b0 x1 x2 x3 h hs
      rw [s_X9_inCries_L4] at hs
      have t_4 := ih
      have t_33 : ∀ (b0 : Nat) (x1 : Int32) (x3 : Int32) (ux0 : Int32) (ux1 : Int32) (h : tt_H), s_X9_inCries_J33 (s_X9_inCries_L4 n4) b0 x1 x3 ux0 ux1 h = some ρ → tt_T tt_cl (p, l, e, rm_X9_inCries, s, m, args, below, meth, c, MQ below (tt_Q tt_cl D ca ad n0 sz false (tt_ret (some (.int ρ.1)) ρ.2)) args s 0 0 (tt_A ad n0 sz), D, ca, tt_A ad n0 sz, 4, some n0) ad 0 0 33 [(0, .ref b0), (1, .int x1), (3, .int x3)] [.int ux1, .int ux0] h := by
        intro b0 x1 x3 ux0 ux1 h hs
        unfold s_X9_inCries_J33 at hs
        refine tt_iadd X dX9_inCries_33 ?_
        refine tt_istore_n X dX9_inCries_34 (Nat.le_of_ble_eq_true rfl) ?_
        refine tt_iinc (v := x3 + 1) X dX9_inCries_35 rfl rfl (Nat.le_of_ble_eq_true rfl) ?_
        refine tt_goto (tgt := 4) X dX9_inCries_38 (by decide) ?_
        refine tt_drop [0, 1, 2, 3] ?_
        exact t_4 b0 x1 (ux0 + ux1) (x3 + 1) h hs
      refine tt_iload_n X dX9_inCries_4 rfl ?_
      refine tt_aload_n X dX9_inCries_5 rfl ?_
      obtain ⟨z6, e6, hs⟩ := gg_bind hs
      refine zr_fi X e6 rfl in_X9_inCries_X9 (by decide) (by decide +kernel) rfl dX9_inCries_6 ?_
      refine tt_icmp_ge (tgt := 41) X dX9_inCries_9 (by decide) (fun c9 => ?_) (fun c9 => ?_)
      · rw [if_pos c9] at hs
        refine tt_iload_n X dX9_inCries_41 rfl ?_
        obtain rfl := Option.some.inj hs
        exact tt_iret X rfl dX9_inCries_42 ⟨rfl, rfl⟩
      · rw [if_neg c9] at hs
        refine tt_iload_n X dX9_inCries_12 rfl ?_
        refine tt_aload_n X dX9_inCries_13 rfl ?_
        refine tt_iload_n X dX9_inCries_14 rfl ?_
        refine tt_iload_n X dX9_inCries_15 rfl ?_
        refine tt_aload_n X dX9_inCries_16 rfl ?_
        obtain ⟨o17, e17, hs⟩ := gg_bind hs
        refine zr_fr X e17 rfl in_X9_inCries_X9 (by decide) (by decide +kernel) rfl dX9_inCries_17 ?_
        refine tt_iload_n X dX9_inCries_20 rfl ?_
        obtain ⟨z21, e21, hs⟩ := gg_bind hs
        refine zr_il X e21 dX9_inCries_21 ?_
        obtain ⟨o22, f22, hs⟩ := gg_bind hs
        obtain ⟨w22, e22, hs⟩ := gg_bind hs
        refine zr_callV X f22 rfl (c_X9_isIn l e22) (fun hts => cwV 3 hts gX9_inCries_X9_isIn rfl rfl rfl (by decide +kernel) ⟨by decide, by decide⟩) rfl rfl (Nat.le_of_ble_eq_true rfl) dX9_inCries_22 ⟨Nat.zero_le _, Nat.zero_le _⟩ ?_
        refine tt_if_eq (tgt := 32) X dX9_inCries_25 (by decide) (fun c25 => ?_) (fun c25 => ?_)
        · rw [if_pos c25] at hs
          refine tt_iconst (v := 0) X dX9_inCries_32 (by decide) ?_
          refine tt_drop [0, 1, 3] ?_
          exact t_33 b0 x1 x3 x2 0 w22.2 hs
        · rw [if_neg c25] at hs
          refine tt_iconst (v := 1) X dX9_inCries_28 (by decide) ?_
          refine tt_goto (tgt := 33) X dX9_inCries_29 (by decide) ?_
          refine tt_drop [0, 1, 3] ?_
          exact t_33 b0 x1 x3 x2 1 w22.2 hs
  refine tt_iconst (v := 0) X dX9_inCries_0 (by decide) ?_
  refine tt_istore_n X dX9_inCries_1 (Nat.le_of_ble_eq_true rfl) ?_
  refine tt_iconst (v := 0) X dX9_inCries_2 (by decide) ?_
  refine tt_istore_n X dX9_inCries_3 (Nat.le_of_ble_eq_true rfl) ?_
  refine tt_drop [0, 1, 2, 3] ?_
  exact t_4 1000 b0 x1 0 0 h hs

theorem in_X9_isWithin_X9 : ∀ w ∈ u_ws RX9 TX9 26, w ∈ wsX9_isWithin := by decide +kernel
def s_X9_isWithin_J120 (κ84 : Nat → Int32 → Int32 → Int32 → Int32 → tt_H → Option (Int32 × tt_H)) (b0 : Nat) (x1 : Int32) (x2 : Int32) (x3 : Int32) (x4 : Int32) (h : tt_H) : Option (Int32 × tt_H) :=
  κ84 b0 x1 x2 x3 (x4 + (-1)) h
def s_X9_isWithin_L84 : Nat → Nat → Int32 → Int32 → Int32 → Int32 → tt_H → Option (Int32 × tt_H)
  | 0, _, _, _, _, _, _ => none
  | n + 1, b0, x1, x2, x3, x4, h =>
    if x4 < 0 then
      some (1, h)
    else
    if x3 < 0 then
      some (1, h)
    else
    (gg_obj h b0 9).bind fun _ =>
    (s_X9_wordAt b0 x2 x4 h).bind fun w97 =>
    (gg_obj w97.2 b0 9).bind fun _ =>
    (s_X9_wordAt b0 x1 x3 w97.2).bind fun w103 =>
    if w97.1 = w103.1 then
      (gg_fr w103.2 b0 9 14).bind fun o110 =>
      (gg_is w103.2 o110 x3 x4).bind fun h116 =>
      s_X9_isWithin_J120 (s_X9_isWithin_L84 n) b0 x1 x2 (x3 + (-1)) x4 h116
    else
    s_X9_isWithin_J120 (s_X9_isWithin_L84 n) b0 x1 x2 x3 x4 w103.2
def s_X9_isWithin_J59 (b0 : Nat) (x1 : Int32) (x2 : Int32) (x3 : Int32) (h : tt_H) : Option (Int32 × tt_H) :=
  (gg_fr h b0 9 7).bind fun o61 =>
  (gg_il h o61 x1).bind fun z65 =>
  if z65 ≤ x3 then
    (gg_fr h b0 9 7).bind fun o75 =>
    (gg_il h o75 x2).bind fun z79 =>
    s_X9_isWithin_L84 1000 b0 x1 x2 (x3 + (-1)) (z79 - 1) h
  else
  some (0, h)
def s_X9_isWithin_J53 (κ5 : Nat → Int32 → Int32 → Int32 → Int32 → tt_H → Option (Int32 × tt_H)) (b0 : Nat) (x1 : Int32) (x2 : Int32) (x3 : Int32) (x4 : Int32) (h : tt_H) : Option (Int32 × tt_H) :=
  κ5 b0 x1 x2 x3 (x4 + 1) h
def s_X9_isWithin_L5 : Nat → Nat → Int32 → Int32 → Int32 → Int32 → tt_H → Option (Int32 × tt_H)
  | 0, _, _, _, _, _, _ => none
  | n + 1, b0, x1, x2, x3, x4, h =>
    (gg_fr h b0 9 7).bind fun o8 =>
    (gg_il h o8 x2).bind fun z12 =>
    if z12 ≤ x4 then
      s_X9_isWithin_J59 b0 x1 x2 x3 h
    else
    (gg_fr h b0 9 7).bind fun o18 =>
    (gg_il h o18 x1).bind fun z22 =>
    if z22 ≤ x3 then
      s_X9_isWithin_J59 b0 x1 x2 x3 h
    else
    (gg_obj h b0 9).bind fun _ =>
    (s_X9_wordAt b0 x2 x4 h).bind fun w30 =>
    (gg_obj w30.2 b0 9).bind fun _ =>
    (s_X9_wordAt b0 x1 x3 w30.2).bind fun w36 =>
    if w30.1 = w36.1 then
      (gg_fr w36.2 b0 9 13).bind fun o43 =>
      (gg_is w36.2 o43 x3 x4).bind fun h49 =>
      s_X9_isWithin_J53 (s_X9_isWithin_L5 n) b0 x1 x2 (x3 + 1) x4 h49
    else
    s_X9_isWithin_J53 (s_X9_isWithin_L5 n) b0 x1 x2 x3 x4 w36.2
def s_X9_isWithin (b0 : Nat) (x1 : Int32) (x2 : Int32) (h : tt_H) : Option (Int32 × tt_H) :=
  s_X9_isWithin_L5 1000 b0 x1 x2 0 0 h
abbrev rm_X9_isWithin : Room := { frames := 1, cells := 0, slots := 0, locals := 22 }
set_option maxHeartbeats 4000000 in
set_option maxRecDepth 100000 in
theorem c_X9_isWithin (l : Launch) {b0 : Nat} {x1 : Int32} {x2 : Int32} {h : tt_H} {ρ : Int32 × tt_H} (hs : s_X9_isWithin b0 x1 x2 h = some ρ) : tt_M tt_cl l yX9_isWithin wsX9_isWithin rm_X9_isWithin 0 0 false [.ref b0, .int x1, .int x2] h (tt_ret (some (.int ρ.1)) ρ.2) := by
  refine tt_M.of0 (cc := cX9_isWithin) (maxL := 5) (ret := (some .boolean)) (by decide +kernel) rfl (Nat.le_of_ble_eq_true rfl) ?_
  intro p e s m args below meth c D ca ad n0 sz hwf hsz X hini
  unfold s_X9_isWithin at hs
  have t_5 : ∀ (fu : Nat) (b0 : Nat) (x1 : Int32) (x2 : Int32) (x3 : Int32) (x4 : Int32) (h : tt_H), s_X9_isWithin_L5 fu b0 x1 x2 x3 x4 h = some ρ → tt_T tt_cl (p, l, e, rm_X9_isWithin, s, m, args, below, meth, c, MQ below (tt_Q tt_cl D ca ad n0 sz false (tt_ret (some (.int ρ.1)) ρ.2)) args s 0 0 (tt_A ad n0 sz), D, ca, tt_A ad n0 sz, 5, some n0) ad 0 0 5 [(0, .ref b0), (1, .int x1), (2, .int x2), (3, .int x3), (4, .int x4)] [] h := by
    intro fu
    induction fu with
    | zero => intro b0 x1 x2 x3 x4 h hs; exact absurd hs (by rw [s_X9_isWithin_L5]; exact fun q => by cases q)
    | succ n5 ih =>
      intro b0 x1 x2 x3 x4 h hs
      rw [s_X9_isWithin_L5] at hs
      have t_5 := ih
      have t_59 : ∀ (b0 : Nat) (x1 : Int32) (x2 : Int32) (x3 : Int32) (h : tt_H), s_X9_isWithin_J59 b0 x1 x2 x3 h = some ρ → tt_T tt_cl (p, l, e, rm_X9_isWithin, s, m, args, below, meth, c, MQ below (tt_Q tt_cl D ca ad n0 sz false (tt_ret (some (.int ρ.1)) ρ.2)) args s 0 0 (tt_A ad n0 sz), D, ca, tt_A ad n0 sz, 5, some n0) ad 0 0 59 [(0, .ref b0), (1, .int x1), (2, .int x2), (3, .int x3)] [] h := by
        intro b0 x1 x2 x3 h hs
        unfold s_X9_isWithin_J59 at hs
        have t_84 : ∀ (fu : Nat) (b0 : Nat) (x1 : Int32) (x2 : Int32) (x3 : Int32) (x4 : Int32) (h : tt_H), s_X9_isWithin_L84 fu b0 x1 x2 x3 x4 h = some ρ → tt_T tt_cl (p, l, e, rm_X9_isWithin, s, m, args, below, meth, c, MQ below (tt_Q tt_cl D ca ad n0 sz false (tt_ret (some (.int ρ.1)) ρ.2)) args s 0 0 (tt_A ad n0 sz), D, ca, tt_A ad n0 sz, 5, some n0) ad 0 0 84 [(0, .ref b0), (1, .int x1), (2, .int x2), (3, .int x3), (4, .int x4)] [] h := by
          intro fu
          induction fu with
          | zero => intro b0 x1 x2 x3 x4 h hs; exact absurd hs (by rw [s_X9_isWithin_L84]; exact fun q => by cases q)
          | succ n84 ih =>
            intro b0 x1 x2 x3 x4 h hs
            rw [s_X9_isWithin_L84] at hs
            have t_84 := ih
            have t_120 : ∀ (b0 : Nat) (x1 : Int32) (x2 : Int32) (x3 : Int32) (x4 : Int32) (h : tt_H), s_X9_isWithin_J120 (s_X9_isWithin_L84 n84) b0 x1 x2 x3 x4 h = some ρ → tt_T tt_cl (p, l, e, rm_X9_isWithin, s, m, args, below, meth, c, MQ below (tt_Q tt_cl D ca ad n0 sz false (tt_ret (some (.int ρ.1)) ρ.2)) args s 0 0 (tt_A ad n0 sz), D, ca, tt_A ad n0 sz, 5, some n0) ad 0 0 120 [(0, .ref b0), (1, .int x1), (2, .int x2), (3, .int x3), (4, .int x4)] [] h := by
              intro b0 x1 x2 x3 x4 h hs
              unfold s_X9_isWithin_J120 at hs
              refine tt_iinc (v := x4 + (-1)) X dX9_isWithin_120 rfl rfl (Nat.le_of_ble_eq_true rfl) ?_
              refine tt_goto (tgt := 84) X dX9_isWithin_123 (by decide) ?_
              refine tt_drop [0, 1, 2, 3, 4] ?_
              exact t_84 b0 x1 x2 x3 (x4 + (-1)) h hs
            refine tt_iload X dX9_isWithin_84 rfl ?_
            refine tt_if_lt (tgt := 126) X dX9_isWithin_86 (by decide) (fun c86 => ?_) (fun c86 => ?_)
            · rw [if_pos c86] at hs
              refine tt_iconst (v := 1) X dX9_isWithin_126 (by decide) ?_
              obtain rfl := Option.some.inj hs
              exact tt_zret X rfl rfl dX9_isWithin_127 ⟨rfl, rfl⟩
            · rw [if_neg c86] at hs
              refine tt_iload_n X dX9_isWithin_89 rfl ?_
              refine tt_if_lt (tgt := 126) X dX9_isWithin_90 (by decide) (fun c90 => ?_) (fun c90 => ?_)
              · rw [if_pos c90] at hs
                refine tt_iconst (v := 1) X dX9_isWithin_126 (by decide) ?_
                obtain rfl := Option.some.inj hs
                exact tt_zret X rfl rfl dX9_isWithin_127 ⟨rfl, rfl⟩
              · rw [if_neg c90] at hs
                refine tt_aload_n X dX9_isWithin_93 rfl ?_
                refine tt_iload_n X dX9_isWithin_94 rfl ?_
                refine tt_iload X dX9_isWithin_95 rfl ?_
                obtain ⟨o97, f97, hs⟩ := gg_bind hs
                obtain ⟨w97, e97, hs⟩ := gg_bind hs
                refine zr_callV X f97 rfl (c_X9_wordAt l e97) (fun hts => cwV 2 hts gX9_isWithin_X9_wordAt rfl rfl rfl (by decide +kernel) ⟨by decide, by decide⟩) rfl rfl (Nat.le_of_ble_eq_true rfl) dX9_isWithin_97 ⟨Nat.zero_le _, Nat.zero_le _⟩ ?_
                refine tt_aload_n X dX9_isWithin_100 rfl ?_
                refine tt_iload_n X dX9_isWithin_101 rfl ?_
                refine tt_iload_n X dX9_isWithin_102 rfl ?_
                obtain ⟨o103, f103, hs⟩ := gg_bind hs
                obtain ⟨w103, e103, hs⟩ := gg_bind hs
                refine zr_callV X f103 rfl (c_X9_wordAt l e103) (fun hts => cwV 2 hts gX9_isWithin_X9_wordAt rfl rfl rfl (by decide +kernel) ⟨by decide, by decide⟩) rfl rfl (Nat.le_of_ble_eq_true rfl) dX9_isWithin_103 ⟨Nat.zero_le _, Nat.zero_le _⟩ ?_
                refine tt_icmp_ne (tgt := 120) X dX9_isWithin_106 (by decide) (fun c106 => ?_) (fun c106 => ?_)
                · rw [if_neg c106] at hs
                  refine tt_drop [0, 1, 2, 3, 4] ?_
                  exact t_120 b0 x1 x2 x3 x4 w103.2 hs
                · rw [if_pos c106] at hs
                  refine tt_aload_n X dX9_isWithin_109 rfl ?_
                  obtain ⟨o110, e110, hs⟩ := gg_bind hs
                  refine zr_fr X e110 rfl in_X9_isWithin_X9 (by decide) (by decide +kernel) rfl dX9_isWithin_110 ?_
                  refine tt_iload_n X dX9_isWithin_113 rfl ?_
                  refine tt_iload X dX9_isWithin_114 rfl ?_
                  obtain ⟨h116, e116, hs⟩ := gg_bind hs
                  refine zr_is X e116 dX9_isWithin_116 ?_
                  refine tt_iinc (v := x3 + (-1)) X dX9_isWithin_117 rfl rfl (Nat.le_of_ble_eq_true rfl) ?_
                  refine tt_drop [0, 1, 2, 3, 4] ?_
                  exact t_120 b0 x1 x2 (x3 + (-1)) x4 h116 hs
        refine tt_iload_n X dX9_isWithin_59 rfl ?_
        refine tt_aload_n X dX9_isWithin_60 rfl ?_
        obtain ⟨o61, e61, hs⟩ := gg_bind hs
        refine zr_fr X e61 rfl in_X9_isWithin_X9 (by decide) (by decide +kernel) rfl dX9_isWithin_61 ?_
        refine tt_iload_n X dX9_isWithin_64 rfl ?_
        obtain ⟨z65, e65, hs⟩ := gg_bind hs
        refine zr_il X e65 dX9_isWithin_65 ?_
        refine tt_icmp_ge (tgt := 71) X dX9_isWithin_66 (by decide) (fun c66 => ?_) (fun c66 => ?_)
        · rw [if_pos c66] at hs
          refine tt_iinc (v := x3 + (-1)) X dX9_isWithin_71 rfl rfl (Nat.le_of_ble_eq_true rfl) ?_
          refine tt_aload_n X dX9_isWithin_74 rfl ?_
          obtain ⟨o75, e75, hs⟩ := gg_bind hs
          refine zr_fr X e75 rfl in_X9_isWithin_X9 (by decide) (by decide +kernel) rfl dX9_isWithin_75 ?_
          refine tt_iload_n X dX9_isWithin_78 rfl ?_
          obtain ⟨z79, e79, hs⟩ := gg_bind hs
          refine zr_il X e79 dX9_isWithin_79 ?_
          refine tt_iconst (v := 1) X dX9_isWithin_80 (by decide) ?_
          refine tt_isub X dX9_isWithin_81 ?_
          refine tt_istore X dX9_isWithin_82 (Nat.le_of_ble_eq_true rfl) ?_
          refine tt_drop [0, 1, 2, 3, 4] ?_
          exact t_84 1000 b0 x1 x2 (x3 + (-1)) (z79 - 1) h hs
        · rw [if_neg c66] at hs
          refine tt_iconst (v := 0) X dX9_isWithin_69 (by decide) ?_
          obtain rfl := Option.some.inj hs
          exact tt_zret X rfl rfl dX9_isWithin_70 ⟨rfl, rfl⟩
      have t_53 : ∀ (b0 : Nat) (x1 : Int32) (x2 : Int32) (x3 : Int32) (x4 : Int32) (h : tt_H), s_X9_isWithin_J53 (s_X9_isWithin_L5 n5) b0 x1 x2 x3 x4 h = some ρ → tt_T tt_cl (p, l, e, rm_X9_isWithin, s, m, args, below, meth, c, MQ below (tt_Q tt_cl D ca ad n0 sz false (tt_ret (some (.int ρ.1)) ρ.2)) args s 0 0 (tt_A ad n0 sz), D, ca, tt_A ad n0 sz, 5, some n0) ad 0 0 53 [(0, .ref b0), (1, .int x1), (2, .int x2), (3, .int x3), (4, .int x4)] [] h := by
        intro b0 x1 x2 x3 x4 h hs
        unfold s_X9_isWithin_J53 at hs
        refine tt_iinc (v := x4 + 1) X dX9_isWithin_53 rfl rfl (Nat.le_of_ble_eq_true rfl) ?_
        refine tt_goto (tgt := 5) X dX9_isWithin_56 (by decide) ?_
        refine tt_drop [0, 1, 2, 3, 4] ?_
        exact t_5 b0 x1 x2 x3 (x4 + 1) h hs
      refine tt_iload X dX9_isWithin_5 rfl ?_
      refine tt_aload_n X dX9_isWithin_7 rfl ?_
      obtain ⟨o8, e8, hs⟩ := gg_bind hs
      refine zr_fr X e8 rfl in_X9_isWithin_X9 (by decide) (by decide +kernel) rfl dX9_isWithin_8 ?_
      refine tt_iload_n X dX9_isWithin_11 rfl ?_
      obtain ⟨z12, e12, hs⟩ := gg_bind hs
      refine zr_il X e12 dX9_isWithin_12 ?_
      refine tt_icmp_ge (tgt := 59) X dX9_isWithin_13 (by decide) (fun c13 => ?_) (fun c13 => ?_)
      · rw [if_pos c13] at hs
        refine tt_drop [0, 1, 2, 3] ?_
        exact t_59 b0 x1 x2 x3 h hs
      · rw [if_neg c13] at hs
        refine tt_iload_n X dX9_isWithin_16 rfl ?_
        refine tt_aload_n X dX9_isWithin_17 rfl ?_
        obtain ⟨o18, e18, hs⟩ := gg_bind hs
        refine zr_fr X e18 rfl in_X9_isWithin_X9 (by decide) (by decide +kernel) rfl dX9_isWithin_18 ?_
        refine tt_iload_n X dX9_isWithin_21 rfl ?_
        obtain ⟨z22, e22, hs⟩ := gg_bind hs
        refine zr_il X e22 dX9_isWithin_22 ?_
        refine tt_icmp_ge (tgt := 59) X dX9_isWithin_23 (by decide) (fun c23 => ?_) (fun c23 => ?_)
        · rw [if_pos c23] at hs
          refine tt_drop [0, 1, 2, 3] ?_
          exact t_59 b0 x1 x2 x3 h hs
        · rw [if_neg c23] at hs
          refine tt_aload_n X dX9_isWithin_26 rfl ?_
          refine tt_iload_n X dX9_isWithin_27 rfl ?_
          refine tt_iload X dX9_isWithin_28 rfl ?_
          obtain ⟨o30, f30, hs⟩ := gg_bind hs
          obtain ⟨w30, e30, hs⟩ := gg_bind hs
          refine zr_callV X f30 rfl (c_X9_wordAt l e30) (fun hts => cwV 2 hts gX9_isWithin_X9_wordAt rfl rfl rfl (by decide +kernel) ⟨by decide, by decide⟩) rfl rfl (Nat.le_of_ble_eq_true rfl) dX9_isWithin_30 ⟨Nat.zero_le _, Nat.zero_le _⟩ ?_
          refine tt_aload_n X dX9_isWithin_33 rfl ?_
          refine tt_iload_n X dX9_isWithin_34 rfl ?_
          refine tt_iload_n X dX9_isWithin_35 rfl ?_
          obtain ⟨o36, f36, hs⟩ := gg_bind hs
          obtain ⟨w36, e36, hs⟩ := gg_bind hs
          refine zr_callV X f36 rfl (c_X9_wordAt l e36) (fun hts => cwV 2 hts gX9_isWithin_X9_wordAt rfl rfl rfl (by decide +kernel) ⟨by decide, by decide⟩) rfl rfl (Nat.le_of_ble_eq_true rfl) dX9_isWithin_36 ⟨Nat.zero_le _, Nat.zero_le _⟩ ?_
          refine tt_icmp_ne (tgt := 53) X dX9_isWithin_39 (by decide) (fun c39 => ?_) (fun c39 => ?_)
          · rw [if_neg c39] at hs
            refine tt_drop [0, 1, 2, 3, 4] ?_
            exact t_53 b0 x1 x2 x3 x4 w36.2 hs
          · rw [if_pos c39] at hs
            refine tt_aload_n X dX9_isWithin_42 rfl ?_
            obtain ⟨o43, e43, hs⟩ := gg_bind hs
            refine zr_fr X e43 rfl in_X9_isWithin_X9 (by decide) (by decide +kernel) rfl dX9_isWithin_43 ?_
            refine tt_iload_n X dX9_isWithin_46 rfl ?_
            refine tt_iload X dX9_isWithin_47 rfl ?_
            obtain ⟨h49, e49, hs⟩ := gg_bind hs
            refine zr_is X e49 dX9_isWithin_49 ?_
            refine tt_iinc (v := x3 + 1) X dX9_isWithin_50 rfl rfl (Nat.le_of_ble_eq_true rfl) ?_
            refine tt_drop [0, 1, 2, 3, 4] ?_
            exact t_53 b0 x1 x2 (x3 + 1) x4 h49 hs
  refine tt_iconst (v := 0) X dX9_isWithin_0 (by decide) ?_
  refine tt_istore_n X dX9_isWithin_1 (Nat.le_of_ble_eq_true rfl) ?_
  refine tt_iconst (v := 0) X dX9_isWithin_2 (by decide) ?_
  refine tt_istore X dX9_isWithin_3 (Nat.le_of_ble_eq_true rfl) ?_
  refine tt_drop [0, 1, 2, 3, 4] ?_
  exact t_5 1000 b0 x1 x2 0 0 h hs

theorem in_X9_kind_X9 : ∀ w ∈ u_ws RX9 TX9 26, w ∈ wsX9_kind := by decide +kernel
def s_X9_kind (b0 : Nat) (x1 : Int32) (x2 : Int32) (h : tt_H) : Option (Int32 × tt_H) :=
  (s_X9_isWord x1 h).bind fun w1 =>
  if w1.1 = 0 then
    some ((-1), w1.2)
  else
  (s_X9_inside x2 0 2 w1.2).bind fun w12 =>
  if w12.1 = 0 then
    some ((-2), w12.2)
  else
  (gg_fr w12.2 b0 9 5).bind fun o22 =>
  (gg_il w12.2 o22 x1).bind fun z26 =>
  (gg_fr w12.2 b0 9 5).bind fun o29 =>
  (gg_is w12.2 o29 x1 x2).bind fun h34 =>
  some (z26, h34)
abbrev rm_X9_kind : Room := { frames := 2, cells := 0, slots := 0, locals := 42 }
set_option maxHeartbeats 4000000 in
set_option maxRecDepth 100000 in
theorem c_X9_kind (l : Launch) {b0 : Nat} {x1 : Int32} {x2 : Int32} {h : tt_H} {ρ : Int32 × tt_H} (hs : s_X9_kind b0 x1 x2 h = some ρ) : tt_M tt_cl l yX9_kind wsX9_kind rm_X9_kind 0 0 false [.ref b0, .int x1, .int x2] h (tt_ret (some (.int ρ.1)) ρ.2) := by
  refine tt_M.of0 (cc := cX9_kind) (maxL := 4) (ret := (some .int)) (by decide +kernel) rfl (Nat.le_of_ble_eq_true rfl) ?_
  intro p e s m args below meth c D ca ad n0 sz hwf hsz X hini
  unfold s_X9_kind at hs
  refine tt_iload_n X dX9_kind_0 rfl ?_
  obtain ⟨w1, e1, hs⟩ := gg_bind hs
  refine zr_callS X (c_X9_isWord l e1) (fun hts => va_cwS 1 hts gX9_kind_X9_isWord rfl rfl rfl (by decide +kernel) ⟨by decide, by decide⟩) rfl rfl (Nat.le_of_ble_eq_true rfl) dX9_kind_1 ⟨Nat.zero_le _, Nat.zero_le _⟩ ?_
  refine tt_if_ne (tgt := 9) X dX9_kind_4 (by decide) (fun c4 => ?_) (fun c4 => ?_)
  · rw [if_neg c4] at hs
    refine tt_iload_n X dX9_kind_9 rfl ?_
    refine tt_iconst (v := 0) X dX9_kind_10 (by decide) ?_
    refine tt_iconst (v := 2) X dX9_kind_11 (by decide) ?_
    obtain ⟨w12, e12, hs⟩ := gg_bind hs
    refine zr_callS X (c_X9_inside l e12) (fun hts => va_cwS 3 hts gX9_kind_X9_inside rfl rfl rfl (by decide +kernel) ⟨by decide, by decide⟩) rfl rfl (Nat.le_of_ble_eq_true rfl) dX9_kind_12 ⟨Nat.zero_le _, Nat.zero_le _⟩ ?_
    refine tt_if_ne (tgt := 21) X dX9_kind_15 (by decide) (fun c15 => ?_) (fun c15 => ?_)
    · rw [if_neg c15] at hs
      refine tt_aload_n X dX9_kind_21 rfl ?_
      obtain ⟨o22, e22, hs⟩ := gg_bind hs
      refine zr_fr X e22 rfl in_X9_kind_X9 (by decide) (by decide +kernel) rfl dX9_kind_22 ?_
      refine tt_iload_n X dX9_kind_25 rfl ?_
      obtain ⟨z26, e26, hs⟩ := gg_bind hs
      refine zr_il X e26 dX9_kind_26 ?_
      refine tt_istore_n X dX9_kind_27 (Nat.le_of_ble_eq_true rfl) ?_
      refine tt_aload_n X dX9_kind_28 rfl ?_
      obtain ⟨o29, e29, hs⟩ := gg_bind hs
      refine zr_fr X e29 rfl in_X9_kind_X9 (by decide) (by decide +kernel) rfl dX9_kind_29 ?_
      refine tt_iload_n X dX9_kind_32 rfl ?_
      refine tt_iload_n X dX9_kind_33 rfl ?_
      obtain ⟨h34, e34, hs⟩ := gg_bind hs
      refine zr_is X e34 dX9_kind_34 ?_
      refine tt_iload_n X dX9_kind_35 rfl ?_
      obtain rfl := Option.some.inj hs
      exact tt_iret X rfl dX9_kind_36 ⟨rfl, rfl⟩
    · rw [if_pos c15] at hs
      refine tt_bipush (v := (-2)) X dX9_kind_18 (by decide) ?_
      obtain rfl := Option.some.inj hs
      exact tt_iret X rfl dX9_kind_20 ⟨rfl, rfl⟩
  · rw [if_pos c4] at hs
    refine tt_iconst (v := (-1)) X dX9_kind_7 (by decide) ?_
    obtain rfl := Option.some.inj hs
    exact tt_iret X rfl dX9_kind_8 ⟨rfl, rfl⟩

theorem in_X9_leftOut_X9 : ∀ w ∈ u_ws RX9 TX9 26, w ∈ wsX9_leftOut := by decide +kernel
def s_X9_leftOut_L2 : Nat → Nat → Int32 → tt_H → Option (Int32 × tt_H)
  | 0, _, _, _ => none
  | n + 1, b0, x1, h =>
    (gg_fi h b0 9 6).bind fun z4 =>
    if z4 ≤ x1 then
      some ((-9), h)
    else
    (gg_obj h b0 9).bind fun _ =>
    (s_X9_isWithin b0 (x1 - 1) x1 h).bind fun w15 =>
    if w15.1 = 0 then
      some (x1, w15.2)
    else
    s_X9_leftOut_L2 n b0 (x1 + 1) w15.2
def s_X9_leftOut (b0 : Nat) (h : tt_H) : Option (Int32 × tt_H) :=
  s_X9_leftOut_L2 1000 b0 1 h
abbrev rm_X9_leftOut : Room := { frames := 2, cells := 0, slots := 0, locals := 46 }
set_option maxHeartbeats 4000000 in
set_option maxRecDepth 100000 in
theorem c_X9_leftOut (l : Launch) {b0 : Nat} {h : tt_H} {ρ : Int32 × tt_H} (hs : s_X9_leftOut b0 h = some ρ) : tt_M tt_cl l yX9_leftOut wsX9_leftOut rm_X9_leftOut 0 0 false [.ref b0] h (tt_ret (some (.int ρ.1)) ρ.2) := by
  refine tt_M.of0 (cc := cX9_leftOut) (maxL := 2) (ret := (some .int)) (by decide +kernel) rfl (Nat.le_of_ble_eq_true rfl) ?_
  intro p e s m args below meth c D ca ad n0 sz hwf hsz X hini
  unfold s_X9_leftOut at hs
  have t_2 : ∀ (fu : Nat) (b0 : Nat) (x1 : Int32) (h : tt_H), s_X9_leftOut_L2 fu b0 x1 h = some ρ → tt_T tt_cl (p, l, e, rm_X9_leftOut, s, m, args, below, meth, c, MQ below (tt_Q tt_cl D ca ad n0 sz false (tt_ret (some (.int ρ.1)) ρ.2)) args s 0 0 (tt_A ad n0 sz), D, ca, tt_A ad n0 sz, 2, some n0) ad 0 0 2 [(0, .ref b0), (1, .int x1)] [] h := by
    intro fu
    induction fu with
    | zero => intro b0 x1 h hs; exact absurd hs (by rw [s_X9_leftOut_L2]; exact fun q => by cases q)
    | succ n2 ih =>
      intro b0 x1 h hs
      rw [s_X9_leftOut_L2] at hs
      have t_2 := ih
      refine tt_iload_n X dX9_leftOut_2 rfl ?_
      refine tt_aload_n X dX9_leftOut_3 rfl ?_
      obtain ⟨z4, e4, hs⟩ := gg_bind hs
      refine zr_fi X e4 rfl in_X9_leftOut_X9 (by decide) (by decide +kernel) rfl dX9_leftOut_4 ?_
      refine tt_icmp_ge (tgt := 29) X dX9_leftOut_7 (by decide) (fun c7 => ?_) (fun c7 => ?_)
      · rw [if_pos c7] at hs
        refine tt_bipush (v := (-9)) X dX9_leftOut_29 (by decide) ?_
        obtain rfl := Option.some.inj hs
        exact tt_iret X rfl dX9_leftOut_31 ⟨rfl, rfl⟩
      · rw [if_neg c7] at hs
        refine tt_aload_n X dX9_leftOut_10 rfl ?_
        refine tt_iload_n X dX9_leftOut_11 rfl ?_
        refine tt_iconst (v := 1) X dX9_leftOut_12 (by decide) ?_
        refine tt_isub X dX9_leftOut_13 ?_
        refine tt_iload_n X dX9_leftOut_14 rfl ?_
        obtain ⟨o15, f15, hs⟩ := gg_bind hs
        obtain ⟨w15, e15, hs⟩ := gg_bind hs
        refine zr_callV X f15 rfl (c_X9_isWithin l e15) (fun hts => cwV 2 hts gX9_leftOut_X9_isWithin rfl rfl rfl (by decide +kernel) ⟨by decide, by decide⟩) rfl rfl (Nat.le_of_ble_eq_true rfl) dX9_leftOut_15 ⟨Nat.zero_le _, Nat.zero_le _⟩ ?_
        refine tt_if_ne (tgt := 23) X dX9_leftOut_18 (by decide) (fun c18 => ?_) (fun c18 => ?_)
        · rw [if_neg c18] at hs
          refine tt_iinc (v := x1 + 1) X dX9_leftOut_23 rfl rfl (Nat.le_of_ble_eq_true rfl) ?_
          refine tt_goto (tgt := 2) X dX9_leftOut_26 (by decide) ?_
          refine tt_drop [0, 1] ?_
          exact t_2 b0 (x1 + 1) w15.2 hs
        · rw [if_pos c18] at hs
          refine tt_iload_n X dX9_leftOut_21 rfl ?_
          obtain rfl := Option.some.inj hs
          exact tt_iret X rfl dX9_leftOut_22 ⟨rfl, rfl⟩
  refine tt_iconst (v := 1) X dX9_leftOut_0 (by decide) ?_
  refine tt_istore_n X dX9_leftOut_1 (Nat.le_of_ble_eq_true rfl) ?_
  refine tt_drop [0, 1] ?_
  exact t_2 1000 b0 1 h hs

theorem in_X9_lose_X9 : ∀ w ∈ u_ws RX9 TX9 26, w ∈ wsX9_lose := by decide +kernel
def s_X9_lose_J25 (b0 : Nat) (x1 : Int32) (ux0 : Int32) (h : tt_H) : Option (Int32 × tt_H) :=
  (gg_fr h b0 9 2).bind fun o27 =>
  (gg_is h o27 x1 ((-9))).bind fun h33 =>
  some (ux0, h33)
def s_X9_lose (b0 : Nat) (x1 : Int32) (h : tt_H) : Option (Int32 × tt_H) :=
  (s_X9_isSheet x1 h).bind fun w1 =>
  if w1.1 = 0 then
    some ((-1), w1.2)
  else
  (gg_fr w1.2 b0 9 2).bind fun o10 =>
  (gg_il w1.2 o10 x1).bind fun z14 =>
  if z14 = ((-9)) then
    s_X9_lose_J25 b0 x1 0 w1.2
  else
  s_X9_lose_J25 b0 x1 1 w1.2
abbrev rm_X9_lose : Room := { frames := 2, cells := 0, slots := 0, locals := 42 }
set_option maxHeartbeats 4000000 in
set_option maxRecDepth 100000 in
theorem c_X9_lose (l : Launch) {b0 : Nat} {x1 : Int32} {h : tt_H} {ρ : Int32 × tt_H} (hs : s_X9_lose b0 x1 h = some ρ) : tt_M tt_cl l yX9_lose wsX9_lose rm_X9_lose 0 0 false [.ref b0, .int x1] h (tt_ret (some (.int ρ.1)) ρ.2) := by
  refine tt_M.of0 (cc := cX9_lose) (maxL := 3) (ret := (some .int)) (by decide +kernel) rfl (Nat.le_of_ble_eq_true rfl) ?_
  intro p e s m args below meth c D ca ad n0 sz hwf hsz X hini
  unfold s_X9_lose at hs
  have t_25 : ∀ (b0 : Nat) (x1 : Int32) (ux0 : Int32) (h : tt_H), s_X9_lose_J25 b0 x1 ux0 h = some ρ → tt_T tt_cl (p, l, e, rm_X9_lose, s, m, args, below, meth, c, MQ below (tt_Q tt_cl D ca ad n0 sz false (tt_ret (some (.int ρ.1)) ρ.2)) args s 0 0 (tt_A ad n0 sz), D, ca, tt_A ad n0 sz, 3, some n0) ad 0 0 25 [(0, .ref b0), (1, .int x1)] [.int ux0] h := by
    intro b0 x1 ux0 h hs
    unfold s_X9_lose_J25 at hs
    refine tt_istore_n X dX9_lose_25 (Nat.le_of_ble_eq_true rfl) ?_
    refine tt_aload_n X dX9_lose_26 rfl ?_
    obtain ⟨o27, e27, hs⟩ := gg_bind hs
    refine zr_fr X e27 rfl in_X9_lose_X9 (by decide) (by decide +kernel) rfl dX9_lose_27 ?_
    refine tt_iload_n X dX9_lose_30 rfl ?_
    refine tt_bipush (v := (-9)) X dX9_lose_31 (by decide) ?_
    obtain ⟨h33, e33, hs⟩ := gg_bind hs
    refine zr_is X e33 dX9_lose_33 ?_
    refine tt_iload_n X dX9_lose_34 rfl ?_
    obtain rfl := Option.some.inj hs
    exact tt_iret X rfl dX9_lose_35 ⟨rfl, rfl⟩
  refine tt_iload_n X dX9_lose_0 rfl ?_
  obtain ⟨w1, e1, hs⟩ := gg_bind hs
  refine zr_callS X (c_X9_isSheet l e1) (fun hts => va_cwS 1 hts gX9_lose_X9_isSheet rfl rfl rfl (by decide +kernel) ⟨by decide, by decide⟩) rfl rfl (Nat.le_of_ble_eq_true rfl) dX9_lose_1 ⟨Nat.zero_le _, Nat.zero_le _⟩ ?_
  refine tt_if_ne (tgt := 9) X dX9_lose_4 (by decide) (fun c4 => ?_) (fun c4 => ?_)
  · rw [if_neg c4] at hs
    refine tt_aload_n X dX9_lose_9 rfl ?_
    obtain ⟨o10, e10, hs⟩ := gg_bind hs
    refine zr_fr X e10 rfl in_X9_lose_X9 (by decide) (by decide +kernel) rfl dX9_lose_10 ?_
    refine tt_iload_n X dX9_lose_13 rfl ?_
    obtain ⟨z14, e14, hs⟩ := gg_bind hs
    refine zr_il X e14 dX9_lose_14 ?_
    refine tt_bipush (v := (-9)) X dX9_lose_15 (by decide) ?_
    refine tt_icmp_ne (tgt := 24) X dX9_lose_17 (by decide) (fun c17 => ?_) (fun c17 => ?_)
    · rw [if_neg c17] at hs
      refine tt_iconst (v := 1) X dX9_lose_24 (by decide) ?_
      refine tt_drop [0, 1] ?_
      exact t_25 b0 x1 1 w1.2 hs
    · rw [if_pos c17] at hs
      refine tt_iconst (v := 0) X dX9_lose_20 (by decide) ?_
      refine tt_goto (tgt := 25) X dX9_lose_21 (by decide) ?_
      refine tt_drop [0, 1] ?_
      exact t_25 b0 x1 0 w1.2 hs
  · rw [if_pos c4] at hs
    refine tt_iconst (v := (-1)) X dX9_lose_7 (by decide) ?_
    obtain rfl := Option.some.inj hs
    exact tt_iret X rfl dX9_lose_8 ⟨rfl, rfl⟩

theorem in_X9_lostDay_X9 : ∀ w ∈ u_ws RX9 TX9 26, w ∈ wsX9_lostDay := by decide +kernel
def s_X9_lostDay (b0 : Nat) (x1 : Int32) (x2 : Int32) (x3 : Int32) (h : tt_H) : Option (Int64 × tt_H) :=
  (gg_obj h b0 9).bind fun _ =>
  (s_X9_isDay b0 x1 h).bind fun w2 =>
  if w2.1 = 0 then
    some ((-9223372036854775808), w2.2)
  else
  (gg_obj w2.2 b0 9).bind fun _ =>
  (s_X9_isDay b0 x2 w2.2).bind fun w10 =>
  if w10.1 = 0 then
    some ((-9223372036854775808), w10.2)
  else
  (s_X9_inside x3 0 12 w10.2).bind fun w20 =>
  if w20.1 = 0 then
    some ((-9223372036854775808), w20.2)
  else
  (gg_fr w20.2 b0 9 7).bind fun o34 =>
  (gg_il w20.2 o34 x1).bind fun z38 =>
  (gg_obj w20.2 b0 9).bind fun _ =>
  (s_X9_between b0 x1 x2 z38 x3 w20.2).bind fun w40 =>
  some (w40.1, w40.2)
abbrev rm_X9_lostDay : Room := { frames := 4, cells := 0, slots := 0, locals := 101 }
set_option maxHeartbeats 4000000 in
set_option maxRecDepth 100000 in
theorem c_X9_lostDay (l : Launch) {b0 : Nat} {x1 : Int32} {x2 : Int32} {x3 : Int32} {h : tt_H} {ρ : Int64 × tt_H} (hs : s_X9_lostDay b0 x1 x2 x3 h = some ρ) : tt_M tt_cl l yX9_lostDay wsX9_lostDay rm_X9_lostDay 0 0 false [.ref b0, .int x1, .int x2, .int x3] h (tt_ret (some (.long ρ.1)) ρ.2) := by
  refine tt_M.of0 (cc := cX9_lostDay) (maxL := 4) (ret := (some .long)) (by decide +kernel) rfl (Nat.le_of_ble_eq_true rfl) ?_
  intro p e s m args below meth c D ca ad n0 sz hwf hsz X hini
  unfold s_X9_lostDay at hs
  refine tt_aload_n X dX9_lostDay_0 rfl ?_
  refine tt_iload_n X dX9_lostDay_1 rfl ?_
  obtain ⟨o2, f2, hs⟩ := gg_bind hs
  obtain ⟨w2, e2, hs⟩ := gg_bind hs
  refine zr_callV X f2 rfl (c_X9_isDay l e2) (fun hts => cwV 1 hts gX9_lostDay_X9_isDay rfl rfl rfl (by decide +kernel) ⟨by decide, by decide⟩) rfl rfl (Nat.le_of_ble_eq_true rfl) dX9_lostDay_2 ⟨Nat.zero_le _, Nat.zero_le _⟩ ?_
  refine tt_if_eq (tgt := 26) X dX9_lostDay_5 (by decide) (fun c5 => ?_) (fun c5 => ?_)
  · rw [if_pos c5] at hs
    refine tt_ldc2 (v := (-9223372036854775808)) X (by decide +kernel) dX9_lostDay_26 ?_
    obtain rfl := Option.some.inj hs
    exact tt_lret X rfl dX9_lostDay_29 ⟨rfl, rfl⟩
  · rw [if_neg c5] at hs
    refine tt_aload_n X dX9_lostDay_8 rfl ?_
    refine tt_iload_n X dX9_lostDay_9 rfl ?_
    obtain ⟨o10, f10, hs⟩ := gg_bind hs
    obtain ⟨w10, e10, hs⟩ := gg_bind hs
    refine zr_callV X f10 rfl (c_X9_isDay l e10) (fun hts => cwV 1 hts gX9_lostDay_X9_isDay rfl rfl rfl (by decide +kernel) ⟨by decide, by decide⟩) rfl rfl (Nat.le_of_ble_eq_true rfl) dX9_lostDay_10 ⟨Nat.zero_le _, Nat.zero_le _⟩ ?_
    refine tt_if_eq (tgt := 26) X dX9_lostDay_13 (by decide) (fun c13 => ?_) (fun c13 => ?_)
    · rw [if_pos c13] at hs
      refine tt_ldc2 (v := (-9223372036854775808)) X (by decide +kernel) dX9_lostDay_26 ?_
      obtain rfl := Option.some.inj hs
      exact tt_lret X rfl dX9_lostDay_29 ⟨rfl, rfl⟩
    · rw [if_neg c13] at hs
      refine tt_iload_n X dX9_lostDay_16 rfl ?_
      refine tt_iconst (v := 0) X dX9_lostDay_17 (by decide) ?_
      refine tt_bipush (v := 12) X dX9_lostDay_18 (by decide) ?_
      obtain ⟨w20, e20, hs⟩ := gg_bind hs
      refine zr_callS X (c_X9_inside l e20) (fun hts => va_cwS 3 hts gX9_lostDay_X9_inside rfl rfl rfl (by decide +kernel) ⟨by decide, by decide⟩) rfl rfl (Nat.le_of_ble_eq_true rfl) dX9_lostDay_20 ⟨Nat.zero_le _, Nat.zero_le _⟩ ?_
      refine tt_if_ne (tgt := 30) X dX9_lostDay_23 (by decide) (fun c23 => ?_) (fun c23 => ?_)
      · rw [if_neg c23] at hs
        refine tt_aload_n X dX9_lostDay_30 rfl ?_
        refine tt_iload_n X dX9_lostDay_31 rfl ?_
        refine tt_iload_n X dX9_lostDay_32 rfl ?_
        refine tt_aload_n X dX9_lostDay_33 rfl ?_
        obtain ⟨o34, e34, hs⟩ := gg_bind hs
        refine zr_fr X e34 rfl in_X9_lostDay_X9 (by decide) (by decide +kernel) rfl dX9_lostDay_34 ?_
        refine tt_iload_n X dX9_lostDay_37 rfl ?_
        obtain ⟨z38, e38, hs⟩ := gg_bind hs
        refine zr_il X e38 dX9_lostDay_38 ?_
        refine tt_iload_n X dX9_lostDay_39 rfl ?_
        obtain ⟨o40, f40, hs⟩ := gg_bind hs
        obtain ⟨w40, e40, hs⟩ := gg_bind hs
        refine zr_callV X f40 rfl (c_X9_between l e40) (fun hts => cwV 4 hts gX9_lostDay_X9_between rfl rfl rfl (by decide +kernel) ⟨by decide, by decide⟩) rfl rfl (Nat.le_of_ble_eq_true rfl) dX9_lostDay_40 ⟨Nat.zero_le _, Nat.zero_le _⟩ ?_
        obtain rfl := Option.some.inj hs
        exact tt_lret X rfl dX9_lostDay_43 ⟨rfl, rfl⟩
      · rw [if_pos c23] at hs
        refine tt_ldc2 (v := (-9223372036854775808)) X (by decide +kernel) dX9_lostDay_26 ?_
        obtain rfl := Option.some.inj hs
        exact tt_lret X rfl dX9_lostDay_29 ⟨rfl, rfl⟩

theorem in_X9_many_X9 : ∀ w ∈ u_ws RX9 TX9 26, w ∈ wsX9_many := by decide +kernel
def s_X9_many (b0 : Nat) (h : tt_H) : Option (Int32 × tt_H) :=
  (gg_fi h b0 9 6).bind fun z1 =>
  some (z1, h)
abbrev rm_X9_many : Room := { frames := 0, cells := 0, slots := 0, locals := 0 }
set_option maxHeartbeats 4000000 in
set_option maxRecDepth 100000 in
theorem c_X9_many (l : Launch) {b0 : Nat} {h : tt_H} {ρ : Int32 × tt_H} (hs : s_X9_many b0 h = some ρ) : tt_M tt_cl l yX9_many wsX9_many rm_X9_many 0 0 false [.ref b0] h (tt_ret (some (.int ρ.1)) ρ.2) := by
  refine tt_M.of0 (cc := cX9_many) (maxL := 1) (ret := (some .int)) (by decide +kernel) rfl (Nat.le_of_ble_eq_true rfl) ?_
  intro p e s m args below meth c D ca ad n0 sz hwf hsz X hini
  unfold s_X9_many at hs
  refine tt_aload_n X dX9_many_0 rfl ?_
  obtain ⟨z1, e1, hs⟩ := gg_bind hs
  refine zr_fi X e1 rfl in_X9_many_X9 (by decide) (by decide +kernel) rfl dX9_many_1 ?_
  obtain rfl := Option.some.inj hs
  exact tt_iret X rfl dX9_many_4 ⟨rfl, rfl⟩

theorem in_X9_mayStand_X9 : ∀ w ∈ u_ws RX9 TX9 26, w ∈ wsX9_mayStand := by decide +kernel
def s_X9_mayStand_J111 (κ14 : Nat → Int32 → Int32 → Int32 → Int32 → tt_H → Option (Int32 × tt_H)) (b0 : Nat) (x1 : Int32) (x2 : Int32) (x3 : Int32) (x4 : Int32) (h : tt_H) : Option (Int32 × tt_H) :=
  κ14 b0 x1 x2 x3 (x4 + 1) h
def s_X9_mayStand_J81 (κ14 : Nat → Int32 → Int32 → Int32 → Int32 → tt_H → Option (Int32 × tt_H)) (b0 : Nat) (x1 : Int32) (x2 : Int32) (x3 : Int32) (x4 : Int32) (x5 : Int32) (ux0 : Int32) (h : tt_H) : Option (Int32 × tt_H) :=
  (gg_obj h b0 9).bind fun _ =>
  (s_X9_wordAt b0 x1 x4 h).bind fun w87 =>
  (gg_obj w87.2 b0 9).bind fun _ =>
  (s_X9_wordAt b0 x2 x3 w87.2).bind fun w93 =>
  if w87.1 = w93.1 then
    if x5 = 0 then
      s_X9_mayStand_J111 κ14 b0 x1 x2 x3 x4 w93.2
    else
    if ux0 = 0 then
      s_X9_mayStand_J111 κ14 b0 x1 x2 x3 x4 w93.2
    else
    some (1, w93.2)
  else
  s_X9_mayStand_J111 κ14 b0 x1 x2 x3 x4 w93.2
def s_X9_mayStand_J76 (κ81 : Nat → Int32 → Int32 → Int32 → Int32 → Int32 → Int32 → tt_H → Option (Int32 × tt_H)) (b0 : Nat) (x1 : Int32) (x2 : Int32) (x3 : Int32) (x4 : Int32) (x5 : Int32) (h : tt_H) : Option (Int32 × tt_H) :=
  κ81 b0 x1 x2 x3 x4 x5 1 h
def s_X9_mayStand_J48 (κ14 : Nat → Int32 → Int32 → Int32 → Int32 → tt_H → Option (Int32 × tt_H)) (b0 : Nat) (x1 : Int32) (x2 : Int32) (x3 : Int32) (x4 : Int32) (ux0 : Int32) (h : tt_H) : Option (Int32 × tt_H) :=
  (gg_fr h b0 9 7).bind fun o53 =>
  (gg_il h o53 x1).bind fun z57 =>
  if x4 = (z57 - 1) then
    s_X9_mayStand_J76 (s_X9_mayStand_J81 κ14) b0 x1 x2 x3 x4 ux0 h
  else
  (gg_fr h b0 9 14).bind fun o64 =>
  (gg_il h o64 (x4 + 1)).bind fun z71 =>
  if z71 ≤ x3 then
    s_X9_mayStand_J81 κ14 b0 x1 x2 x3 x4 ux0 0 h
  else
  s_X9_mayStand_J76 (s_X9_mayStand_J81 κ14) b0 x1 x2 x3 x4 ux0 h
def s_X9_mayStand_J43 (κ48 : Nat → Int32 → Int32 → Int32 → Int32 → Int32 → tt_H → Option (Int32 × tt_H)) (b0 : Nat) (x1 : Int32) (x2 : Int32) (x3 : Int32) (x4 : Int32) (h : tt_H) : Option (Int32 × tt_H) :=
  κ48 b0 x1 x2 x3 x4 1 h
def s_X9_mayStand_L14 : Nat → Nat → Int32 → Int32 → Int32 → Int32 → tt_H → Option (Int32 × tt_H)
  | 0, _, _, _, _, _, _ => none
  | n + 1, b0, x1, x2, x3, x4, h =>
    (gg_fr h b0 9 7).bind fun o17 =>
    (gg_il h o17 x1).bind fun z21 =>
    if z21 ≤ x4 then
      some (0, h)
    else
    if x4 = 0 then
      s_X9_mayStand_J43 (s_X9_mayStand_J48 (s_X9_mayStand_L14 n)) b0 x1 x2 x3 x4 h
    else
    (gg_fr h b0 9 13).bind fun o31 =>
    (gg_il h o31 (x4 - 1)).bind fun z38 =>
    if x3 ≤ z38 then
      s_X9_mayStand_J48 (s_X9_mayStand_L14 n) b0 x1 x2 x3 x4 0 h
    else
    s_X9_mayStand_J43 (s_X9_mayStand_J48 (s_X9_mayStand_L14 n)) b0 x1 x2 x3 x4 h
def s_X9_mayStand (b0 : Nat) (x1 : Int32) (x2 : Int32) (x3 : Int32) (h : tt_H) : Option (Int32 × tt_H) :=
  (gg_obj h b0 9).bind fun _ =>
  (s_X9_isWithin b0 x1 x2 h).bind fun w3 =>
  if w3.1 = 0 then
    some (0, w3.2)
  else
  s_X9_mayStand_L14 1000 b0 x1 x2 x3 0 w3.2
abbrev rm_X9_mayStand : Room := { frames := 2, cells := 0, slots := 0, locals := 46 }
set_option maxHeartbeats 4000000 in
set_option maxRecDepth 100000 in
theorem c_X9_mayStand (l : Launch) {b0 : Nat} {x1 : Int32} {x2 : Int32} {x3 : Int32} {h : tt_H} {ρ : Int32 × tt_H} (hs : s_X9_mayStand b0 x1 x2 x3 h = some ρ) : tt_M tt_cl l yX9_mayStand wsX9_mayStand rm_X9_mayStand 0 0 false [.ref b0, .int x1, .int x2, .int x3] h (tt_ret (some (.int ρ.1)) ρ.2) := by
  refine tt_M.of0 (cc := cX9_mayStand) (maxL := 7) (ret := (some .boolean)) (by decide +kernel) rfl (Nat.le_of_ble_eq_true rfl) ?_
  intro p e s m args below meth c D ca ad n0 sz hwf hsz X hini
  unfold s_X9_mayStand at hs
  have t_14 : ∀ (fu : Nat) (b0 : Nat) (x1 : Int32) (x2 : Int32) (x3 : Int32) (x4 : Int32) (h : tt_H), s_X9_mayStand_L14 fu b0 x1 x2 x3 x4 h = some ρ → tt_T tt_cl (p, l, e, rm_X9_mayStand, s, m, args, below, meth, c, MQ below (tt_Q tt_cl D ca ad n0 sz false (tt_ret (some (.int ρ.1)) ρ.2)) args s 0 0 (tt_A ad n0 sz), D, ca, tt_A ad n0 sz, 7, some n0) ad 0 0 14 [(0, .ref b0), (1, .int x1), (2, .int x2), (3, .int x3), (4, .int x4)] [] h := by
    intro fu
    induction fu with
    | zero => intro b0 x1 x2 x3 x4 h hs; exact absurd hs (by rw [s_X9_mayStand_L14]; exact fun q => by cases q)
    | succ n14 ih =>
      intro b0 x1 x2 x3 x4 h hs
      rw [s_X9_mayStand_L14] at hs
      have t_14 := ih
      have t_48 : ∀ (b0 : Nat) (x1 : Int32) (x2 : Int32) (x3 : Int32) (x4 : Int32) (ux0 : Int32) (h : tt_H), s_X9_mayStand_J48 (s_X9_mayStand_L14 n14) b0 x1 x2 x3 x4 ux0 h = some ρ → tt_T tt_cl (p, l, e, rm_X9_mayStand, s, m, args, below, meth, c, MQ below (tt_Q tt_cl D ca ad n0 sz false (tt_ret (some (.int ρ.1)) ρ.2)) args s 0 0 (tt_A ad n0 sz), D, ca, tt_A ad n0 sz, 7, some n0) ad 0 0 48 [(0, .ref b0), (1, .int x1), (2, .int x2), (3, .int x3), (4, .int x4)] [.int ux0] h := by
        intro b0 x1 x2 x3 x4 ux0 h hs
        unfold s_X9_mayStand_J48 at hs
        have t_81 : ∀ (b0 : Nat) (x1 : Int32) (x2 : Int32) (x3 : Int32) (x4 : Int32) (x5 : Int32) (ux0 : Int32) (h : tt_H), s_X9_mayStand_J81 (s_X9_mayStand_L14 n14) b0 x1 x2 x3 x4 x5 ux0 h = some ρ → tt_T tt_cl (p, l, e, rm_X9_mayStand, s, m, args, below, meth, c, MQ below (tt_Q tt_cl D ca ad n0 sz false (tt_ret (some (.int ρ.1)) ρ.2)) args s 0 0 (tt_A ad n0 sz), D, ca, tt_A ad n0 sz, 7, some n0) ad 0 0 81 [(0, .ref b0), (1, .int x1), (2, .int x2), (3, .int x3), (4, .int x4), (5, .int x5)] [.int ux0] h := by
          intro b0 x1 x2 x3 x4 x5 ux0 h hs
          unfold s_X9_mayStand_J81 at hs
          have t_111 : ∀ (b0 : Nat) (x1 : Int32) (x2 : Int32) (x3 : Int32) (x4 : Int32) (h : tt_H), s_X9_mayStand_J111 (s_X9_mayStand_L14 n14) b0 x1 x2 x3 x4 h = some ρ → tt_T tt_cl (p, l, e, rm_X9_mayStand, s, m, args, below, meth, c, MQ below (tt_Q tt_cl D ca ad n0 sz false (tt_ret (some (.int ρ.1)) ρ.2)) args s 0 0 (tt_A ad n0 sz), D, ca, tt_A ad n0 sz, 7, some n0) ad 0 0 111 [(0, .ref b0), (1, .int x1), (2, .int x2), (3, .int x3), (4, .int x4)] [] h := by
            intro b0 x1 x2 x3 x4 h hs
            unfold s_X9_mayStand_J111 at hs
            refine tt_iinc (v := x4 + 1) X dX9_mayStand_111 rfl rfl (Nat.le_of_ble_eq_true rfl) ?_
            refine tt_goto (tgt := 14) X dX9_mayStand_114 (by decide) ?_
            refine tt_drop [0, 1, 2, 3, 4] ?_
            exact t_14 b0 x1 x2 x3 (x4 + 1) h hs
          refine tt_istore X dX9_mayStand_81 (Nat.le_of_ble_eq_true rfl) ?_
          refine tt_aload_n X dX9_mayStand_83 rfl ?_
          refine tt_iload_n X dX9_mayStand_84 rfl ?_
          refine tt_iload X dX9_mayStand_85 rfl ?_
          obtain ⟨o87, f87, hs⟩ := gg_bind hs
          obtain ⟨w87, e87, hs⟩ := gg_bind hs
          refine zr_callV X f87 rfl (c_X9_wordAt l e87) (fun hts => cwV 2 hts gX9_mayStand_X9_wordAt rfl rfl rfl (by decide +kernel) ⟨by decide, by decide⟩) rfl rfl (Nat.le_of_ble_eq_true rfl) dX9_mayStand_87 ⟨Nat.zero_le _, Nat.zero_le _⟩ ?_
          refine tt_aload_n X dX9_mayStand_90 rfl ?_
          refine tt_iload_n X dX9_mayStand_91 rfl ?_
          refine tt_iload_n X dX9_mayStand_92 rfl ?_
          obtain ⟨o93, f93, hs⟩ := gg_bind hs
          obtain ⟨w93, e93, hs⟩ := gg_bind hs
          refine zr_callV X f93 rfl (c_X9_wordAt l e93) (fun hts => cwV 2 hts gX9_mayStand_X9_wordAt rfl rfl rfl (by decide +kernel) ⟨by decide, by decide⟩) rfl rfl (Nat.le_of_ble_eq_true rfl) dX9_mayStand_93 ⟨Nat.zero_le _, Nat.zero_le _⟩ ?_
          refine tt_icmp_ne (tgt := 111) X dX9_mayStand_96 (by decide) (fun c96 => ?_) (fun c96 => ?_)
          · rw [if_neg c96] at hs
            refine tt_drop [0, 1, 2, 3, 4] ?_
            exact t_111 b0 x1 x2 x3 x4 w93.2 hs
          · rw [if_pos c96] at hs
            refine tt_iload X dX9_mayStand_99 rfl ?_
            refine tt_if_eq (tgt := 111) X dX9_mayStand_101 (by decide) (fun c101 => ?_) (fun c101 => ?_)
            · rw [if_pos c101] at hs
              refine tt_drop [0, 1, 2, 3, 4] ?_
              exact t_111 b0 x1 x2 x3 x4 w93.2 hs
            · rw [if_neg c101] at hs
              refine tt_iload X dX9_mayStand_104 rfl ?_
              refine tt_if_eq (tgt := 111) X dX9_mayStand_106 (by decide) (fun c106 => ?_) (fun c106 => ?_)
              · rw [if_pos c106] at hs
                refine tt_drop [0, 1, 2, 3, 4] ?_
                exact t_111 b0 x1 x2 x3 x4 w93.2 hs
              · rw [if_neg c106] at hs
                refine tt_iconst (v := 1) X dX9_mayStand_109 (by decide) ?_
                obtain rfl := Option.some.inj hs
                exact tt_zret X rfl rfl dX9_mayStand_110 ⟨rfl, rfl⟩
        have t_76 : ∀ (b0 : Nat) (x1 : Int32) (x2 : Int32) (x3 : Int32) (x4 : Int32) (x5 : Int32) (h : tt_H), s_X9_mayStand_J76 (s_X9_mayStand_J81 (s_X9_mayStand_L14 n14)) b0 x1 x2 x3 x4 x5 h = some ρ → tt_T tt_cl (p, l, e, rm_X9_mayStand, s, m, args, below, meth, c, MQ below (tt_Q tt_cl D ca ad n0 sz false (tt_ret (some (.int ρ.1)) ρ.2)) args s 0 0 (tt_A ad n0 sz), D, ca, tt_A ad n0 sz, 7, some n0) ad 0 0 76 [(0, .ref b0), (1, .int x1), (2, .int x2), (3, .int x3), (4, .int x4), (5, .int x5)] [] h := by
          intro b0 x1 x2 x3 x4 x5 h hs
          unfold s_X9_mayStand_J76 at hs
          refine tt_iconst (v := 1) X dX9_mayStand_76 (by decide) ?_
          refine tt_goto (tgt := 81) X dX9_mayStand_77 (by decide) ?_
          refine tt_drop [0, 1, 2, 3, 4, 5] ?_
          exact t_81 b0 x1 x2 x3 x4 x5 1 h hs
        refine tt_istore X dX9_mayStand_48 (Nat.le_of_ble_eq_true rfl) ?_
        refine tt_iload X dX9_mayStand_50 rfl ?_
        refine tt_aload_n X dX9_mayStand_52 rfl ?_
        obtain ⟨o53, e53, hs⟩ := gg_bind hs
        refine zr_fr X e53 rfl in_X9_mayStand_X9 (by decide) (by decide +kernel) rfl dX9_mayStand_53 ?_
        refine tt_iload_n X dX9_mayStand_56 rfl ?_
        obtain ⟨z57, e57, hs⟩ := gg_bind hs
        refine zr_il X e57 dX9_mayStand_57 ?_
        refine tt_iconst (v := 1) X dX9_mayStand_58 (by decide) ?_
        refine tt_isub X dX9_mayStand_59 ?_
        refine tt_icmp_eq (tgt := 76) X dX9_mayStand_60 (by decide) (fun c60 => ?_) (fun c60 => ?_)
        · rw [if_pos c60] at hs
          refine tt_drop [0, 1, 2, 3, 4, 5] ?_
          exact t_76 b0 x1 x2 x3 x4 ux0 h hs
        · rw [if_neg c60] at hs
          refine tt_aload_n X dX9_mayStand_63 rfl ?_
          obtain ⟨o64, e64, hs⟩ := gg_bind hs
          refine zr_fr X e64 rfl in_X9_mayStand_X9 (by decide) (by decide +kernel) rfl dX9_mayStand_64 ?_
          refine tt_iload X dX9_mayStand_67 rfl ?_
          refine tt_iconst (v := 1) X dX9_mayStand_69 (by decide) ?_
          refine tt_iadd X dX9_mayStand_70 ?_
          obtain ⟨z71, e71, hs⟩ := gg_bind hs
          refine zr_il X e71 dX9_mayStand_71 ?_
          refine tt_iload_n X dX9_mayStand_72 rfl ?_
          refine tt_icmp_le (tgt := 80) X dX9_mayStand_73 (by decide) (fun c73 => ?_) (fun c73 => ?_)
          · rw [if_pos c73] at hs
            refine tt_iconst (v := 0) X dX9_mayStand_80 (by decide) ?_
            refine tt_drop [0, 1, 2, 3, 4, 5] ?_
            exact t_81 b0 x1 x2 x3 x4 ux0 0 h hs
          · rw [if_neg c73] at hs
            refine tt_drop [0, 1, 2, 3, 4, 5] ?_
            exact t_76 b0 x1 x2 x3 x4 ux0 h hs
      have t_43 : ∀ (b0 : Nat) (x1 : Int32) (x2 : Int32) (x3 : Int32) (x4 : Int32) (h : tt_H), s_X9_mayStand_J43 (s_X9_mayStand_J48 (s_X9_mayStand_L14 n14)) b0 x1 x2 x3 x4 h = some ρ → tt_T tt_cl (p, l, e, rm_X9_mayStand, s, m, args, below, meth, c, MQ below (tt_Q tt_cl D ca ad n0 sz false (tt_ret (some (.int ρ.1)) ρ.2)) args s 0 0 (tt_A ad n0 sz), D, ca, tt_A ad n0 sz, 7, some n0) ad 0 0 43 [(0, .ref b0), (1, .int x1), (2, .int x2), (3, .int x3), (4, .int x4)] [] h := by
        intro b0 x1 x2 x3 x4 h hs
        unfold s_X9_mayStand_J43 at hs
        refine tt_iconst (v := 1) X dX9_mayStand_43 (by decide) ?_
        refine tt_goto (tgt := 48) X dX9_mayStand_44 (by decide) ?_
        refine tt_drop [0, 1, 2, 3, 4] ?_
        exact t_48 b0 x1 x2 x3 x4 1 h hs
      refine tt_iload X dX9_mayStand_14 rfl ?_
      refine tt_aload_n X dX9_mayStand_16 rfl ?_
      obtain ⟨o17, e17, hs⟩ := gg_bind hs
      refine zr_fr X e17 rfl in_X9_mayStand_X9 (by decide) (by decide +kernel) rfl dX9_mayStand_17 ?_
      refine tt_iload_n X dX9_mayStand_20 rfl ?_
      obtain ⟨z21, e21, hs⟩ := gg_bind hs
      refine zr_il X e21 dX9_mayStand_21 ?_
      refine tt_icmp_ge (tgt := 117) X dX9_mayStand_22 (by decide) (fun c22 => ?_) (fun c22 => ?_)
      · rw [if_pos c22] at hs
        refine tt_iconst (v := 0) X dX9_mayStand_117 (by decide) ?_
        obtain rfl := Option.some.inj hs
        exact tt_zret X rfl rfl dX9_mayStand_118 ⟨rfl, rfl⟩
      · rw [if_neg c22] at hs
        refine tt_iload X dX9_mayStand_25 rfl ?_
        refine tt_if_eq (tgt := 43) X dX9_mayStand_27 (by decide) (fun c27 => ?_) (fun c27 => ?_)
        · rw [if_pos c27] at hs
          refine tt_drop [0, 1, 2, 3, 4] ?_
          exact t_43 b0 x1 x2 x3 x4 h hs
        · rw [if_neg c27] at hs
          refine tt_aload_n X dX9_mayStand_30 rfl ?_
          obtain ⟨o31, e31, hs⟩ := gg_bind hs
          refine zr_fr X e31 rfl in_X9_mayStand_X9 (by decide) (by decide +kernel) rfl dX9_mayStand_31 ?_
          refine tt_iload X dX9_mayStand_34 rfl ?_
          refine tt_iconst (v := 1) X dX9_mayStand_36 (by decide) ?_
          refine tt_isub X dX9_mayStand_37 ?_
          obtain ⟨z38, e38, hs⟩ := gg_bind hs
          refine zr_il X e38 dX9_mayStand_38 ?_
          refine tt_iload_n X dX9_mayStand_39 rfl ?_
          refine tt_icmp_ge (tgt := 47) X dX9_mayStand_40 (by decide) (fun c40 => ?_) (fun c40 => ?_)
          · rw [if_pos c40] at hs
            refine tt_iconst (v := 0) X dX9_mayStand_47 (by decide) ?_
            refine tt_drop [0, 1, 2, 3, 4] ?_
            exact t_48 b0 x1 x2 x3 x4 0 h hs
          · rw [if_neg c40] at hs
            refine tt_drop [0, 1, 2, 3, 4] ?_
            exact t_43 b0 x1 x2 x3 x4 h hs
  refine tt_aload_n X dX9_mayStand_0 rfl ?_
  refine tt_iload_n X dX9_mayStand_1 rfl ?_
  refine tt_iload_n X dX9_mayStand_2 rfl ?_
  obtain ⟨o3, f3, hs⟩ := gg_bind hs
  obtain ⟨w3, e3, hs⟩ := gg_bind hs
  refine zr_callV X f3 rfl (c_X9_isWithin l e3) (fun hts => cwV 2 hts gX9_mayStand_X9_isWithin rfl rfl rfl (by decide +kernel) ⟨by decide, by decide⟩) rfl rfl (Nat.le_of_ble_eq_true rfl) dX9_mayStand_3 ⟨Nat.zero_le _, Nat.zero_le _⟩ ?_
  refine tt_if_ne (tgt := 11) X dX9_mayStand_6 (by decide) (fun c6 => ?_) (fun c6 => ?_)
  · rw [if_neg c6] at hs
    refine tt_iconst (v := 0) X dX9_mayStand_11 (by decide) ?_
    refine tt_istore X dX9_mayStand_12 (Nat.le_of_ble_eq_true rfl) ?_
    refine tt_drop [0, 1, 2, 3, 4] ?_
    exact t_14 1000 b0 x1 x2 x3 0 w3.2 hs
  · rw [if_pos c6] at hs
    refine tt_iconst (v := 0) X dX9_mayStand_9 (by decide) ?_
    obtain rfl := Option.some.inj hs
    exact tt_zret X rfl rfl dX9_mayStand_10 ⟨rfl, rfl⟩

theorem in_X9_mayBe_X9 : ∀ w ∈ u_ws RX9 TX9 26, w ∈ wsX9_mayBe := by decide +kernel
def s_X9_mayBe_J65 (κ34 : Nat → Int32 → Int32 → Int32 → tt_H → Option (Int32 × tt_H)) (b0 : Nat) (x1 : Int32) (x3 : Int32) (ux0 : Int32) (ux1 : Int32) (h : tt_H) : Option (Int32 × tt_H) :=
  κ34 b0 x1 (ux0 ||| ux1) (x3 + 1) h
def s_X9_mayBe_L34 : Nat → Nat → Int32 → Int32 → Int32 → tt_H → Option (Int32 × tt_H)
  | 0, _, _, _, _, _ => none
  | n + 1, b0, x1, x2, x3, h =>
    (gg_fi h b0 9 6).bind fun z36 =>
    if z36 ≤ x3 then
      some (x2, h)
    else
    (gg_fi h b0 9 6).bind fun z46 =>
    (gg_obj h b0 9).bind fun _ =>
    (s_X9_mayStand b0 x3 (z46 - 1) x1 h).bind fun w52 =>
    if w52.1 = 0 then
      s_X9_mayBe_J65 (s_X9_mayBe_L34 n) b0 x1 x3 x2 0 w52.2
    else
    s_X9_mayBe_J65 (s_X9_mayBe_L34 n) b0 x1 x3 x2 ((1 : Int32) <<< (x3 &&& 31)) w52.2
def s_X9_mayBe (b0 : Nat) (x1 : Int32) (h : tt_H) : Option (Int32 × tt_H) :=
  (gg_fi h b0 9 6).bind fun z1 =>
  if z1 = 0 then
    some ((-1), h)
  else
  (gg_fr h b0 9 7).bind fun o10 =>
  (gg_fi h b0 9 6).bind fun z14 =>
  (gg_il h o10 (z14 - 1)).bind fun z19 =>
  (s_X9_inside x1 0 (z19 - 1) h).bind fun w22 =>
  if w22.1 = 0 then
    some ((-1), w22.2)
  else
  s_X9_mayBe_L34 1000 b0 x1 0 0 w22.2
abbrev rm_X9_mayBe : Room := { frames := 3, cells := 0, slots := 0, locals := 72 }
set_option maxHeartbeats 4000000 in
set_option maxRecDepth 100000 in
theorem c_X9_mayBe (l : Launch) {b0 : Nat} {x1 : Int32} {h : tt_H} {ρ : Int32 × tt_H} (hs : s_X9_mayBe b0 x1 h = some ρ) : tt_M tt_cl l yX9_mayBe wsX9_mayBe rm_X9_mayBe 0 0 false [.ref b0, .int x1] h (tt_ret (some (.int ρ.1)) ρ.2) := by
  refine tt_M.of0 (cc := cX9_mayBe) (maxL := 4) (ret := (some .int)) (by decide +kernel) rfl (Nat.le_of_ble_eq_true rfl) ?_
  intro p e s m args below meth c D ca ad n0 sz hwf hsz X hini
  unfold s_X9_mayBe at hs
  have t_34 : ∀ (fu : Nat) (b0 : Nat) (x1 : Int32) (x2 : Int32) (x3 : Int32) (h : tt_H), s_X9_mayBe_L34 fu b0 x1 x2 x3 h = some ρ → tt_T tt_cl (p, l, e, rm_X9_mayBe, s, m, args, below, meth, c, MQ below (tt_Q tt_cl D ca ad n0 sz false (tt_ret (some (.int ρ.1)) ρ.2)) args s 0 0 (tt_A ad n0 sz), D, ca, tt_A ad n0 sz, 4, some n0) ad 0 0 34 [(0, .ref b0), (1, .int x1), (2, .int x2), (3, .int x3)] [] h := by
    intro fu
    induction fu with
    | zero => intro b0 x1 x2 x3 h hs; exact absurd hs (by rw [s_X9_mayBe_L34]; exact fun q => by cases q)
    | succ n34 ih =>
      intro b0 x1 x2 x3 h hs
      rw [s_X9_mayBe_L34] at hs
      have t_34 := ih
      have t_65 : ∀ (b0 : Nat) (x1 : Int32) (x3 : Int32) (ux0 : Int32) (ux1 : Int32) (h : tt_H), s_X9_mayBe_J65 (s_X9_mayBe_L34 n34) b0 x1 x3 ux0 ux1 h = some ρ → tt_T tt_cl (p, l, e, rm_X9_mayBe, s, m, args, below, meth, c, MQ below (tt_Q tt_cl D ca ad n0 sz false (tt_ret (some (.int ρ.1)) ρ.2)) args s 0 0 (tt_A ad n0 sz), D, ca, tt_A ad n0 sz, 4, some n0) ad 0 0 65 [(0, .ref b0), (1, .int x1), (3, .int x3)] [.int ux1, .int ux0] h := by
        intro b0 x1 x3 ux0 ux1 h hs
        unfold s_X9_mayBe_J65 at hs
        refine tt_ior X dX9_mayBe_65 ?_
        refine tt_istore_n X dX9_mayBe_66 (Nat.le_of_ble_eq_true rfl) ?_
        refine tt_iinc (v := x3 + 1) X dX9_mayBe_67 rfl rfl (Nat.le_of_ble_eq_true rfl) ?_
        refine tt_goto (tgt := 34) X dX9_mayBe_70 (by decide) ?_
        refine tt_drop [0, 1, 2, 3] ?_
        exact t_34 b0 x1 (ux0 ||| ux1) (x3 + 1) h hs
      refine tt_iload_n X dX9_mayBe_34 rfl ?_
      refine tt_aload_n X dX9_mayBe_35 rfl ?_
      obtain ⟨z36, e36, hs⟩ := gg_bind hs
      refine zr_fi X e36 rfl in_X9_mayBe_X9 (by decide) (by decide +kernel) rfl dX9_mayBe_36 ?_
      refine tt_icmp_ge (tgt := 73) X dX9_mayBe_39 (by decide) (fun c39 => ?_) (fun c39 => ?_)
      · rw [if_pos c39] at hs
        refine tt_iload_n X dX9_mayBe_73 rfl ?_
        obtain rfl := Option.some.inj hs
        exact tt_iret X rfl dX9_mayBe_74 ⟨rfl, rfl⟩
      · rw [if_neg c39] at hs
        refine tt_iload_n X dX9_mayBe_42 rfl ?_
        refine tt_aload_n X dX9_mayBe_43 rfl ?_
        refine tt_iload_n X dX9_mayBe_44 rfl ?_
        refine tt_aload_n X dX9_mayBe_45 rfl ?_
        obtain ⟨z46, e46, hs⟩ := gg_bind hs
        refine zr_fi X e46 rfl in_X9_mayBe_X9 (by decide) (by decide +kernel) rfl dX9_mayBe_46 ?_
        refine tt_iconst (v := 1) X dX9_mayBe_49 (by decide) ?_
        refine tt_isub X dX9_mayBe_50 ?_
        refine tt_iload_n X dX9_mayBe_51 rfl ?_
        obtain ⟨o52, f52, hs⟩ := gg_bind hs
        obtain ⟨w52, e52, hs⟩ := gg_bind hs
        refine zr_callV X f52 rfl (c_X9_mayStand l e52) (fun hts => cwV 3 hts gX9_mayBe_X9_mayStand rfl rfl rfl (by decide +kernel) ⟨by decide, by decide⟩) rfl rfl (Nat.le_of_ble_eq_true rfl) dX9_mayBe_52 ⟨Nat.zero_le _, Nat.zero_le _⟩ ?_
        refine tt_if_eq (tgt := 64) X dX9_mayBe_55 (by decide) (fun c55 => ?_) (fun c55 => ?_)
        · rw [if_pos c55] at hs
          refine tt_iconst (v := 0) X dX9_mayBe_64 (by decide) ?_
          refine tt_drop [0, 1, 3] ?_
          exact t_65 b0 x1 x3 x2 0 w52.2 hs
        · rw [if_neg c55] at hs
          refine tt_iconst (v := 1) X dX9_mayBe_58 (by decide) ?_
          refine tt_iload_n X dX9_mayBe_59 rfl ?_
          refine tt_ishl X dX9_mayBe_60 ?_
          refine tt_goto (tgt := 65) X dX9_mayBe_61 (by decide) ?_
          refine tt_drop [0, 1, 3] ?_
          exact t_65 b0 x1 x3 x2 ((1 : Int32) <<< (x3 &&& 31)) w52.2 hs
  refine tt_aload_n X dX9_mayBe_0 rfl ?_
  obtain ⟨z1, e1, hs⟩ := gg_bind hs
  refine zr_fi X e1 rfl in_X9_mayBe_X9 (by decide) (by decide +kernel) rfl dX9_mayBe_1 ?_
  refine tt_if_eq (tgt := 28) X dX9_mayBe_4 (by decide) (fun c4 => ?_) (fun c4 => ?_)
  · rw [if_pos c4] at hs
    refine tt_iconst (v := (-1)) X dX9_mayBe_28 (by decide) ?_
    obtain rfl := Option.some.inj hs
    exact tt_iret X rfl dX9_mayBe_29 ⟨rfl, rfl⟩
  · rw [if_neg c4] at hs
    refine tt_iload_n X dX9_mayBe_7 rfl ?_
    refine tt_iconst (v := 0) X dX9_mayBe_8 (by decide) ?_
    refine tt_aload_n X dX9_mayBe_9 rfl ?_
    obtain ⟨o10, e10, hs⟩ := gg_bind hs
    refine zr_fr X e10 rfl in_X9_mayBe_X9 (by decide) (by decide +kernel) rfl dX9_mayBe_10 ?_
    refine tt_aload_n X dX9_mayBe_13 rfl ?_
    obtain ⟨z14, e14, hs⟩ := gg_bind hs
    refine zr_fi X e14 rfl in_X9_mayBe_X9 (by decide) (by decide +kernel) rfl dX9_mayBe_14 ?_
    refine tt_iconst (v := 1) X dX9_mayBe_17 (by decide) ?_
    refine tt_isub X dX9_mayBe_18 ?_
    obtain ⟨z19, e19, hs⟩ := gg_bind hs
    refine zr_il X e19 dX9_mayBe_19 ?_
    refine tt_iconst (v := 1) X dX9_mayBe_20 (by decide) ?_
    refine tt_isub X dX9_mayBe_21 ?_
    obtain ⟨w22, e22, hs⟩ := gg_bind hs
    refine zr_callS X (c_X9_inside l e22) (fun hts => va_cwS 3 hts gX9_mayBe_X9_inside rfl rfl rfl (by decide +kernel) ⟨by decide, by decide⟩) rfl rfl (Nat.le_of_ble_eq_true rfl) dX9_mayBe_22 ⟨Nat.zero_le _, Nat.zero_le _⟩ ?_
    refine tt_if_ne (tgt := 30) X dX9_mayBe_25 (by decide) (fun c25 => ?_) (fun c25 => ?_)
    · rw [if_neg c25] at hs
      refine tt_iconst (v := 0) X dX9_mayBe_30 (by decide) ?_
      refine tt_istore_n X dX9_mayBe_31 (Nat.le_of_ble_eq_true rfl) ?_
      refine tt_iconst (v := 0) X dX9_mayBe_32 (by decide) ?_
      refine tt_istore_n X dX9_mayBe_33 (Nat.le_of_ble_eq_true rfl) ?_
      refine tt_drop [0, 1, 2, 3] ?_
      exact t_34 1000 b0 x1 0 0 w22.2 hs
    · rw [if_pos c25] at hs
      refine tt_iconst (v := (-1)) X dX9_mayBe_28 (by decide) ?_
      obtain rfl := Option.some.inj hs
      exact tt_iret X rfl dX9_mayBe_29 ⟨rfl, rfl⟩

theorem in_X9_ofDay_X9 : ∀ w ∈ u_ws RX9 TX9 26, w ∈ wsX9_ofDay := by decide +kernel
def s_X9_ofDay (b0 : Nat) (x1 : Int32) (x2 : Int32) (h : tt_H) : Option (Int32 × tt_H) :=
  (gg_obj h b0 9).bind fun _ =>
  (s_X9_isDay b0 x1 h).bind fun w2 =>
  if w2.1 = 0 then
    some ((-1), w2.2)
  else
  (gg_fr w2.2 b0 9 7).bind fun o11 =>
  (gg_il w2.2 o11 x1).bind fun z15 =>
  (s_X9_inside x2 ((-1)) (z15 - 1) w2.2).bind fun w18 =>
  if w18.1 = 0 then
    some ((-1), w18.2)
  else
  if x2 = ((-1)) then
    (gg_fr w18.2 b0 9 7).bind fun o32 =>
    (gg_il w18.2 o32 x1).bind fun z36 =>
    some (z36, w18.2)
  else
  (gg_obj w18.2 b0 9).bind fun _ =>
  (s_X9_wordAt b0 x1 x2 w18.2).bind fun w43 =>
  some (w43.1, w43.2)
abbrev rm_X9_ofDay : Room := { frames := 1, cells := 0, slots := 0, locals := 22 }
set_option maxHeartbeats 4000000 in
set_option maxRecDepth 100000 in
theorem c_X9_ofDay (l : Launch) {b0 : Nat} {x1 : Int32} {x2 : Int32} {h : tt_H} {ρ : Int32 × tt_H} (hs : s_X9_ofDay b0 x1 x2 h = some ρ) : tt_M tt_cl l yX9_ofDay wsX9_ofDay rm_X9_ofDay 0 0 false [.ref b0, .int x1, .int x2] h (tt_ret (some (.int ρ.1)) ρ.2) := by
  refine tt_M.of0 (cc := cX9_ofDay) (maxL := 3) (ret := (some .int)) (by decide +kernel) rfl (Nat.le_of_ble_eq_true rfl) ?_
  intro p e s m args below meth c D ca ad n0 sz hwf hsz X hini
  unfold s_X9_ofDay at hs
  refine tt_aload_n X dX9_ofDay_0 rfl ?_
  refine tt_iload_n X dX9_ofDay_1 rfl ?_
  obtain ⟨o2, f2, hs⟩ := gg_bind hs
  obtain ⟨w2, e2, hs⟩ := gg_bind hs
  refine zr_callV X f2 rfl (c_X9_isDay l e2) (fun hts => cwV 1 hts gX9_ofDay_X9_isDay rfl rfl rfl (by decide +kernel) ⟨by decide, by decide⟩) rfl rfl (Nat.le_of_ble_eq_true rfl) dX9_ofDay_2 ⟨Nat.zero_le _, Nat.zero_le _⟩ ?_
  refine tt_if_eq (tgt := 24) X dX9_ofDay_5 (by decide) (fun c5 => ?_) (fun c5 => ?_)
  · rw [if_pos c5] at hs
    refine tt_iconst (v := (-1)) X dX9_ofDay_24 (by decide) ?_
    obtain rfl := Option.some.inj hs
    exact tt_iret X rfl dX9_ofDay_25 ⟨rfl, rfl⟩
  · rw [if_neg c5] at hs
    refine tt_iload_n X dX9_ofDay_8 rfl ?_
    refine tt_iconst (v := (-1)) X dX9_ofDay_9 (by decide) ?_
    refine tt_aload_n X dX9_ofDay_10 rfl ?_
    obtain ⟨o11, e11, hs⟩ := gg_bind hs
    refine zr_fr X e11 rfl in_X9_ofDay_X9 (by decide) (by decide +kernel) rfl dX9_ofDay_11 ?_
    refine tt_iload_n X dX9_ofDay_14 rfl ?_
    obtain ⟨z15, e15, hs⟩ := gg_bind hs
    refine zr_il X e15 dX9_ofDay_15 ?_
    refine tt_iconst (v := 1) X dX9_ofDay_16 (by decide) ?_
    refine tt_isub X dX9_ofDay_17 ?_
    obtain ⟨w18, e18, hs⟩ := gg_bind hs
    refine zr_callS X (c_X9_inside l e18) (fun hts => va_cwS 3 hts gX9_ofDay_X9_inside rfl rfl rfl (by decide +kernel) ⟨by decide, by decide⟩) rfl rfl (Nat.le_of_ble_eq_true rfl) dX9_ofDay_18 ⟨Nat.zero_le _, Nat.zero_le _⟩ ?_
    refine tt_if_ne (tgt := 26) X dX9_ofDay_21 (by decide) (fun c21 => ?_) (fun c21 => ?_)
    · rw [if_neg c21] at hs
      refine tt_iload_n X dX9_ofDay_26 rfl ?_
      refine tt_iconst (v := (-1)) X dX9_ofDay_27 (by decide) ?_
      refine tt_icmp_ne (tgt := 40) X dX9_ofDay_28 (by decide) (fun c28 => ?_) (fun c28 => ?_)
      · rw [if_neg c28] at hs
        refine tt_aload_n X dX9_ofDay_40 rfl ?_
        refine tt_iload_n X dX9_ofDay_41 rfl ?_
        refine tt_iload_n X dX9_ofDay_42 rfl ?_
        obtain ⟨o43, f43, hs⟩ := gg_bind hs
        obtain ⟨w43, e43, hs⟩ := gg_bind hs
        refine zr_callV X f43 rfl (c_X9_wordAt l e43) (fun hts => cwV 2 hts gX9_ofDay_X9_wordAt rfl rfl rfl (by decide +kernel) ⟨by decide, by decide⟩) rfl rfl (Nat.le_of_ble_eq_true rfl) dX9_ofDay_43 ⟨Nat.zero_le _, Nat.zero_le _⟩ ?_
        obtain rfl := Option.some.inj hs
        exact tt_iret X rfl dX9_ofDay_46 ⟨rfl, rfl⟩
      · rw [if_pos c28] at hs
        refine tt_aload_n X dX9_ofDay_31 rfl ?_
        obtain ⟨o32, e32, hs⟩ := gg_bind hs
        refine zr_fr X e32 rfl in_X9_ofDay_X9 (by decide) (by decide +kernel) rfl dX9_ofDay_32 ?_
        refine tt_iload_n X dX9_ofDay_35 rfl ?_
        obtain ⟨z36, e36, hs⟩ := gg_bind hs
        refine zr_il X e36 dX9_ofDay_36 ?_
        refine tt_goto (tgt := 46) X dX9_ofDay_37 (by decide) ?_
        obtain rfl := Option.some.inj hs
        exact tt_iret X rfl dX9_ofDay_46 ⟨rfl, rfl⟩
    · rw [if_pos c21] at hs
      refine tt_iconst (v := (-1)) X dX9_ofDay_24 (by decide) ?_
      obtain rfl := Option.some.inj hs
      exact tt_iret X rfl dX9_ofDay_25 ⟨rfl, rfl⟩

theorem in_X9_once_X9 : ∀ w ∈ u_ws RX9 TX9 26, w ∈ wsX9_once := by decide +kernel
def s_X9_once_J92 (κ54 : Nat → Int32 → Int32 → Int32 → Int32 → Int32 → Int32 → Int32 → tt_H → Option (Int32 × tt_H)) (b0 : Nat) (x1 : Int32) (x2 : Int32) (x3 : Int32) (x4 : Int32) (x5 : Int32) (x6 : Int32) (x7 : Int32) (h : tt_H) : Option (Int32 × tt_H) :=
  κ54 b0 x1 x2 x3 x4 x5 x6 (x7 + 1) h
def s_X9_once_L54 (κ40 : Nat → Int32 → Int32 → Int32 → Int32 → Int32 → Int32 → tt_H → Option (Int32 × tt_H)) : Nat → Nat → Int32 → Int32 → Int32 → Int32 → Int32 → Int32 → Int32 → tt_H → Option (Int32 × tt_H)
  | 0, _, _, _, _, _, _, _, _, _ => none
  | n + 1, b0, x1, x2, x3, x4, x5, x6, x7, h =>
    (gg_fr h b0 9 7).bind fun o57 =>
    (gg_il h o57 x2).bind fun z61 =>
    if z61 ≤ x7 then
      κ40 b0 x1 x2 x3 x4 x5 (x6 + 1) h
    else
    (gg_obj h b0 9).bind fun _ =>
    (s_X9_alikeFrom b0 x1 x6 x2 x7 h).bind fun w72 =>
    if w72.1 ≤ x4 then
      s_X9_once_J92 (s_X9_once_L54 κ40 n) b0 x1 x2 x3 x4 x5 x6 x7 w72.2
    else
    s_X9_once_J92 (s_X9_once_L54 κ40 n) b0 x1 x2 x3 w72.1 x6 x6 x7 w72.2
def s_X9_once_L40 : Nat → Nat → Int32 → Int32 → Int32 → Int32 → Int32 → Int32 → tt_H → Option (Int32 × tt_H)
  | 0, _, _, _, _, _, _, _, _ => none
  | n + 1, b0, x1, x2, x3, x4, x5, x6, h =>
    (gg_fr h b0 9 7).bind fun o43 =>
    (gg_il h o43 x1).bind fun z47 =>
    if z47 ≤ x6 then
      if x3 = 0 then
        some (x4, h)
      else
      some (x5, h)
    else
    s_X9_once_L54 (s_X9_once_L40 n) 1000 b0 x1 x2 x3 x4 x5 x6 0 h
def s_X9_once (b0 : Nat) (x1 : Int32) (x2 : Int32) (x3 : Int32) (h : tt_H) : Option (Int32 × tt_H) :=
  (gg_obj h b0 9).bind fun _ =>
  (s_X9_isDay b0 x1 h).bind fun w2 =>
  if w2.1 = 0 then
    some ((-1), w2.2)
  else
  (gg_obj w2.2 b0 9).bind fun _ =>
  (s_X9_isDay b0 x2 w2.2).bind fun w10 =>
  if w10.1 = 0 then
    some ((-1), w10.2)
  else
  (s_X9_inside x3 0 1 w10.2).bind fun w21 =>
  if w21.1 = 0 then
    some ((-2), w21.2)
  else
  s_X9_once_L40 1000 b0 x1 x2 x3 0 ((-9)) 0 w21.2
abbrev rm_X9_once : Room := { frames := 2, cells := 0, slots := 0, locals := 47 }
set_option maxHeartbeats 4000000 in
set_option maxRecDepth 100000 in
theorem c_X9_once (l : Launch) {b0 : Nat} {x1 : Int32} {x2 : Int32} {x3 : Int32} {h : tt_H} {ρ : Int32 × tt_H} (hs : s_X9_once b0 x1 x2 x3 h = some ρ) : tt_M tt_cl l yX9_once wsX9_once rm_X9_once 0 0 false [.ref b0, .int x1, .int x2, .int x3] h (tt_ret (some (.int ρ.1)) ρ.2) := by
  refine tt_M.of0 (cc := cX9_once) (maxL := 9) (ret := (some .int)) (by decide +kernel) rfl (Nat.le_of_ble_eq_true rfl) ?_
  intro p e s m args below meth c D ca ad n0 sz hwf hsz X hini
  unfold s_X9_once at hs
  have t_40 : ∀ (fu : Nat) (b0 : Nat) (x1 : Int32) (x2 : Int32) (x3 : Int32) (x4 : Int32) (x5 : Int32) (x6 : Int32) (h : tt_H), s_X9_once_L40 fu b0 x1 x2 x3 x4 x5 x6 h = some ρ → tt_T tt_cl (p, l, e, rm_X9_once, s, m, args, below, meth, c, MQ below (tt_Q tt_cl D ca ad n0 sz false (tt_ret (some (.int ρ.1)) ρ.2)) args s 0 0 (tt_A ad n0 sz), D, ca, tt_A ad n0 sz, 9, some n0) ad 0 0 40 [(0, .ref b0), (1, .int x1), (2, .int x2), (3, .int x3), (4, .int x4), (5, .int x5), (6, .int x6)] [] h := by
    intro fu
    induction fu with
    | zero => intro b0 x1 x2 x3 x4 x5 x6 h hs; exact absurd hs (by rw [s_X9_once_L40]; exact fun q => by cases q)
    | succ n40 ih =>
      intro b0 x1 x2 x3 x4 x5 x6 h hs
      rw [s_X9_once_L40] at hs
      have t_40 := ih
      have t_54 : ∀ (fu : Nat) (b0 : Nat) (x1 : Int32) (x2 : Int32) (x3 : Int32) (x4 : Int32) (x5 : Int32) (x6 : Int32) (x7 : Int32) (h : tt_H), s_X9_once_L54 (s_X9_once_L40 n40) fu b0 x1 x2 x3 x4 x5 x6 x7 h = some ρ → tt_T tt_cl (p, l, e, rm_X9_once, s, m, args, below, meth, c, MQ below (tt_Q tt_cl D ca ad n0 sz false (tt_ret (some (.int ρ.1)) ρ.2)) args s 0 0 (tt_A ad n0 sz), D, ca, tt_A ad n0 sz, 9, some n0) ad 0 0 54 [(0, .ref b0), (1, .int x1), (2, .int x2), (3, .int x3), (4, .int x4), (5, .int x5), (6, .int x6), (7, .int x7)] [] h := by
        intro fu
        induction fu with
        | zero => intro b0 x1 x2 x3 x4 x5 x6 x7 h hs; exact absurd hs (by rw [s_X9_once_L54]; exact fun q => by cases q)
        | succ n54 ih =>
          intro b0 x1 x2 x3 x4 x5 x6 x7 h hs
          rw [s_X9_once_L54] at hs
          have t_54 := ih
          have t_92 : ∀ (b0 : Nat) (x1 : Int32) (x2 : Int32) (x3 : Int32) (x4 : Int32) (x5 : Int32) (x6 : Int32) (x7 : Int32) (h : tt_H), s_X9_once_J92 (s_X9_once_L54 (s_X9_once_L40 n40) n54) b0 x1 x2 x3 x4 x5 x6 x7 h = some ρ → tt_T tt_cl (p, l, e, rm_X9_once, s, m, args, below, meth, c, MQ below (tt_Q tt_cl D ca ad n0 sz false (tt_ret (some (.int ρ.1)) ρ.2)) args s 0 0 (tt_A ad n0 sz), D, ca, tt_A ad n0 sz, 9, some n0) ad 0 0 92 [(0, .ref b0), (1, .int x1), (2, .int x2), (3, .int x3), (4, .int x4), (5, .int x5), (6, .int x6), (7, .int x7)] [] h := by
            intro b0 x1 x2 x3 x4 x5 x6 x7 h hs
            unfold s_X9_once_J92 at hs
            refine tt_iinc (v := x7 + 1) X dX9_once_92 rfl rfl (Nat.le_of_ble_eq_true rfl) ?_
            refine tt_goto (tgt := 54) X dX9_once_95 (by decide) ?_
            refine tt_drop [0, 1, 2, 3, 4, 5, 6, 7] ?_
            exact t_54 b0 x1 x2 x3 x4 x5 x6 (x7 + 1) h hs
          refine tt_iload X dX9_once_54 rfl ?_
          refine tt_aload_n X dX9_once_56 rfl ?_
          obtain ⟨o57, e57, hs⟩ := gg_bind hs
          refine zr_fr X e57 rfl in_X9_once_X9 (by decide) (by decide +kernel) rfl dX9_once_57 ?_
          refine tt_iload_n X dX9_once_60 rfl ?_
          obtain ⟨z61, e61, hs⟩ := gg_bind hs
          refine zr_il X e61 dX9_once_61 ?_
          refine tt_icmp_ge (tgt := 98) X dX9_once_62 (by decide) (fun c62 => ?_) (fun c62 => ?_)
          · rw [if_pos c62] at hs
            refine tt_iinc (v := x6 + 1) X dX9_once_98 rfl rfl (Nat.le_of_ble_eq_true rfl) ?_
            refine tt_goto (tgt := 40) X dX9_once_101 (by decide) ?_
            refine tt_drop [0, 1, 2, 3, 4, 5, 6] ?_
            exact t_40 b0 x1 x2 x3 x4 x5 (x6 + 1) h hs
          · rw [if_neg c62] at hs
            refine tt_aload_n X dX9_once_65 rfl ?_
            refine tt_iload_n X dX9_once_66 rfl ?_
            refine tt_iload X dX9_once_67 rfl ?_
            refine tt_iload_n X dX9_once_69 rfl ?_
            refine tt_iload X dX9_once_70 rfl ?_
            obtain ⟨o72, f72, hs⟩ := gg_bind hs
            obtain ⟨w72, e72, hs⟩ := gg_bind hs
            refine zr_callV X f72 rfl (c_X9_alikeFrom l e72) (fun hts => cwV 4 hts gX9_once_X9_alikeFrom rfl rfl rfl (by decide +kernel) ⟨by decide, by decide⟩) rfl rfl (Nat.le_of_ble_eq_true rfl) dX9_once_72 ⟨Nat.zero_le _, Nat.zero_le _⟩ ?_
            refine tt_istore X dX9_once_75 (Nat.le_of_ble_eq_true rfl) ?_
            refine tt_iload X dX9_once_77 rfl ?_
            refine tt_iload X dX9_once_79 rfl ?_
            refine tt_icmp_le (tgt := 92) X dX9_once_81 (by decide) (fun c81 => ?_) (fun c81 => ?_)
            · rw [if_pos c81] at hs
              refine tt_drop [0, 1, 2, 3, 4, 5, 6, 7] ?_
              exact t_92 b0 x1 x2 x3 x4 x5 x6 x7 w72.2 hs
            · rw [if_neg c81] at hs
              refine tt_iload X dX9_once_84 rfl ?_
              refine tt_istore X dX9_once_86 (Nat.le_of_ble_eq_true rfl) ?_
              refine tt_iload X dX9_once_88 rfl ?_
              refine tt_istore X dX9_once_90 (Nat.le_of_ble_eq_true rfl) ?_
              refine tt_drop [0, 1, 2, 3, 4, 5, 6, 7] ?_
              exact t_92 b0 x1 x2 x3 w72.1 x6 x6 x7 w72.2 hs
      refine tt_iload X dX9_once_40 rfl ?_
      refine tt_aload_n X dX9_once_42 rfl ?_
      obtain ⟨o43, e43, hs⟩ := gg_bind hs
      refine zr_fr X e43 rfl in_X9_once_X9 (by decide) (by decide +kernel) rfl dX9_once_43 ?_
      refine tt_iload_n X dX9_once_46 rfl ?_
      obtain ⟨z47, e47, hs⟩ := gg_bind hs
      refine zr_il X e47 dX9_once_47 ?_
      refine tt_icmp_ge (tgt := 104) X dX9_once_48 (by decide) (fun c48 => ?_) (fun c48 => ?_)
      · rw [if_pos c48] at hs
        refine tt_iload_n X dX9_once_104 rfl ?_
        refine tt_if_ne (tgt := 113) X dX9_once_105 (by decide) (fun c105 => ?_) (fun c105 => ?_)
        · rw [if_neg c105] at hs
          refine tt_iload X dX9_once_113 rfl ?_
          obtain rfl := Option.some.inj hs
          exact tt_iret X rfl dX9_once_115 ⟨rfl, rfl⟩
        · rw [if_pos c105] at hs
          refine tt_iload X dX9_once_108 rfl ?_
          refine tt_goto (tgt := 115) X dX9_once_110 (by decide) ?_
          obtain rfl := Option.some.inj hs
          exact tt_iret X rfl dX9_once_115 ⟨rfl, rfl⟩
      · rw [if_neg c48] at hs
        refine tt_iconst (v := 0) X dX9_once_51 (by decide) ?_
        refine tt_istore X dX9_once_52 (Nat.le_of_ble_eq_true rfl) ?_
        refine tt_drop [0, 1, 2, 3, 4, 5, 6, 7] ?_
        exact t_54 1000 b0 x1 x2 x3 x4 x5 x6 0 h hs
  refine tt_aload_n X dX9_once_0 rfl ?_
  refine tt_iload_n X dX9_once_1 rfl ?_
  obtain ⟨o2, f2, hs⟩ := gg_bind hs
  obtain ⟨w2, e2, hs⟩ := gg_bind hs
  refine zr_callV X f2 rfl (c_X9_isDay l e2) (fun hts => cwV 1 hts gX9_once_X9_isDay rfl rfl rfl (by decide +kernel) ⟨by decide, by decide⟩) rfl rfl (Nat.le_of_ble_eq_true rfl) dX9_once_2 ⟨Nat.zero_le _, Nat.zero_le _⟩ ?_
  refine tt_if_eq (tgt := 16) X dX9_once_5 (by decide) (fun c5 => ?_) (fun c5 => ?_)
  · rw [if_pos c5] at hs
    refine tt_iconst (v := (-1)) X dX9_once_16 (by decide) ?_
    obtain rfl := Option.some.inj hs
    exact tt_iret X rfl dX9_once_17 ⟨rfl, rfl⟩
  · rw [if_neg c5] at hs
    refine tt_aload_n X dX9_once_8 rfl ?_
    refine tt_iload_n X dX9_once_9 rfl ?_
    obtain ⟨o10, f10, hs⟩ := gg_bind hs
    obtain ⟨w10, e10, hs⟩ := gg_bind hs
    refine zr_callV X f10 rfl (c_X9_isDay l e10) (fun hts => cwV 1 hts gX9_once_X9_isDay rfl rfl rfl (by decide +kernel) ⟨by decide, by decide⟩) rfl rfl (Nat.le_of_ble_eq_true rfl) dX9_once_10 ⟨Nat.zero_le _, Nat.zero_le _⟩ ?_
    refine tt_if_ne (tgt := 18) X dX9_once_13 (by decide) (fun c13 => ?_) (fun c13 => ?_)
    · rw [if_neg c13] at hs
      refine tt_iload_n X dX9_once_18 rfl ?_
      refine tt_iconst (v := 0) X dX9_once_19 (by decide) ?_
      refine tt_iconst (v := 1) X dX9_once_20 (by decide) ?_
      obtain ⟨w21, e21, hs⟩ := gg_bind hs
      refine zr_callS X (c_X9_inside l e21) (fun hts => va_cwS 3 hts gX9_once_X9_inside rfl rfl rfl (by decide +kernel) ⟨by decide, by decide⟩) rfl rfl (Nat.le_of_ble_eq_true rfl) dX9_once_21 ⟨Nat.zero_le _, Nat.zero_le _⟩ ?_
      refine tt_if_ne (tgt := 30) X dX9_once_24 (by decide) (fun c24 => ?_) (fun c24 => ?_)
      · rw [if_neg c24] at hs
        refine tt_iconst (v := 0) X dX9_once_30 (by decide) ?_
        refine tt_istore X dX9_once_31 (Nat.le_of_ble_eq_true rfl) ?_
        refine tt_bipush (v := (-9)) X dX9_once_33 (by decide) ?_
        refine tt_istore X dX9_once_35 (Nat.le_of_ble_eq_true rfl) ?_
        refine tt_iconst (v := 0) X dX9_once_37 (by decide) ?_
        refine tt_istore X dX9_once_38 (Nat.le_of_ble_eq_true rfl) ?_
        refine tt_drop [0, 1, 2, 3, 4, 5, 6] ?_
        exact t_40 1000 b0 x1 x2 x3 0 ((-9)) 0 w21.2 hs
      · rw [if_pos c24] at hs
        refine tt_bipush (v := (-2)) X dX9_once_27 (by decide) ?_
        obtain rfl := Option.some.inj hs
        exact tt_iret X rfl dX9_once_29 ⟨rfl, rfl⟩
    · rw [if_pos c13] at hs
      refine tt_iconst (v := (-1)) X dX9_once_16 (by decide) ?_
      obtain rfl := Option.some.inj hs
      exact tt_iret X rfl dX9_once_17 ⟨rfl, rfl⟩

theorem in_X9_place_X9 : ∀ w ∈ u_ws RX9 TX9 26, w ∈ wsX9_place := by decide +kernel
def s_X9_place (b0 : Nat) (x1 : Int32) (x2 : Int32) (x3 : Int32) (x4 : Int32) (h : tt_H) : Option (Int32 × tt_H) :=
  (gg_obj h b0 9).bind fun _ =>
  (s_X9_isDay b0 x1 h).bind fun w2 =>
  if w2.1 = 0 then
    some ((-1), w2.2)
  else
  (gg_obj w2.2 b0 9).bind fun _ =>
  (s_X9_isDay b0 x2 w2.2).bind fun w10 =>
  if w10.1 = 0 then
    some ((-1), w10.2)
  else
  (gg_fr w10.2 b0 9 7).bind fun o19 =>
  (gg_il w10.2 o19 x1).bind fun z23 =>
  (s_X9_inside x3 0 (z23 - 1) w10.2).bind fun w26 =>
  if w26.1 = 0 then
    some ((-1), w26.2)
  else
  (s_X9_inside x4 0 1 w26.2).bind fun w38 =>
  if w38.1 = 0 then
    some ((-2), w38.2)
  else
  (gg_obj w38.2 b0 9).bind fun _ =>
  (s_X9_isWithin b0 x1 x2 w38.2).bind fun w50 =>
  if w50.1 = 0 then
    some ((-9), w50.2)
  else
  if x4 = 0 then
    (gg_fr w50.2 b0 9 13).bind fun o67 =>
    (gg_il w50.2 o67 x3).bind fun z71 =>
    some (z71, w50.2)
  else
  (gg_fr w50.2 b0 9 14).bind fun o76 =>
  (gg_il w50.2 o76 x3).bind fun z80 =>
  some (z80, w50.2)
abbrev rm_X9_place : Room := { frames := 2, cells := 0, slots := 0, locals := 46 }
set_option maxHeartbeats 4000000 in
set_option maxRecDepth 100000 in
theorem c_X9_place (l : Launch) {b0 : Nat} {x1 : Int32} {x2 : Int32} {x3 : Int32} {x4 : Int32} {h : tt_H} {ρ : Int32 × tt_H} (hs : s_X9_place b0 x1 x2 x3 x4 h = some ρ) : tt_M tt_cl l yX9_place wsX9_place rm_X9_place 0 0 false [.ref b0, .int x1, .int x2, .int x3, .int x4] h (tt_ret (some (.int ρ.1)) ρ.2) := by
  refine tt_M.of0 (cc := cX9_place) (maxL := 5) (ret := (some .int)) (by decide +kernel) rfl (Nat.le_of_ble_eq_true rfl) ?_
  intro p e s m args below meth c D ca ad n0 sz hwf hsz X hini
  unfold s_X9_place at hs
  refine tt_aload_n X dX9_place_0 rfl ?_
  refine tt_iload_n X dX9_place_1 rfl ?_
  obtain ⟨o2, f2, hs⟩ := gg_bind hs
  obtain ⟨w2, e2, hs⟩ := gg_bind hs
  refine zr_callV X f2 rfl (c_X9_isDay l e2) (fun hts => cwV 1 hts gX9_place_X9_isDay rfl rfl rfl (by decide +kernel) ⟨by decide, by decide⟩) rfl rfl (Nat.le_of_ble_eq_true rfl) dX9_place_2 ⟨Nat.zero_le _, Nat.zero_le _⟩ ?_
  refine tt_if_eq (tgt := 32) X dX9_place_5 (by decide) (fun c5 => ?_) (fun c5 => ?_)
  · rw [if_pos c5] at hs
    refine tt_iconst (v := (-1)) X dX9_place_32 (by decide) ?_
    obtain rfl := Option.some.inj hs
    exact tt_iret X rfl dX9_place_33 ⟨rfl, rfl⟩
  · rw [if_neg c5] at hs
    refine tt_aload_n X dX9_place_8 rfl ?_
    refine tt_iload_n X dX9_place_9 rfl ?_
    obtain ⟨o10, f10, hs⟩ := gg_bind hs
    obtain ⟨w10, e10, hs⟩ := gg_bind hs
    refine zr_callV X f10 rfl (c_X9_isDay l e10) (fun hts => cwV 1 hts gX9_place_X9_isDay rfl rfl rfl (by decide +kernel) ⟨by decide, by decide⟩) rfl rfl (Nat.le_of_ble_eq_true rfl) dX9_place_10 ⟨Nat.zero_le _, Nat.zero_le _⟩ ?_
    refine tt_if_eq (tgt := 32) X dX9_place_13 (by decide) (fun c13 => ?_) (fun c13 => ?_)
    · rw [if_pos c13] at hs
      refine tt_iconst (v := (-1)) X dX9_place_32 (by decide) ?_
      obtain rfl := Option.some.inj hs
      exact tt_iret X rfl dX9_place_33 ⟨rfl, rfl⟩
    · rw [if_neg c13] at hs
      refine tt_iload_n X dX9_place_16 rfl ?_
      refine tt_iconst (v := 0) X dX9_place_17 (by decide) ?_
      refine tt_aload_n X dX9_place_18 rfl ?_
      obtain ⟨o19, e19, hs⟩ := gg_bind hs
      refine zr_fr X e19 rfl in_X9_place_X9 (by decide) (by decide +kernel) rfl dX9_place_19 ?_
      refine tt_iload_n X dX9_place_22 rfl ?_
      obtain ⟨z23, e23, hs⟩ := gg_bind hs
      refine zr_il X e23 dX9_place_23 ?_
      refine tt_iconst (v := 1) X dX9_place_24 (by decide) ?_
      refine tt_isub X dX9_place_25 ?_
      obtain ⟨w26, e26, hs⟩ := gg_bind hs
      refine zr_callS X (c_X9_inside l e26) (fun hts => va_cwS 3 hts gX9_place_X9_inside rfl rfl rfl (by decide +kernel) ⟨by decide, by decide⟩) rfl rfl (Nat.le_of_ble_eq_true rfl) dX9_place_26 ⟨Nat.zero_le _, Nat.zero_le _⟩ ?_
      refine tt_if_ne (tgt := 34) X dX9_place_29 (by decide) (fun c29 => ?_) (fun c29 => ?_)
      · rw [if_neg c29] at hs
        refine tt_iload X dX9_place_34 rfl ?_
        refine tt_iconst (v := 0) X dX9_place_36 (by decide) ?_
        refine tt_iconst (v := 1) X dX9_place_37 (by decide) ?_
        obtain ⟨w38, e38, hs⟩ := gg_bind hs
        refine zr_callS X (c_X9_inside l e38) (fun hts => va_cwS 3 hts gX9_place_X9_inside rfl rfl rfl (by decide +kernel) ⟨by decide, by decide⟩) rfl rfl (Nat.le_of_ble_eq_true rfl) dX9_place_38 ⟨Nat.zero_le _, Nat.zero_le _⟩ ?_
        refine tt_if_ne (tgt := 47) X dX9_place_41 (by decide) (fun c41 => ?_) (fun c41 => ?_)
        · rw [if_neg c41] at hs
          refine tt_aload_n X dX9_place_47 rfl ?_
          refine tt_iload_n X dX9_place_48 rfl ?_
          refine tt_iload_n X dX9_place_49 rfl ?_
          obtain ⟨o50, f50, hs⟩ := gg_bind hs
          obtain ⟨w50, e50, hs⟩ := gg_bind hs
          refine zr_callV X f50 rfl (c_X9_isWithin l e50) (fun hts => cwV 2 hts gX9_place_X9_isWithin rfl rfl rfl (by decide +kernel) ⟨by decide, by decide⟩) rfl rfl (Nat.le_of_ble_eq_true rfl) dX9_place_50 ⟨Nat.zero_le _, Nat.zero_le _⟩ ?_
          refine tt_if_ne (tgt := 61) X dX9_place_53 (by decide) (fun c53 => ?_) (fun c53 => ?_)
          · rw [if_neg c53] at hs
            refine tt_iload X dX9_place_61 rfl ?_
            refine tt_if_ne (tgt := 75) X dX9_place_63 (by decide) (fun c63 => ?_) (fun c63 => ?_)
            · rw [if_neg c63] at hs
              refine tt_aload_n X dX9_place_75 rfl ?_
              obtain ⟨o76, e76, hs⟩ := gg_bind hs
              refine zr_fr X e76 rfl in_X9_place_X9 (by decide) (by decide +kernel) rfl dX9_place_76 ?_
              refine tt_iload_n X dX9_place_79 rfl ?_
              obtain ⟨z80, e80, hs⟩ := gg_bind hs
              refine zr_il X e80 dX9_place_80 ?_
              obtain rfl := Option.some.inj hs
              exact tt_iret X rfl dX9_place_81 ⟨rfl, rfl⟩
            · rw [if_pos c63] at hs
              refine tt_aload_n X dX9_place_66 rfl ?_
              obtain ⟨o67, e67, hs⟩ := gg_bind hs
              refine zr_fr X e67 rfl in_X9_place_X9 (by decide) (by decide +kernel) rfl dX9_place_67 ?_
              refine tt_iload_n X dX9_place_70 rfl ?_
              obtain ⟨z71, e71, hs⟩ := gg_bind hs
              refine zr_il X e71 dX9_place_71 ?_
              refine tt_goto (tgt := 81) X dX9_place_72 (by decide) ?_
              obtain rfl := Option.some.inj hs
              exact tt_iret X rfl dX9_place_81 ⟨rfl, rfl⟩
          · rw [if_pos c53] at hs
            refine tt_bipush (v := (-9)) X dX9_place_56 (by decide) ?_
            refine tt_goto (tgt := 81) X dX9_place_58 (by decide) ?_
            obtain rfl := Option.some.inj hs
            exact tt_iret X rfl dX9_place_81 ⟨rfl, rfl⟩
        · rw [if_pos c41] at hs
          refine tt_bipush (v := (-2)) X dX9_place_44 (by decide) ?_
          obtain rfl := Option.some.inj hs
          exact tt_iret X rfl dX9_place_46 ⟨rfl, rfl⟩
      · rw [if_pos c29] at hs
        refine tt_iconst (v := (-1)) X dX9_place_32 (by decide) ?_
        obtain rfl := Option.some.inj hs
        exact tt_iret X rfl dX9_place_33 ⟨rfl, rfl⟩

theorem in_X9_put_X9 : ∀ w ∈ u_ws RX9 TX9 26, w ∈ wsX9_put := by decide +kernel
def s_X9_put (b0 : Nat) (x1 : Int32) (x2 : Int32) (x3 : Int32) (h : tt_H) : Option (Int32 × tt_H) :=
  (gg_put h b0 9 0 (.int 0)).bind fun h2 =>
  (s_X9_isSheet x1 h2).bind fun w6 =>
  if w6.1 = 0 then
    some ((-1), w6.2)
  else
  (gg_fr w6.2 b0 9 2).bind fun o15 =>
  (gg_il w6.2 o15 x1).bind fun z19 =>
  if z19 = ((-9)) then
    (gg_obj w6.2 b0 9).bind fun _ =>
    (s_X9_fails b0 1 w6.2).bind fun w27 =>
    some (w27.1, w27.2)
  else
  (gg_fr w6.2 b0 9 3).bind fun o34 =>
  (gg_il w6.2 o34 x1).bind fun z38 =>
  (s_X9_inside x2 0 (z38 - 1) w6.2).bind fun w41 =>
  if w41.1 = 0 then
    (gg_obj w41.2 b0 9).bind fun _ =>
    (s_X9_fails b0 3 w41.2).bind fun w49 =>
    some (w49.1, w49.2)
  else
  (gg_fr w41.2 b0 9 4).bind fun o54 =>
  (gg_fr w41.2 b0 9 2).bind fun o64 =>
  (gg_il w41.2 o64 x1).bind fun z68 =>
  if z68 = 0 then
    (gg_is w41.2 o54 ((80 * x1) + x2) x3.toInt8.toInt32).bind fun h93 =>
    some (1, h93)
  else
  (gg_fr w41.2 b0 9 2).bind fun o78 =>
  (gg_il w41.2 o78 x1).bind fun z82 =>
  if z82 = 1 then
    (gg_is w41.2 o54 ((80 * x1) + x2) x3.toInt16.toInt32).bind fun h93 =>
    some (1, h93)
  else
  (gg_is w41.2 o54 ((80 * x1) + x2) x3).bind fun h93 =>
  some (1, h93)
abbrev rm_X9_put : Room := { frames := 2, cells := 0, slots := 0, locals := 42 }
set_option maxHeartbeats 4000000 in
set_option maxRecDepth 100000 in
theorem c_X9_put (l : Launch) {b0 : Nat} {x1 : Int32} {x2 : Int32} {x3 : Int32} {h : tt_H} {ρ : Int32 × tt_H} (hs : s_X9_put b0 x1 x2 x3 h = some ρ) : tt_M tt_cl l yX9_put wsX9_put rm_X9_put 0 0 false [.ref b0, .int x1, .int x2, .int x3] h (tt_ret (some (.int ρ.1)) ρ.2) := by
  refine tt_M.of0 (cc := cX9_put) (maxL := 4) (ret := (some .int)) (by decide +kernel) rfl (Nat.le_of_ble_eq_true rfl) ?_
  intro p e s m args below meth c D ca ad n0 sz hwf hsz X hini
  unfold s_X9_put at hs
  refine tt_aload_n X dX9_put_0 rfl ?_
  refine tt_iconst (v := 0) X dX9_put_1 (by decide) ?_
  obtain ⟨h2, e2, hs⟩ := gg_bind hs
  refine zr_put X e2 rfl in_X9_put_X9 tyX9 tyX9_ok nmX9 (by decide) (by decide +kernel) rfl rfl (fun _ => rfl) (fun _ => rfl) dX9_put_2 ?_
  refine tt_iload_n X dX9_put_5 rfl ?_
  obtain ⟨w6, e6, hs⟩ := gg_bind hs
  refine zr_callS X (c_X9_isSheet l e6) (fun hts => va_cwS 1 hts gX9_put_X9_isSheet rfl rfl rfl (by decide +kernel) ⟨by decide, by decide⟩) rfl rfl (Nat.le_of_ble_eq_true rfl) dX9_put_6 ⟨Nat.zero_le _, Nat.zero_le _⟩ ?_
  refine tt_if_ne (tgt := 14) X dX9_put_9 (by decide) (fun c9 => ?_) (fun c9 => ?_)
  · rw [if_neg c9] at hs
    refine tt_aload_n X dX9_put_14 rfl ?_
    obtain ⟨o15, e15, hs⟩ := gg_bind hs
    refine zr_fr X e15 rfl in_X9_put_X9 (by decide) (by decide +kernel) rfl dX9_put_15 ?_
    refine tt_iload_n X dX9_put_18 rfl ?_
    obtain ⟨z19, e19, hs⟩ := gg_bind hs
    refine zr_il X e19 dX9_put_19 ?_
    refine tt_bipush (v := (-9)) X dX9_put_20 (by decide) ?_
    refine tt_icmp_ne (tgt := 31) X dX9_put_22 (by decide) (fun c22 => ?_) (fun c22 => ?_)
    · rw [if_neg c22] at hs
      refine tt_iload_n X dX9_put_31 rfl ?_
      refine tt_iconst (v := 0) X dX9_put_32 (by decide) ?_
      refine tt_aload_n X dX9_put_33 rfl ?_
      obtain ⟨o34, e34, hs⟩ := gg_bind hs
      refine zr_fr X e34 rfl in_X9_put_X9 (by decide) (by decide +kernel) rfl dX9_put_34 ?_
      refine tt_iload_n X dX9_put_37 rfl ?_
      obtain ⟨z38, e38, hs⟩ := gg_bind hs
      refine zr_il X e38 dX9_put_38 ?_
      refine tt_iconst (v := 1) X dX9_put_39 (by decide) ?_
      refine tt_isub X dX9_put_40 ?_
      obtain ⟨w41, e41, hs⟩ := gg_bind hs
      refine zr_callS X (c_X9_inside l e41) (fun hts => va_cwS 3 hts gX9_put_X9_inside rfl rfl rfl (by decide +kernel) ⟨by decide, by decide⟩) rfl rfl (Nat.le_of_ble_eq_true rfl) dX9_put_41 ⟨Nat.zero_le _, Nat.zero_le _⟩ ?_
      refine tt_if_ne (tgt := 53) X dX9_put_44 (by decide) (fun c44 => ?_) (fun c44 => ?_)
      · rw [if_neg c44] at hs
        refine tt_aload_n X dX9_put_53 rfl ?_
        obtain ⟨o54, e54, hs⟩ := gg_bind hs
        refine zr_fr X e54 rfl in_X9_put_X9 (by decide) (by decide +kernel) rfl dX9_put_54 ?_
        refine tt_bipush (v := 80) X dX9_put_57 (by decide) ?_
        refine tt_iload_n X dX9_put_59 rfl ?_
        refine tt_imul X dX9_put_60 ?_
        refine tt_iload_n X dX9_put_61 rfl ?_
        refine tt_iadd X dX9_put_62 ?_
        refine tt_aload_n X dX9_put_63 rfl ?_
        obtain ⟨o64, e64, hs⟩ := gg_bind hs
        refine zr_fr X e64 rfl in_X9_put_X9 (by decide) (by decide +kernel) rfl dX9_put_64 ?_
        refine tt_iload_n X dX9_put_67 rfl ?_
        obtain ⟨z68, e68, hs⟩ := gg_bind hs
        refine zr_il X e68 dX9_put_68 ?_
        refine tt_if_ne (tgt := 77) X dX9_put_69 (by decide) (fun c69 => ?_) (fun c69 => ?_)
        · rw [if_neg c69] at hs
          refine tt_aload_n X dX9_put_77 rfl ?_
          obtain ⟨o78, e78, hs⟩ := gg_bind hs
          refine zr_fr X e78 rfl in_X9_put_X9 (by decide) (by decide +kernel) rfl dX9_put_78 ?_
          refine tt_iload_n X dX9_put_81 rfl ?_
          obtain ⟨z82, e82, hs⟩ := gg_bind hs
          refine zr_il X e82 dX9_put_82 ?_
          refine tt_iconst (v := 1) X dX9_put_83 (by decide) ?_
          refine tt_icmp_ne (tgt := 92) X dX9_put_84 (by decide) (fun c84 => ?_) (fun c84 => ?_)
          · rw [if_neg c84] at hs
            refine tt_iload_n X dX9_put_92 rfl ?_
            obtain ⟨h93, e93, hs⟩ := gg_bind hs
            refine zr_is X e93 dX9_put_93 ?_
            refine tt_iconst (v := 1) X dX9_put_94 (by decide) ?_
            obtain rfl := Option.some.inj hs
            exact tt_iret X rfl dX9_put_95 ⟨rfl, rfl⟩
          · rw [if_pos c84] at hs
            refine tt_iload_n X dX9_put_87 rfl ?_
            refine tt_i2s X dX9_put_88 ?_
            refine tt_goto (tgt := 93) X dX9_put_89 (by decide) ?_
            obtain ⟨h93, e93, hs⟩ := gg_bind hs
            refine zr_is X e93 dX9_put_93 ?_
            refine tt_iconst (v := 1) X dX9_put_94 (by decide) ?_
            obtain rfl := Option.some.inj hs
            exact tt_iret X rfl dX9_put_95 ⟨rfl, rfl⟩
        · rw [if_pos c69] at hs
          refine tt_iload_n X dX9_put_72 rfl ?_
          refine tt_i2b X dX9_put_73 ?_
          refine tt_goto (tgt := 93) X dX9_put_74 (by decide) ?_
          obtain ⟨h93, e93, hs⟩ := gg_bind hs
          refine zr_is X e93 dX9_put_93 ?_
          refine tt_iconst (v := 1) X dX9_put_94 (by decide) ?_
          obtain rfl := Option.some.inj hs
          exact tt_iret X rfl dX9_put_95 ⟨rfl, rfl⟩
      · rw [if_pos c44] at hs
        refine tt_aload_n X dX9_put_47 rfl ?_
        refine tt_iconst (v := 3) X dX9_put_48 (by decide) ?_
        obtain ⟨o49, f49, hs⟩ := gg_bind hs
        obtain ⟨w49, e49, hs⟩ := gg_bind hs
        refine zr_callV X f49 rfl (c_X9_fails l e49) (fun hts => cwV 1 hts gX9_put_X9_fails rfl rfl rfl (by decide +kernel) ⟨by decide, by decide⟩) rfl rfl (Nat.le_of_ble_eq_true rfl) dX9_put_49 ⟨Nat.zero_le _, Nat.zero_le _⟩ ?_
        obtain rfl := Option.some.inj hs
        exact tt_iret X rfl dX9_put_52 ⟨rfl, rfl⟩
    · rw [if_pos c22] at hs
      refine tt_aload_n X dX9_put_25 rfl ?_
      refine tt_iconst (v := 1) X dX9_put_26 (by decide) ?_
      obtain ⟨o27, f27, hs⟩ := gg_bind hs
      obtain ⟨w27, e27, hs⟩ := gg_bind hs
      refine zr_callV X f27 rfl (c_X9_fails l e27) (fun hts => cwV 1 hts gX9_put_X9_fails rfl rfl rfl (by decide +kernel) ⟨by decide, by decide⟩) rfl rfl (Nat.le_of_ble_eq_true rfl) dX9_put_27 ⟨Nat.zero_le _, Nat.zero_le _⟩ ?_
      obtain rfl := Option.some.inj hs
      exact tt_iret X rfl dX9_put_30 ⟨rfl, rfl⟩
  · rw [if_pos c9] at hs
    refine tt_iconst (v := (-1)) X dX9_put_12 (by decide) ?_
    obtain rfl := Option.some.inj hs
    exact tt_iret X rfl dX9_put_13 ⟨rfl, rfl⟩

theorem in_X9_putIn_X9 : ∀ w ∈ u_ws RX9 TX9 26, w ∈ wsX9_putIn := by decide +kernel
def s_X9_putIn (b0 : Nat) (x1 : Int32) (x2 : Int32) (x3 : Int32) (x4 : Int32) (h : tt_H) : Option (Int32 × tt_H) :=
  (gg_obj h b0 9).bind fun _ =>
  (s_X9_isDay b0 x1 h).bind fun w2 =>
  if w2.1 = 0 then
    some ((-1), w2.2)
  else
  (s_X9_isWord x2 w2.2).bind fun w9 =>
  if w9.1 = 0 then
    some ((-1), w9.2)
  else
  (s_X9_inside x4 ((-1)) 1 w9.2).bind fun w19 =>
  if w19.1 = 0 then
    some ((-1), w19.2)
  else
  (gg_fr w19.2 b0 9 5).bind fun o28 =>
  (gg_il w19.2 o28 x2).bind fun z32 =>
  if z32 = 0 then
    (gg_obj w19.2 b0 9).bind fun _ =>
    (s_X9_findPut b0 x1 x2 x3 w19.2).bind fun w43 =>
    if x4 = ((-1)) then
      (gg_fi w43.2 b0 9 16).bind fun z53 =>
      some (z53, w43.2)
    else
    if x4 = 0 then
      (gg_fi w43.2 b0 9 17).bind fun z65 =>
      some (z65, w43.2)
    else
    (gg_fi w43.2 b0 9 18).bind fun z72 =>
    some (z72, w43.2)
  else
  some ((-3), w19.2)
abbrev rm_X9_putIn : Room := { frames := 4, cells := 0, slots := 0, locals := 102 }
set_option maxHeartbeats 4000000 in
set_option maxRecDepth 100000 in
theorem c_X9_putIn (l : Launch) {b0 : Nat} {x1 : Int32} {x2 : Int32} {x3 : Int32} {x4 : Int32} {h : tt_H} {ρ : Int32 × tt_H} (hs : s_X9_putIn b0 x1 x2 x3 x4 h = some ρ) : tt_M tt_cl l yX9_putIn wsX9_putIn rm_X9_putIn 0 0 false [.ref b0, .int x1, .int x2, .int x3, .int x4] h (tt_ret (some (.int ρ.1)) ρ.2) := by
  refine tt_M.of0 (cc := cX9_putIn) (maxL := 5) (ret := (some .int)) (by decide +kernel) rfl (Nat.le_of_ble_eq_true rfl) ?_
  intro p e s m args below meth c D ca ad n0 sz hwf hsz X hini
  unfold s_X9_putIn at hs
  refine tt_aload_n X dX9_putIn_0 rfl ?_
  refine tt_iload_n X dX9_putIn_1 rfl ?_
  obtain ⟨o2, f2, hs⟩ := gg_bind hs
  obtain ⟨w2, e2, hs⟩ := gg_bind hs
  refine zr_callV X f2 rfl (c_X9_isDay l e2) (fun hts => cwV 1 hts gX9_putIn_X9_isDay rfl rfl rfl (by decide +kernel) ⟨by decide, by decide⟩) rfl rfl (Nat.le_of_ble_eq_true rfl) dX9_putIn_2 ⟨Nat.zero_le _, Nat.zero_le _⟩ ?_
  refine tt_if_eq (tgt := 25) X dX9_putIn_5 (by decide) (fun c5 => ?_) (fun c5 => ?_)
  · rw [if_pos c5] at hs
    refine tt_iconst (v := (-1)) X dX9_putIn_25 (by decide) ?_
    obtain rfl := Option.some.inj hs
    exact tt_iret X rfl dX9_putIn_26 ⟨rfl, rfl⟩
  · rw [if_neg c5] at hs
    refine tt_iload_n X dX9_putIn_8 rfl ?_
    obtain ⟨w9, e9, hs⟩ := gg_bind hs
    refine zr_callS X (c_X9_isWord l e9) (fun hts => va_cwS 1 hts gX9_putIn_X9_isWord rfl rfl rfl (by decide +kernel) ⟨by decide, by decide⟩) rfl rfl (Nat.le_of_ble_eq_true rfl) dX9_putIn_9 ⟨Nat.zero_le _, Nat.zero_le _⟩ ?_
    refine tt_if_eq (tgt := 25) X dX9_putIn_12 (by decide) (fun c12 => ?_) (fun c12 => ?_)
    · rw [if_pos c12] at hs
      refine tt_iconst (v := (-1)) X dX9_putIn_25 (by decide) ?_
      obtain rfl := Option.some.inj hs
      exact tt_iret X rfl dX9_putIn_26 ⟨rfl, rfl⟩
    · rw [if_neg c12] at hs
      refine tt_iload X dX9_putIn_15 rfl ?_
      refine tt_iconst (v := (-1)) X dX9_putIn_17 (by decide) ?_
      refine tt_iconst (v := 1) X dX9_putIn_18 (by decide) ?_
      obtain ⟨w19, e19, hs⟩ := gg_bind hs
      refine zr_callS X (c_X9_inside l e19) (fun hts => va_cwS 3 hts gX9_putIn_X9_inside rfl rfl rfl (by decide +kernel) ⟨by decide, by decide⟩) rfl rfl (Nat.le_of_ble_eq_true rfl) dX9_putIn_19 ⟨Nat.zero_le _, Nat.zero_le _⟩ ?_
      refine tt_if_ne (tgt := 27) X dX9_putIn_22 (by decide) (fun c22 => ?_) (fun c22 => ?_)
      · rw [if_neg c22] at hs
        refine tt_aload_n X dX9_putIn_27 rfl ?_
        obtain ⟨o28, e28, hs⟩ := gg_bind hs
        refine zr_fr X e28 rfl in_X9_putIn_X9 (by decide) (by decide +kernel) rfl dX9_putIn_28 ?_
        refine tt_iload_n X dX9_putIn_31 rfl ?_
        obtain ⟨z32, e32, hs⟩ := gg_bind hs
        refine zr_il X e32 dX9_putIn_32 ?_
        refine tt_if_eq (tgt := 39) X dX9_putIn_33 (by decide) (fun c33 => ?_) (fun c33 => ?_)
        · rw [if_pos c33] at hs
          refine tt_aload_n X dX9_putIn_39 rfl ?_
          refine tt_iload_n X dX9_putIn_40 rfl ?_
          refine tt_iload_n X dX9_putIn_41 rfl ?_
          refine tt_iload_n X dX9_putIn_42 rfl ?_
          obtain ⟨o43, f43, hs⟩ := gg_bind hs
          obtain ⟨w43, e43, hs⟩ := gg_bind hs
          refine zr_callV X f43 rfl (c_X9_findPut l e43) (fun hts => cwV 3 hts gX9_putIn_X9_findPut rfl rfl rfl (by decide +kernel) ⟨by decide, by decide⟩) rfl rfl (Nat.le_of_ble_eq_true rfl) dX9_putIn_43 ⟨Nat.zero_le _, Nat.zero_le _⟩ ?_
          refine tt_iload X dX9_putIn_46 rfl ?_
          refine tt_iconst (v := (-1)) X dX9_putIn_48 (by decide) ?_
          refine tt_icmp_ne (tgt := 59) X dX9_putIn_49 (by decide) (fun c49 => ?_) (fun c49 => ?_)
          · rw [if_neg c49] at hs
            refine tt_iload X dX9_putIn_59 rfl ?_
            refine tt_if_ne (tgt := 71) X dX9_putIn_61 (by decide) (fun c61 => ?_) (fun c61 => ?_)
            · rw [if_neg c61] at hs
              refine tt_aload_n X dX9_putIn_71 rfl ?_
              obtain ⟨z72, e72, hs⟩ := gg_bind hs
              refine zr_fi X e72 rfl in_X9_putIn_X9 (by decide) (by decide +kernel) rfl dX9_putIn_72 ?_
              obtain rfl := Option.some.inj hs
              exact tt_iret X rfl dX9_putIn_75 ⟨rfl, rfl⟩
            · rw [if_pos c61] at hs
              refine tt_aload_n X dX9_putIn_64 rfl ?_
              obtain ⟨z65, e65, hs⟩ := gg_bind hs
              refine zr_fi X e65 rfl in_X9_putIn_X9 (by decide) (by decide +kernel) rfl dX9_putIn_65 ?_
              refine tt_goto (tgt := 75) X dX9_putIn_68 (by decide) ?_
              obtain rfl := Option.some.inj hs
              exact tt_iret X rfl dX9_putIn_75 ⟨rfl, rfl⟩
          · rw [if_pos c49] at hs
            refine tt_aload_n X dX9_putIn_52 rfl ?_
            obtain ⟨z53, e53, hs⟩ := gg_bind hs
            refine zr_fi X e53 rfl in_X9_putIn_X9 (by decide) (by decide +kernel) rfl dX9_putIn_53 ?_
            refine tt_goto (tgt := 75) X dX9_putIn_56 (by decide) ?_
            obtain rfl := Option.some.inj hs
            exact tt_iret X rfl dX9_putIn_75 ⟨rfl, rfl⟩
        · rw [if_neg c33] at hs
          refine tt_bipush (v := (-3)) X dX9_putIn_36 (by decide) ?_
          obtain rfl := Option.some.inj hs
          exact tt_iret X rfl dX9_putIn_38 ⟨rfl, rfl⟩
      · rw [if_pos c22] at hs
        refine tt_iconst (v := (-1)) X dX9_putIn_25 (by decide) ?_
        obtain rfl := Option.some.inj hs
        exact tt_iret X rfl dX9_putIn_26 ⟨rfl, rfl⟩

def s_X9_roots (b0 : Nat) (x1 : Int32) (x2 : Int32) (h : tt_H) : Option (Int64 × tt_H) :=
  (gg_obj h b0 9).bind fun _ =>
  (s_X9_isDay b0 x1 h).bind fun w2 =>
  if w2.1 = 0 then
    some ((-9223372036854775808), w2.2)
  else
  (s_X9_inside x2 0 12 w2.2).bind fun w12 =>
  if w12.1 = 0 then
    some ((-9223372036854775808), w12.2)
  else
  (gg_obj w12.2 b0 9).bind fun _ =>
  (s_X9_between b0 x1 x1 0 x2 w12.2).bind fun w23 =>
  some (w23.1, w23.2)
abbrev rm_X9_roots : Room := { frames := 4, cells := 0, slots := 0, locals := 101 }
set_option maxHeartbeats 4000000 in
set_option maxRecDepth 100000 in
theorem c_X9_roots (l : Launch) {b0 : Nat} {x1 : Int32} {x2 : Int32} {h : tt_H} {ρ : Int64 × tt_H} (hs : s_X9_roots b0 x1 x2 h = some ρ) : tt_M tt_cl l yX9_roots wsX9_roots rm_X9_roots 0 0 false [.ref b0, .int x1, .int x2] h (tt_ret (some (.long ρ.1)) ρ.2) := by
  refine tt_M.of0 (cc := cX9_roots) (maxL := 3) (ret := (some .long)) (by decide +kernel) rfl (Nat.le_of_ble_eq_true rfl) ?_
  intro p e s m args below meth c D ca ad n0 sz hwf hsz X hini
  unfold s_X9_roots at hs
  refine tt_aload_n X dX9_roots_0 rfl ?_
  refine tt_iload_n X dX9_roots_1 rfl ?_
  obtain ⟨o2, f2, hs⟩ := gg_bind hs
  obtain ⟨w2, e2, hs⟩ := gg_bind hs
  refine zr_callV X f2 rfl (c_X9_isDay l e2) (fun hts => cwV 1 hts gX9_roots_X9_isDay rfl rfl rfl (by decide +kernel) ⟨by decide, by decide⟩) rfl rfl (Nat.le_of_ble_eq_true rfl) dX9_roots_2 ⟨Nat.zero_le _, Nat.zero_le _⟩ ?_
  refine tt_if_eq (tgt := 29) X dX9_roots_5 (by decide) (fun c5 => ?_) (fun c5 => ?_)
  · rw [if_pos c5] at hs
    refine tt_ldc2 (v := (-9223372036854775808)) X (by decide +kernel) dX9_roots_29 ?_
    obtain rfl := Option.some.inj hs
    exact tt_lret X rfl dX9_roots_32 ⟨rfl, rfl⟩
  · rw [if_neg c5] at hs
    refine tt_iload_n X dX9_roots_8 rfl ?_
    refine tt_iconst (v := 0) X dX9_roots_9 (by decide) ?_
    refine tt_bipush (v := 12) X dX9_roots_10 (by decide) ?_
    obtain ⟨w12, e12, hs⟩ := gg_bind hs
    refine zr_callS X (c_X9_inside l e12) (fun hts => va_cwS 3 hts gX9_roots_X9_inside rfl rfl rfl (by decide +kernel) ⟨by decide, by decide⟩) rfl rfl (Nat.le_of_ble_eq_true rfl) dX9_roots_12 ⟨Nat.zero_le _, Nat.zero_le _⟩ ?_
    refine tt_if_eq (tgt := 29) X dX9_roots_15 (by decide) (fun c15 => ?_) (fun c15 => ?_)
    · rw [if_pos c15] at hs
      refine tt_ldc2 (v := (-9223372036854775808)) X (by decide +kernel) dX9_roots_29 ?_
      obtain rfl := Option.some.inj hs
      exact tt_lret X rfl dX9_roots_32 ⟨rfl, rfl⟩
    · rw [if_neg c15] at hs
      refine tt_aload_n X dX9_roots_18 rfl ?_
      refine tt_iload_n X dX9_roots_19 rfl ?_
      refine tt_iload_n X dX9_roots_20 rfl ?_
      refine tt_iconst (v := 0) X dX9_roots_21 (by decide) ?_
      refine tt_iload_n X dX9_roots_22 rfl ?_
      obtain ⟨o23, f23, hs⟩ := gg_bind hs
      obtain ⟨w23, e23, hs⟩ := gg_bind hs
      refine zr_callV X f23 rfl (c_X9_between l e23) (fun hts => cwV 4 hts gX9_roots_X9_between rfl rfl rfl (by decide +kernel) ⟨by decide, by decide⟩) rfl rfl (Nat.le_of_ble_eq_true rfl) dX9_roots_23 ⟨Nat.zero_le _, Nat.zero_le _⟩ ?_
      refine tt_goto (tgt := 32) X dX9_roots_26 (by decide) ?_
      obtain rfl := Option.some.inj hs
      exact tt_lret X rfl dX9_roots_32 ⟨rfl, rfl⟩

def s_X9_said (b0 : Nat) (x1 : Int32) (h : tt_H) : Option (Int32 × tt_H) :=
  (gg_obj h b0 9).bind fun _ =>
  (s_X9_isDay b0 x1 h).bind fun w2 =>
  if w2.1 = 0 then
    some ((-1), w2.2)
  else
  (gg_obj w2.2 b0 9).bind fun _ =>
  (s_X9_saidWith b0 x1 ((-9)) ((-9)) w2.2).bind fun w16 =>
  some (w16.1, w16.2)
abbrev rm_X9_said : Room := { frames := 2, cells := 0, slots := 0, locals := 51 }
set_option maxHeartbeats 4000000 in
set_option maxRecDepth 100000 in
theorem c_X9_said (l : Launch) {b0 : Nat} {x1 : Int32} {h : tt_H} {ρ : Int32 × tt_H} (hs : s_X9_said b0 x1 h = some ρ) : tt_M tt_cl l yX9_said wsX9_said rm_X9_said 0 0 false [.ref b0, .int x1] h (tt_ret (some (.int ρ.1)) ρ.2) := by
  refine tt_M.of0 (cc := cX9_said) (maxL := 2) (ret := (some .int)) (by decide +kernel) rfl (Nat.le_of_ble_eq_true rfl) ?_
  intro p e s m args below meth c D ca ad n0 sz hwf hsz X hini
  unfold s_X9_said at hs
  refine tt_aload_n X dX9_said_0 rfl ?_
  refine tt_iload_n X dX9_said_1 rfl ?_
  obtain ⟨o2, f2, hs⟩ := gg_bind hs
  obtain ⟨w2, e2, hs⟩ := gg_bind hs
  refine zr_callV X f2 rfl (c_X9_isDay l e2) (fun hts => cwV 1 hts gX9_said_X9_isDay rfl rfl rfl (by decide +kernel) ⟨by decide, by decide⟩) rfl rfl (Nat.le_of_ble_eq_true rfl) dX9_said_2 ⟨Nat.zero_le _, Nat.zero_le _⟩ ?_
  refine tt_if_ne (tgt := 10) X dX9_said_5 (by decide) (fun c5 => ?_) (fun c5 => ?_)
  · rw [if_neg c5] at hs
    refine tt_aload_n X dX9_said_10 rfl ?_
    refine tt_iload_n X dX9_said_11 rfl ?_
    refine tt_bipush (v := (-9)) X dX9_said_12 (by decide) ?_
    refine tt_bipush (v := (-9)) X dX9_said_14 (by decide) ?_
    obtain ⟨o16, f16, hs⟩ := gg_bind hs
    obtain ⟨w16, e16, hs⟩ := gg_bind hs
    refine zr_callV X f16 rfl (c_X9_saidWith l e16) (fun hts => cwV 3 hts gX9_said_X9_saidWith rfl rfl rfl (by decide +kernel) ⟨by decide, by decide⟩) rfl rfl (Nat.le_of_ble_eq_true rfl) dX9_said_16 ⟨Nat.zero_le _, Nat.zero_le _⟩ ?_
    obtain rfl := Option.some.inj hs
    exact tt_iret X rfl dX9_said_19 ⟨rfl, rfl⟩
  · rw [if_pos c5] at hs
    refine tt_iconst (v := (-1)) X dX9_said_8 (by decide) ?_
    obtain rfl := Option.some.inj hs
    exact tt_iret X rfl dX9_said_9 ⟨rfl, rfl⟩

theorem in_X9_sheet_X9 : ∀ w ∈ u_ws RX9 TX9 26, w ∈ wsX9_sheet := by decide +kernel
def s_X9_sheet_L57 : Nat → Nat → Int32 → Int32 → tt_H → Option (Int32 × tt_H)
  | 0, _, _, _, _ => none
  | n + 1, b0, x1, x4, h =>
    if 80 ≤ x4 then
      some (1, h)
    else
    (gg_fr h b0 9 4).bind fun o65 =>
    (gg_is h o65 ((80 * x1) + x4) 0).bind fun h76 =>
    s_X9_sheet_L57 n b0 x1 (x4 + 1) h76
def s_X9_sheet (b0 : Nat) (x1 : Int32) (x2 : Int32) (x3 : Int32) (h : tt_H) : Option (Int32 × tt_H) :=
  (gg_put h b0 9 0 (.int 0)).bind fun h2 =>
  (s_X9_isSheet x1 h2).bind fun w6 =>
  if w6.1 = 0 then
    some ((-1), w6.2)
  else
  (s_X9_isSort x2 w6.2).bind fun w15 =>
  if w15.1 = 0 then
    some ((-2), w15.2)
  else
  if x3 ≤ 80 then
    if 0 ≤ x3 then
      (gg_fr w15.2 b0 9 2).bind fun o41 =>
      (gg_is w15.2 o41 x1 x2).bind fun h46 =>
      (gg_fr h46 b0 9 3).bind fun o48 =>
      (gg_is h46 o48 x1 x3).bind fun h53 =>
      s_X9_sheet_L57 1000 b0 x1 0 h53
    else
    (gg_obj w15.2 b0 9).bind fun _ =>
    (s_X9_fails b0 4 w15.2).bind fun w36 =>
    some (w36.1, w36.2)
  else
  some ((-2), w15.2)
abbrev rm_X9_sheet : Room := { frames := 2, cells := 0, slots := 0, locals := 42 }
set_option maxHeartbeats 4000000 in
set_option maxRecDepth 100000 in
theorem c_X9_sheet (l : Launch) {b0 : Nat} {x1 : Int32} {x2 : Int32} {x3 : Int32} {h : tt_H} {ρ : Int32 × tt_H} (hs : s_X9_sheet b0 x1 x2 x3 h = some ρ) : tt_M tt_cl l yX9_sheet wsX9_sheet rm_X9_sheet 0 0 false [.ref b0, .int x1, .int x2, .int x3] h (tt_ret (some (.int ρ.1)) ρ.2) := by
  refine tt_M.of0 (cc := cX9_sheet) (maxL := 5) (ret := (some .int)) (by decide +kernel) rfl (Nat.le_of_ble_eq_true rfl) ?_
  intro p e s m args below meth c D ca ad n0 sz hwf hsz X hini
  unfold s_X9_sheet at hs
  have t_57 : ∀ (fu : Nat) (b0 : Nat) (x1 : Int32) (x4 : Int32) (h : tt_H), s_X9_sheet_L57 fu b0 x1 x4 h = some ρ → tt_T tt_cl (p, l, e, rm_X9_sheet, s, m, args, below, meth, c, MQ below (tt_Q tt_cl D ca ad n0 sz false (tt_ret (some (.int ρ.1)) ρ.2)) args s 0 0 (tt_A ad n0 sz), D, ca, tt_A ad n0 sz, 5, some n0) ad 0 0 57 [(0, .ref b0), (1, .int x1), (4, .int x4)] [] h := by
    intro fu
    induction fu with
    | zero => intro b0 x1 x4 h hs; exact absurd hs (by rw [s_X9_sheet_L57]; exact fun q => by cases q)
    | succ n57 ih =>
      intro b0 x1 x4 h hs
      rw [s_X9_sheet_L57] at hs
      have t_57 := ih
      refine tt_iload X dX9_sheet_57 rfl ?_
      refine tt_bipush (v := 80) X dX9_sheet_59 (by decide) ?_
      refine tt_icmp_ge (tgt := 83) X dX9_sheet_61 (by decide) (fun c61 => ?_) (fun c61 => ?_)
      · rw [if_pos c61] at hs
        refine tt_iconst (v := 1) X dX9_sheet_83 (by decide) ?_
        obtain rfl := Option.some.inj hs
        exact tt_iret X rfl dX9_sheet_84 ⟨rfl, rfl⟩
      · rw [if_neg c61] at hs
        refine tt_aload_n X dX9_sheet_64 rfl ?_
        obtain ⟨o65, e65, hs⟩ := gg_bind hs
        refine zr_fr X e65 rfl in_X9_sheet_X9 (by decide) (by decide +kernel) rfl dX9_sheet_65 ?_
        refine tt_bipush (v := 80) X dX9_sheet_68 (by decide) ?_
        refine tt_iload_n X dX9_sheet_70 rfl ?_
        refine tt_imul X dX9_sheet_71 ?_
        refine tt_iload X dX9_sheet_72 rfl ?_
        refine tt_iadd X dX9_sheet_74 ?_
        refine tt_iconst (v := 0) X dX9_sheet_75 (by decide) ?_
        obtain ⟨h76, e76, hs⟩ := gg_bind hs
        refine zr_is X e76 dX9_sheet_76 ?_
        refine tt_iinc (v := x4 + 1) X dX9_sheet_77 rfl rfl (Nat.le_of_ble_eq_true rfl) ?_
        refine tt_goto (tgt := 57) X dX9_sheet_80 (by decide) ?_
        refine tt_drop [0, 1, 4] ?_
        exact t_57 b0 x1 (x4 + 1) h76 hs
  refine tt_aload_n X dX9_sheet_0 rfl ?_
  refine tt_iconst (v := 0) X dX9_sheet_1 (by decide) ?_
  obtain ⟨h2, e2, hs⟩ := gg_bind hs
  refine zr_put X e2 rfl in_X9_sheet_X9 tyX9 tyX9_ok nmX9 (by decide) (by decide +kernel) rfl rfl (fun _ => rfl) (fun _ => rfl) dX9_sheet_2 ?_
  refine tt_iload_n X dX9_sheet_5 rfl ?_
  obtain ⟨w6, e6, hs⟩ := gg_bind hs
  refine zr_callS X (c_X9_isSheet l e6) (fun hts => va_cwS 1 hts gX9_sheet_X9_isSheet rfl rfl rfl (by decide +kernel) ⟨by decide, by decide⟩) rfl rfl (Nat.le_of_ble_eq_true rfl) dX9_sheet_6 ⟨Nat.zero_le _, Nat.zero_le _⟩ ?_
  refine tt_if_ne (tgt := 14) X dX9_sheet_9 (by decide) (fun c9 => ?_) (fun c9 => ?_)
  · rw [if_neg c9] at hs
    refine tt_iload_n X dX9_sheet_14 rfl ?_
    obtain ⟨w15, e15, hs⟩ := gg_bind hs
    refine zr_callS X (c_X9_isSort l e15) (fun hts => va_cwS 1 hts gX9_sheet_X9_isSort rfl rfl rfl (by decide +kernel) ⟨by decide, by decide⟩) rfl rfl (Nat.le_of_ble_eq_true rfl) dX9_sheet_15 ⟨Nat.zero_le _, Nat.zero_le _⟩ ?_
    refine tt_if_eq (tgt := 27) X dX9_sheet_18 (by decide) (fun c18 => ?_) (fun c18 => ?_)
    · rw [if_pos c18] at hs
      refine tt_bipush (v := (-2)) X dX9_sheet_27 (by decide) ?_
      obtain rfl := Option.some.inj hs
      exact tt_iret X rfl dX9_sheet_29 ⟨rfl, rfl⟩
    · rw [if_neg c18] at hs
      refine tt_iload_n X dX9_sheet_21 rfl ?_
      refine tt_bipush (v := 80) X dX9_sheet_22 (by decide) ?_
      refine tt_icmp_le (tgt := 30) X dX9_sheet_24 (by decide) (fun c24 => ?_) (fun c24 => ?_)
      · rw [if_pos c24] at hs
        refine tt_iload_n X dX9_sheet_30 rfl ?_
        refine tt_if_ge (tgt := 40) X dX9_sheet_31 (by decide) (fun c31 => ?_) (fun c31 => ?_)
        · rw [if_pos c31] at hs
          refine tt_aload_n X dX9_sheet_40 rfl ?_
          obtain ⟨o41, e41, hs⟩ := gg_bind hs
          refine zr_fr X e41 rfl in_X9_sheet_X9 (by decide) (by decide +kernel) rfl dX9_sheet_41 ?_
          refine tt_iload_n X dX9_sheet_44 rfl ?_
          refine tt_iload_n X dX9_sheet_45 rfl ?_
          obtain ⟨h46, e46, hs⟩ := gg_bind hs
          refine zr_is X e46 dX9_sheet_46 ?_
          refine tt_aload_n X dX9_sheet_47 rfl ?_
          obtain ⟨o48, e48, hs⟩ := gg_bind hs
          refine zr_fr X e48 rfl in_X9_sheet_X9 (by decide) (by decide +kernel) rfl dX9_sheet_48 ?_
          refine tt_iload_n X dX9_sheet_51 rfl ?_
          refine tt_iload_n X dX9_sheet_52 rfl ?_
          obtain ⟨h53, e53, hs⟩ := gg_bind hs
          refine zr_is X e53 dX9_sheet_53 ?_
          refine tt_iconst (v := 0) X dX9_sheet_54 (by decide) ?_
          refine tt_istore X dX9_sheet_55 (Nat.le_of_ble_eq_true rfl) ?_
          refine tt_drop [0, 1, 4] ?_
          exact t_57 1000 b0 x1 0 h53 hs
        · rw [if_neg c31] at hs
          refine tt_aload_n X dX9_sheet_34 rfl ?_
          refine tt_iconst (v := 4) X dX9_sheet_35 (by decide) ?_
          obtain ⟨o36, f36, hs⟩ := gg_bind hs
          obtain ⟨w36, e36, hs⟩ := gg_bind hs
          refine zr_callV X f36 rfl (c_X9_fails l e36) (fun hts => cwV 1 hts gX9_sheet_X9_fails rfl rfl rfl (by decide +kernel) ⟨by decide, by decide⟩) rfl rfl (Nat.le_of_ble_eq_true rfl) dX9_sheet_36 ⟨Nat.zero_le _, Nat.zero_le _⟩ ?_
          obtain rfl := Option.some.inj hs
          exact tt_iret X rfl dX9_sheet_39 ⟨rfl, rfl⟩
      · rw [if_neg c24] at hs
        refine tt_bipush (v := (-2)) X dX9_sheet_27 (by decide) ?_
        obtain rfl := Option.some.inj hs
        exact tt_iret X rfl dX9_sheet_29 ⟨rfl, rfl⟩
  · rw [if_pos c9] at hs
    refine tt_iconst (v := (-1)) X dX9_sheet_12 (by decide) ?_
    obtain rfl := Option.some.inj hs
    exact tt_iret X rfl dX9_sheet_13 ⟨rfl, rfl⟩

theorem in_X9_wordOf_X9 : ∀ w ∈ u_ws RX9 TX9 26, w ∈ wsX9_wordOf := by decide +kernel
def s_X9_wordOf_J301 (κ12 : Nat → Int32 → Int32 → Int32 → Int32 → Int32 → Int32 → Int32 → tt_H → Option (Int32 × tt_H)) (b0 : Nat) (x1 : Int32) (x2 : Int32) (x3 : Int32) (x4 : Int32) (x6 : Int32) (x7 : Int32) (ux0 : Int32) (ux1 : Int32) (h : tt_H) : Option (Int32 × tt_H) :=
  κ12 b0 x1 x2 x3 x4 (ux0 + ux1) x6 (x7 + 1) h
def s_X9_wordOf_J286 (κ12 : Nat → Int32 → Int32 → Int32 → Int32 → Int32 → Int32 → Int32 → tt_H → Option (Int32 × tt_H)) (b0 : Nat) (x1 : Int32) (x2 : Int32) (x3 : Int32) (x5 : Int32) (x6 : Int32) (x7 : Int32) (x11 : Int32) (ux0 : Int32) (ux1 : Int32) (h : tt_H) : Option (Int32 × tt_H) :=
  if x11 = 0 then
    s_X9_wordOf_J301 κ12 b0 x1 x2 x3 (ux0 + ux1) x6 x7 x5 0 h
  else
  s_X9_wordOf_J301 κ12 b0 x1 x2 x3 (ux0 + ux1) x6 x7 x5 1 h
def s_X9_wordOf_J272 (κ12 : Nat → Int32 → Int32 → Int32 → Int32 → Int32 → Int32 → Int32 → tt_H → Option (Int32 × tt_H)) (b0 : Nat) (x1 : Int32) (x2 : Int32) (x3 : Int32) (x4 : Int32) (x5 : Int32) (x6 : Int32) (x7 : Int32) (x10 : Int32) (ux0 : Int32) (h : tt_H) : Option (Int32 × tt_H) :=
  if x10 = 0 then
    s_X9_wordOf_J286 κ12 b0 x1 x2 x3 x5 x6 x7 ux0 x4 0 h
  else
  s_X9_wordOf_J286 κ12 b0 x1 x2 x3 x5 x6 x7 ux0 x4 1 h
def s_X9_wordOf_J271 (κ272 : Nat → Int32 → Int32 → Int32 → Int32 → Int32 → Int32 → Int32 → Int32 → Int32 → tt_H → Option (Int32 × tt_H)) (b0 : Nat) (x1 : Int32) (x2 : Int32) (x3 : Int32) (x4 : Int32) (x5 : Int32) (x6 : Int32) (x7 : Int32) (x10 : Int32) (h : tt_H) : Option (Int32 × tt_H) :=
  κ272 b0 x1 x2 x3 x4 x5 x6 x7 x10 0 h
def s_X9_wordOf_J242 (κ12 : Nat → Int32 → Int32 → Int32 → Int32 → Int32 → Int32 → Int32 → tt_H → Option (Int32 × tt_H)) (b0 : Nat) (x1 : Int32) (x2 : Int32) (x3 : Int32) (x4 : Int32) (x5 : Int32) (x6 : Int32) (x7 : Int32) (ux0 : Int32) (h : tt_H) : Option (Int32 × tt_H) :=
  (gg_fr h b0 9 7).bind fun o247 =>
  (gg_il h o247 x2).bind fun z251 =>
  if z251 ≤ x5 then
    s_X9_wordOf_J271 (s_X9_wordOf_J272 κ12) b0 x1 x2 x3 x4 x5 x6 x7 ux0 h
  else
  (gg_obj h b0 9).bind fun _ =>
  (s_X9_wordAt b0 x2 x5 h).bind fun w259 =>
  if w259.1 = x6 then
    s_X9_wordOf_J272 κ12 b0 x1 x2 x3 x4 x5 x6 x7 ux0 1 w259.2
  else
  s_X9_wordOf_J271 (s_X9_wordOf_J272 κ12) b0 x1 x2 x3 x4 x5 x6 x7 ux0 w259.2
def s_X9_wordOf_J241 (κ242 : Nat → Int32 → Int32 → Int32 → Int32 → Int32 → Int32 → Int32 → Int32 → tt_H → Option (Int32 × tt_H)) (b0 : Nat) (x1 : Int32) (x2 : Int32) (x3 : Int32) (x4 : Int32) (x5 : Int32) (x6 : Int32) (x7 : Int32) (h : tt_H) : Option (Int32 × tt_H) :=
  κ242 b0 x1 x2 x3 x4 x5 x6 x7 0 h
def s_X9_wordOf_J212 (κ12 : Nat → Int32 → Int32 → Int32 → Int32 → Int32 → Int32 → Int32 → tt_H → Option (Int32 × tt_H)) (b0 : Nat) (x1 : Int32) (x2 : Int32) (x3 : Int32) (x4 : Int32) (x5 : Int32) (x7 : Int32) (ux0 : Int32) (h : tt_H) : Option (Int32 × tt_H) :=
  (gg_fr h b0 9 7).bind fun o217 =>
  (gg_il h o217 x1).bind fun z221 =>
  if z221 ≤ x4 then
    s_X9_wordOf_J241 (s_X9_wordOf_J242 κ12) b0 x1 x2 x3 x4 x5 ux0 x7 h
  else
  (gg_obj h b0 9).bind fun _ =>
  (s_X9_wordAt b0 x1 x4 h).bind fun w229 =>
  if w229.1 = ux0 then
    s_X9_wordOf_J242 κ12 b0 x1 x2 x3 x4 x5 ux0 x7 1 w229.2
  else
  s_X9_wordOf_J241 (s_X9_wordOf_J242 κ12) b0 x1 x2 x3 x4 x5 ux0 x7 w229.2
def s_X9_wordOf_J205 (κ212 : Nat → Int32 → Int32 → Int32 → Int32 → Int32 → Int32 → Int32 → tt_H → Option (Int32 × tt_H)) (b0 : Nat) (x1 : Int32) (x2 : Int32) (x3 : Int32) (x4 : Int32) (x5 : Int32) (x7 : Int32) (h : tt_H) : Option (Int32 × tt_H) :=
  (gg_obj h b0 9).bind fun _ =>
  (s_X9_wordAt b0 x2 x5 h).bind fun w209 =>
  κ212 b0 x1 x2 x3 x4 x5 x7 w209.1 w209.2
def s_X9_wordOf_J195 (κ212 : Nat → Int32 → Int32 → Int32 → Int32 → Int32 → Int32 → Int32 → tt_H → Option (Int32 × tt_H)) (b0 : Nat) (x1 : Int32) (x2 : Int32) (x3 : Int32) (x4 : Int32) (x5 : Int32) (x7 : Int32) (h : tt_H) : Option (Int32 × tt_H) :=
  (gg_obj h b0 9).bind fun _ =>
  (s_X9_wordAt b0 x1 x4 h).bind fun w199 =>
  κ212 b0 x1 x2 x3 x4 x5 x7 w199.1 w199.2
def s_X9_wordOf_J166 (κ12 : Nat → Int32 → Int32 → Int32 → Int32 → Int32 → Int32 → Int32 → tt_H → Option (Int32 × tt_H)) (b0 : Nat) (x1 : Int32) (x2 : Int32) (x3 : Int32) (x4 : Int32) (x5 : Int32) (x7 : Int32) (x8 : Int32) (ux0 : Int32) (h : tt_H) : Option (Int32 × tt_H) :=
  if x8 = 0 then
    s_X9_wordOf_J205 (s_X9_wordOf_J212 κ12) b0 x1 x2 x3 x4 x5 x7 h
  else
  if ux0 = 0 then
    s_X9_wordOf_J195 (s_X9_wordOf_J212 κ12) b0 x1 x2 x3 x4 x5 x7 h
  else
  (gg_obj h b0 9).bind fun _ =>
  (s_X9_wordAt b0 x1 x4 h).bind fun w182 =>
  (gg_obj w182.2 b0 9).bind fun _ =>
  (s_X9_wordAt b0 x2 x5 w182.2).bind fun w189 =>
  if w189.1 < w182.1 then
    s_X9_wordOf_J205 (s_X9_wordOf_J212 κ12) b0 x1 x2 x3 x4 x5 x7 w189.2
  else
  s_X9_wordOf_J195 (s_X9_wordOf_J212 κ12) b0 x1 x2 x3 x4 x5 x7 w189.2
def s_X9_wordOf_J165 (κ166 : Nat → Int32 → Int32 → Int32 → Int32 → Int32 → Int32 → Int32 → Int32 → tt_H → Option (Int32 × tt_H)) (b0 : Nat) (x1 : Int32) (x2 : Int32) (x3 : Int32) (x4 : Int32) (x5 : Int32) (x7 : Int32) (x8 : Int32) (h : tt_H) : Option (Int32 × tt_H) :=
  κ166 b0 x1 x2 x3 x4 x5 x7 x8 0 h
def s_X9_wordOf_J161 (κ166 : Nat → Int32 → Int32 → Int32 → Int32 → Int32 → Int32 → Int32 → Int32 → tt_H → Option (Int32 × tt_H)) (b0 : Nat) (x1 : Int32) (x2 : Int32) (x3 : Int32) (x4 : Int32) (x5 : Int32) (x7 : Int32) (x8 : Int32) (h : tt_H) : Option (Int32 × tt_H) :=
  κ166 b0 x1 x2 x3 x4 x5 x7 x8 1 h
def s_X9_wordOf_J91 (κ12 : Nat → Int32 → Int32 → Int32 → Int32 → Int32 → Int32 → Int32 → tt_H → Option (Int32 × tt_H)) (b0 : Nat) (x1 : Int32) (x2 : Int32) (x3 : Int32) (x4 : Int32) (x5 : Int32) (x7 : Int32) (ux0 : Int32) (h : tt_H) : Option (Int32 × tt_H) :=
  (gg_fr h b0 9 7).bind fun o96 =>
  (gg_il h o96 x2).bind fun z100 =>
  if z100 ≤ x5 then
    s_X9_wordOf_J165 (s_X9_wordOf_J166 κ12) b0 x1 x2 x3 x4 x5 x7 ux0 h
  else
  (gg_fr h b0 9 7).bind fun o107 =>
  (gg_il h o107 x1).bind fun z111 =>
  if x4 = z111 then
    s_X9_wordOf_J161 (s_X9_wordOf_J166 κ12) b0 x1 x2 x3 x4 x5 x7 ux0 h
  else
  (gg_obj h b0 9).bind fun _ =>
  (s_X9_wordAt b0 x1 x4 h).bind fun w119 =>
  (gg_obj w119.2 b0 9).bind fun _ =>
  (s_X9_wordAt b0 x2 x5 w119.2).bind fun w126 =>
  if w119.1 = w126.1 then
    s_X9_wordOf_J161 (s_X9_wordOf_J166 κ12) b0 x1 x2 x3 x4 x5 x7 ux0 w126.2
  else
  (gg_fr w126.2 b0 9 20).bind fun o133 =>
  (s_X9_spot x4 (x5 + 1) w126.2).bind fun w142 =>
  (gg_il w142.2 o133 w142.1).bind fun z145 =>
  (gg_fr w142.2 b0 9 20).bind fun o147 =>
  (s_X9_spot x4 x5 w142.2).bind fun w154 =>
  (gg_il w154.2 o147 w154.1).bind fun z157 =>
  if z157 ≤ z145 then
    s_X9_wordOf_J165 (s_X9_wordOf_J166 κ12) b0 x1 x2 x3 x4 x5 x7 ux0 w154.2
  else
  s_X9_wordOf_J161 (s_X9_wordOf_J166 κ12) b0 x1 x2 x3 x4 x5 x7 ux0 w154.2
def s_X9_wordOf_J90 (κ91 : Nat → Int32 → Int32 → Int32 → Int32 → Int32 → Int32 → Int32 → tt_H → Option (Int32 × tt_H)) (b0 : Nat) (x1 : Int32) (x2 : Int32) (x3 : Int32) (x4 : Int32) (x5 : Int32) (x7 : Int32) (h : tt_H) : Option (Int32 × tt_H) :=
  κ91 b0 x1 x2 x3 x4 x5 x7 0 h
def s_X9_wordOf_J86 (κ91 : Nat → Int32 → Int32 → Int32 → Int32 → Int32 → Int32 → Int32 → tt_H → Option (Int32 × tt_H)) (b0 : Nat) (x1 : Int32) (x2 : Int32) (x3 : Int32) (x4 : Int32) (x5 : Int32) (x7 : Int32) (h : tt_H) : Option (Int32 × tt_H) :=
  κ91 b0 x1 x2 x3 x4 x5 x7 1 h
def s_X9_wordOf_L12 : Nat → Nat → Int32 → Int32 → Int32 → Int32 → Int32 → Int32 → Int32 → tt_H → Option (Int32 × tt_H)
  | 0, _, _, _, _, _, _, _, _, _ => none
  | n + 1, b0, x1, x2, x3, x4, x5, x6, x7, h =>
    if x3 < x7 then
      some (x6, h)
    else
    (gg_fr h b0 9 7).bind fun o21 =>
    (gg_il h o21 x1).bind fun z25 =>
    if z25 ≤ x4 then
      s_X9_wordOf_J90 (s_X9_wordOf_J91 (s_X9_wordOf_L12 n)) b0 x1 x2 x3 x4 x5 x7 h
    else
    (gg_fr h b0 9 7).bind fun o32 =>
    (gg_il h o32 x2).bind fun z36 =>
    if x5 = z36 then
      s_X9_wordOf_J86 (s_X9_wordOf_J91 (s_X9_wordOf_L12 n)) b0 x1 x2 x3 x4 x5 x7 h
    else
    (gg_obj h b0 9).bind fun _ =>
    (s_X9_wordAt b0 x1 x4 h).bind fun w44 =>
    (gg_obj w44.2 b0 9).bind fun _ =>
    (s_X9_wordAt b0 x2 x5 w44.2).bind fun w51 =>
    if w44.1 = w51.1 then
      s_X9_wordOf_J86 (s_X9_wordOf_J91 (s_X9_wordOf_L12 n)) b0 x1 x2 x3 x4 x5 x7 w51.2
    else
    (gg_fr w51.2 b0 9 20).bind fun o58 =>
    (s_X9_spot (x4 + 1) x5 w51.2).bind fun w67 =>
    (gg_il w67.2 o58 w67.1).bind fun z70 =>
    (gg_fr w67.2 b0 9 20).bind fun o72 =>
    (s_X9_spot x4 x5 w67.2).bind fun w79 =>
    (gg_il w79.2 o72 w79.1).bind fun z82 =>
    if z82 ≤ z70 then
      s_X9_wordOf_J90 (s_X9_wordOf_J91 (s_X9_wordOf_L12 n)) b0 x1 x2 x3 x4 x5 x7 w79.2
    else
    s_X9_wordOf_J86 (s_X9_wordOf_J91 (s_X9_wordOf_L12 n)) b0 x1 x2 x3 x4 x5 x7 w79.2
def s_X9_wordOf (b0 : Nat) (x1 : Int32) (x2 : Int32) (x3 : Int32) (h : tt_H) : Option (Int32 × tt_H) :=
  s_X9_wordOf_L12 1000 b0 x1 x2 x3 0 0 0 0 h
abbrev rm_X9_wordOf : Room := { frames := 1, cells := 0, slots := 0, locals := 22 }
set_option maxHeartbeats 4000000 in
set_option maxRecDepth 100000 in
theorem c_X9_wordOf (l : Launch) {b0 : Nat} {x1 : Int32} {x2 : Int32} {x3 : Int32} {h : tt_H} {ρ : Int32 × tt_H} (hs : s_X9_wordOf b0 x1 x2 x3 h = some ρ) : tt_M tt_cl l yX9_wordOf wsX9_wordOf rm_X9_wordOf 0 0 false [.ref b0, .int x1, .int x2, .int x3] h (tt_ret (some (.int ρ.1)) ρ.2) := by
  refine tt_M.of0 (cc := cX9_wordOf) (maxL := 12) (ret := (some .int)) (by decide +kernel) rfl (Nat.le_of_ble_eq_true rfl) ?_
  intro p e s m args below meth c D ca ad n0 sz hwf hsz X hini
  unfold s_X9_wordOf at hs
  have t_12 : ∀ (fu : Nat) (b0 : Nat) (x1 : Int32) (x2 : Int32) (x3 : Int32) (x4 : Int32) (x5 : Int32) (x6 : Int32) (x7 : Int32) (h : tt_H), s_X9_wordOf_L12 fu b0 x1 x2 x3 x4 x5 x6 x7 h = some ρ → tt_T tt_cl (p, l, e, rm_X9_wordOf, s, m, args, below, meth, c, MQ below (tt_Q tt_cl D ca ad n0 sz false (tt_ret (some (.int ρ.1)) ρ.2)) args s 0 0 (tt_A ad n0 sz), D, ca, tt_A ad n0 sz, 12, some n0) ad 0 0 12 [(0, .ref b0), (1, .int x1), (2, .int x2), (3, .int x3), (4, .int x4), (5, .int x5), (6, .int x6), (7, .int x7)] [] h := by
    intro fu
    induction fu with
    | zero => intro b0 x1 x2 x3 x4 x5 x6 x7 h hs; exact absurd hs (by rw [s_X9_wordOf_L12]; exact fun q => by cases q)
    | succ n12 ih =>
      intro b0 x1 x2 x3 x4 x5 x6 x7 h hs
      rw [s_X9_wordOf_L12] at hs
      have t_12 := ih
      have t_91 : ∀ (b0 : Nat) (x1 : Int32) (x2 : Int32) (x3 : Int32) (x4 : Int32) (x5 : Int32) (x7 : Int32) (ux0 : Int32) (h : tt_H), s_X9_wordOf_J91 (s_X9_wordOf_L12 n12) b0 x1 x2 x3 x4 x5 x7 ux0 h = some ρ → tt_T tt_cl (p, l, e, rm_X9_wordOf, s, m, args, below, meth, c, MQ below (tt_Q tt_cl D ca ad n0 sz false (tt_ret (some (.int ρ.1)) ρ.2)) args s 0 0 (tt_A ad n0 sz), D, ca, tt_A ad n0 sz, 12, some n0) ad 0 0 91 [(0, .ref b0), (1, .int x1), (2, .int x2), (3, .int x3), (4, .int x4), (5, .int x5), (7, .int x7)] [.int ux0] h := by
        intro b0 x1 x2 x3 x4 x5 x7 ux0 h hs
        unfold s_X9_wordOf_J91 at hs
        have t_166 : ∀ (b0 : Nat) (x1 : Int32) (x2 : Int32) (x3 : Int32) (x4 : Int32) (x5 : Int32) (x7 : Int32) (x8 : Int32) (ux0 : Int32) (h : tt_H), s_X9_wordOf_J166 (s_X9_wordOf_L12 n12) b0 x1 x2 x3 x4 x5 x7 x8 ux0 h = some ρ → tt_T tt_cl (p, l, e, rm_X9_wordOf, s, m, args, below, meth, c, MQ below (tt_Q tt_cl D ca ad n0 sz false (tt_ret (some (.int ρ.1)) ρ.2)) args s 0 0 (tt_A ad n0 sz), D, ca, tt_A ad n0 sz, 12, some n0) ad 0 0 166 [(0, .ref b0), (1, .int x1), (2, .int x2), (3, .int x3), (4, .int x4), (5, .int x5), (7, .int x7), (8, .int x8)] [.int ux0] h := by
          intro b0 x1 x2 x3 x4 x5 x7 x8 ux0 h hs
          unfold s_X9_wordOf_J166 at hs
          have t_212 : ∀ (b0 : Nat) (x1 : Int32) (x2 : Int32) (x3 : Int32) (x4 : Int32) (x5 : Int32) (x7 : Int32) (ux0 : Int32) (h : tt_H), s_X9_wordOf_J212 (s_X9_wordOf_L12 n12) b0 x1 x2 x3 x4 x5 x7 ux0 h = some ρ → tt_T tt_cl (p, l, e, rm_X9_wordOf, s, m, args, below, meth, c, MQ below (tt_Q tt_cl D ca ad n0 sz false (tt_ret (some (.int ρ.1)) ρ.2)) args s 0 0 (tt_A ad n0 sz), D, ca, tt_A ad n0 sz, 12, some n0) ad 0 0 212 [(0, .ref b0), (1, .int x1), (2, .int x2), (3, .int x3), (4, .int x4), (5, .int x5), (7, .int x7)] [.int ux0] h := by
            intro b0 x1 x2 x3 x4 x5 x7 ux0 h hs
            unfold s_X9_wordOf_J212 at hs
            have t_242 : ∀ (b0 : Nat) (x1 : Int32) (x2 : Int32) (x3 : Int32) (x4 : Int32) (x5 : Int32) (x6 : Int32) (x7 : Int32) (ux0 : Int32) (h : tt_H), s_X9_wordOf_J242 (s_X9_wordOf_L12 n12) b0 x1 x2 x3 x4 x5 x6 x7 ux0 h = some ρ → tt_T tt_cl (p, l, e, rm_X9_wordOf, s, m, args, below, meth, c, MQ below (tt_Q tt_cl D ca ad n0 sz false (tt_ret (some (.int ρ.1)) ρ.2)) args s 0 0 (tt_A ad n0 sz), D, ca, tt_A ad n0 sz, 12, some n0) ad 0 0 242 [(0, .ref b0), (1, .int x1), (2, .int x2), (3, .int x3), (4, .int x4), (5, .int x5), (6, .int x6), (7, .int x7)] [.int ux0] h := by
              intro b0 x1 x2 x3 x4 x5 x6 x7 ux0 h hs
              unfold s_X9_wordOf_J242 at hs
              have t_272 : ∀ (b0 : Nat) (x1 : Int32) (x2 : Int32) (x3 : Int32) (x4 : Int32) (x5 : Int32) (x6 : Int32) (x7 : Int32) (x10 : Int32) (ux0 : Int32) (h : tt_H), s_X9_wordOf_J272 (s_X9_wordOf_L12 n12) b0 x1 x2 x3 x4 x5 x6 x7 x10 ux0 h = some ρ → tt_T tt_cl (p, l, e, rm_X9_wordOf, s, m, args, below, meth, c, MQ below (tt_Q tt_cl D ca ad n0 sz false (tt_ret (some (.int ρ.1)) ρ.2)) args s 0 0 (tt_A ad n0 sz), D, ca, tt_A ad n0 sz, 12, some n0) ad 0 0 272 [(0, .ref b0), (1, .int x1), (2, .int x2), (3, .int x3), (4, .int x4), (5, .int x5), (6, .int x6), (7, .int x7), (10, .int x10)] [.int ux0] h := by
                intro b0 x1 x2 x3 x4 x5 x6 x7 x10 ux0 h hs
                unfold s_X9_wordOf_J272 at hs
                have t_286 : ∀ (b0 : Nat) (x1 : Int32) (x2 : Int32) (x3 : Int32) (x5 : Int32) (x6 : Int32) (x7 : Int32) (x11 : Int32) (ux0 : Int32) (ux1 : Int32) (h : tt_H), s_X9_wordOf_J286 (s_X9_wordOf_L12 n12) b0 x1 x2 x3 x5 x6 x7 x11 ux0 ux1 h = some ρ → tt_T tt_cl (p, l, e, rm_X9_wordOf, s, m, args, below, meth, c, MQ below (tt_Q tt_cl D ca ad n0 sz false (tt_ret (some (.int ρ.1)) ρ.2)) args s 0 0 (tt_A ad n0 sz), D, ca, tt_A ad n0 sz, 12, some n0) ad 0 0 286 [(0, .ref b0), (1, .int x1), (2, .int x2), (3, .int x3), (5, .int x5), (6, .int x6), (7, .int x7), (11, .int x11)] [.int ux1, .int ux0] h := by
                  intro b0 x1 x2 x3 x5 x6 x7 x11 ux0 ux1 h hs
                  unfold s_X9_wordOf_J286 at hs
                  have t_301 : ∀ (b0 : Nat) (x1 : Int32) (x2 : Int32) (x3 : Int32) (x4 : Int32) (x6 : Int32) (x7 : Int32) (ux0 : Int32) (ux1 : Int32) (h : tt_H), s_X9_wordOf_J301 (s_X9_wordOf_L12 n12) b0 x1 x2 x3 x4 x6 x7 ux0 ux1 h = some ρ → tt_T tt_cl (p, l, e, rm_X9_wordOf, s, m, args, below, meth, c, MQ below (tt_Q tt_cl D ca ad n0 sz false (tt_ret (some (.int ρ.1)) ρ.2)) args s 0 0 (tt_A ad n0 sz), D, ca, tt_A ad n0 sz, 12, some n0) ad 0 0 301 [(0, .ref b0), (1, .int x1), (2, .int x2), (3, .int x3), (4, .int x4), (6, .int x6), (7, .int x7)] [.int ux1, .int ux0] h := by
                    intro b0 x1 x2 x3 x4 x6 x7 ux0 ux1 h hs
                    unfold s_X9_wordOf_J301 at hs
                    refine tt_iadd X dX9_wordOf_301 ?_
                    refine tt_istore X dX9_wordOf_302 (Nat.le_of_ble_eq_true rfl) ?_
                    refine tt_iinc (v := x7 + 1) X dX9_wordOf_304 rfl rfl (Nat.le_of_ble_eq_true rfl) ?_
                    refine tt_goto (tgt := 12) X dX9_wordOf_307 (by decide) ?_
                    refine tt_drop [0, 1, 2, 3, 4, 5, 6, 7] ?_
                    exact t_12 b0 x1 x2 x3 x4 (ux0 + ux1) x6 (x7 + 1) h hs
                  refine tt_iadd X dX9_wordOf_286 ?_
                  refine tt_istore X dX9_wordOf_287 (Nat.le_of_ble_eq_true rfl) ?_
                  refine tt_iload X dX9_wordOf_289 rfl ?_
                  refine tt_iload X dX9_wordOf_291 rfl ?_
                  refine tt_if_eq (tgt := 300) X dX9_wordOf_293 (by decide) (fun c293 => ?_) (fun c293 => ?_)
                  · rw [if_pos c293] at hs
                    refine tt_iconst (v := 0) X dX9_wordOf_300 (by decide) ?_
                    refine tt_drop [0, 1, 2, 3, 4, 6, 7] ?_
                    exact t_301 b0 x1 x2 x3 (ux0 + ux1) x6 x7 x5 0 h hs
                  · rw [if_neg c293] at hs
                    refine tt_iconst (v := 1) X dX9_wordOf_296 (by decide) ?_
                    refine tt_goto (tgt := 301) X dX9_wordOf_297 (by decide) ?_
                    refine tt_drop [0, 1, 2, 3, 4, 6, 7] ?_
                    exact t_301 b0 x1 x2 x3 (ux0 + ux1) x6 x7 x5 1 h hs
                refine tt_istore X dX9_wordOf_272 (Nat.le_of_ble_eq_true rfl) ?_
                refine tt_iload X dX9_wordOf_274 rfl ?_
                refine tt_iload X dX9_wordOf_276 rfl ?_
                refine tt_if_eq (tgt := 285) X dX9_wordOf_278 (by decide) (fun c278 => ?_) (fun c278 => ?_)
                · rw [if_pos c278] at hs
                  refine tt_iconst (v := 0) X dX9_wordOf_285 (by decide) ?_
                  refine tt_drop [0, 1, 2, 3, 5, 6, 7, 11] ?_
                  exact t_286 b0 x1 x2 x3 x5 x6 x7 ux0 x4 0 h hs
                · rw [if_neg c278] at hs
                  refine tt_iconst (v := 1) X dX9_wordOf_281 (by decide) ?_
                  refine tt_goto (tgt := 286) X dX9_wordOf_282 (by decide) ?_
                  refine tt_drop [0, 1, 2, 3, 5, 6, 7, 11] ?_
                  exact t_286 b0 x1 x2 x3 x5 x6 x7 ux0 x4 1 h hs
              have t_271 : ∀ (b0 : Nat) (x1 : Int32) (x2 : Int32) (x3 : Int32) (x4 : Int32) (x5 : Int32) (x6 : Int32) (x7 : Int32) (x10 : Int32) (h : tt_H), s_X9_wordOf_J271 (s_X9_wordOf_J272 (s_X9_wordOf_L12 n12)) b0 x1 x2 x3 x4 x5 x6 x7 x10 h = some ρ → tt_T tt_cl (p, l, e, rm_X9_wordOf, s, m, args, below, meth, c, MQ below (tt_Q tt_cl D ca ad n0 sz false (tt_ret (some (.int ρ.1)) ρ.2)) args s 0 0 (tt_A ad n0 sz), D, ca, tt_A ad n0 sz, 12, some n0) ad 0 0 271 [(0, .ref b0), (1, .int x1), (2, .int x2), (3, .int x3), (4, .int x4), (5, .int x5), (6, .int x6), (7, .int x7), (10, .int x10)] [] h := by
                intro b0 x1 x2 x3 x4 x5 x6 x7 x10 h hs
                unfold s_X9_wordOf_J271 at hs
                refine tt_iconst (v := 0) X dX9_wordOf_271 (by decide) ?_
                refine tt_drop [0, 1, 2, 3, 4, 5, 6, 7, 10] ?_
                exact t_272 b0 x1 x2 x3 x4 x5 x6 x7 x10 0 h hs
              refine tt_istore X dX9_wordOf_242 (Nat.le_of_ble_eq_true rfl) ?_
              refine tt_iload X dX9_wordOf_244 rfl ?_
              refine tt_aload_n X dX9_wordOf_246 rfl ?_
              obtain ⟨o247, e247, hs⟩ := gg_bind hs
              refine zr_fr X e247 rfl in_X9_wordOf_X9 (by decide) (by decide +kernel) rfl dX9_wordOf_247 ?_
              refine tt_iload_n X dX9_wordOf_250 rfl ?_
              obtain ⟨z251, e251, hs⟩ := gg_bind hs
              refine zr_il X e251 dX9_wordOf_251 ?_
              refine tt_icmp_ge (tgt := 271) X dX9_wordOf_252 (by decide) (fun c252 => ?_) (fun c252 => ?_)
              · rw [if_pos c252] at hs
                refine tt_drop [0, 1, 2, 3, 4, 5, 6, 7, 10] ?_
                exact t_271 b0 x1 x2 x3 x4 x5 x6 x7 ux0 h hs
              · rw [if_neg c252] at hs
                refine tt_aload_n X dX9_wordOf_255 rfl ?_
                refine tt_iload_n X dX9_wordOf_256 rfl ?_
                refine tt_iload X dX9_wordOf_257 rfl ?_
                obtain ⟨o259, f259, hs⟩ := gg_bind hs
                obtain ⟨w259, e259, hs⟩ := gg_bind hs
                refine zr_callV X f259 rfl (c_X9_wordAt l e259) (fun hts => cwV 2 hts gX9_wordOf_X9_wordAt rfl rfl rfl (by decide +kernel) ⟨by decide, by decide⟩) rfl rfl (Nat.le_of_ble_eq_true rfl) dX9_wordOf_259 ⟨Nat.zero_le _, Nat.zero_le _⟩ ?_
                refine tt_iload X dX9_wordOf_262 rfl ?_
                refine tt_icmp_ne (tgt := 271) X dX9_wordOf_264 (by decide) (fun c264 => ?_) (fun c264 => ?_)
                · rw [if_neg c264] at hs
                  refine tt_drop [0, 1, 2, 3, 4, 5, 6, 7, 10] ?_
                  exact t_271 b0 x1 x2 x3 x4 x5 x6 x7 ux0 w259.2 hs
                · rw [if_pos c264] at hs
                  refine tt_iconst (v := 1) X dX9_wordOf_267 (by decide) ?_
                  refine tt_goto (tgt := 272) X dX9_wordOf_268 (by decide) ?_
                  refine tt_drop [0, 1, 2, 3, 4, 5, 6, 7, 10] ?_
                  exact t_272 b0 x1 x2 x3 x4 x5 x6 x7 ux0 1 w259.2 hs
            have t_241 : ∀ (b0 : Nat) (x1 : Int32) (x2 : Int32) (x3 : Int32) (x4 : Int32) (x5 : Int32) (x6 : Int32) (x7 : Int32) (h : tt_H), s_X9_wordOf_J241 (s_X9_wordOf_J242 (s_X9_wordOf_L12 n12)) b0 x1 x2 x3 x4 x5 x6 x7 h = some ρ → tt_T tt_cl (p, l, e, rm_X9_wordOf, s, m, args, below, meth, c, MQ below (tt_Q tt_cl D ca ad n0 sz false (tt_ret (some (.int ρ.1)) ρ.2)) args s 0 0 (tt_A ad n0 sz), D, ca, tt_A ad n0 sz, 12, some n0) ad 0 0 241 [(0, .ref b0), (1, .int x1), (2, .int x2), (3, .int x3), (4, .int x4), (5, .int x5), (6, .int x6), (7, .int x7)] [] h := by
              intro b0 x1 x2 x3 x4 x5 x6 x7 h hs
              unfold s_X9_wordOf_J241 at hs
              refine tt_iconst (v := 0) X dX9_wordOf_241 (by decide) ?_
              refine tt_drop [0, 1, 2, 3, 4, 5, 6, 7] ?_
              exact t_242 b0 x1 x2 x3 x4 x5 x6 x7 0 h hs
            refine tt_istore X dX9_wordOf_212 (Nat.le_of_ble_eq_true rfl) ?_
            refine tt_iload X dX9_wordOf_214 rfl ?_
            refine tt_aload_n X dX9_wordOf_216 rfl ?_
            obtain ⟨o217, e217, hs⟩ := gg_bind hs
            refine zr_fr X e217 rfl in_X9_wordOf_X9 (by decide) (by decide +kernel) rfl dX9_wordOf_217 ?_
            refine tt_iload_n X dX9_wordOf_220 rfl ?_
            obtain ⟨z221, e221, hs⟩ := gg_bind hs
            refine zr_il X e221 dX9_wordOf_221 ?_
            refine tt_icmp_ge (tgt := 241) X dX9_wordOf_222 (by decide) (fun c222 => ?_) (fun c222 => ?_)
            · rw [if_pos c222] at hs
              refine tt_drop [0, 1, 2, 3, 4, 5, 6, 7] ?_
              exact t_241 b0 x1 x2 x3 x4 x5 ux0 x7 h hs
            · rw [if_neg c222] at hs
              refine tt_aload_n X dX9_wordOf_225 rfl ?_
              refine tt_iload_n X dX9_wordOf_226 rfl ?_
              refine tt_iload X dX9_wordOf_227 rfl ?_
              obtain ⟨o229, f229, hs⟩ := gg_bind hs
              obtain ⟨w229, e229, hs⟩ := gg_bind hs
              refine zr_callV X f229 rfl (c_X9_wordAt l e229) (fun hts => cwV 2 hts gX9_wordOf_X9_wordAt rfl rfl rfl (by decide +kernel) ⟨by decide, by decide⟩) rfl rfl (Nat.le_of_ble_eq_true rfl) dX9_wordOf_229 ⟨Nat.zero_le _, Nat.zero_le _⟩ ?_
              refine tt_iload X dX9_wordOf_232 rfl ?_
              refine tt_icmp_ne (tgt := 241) X dX9_wordOf_234 (by decide) (fun c234 => ?_) (fun c234 => ?_)
              · rw [if_neg c234] at hs
                refine tt_drop [0, 1, 2, 3, 4, 5, 6, 7] ?_
                exact t_241 b0 x1 x2 x3 x4 x5 ux0 x7 w229.2 hs
              · rw [if_pos c234] at hs
                refine tt_iconst (v := 1) X dX9_wordOf_237 (by decide) ?_
                refine tt_goto (tgt := 242) X dX9_wordOf_238 (by decide) ?_
                refine tt_drop [0, 1, 2, 3, 4, 5, 6, 7] ?_
                exact t_242 b0 x1 x2 x3 x4 x5 ux0 x7 1 w229.2 hs
          have t_205 : ∀ (b0 : Nat) (x1 : Int32) (x2 : Int32) (x3 : Int32) (x4 : Int32) (x5 : Int32) (x7 : Int32) (h : tt_H), s_X9_wordOf_J205 (s_X9_wordOf_J212 (s_X9_wordOf_L12 n12)) b0 x1 x2 x3 x4 x5 x7 h = some ρ → tt_T tt_cl (p, l, e, rm_X9_wordOf, s, m, args, below, meth, c, MQ below (tt_Q tt_cl D ca ad n0 sz false (tt_ret (some (.int ρ.1)) ρ.2)) args s 0 0 (tt_A ad n0 sz), D, ca, tt_A ad n0 sz, 12, some n0) ad 0 0 205 [(0, .ref b0), (1, .int x1), (2, .int x2), (3, .int x3), (4, .int x4), (5, .int x5), (7, .int x7)] [] h := by
            intro b0 x1 x2 x3 x4 x5 x7 h hs
            unfold s_X9_wordOf_J205 at hs
            refine tt_aload_n X dX9_wordOf_205 rfl ?_
            refine tt_iload_n X dX9_wordOf_206 rfl ?_
            refine tt_iload X dX9_wordOf_207 rfl ?_
            obtain ⟨o209, f209, hs⟩ := gg_bind hs
            obtain ⟨w209, e209, hs⟩ := gg_bind hs
            refine zr_callV X f209 rfl (c_X9_wordAt l e209) (fun hts => cwV 2 hts gX9_wordOf_X9_wordAt rfl rfl rfl (by decide +kernel) ⟨by decide, by decide⟩) rfl rfl (Nat.le_of_ble_eq_true rfl) dX9_wordOf_209 ⟨Nat.zero_le _, Nat.zero_le _⟩ ?_
            refine tt_drop [0, 1, 2, 3, 4, 5, 7] ?_
            exact t_212 b0 x1 x2 x3 x4 x5 x7 w209.1 w209.2 hs
          have t_195 : ∀ (b0 : Nat) (x1 : Int32) (x2 : Int32) (x3 : Int32) (x4 : Int32) (x5 : Int32) (x7 : Int32) (h : tt_H), s_X9_wordOf_J195 (s_X9_wordOf_J212 (s_X9_wordOf_L12 n12)) b0 x1 x2 x3 x4 x5 x7 h = some ρ → tt_T tt_cl (p, l, e, rm_X9_wordOf, s, m, args, below, meth, c, MQ below (tt_Q tt_cl D ca ad n0 sz false (tt_ret (some (.int ρ.1)) ρ.2)) args s 0 0 (tt_A ad n0 sz), D, ca, tt_A ad n0 sz, 12, some n0) ad 0 0 195 [(0, .ref b0), (1, .int x1), (2, .int x2), (3, .int x3), (4, .int x4), (5, .int x5), (7, .int x7)] [] h := by
            intro b0 x1 x2 x3 x4 x5 x7 h hs
            unfold s_X9_wordOf_J195 at hs
            refine tt_aload_n X dX9_wordOf_195 rfl ?_
            refine tt_iload_n X dX9_wordOf_196 rfl ?_
            refine tt_iload X dX9_wordOf_197 rfl ?_
            obtain ⟨o199, f199, hs⟩ := gg_bind hs
            obtain ⟨w199, e199, hs⟩ := gg_bind hs
            refine zr_callV X f199 rfl (c_X9_wordAt l e199) (fun hts => cwV 2 hts gX9_wordOf_X9_wordAt rfl rfl rfl (by decide +kernel) ⟨by decide, by decide⟩) rfl rfl (Nat.le_of_ble_eq_true rfl) dX9_wordOf_199 ⟨Nat.zero_le _, Nat.zero_le _⟩ ?_
            refine tt_goto (tgt := 212) X dX9_wordOf_202 (by decide) ?_
            refine tt_drop [0, 1, 2, 3, 4, 5, 7] ?_
            exact t_212 b0 x1 x2 x3 x4 x5 x7 w199.1 w199.2 hs
          refine tt_istore X dX9_wordOf_166 (Nat.le_of_ble_eq_true rfl) ?_
          refine tt_iload X dX9_wordOf_168 rfl ?_
          refine tt_if_eq (tgt := 205) X dX9_wordOf_170 (by decide) (fun c170 => ?_) (fun c170 => ?_)
          · rw [if_pos c170] at hs
            refine tt_drop [0, 1, 2, 3, 4, 5, 7] ?_
            exact t_205 b0 x1 x2 x3 x4 x5 x7 h hs
          · rw [if_neg c170] at hs
            refine tt_iload X dX9_wordOf_173 rfl ?_
            refine tt_if_eq (tgt := 195) X dX9_wordOf_175 (by decide) (fun c175 => ?_) (fun c175 => ?_)
            · rw [if_pos c175] at hs
              refine tt_drop [0, 1, 2, 3, 4, 5, 7] ?_
              exact t_195 b0 x1 x2 x3 x4 x5 x7 h hs
            · rw [if_neg c175] at hs
              refine tt_aload_n X dX9_wordOf_178 rfl ?_
              refine tt_iload_n X dX9_wordOf_179 rfl ?_
              refine tt_iload X dX9_wordOf_180 rfl ?_
              obtain ⟨o182, f182, hs⟩ := gg_bind hs
              obtain ⟨w182, e182, hs⟩ := gg_bind hs
              refine zr_callV X f182 rfl (c_X9_wordAt l e182) (fun hts => cwV 2 hts gX9_wordOf_X9_wordAt rfl rfl rfl (by decide +kernel) ⟨by decide, by decide⟩) rfl rfl (Nat.le_of_ble_eq_true rfl) dX9_wordOf_182 ⟨Nat.zero_le _, Nat.zero_le _⟩ ?_
              refine tt_aload_n X dX9_wordOf_185 rfl ?_
              refine tt_iload_n X dX9_wordOf_186 rfl ?_
              refine tt_iload X dX9_wordOf_187 rfl ?_
              obtain ⟨o189, f189, hs⟩ := gg_bind hs
              obtain ⟨w189, e189, hs⟩ := gg_bind hs
              refine zr_callV X f189 rfl (c_X9_wordAt l e189) (fun hts => cwV 2 hts gX9_wordOf_X9_wordAt rfl rfl rfl (by decide +kernel) ⟨by decide, by decide⟩) rfl rfl (Nat.le_of_ble_eq_true rfl) dX9_wordOf_189 ⟨Nat.zero_le _, Nat.zero_le _⟩ ?_
              refine tt_icmp_gt (tgt := 205) X dX9_wordOf_192 (by decide) (fun c192 => ?_) (fun c192 => ?_)
              · rw [if_pos c192] at hs
                refine tt_drop [0, 1, 2, 3, 4, 5, 7] ?_
                exact t_205 b0 x1 x2 x3 x4 x5 x7 w189.2 hs
              · rw [if_neg c192] at hs
                refine tt_drop [0, 1, 2, 3, 4, 5, 7] ?_
                exact t_195 b0 x1 x2 x3 x4 x5 x7 w189.2 hs
        have t_165 : ∀ (b0 : Nat) (x1 : Int32) (x2 : Int32) (x3 : Int32) (x4 : Int32) (x5 : Int32) (x7 : Int32) (x8 : Int32) (h : tt_H), s_X9_wordOf_J165 (s_X9_wordOf_J166 (s_X9_wordOf_L12 n12)) b0 x1 x2 x3 x4 x5 x7 x8 h = some ρ → tt_T tt_cl (p, l, e, rm_X9_wordOf, s, m, args, below, meth, c, MQ below (tt_Q tt_cl D ca ad n0 sz false (tt_ret (some (.int ρ.1)) ρ.2)) args s 0 0 (tt_A ad n0 sz), D, ca, tt_A ad n0 sz, 12, some n0) ad 0 0 165 [(0, .ref b0), (1, .int x1), (2, .int x2), (3, .int x3), (4, .int x4), (5, .int x5), (7, .int x7), (8, .int x8)] [] h := by
          intro b0 x1 x2 x3 x4 x5 x7 x8 h hs
          unfold s_X9_wordOf_J165 at hs
          refine tt_iconst (v := 0) X dX9_wordOf_165 (by decide) ?_
          refine tt_drop [0, 1, 2, 3, 4, 5, 7, 8] ?_
          exact t_166 b0 x1 x2 x3 x4 x5 x7 x8 0 h hs
        have t_161 : ∀ (b0 : Nat) (x1 : Int32) (x2 : Int32) (x3 : Int32) (x4 : Int32) (x5 : Int32) (x7 : Int32) (x8 : Int32) (h : tt_H), s_X9_wordOf_J161 (s_X9_wordOf_J166 (s_X9_wordOf_L12 n12)) b0 x1 x2 x3 x4 x5 x7 x8 h = some ρ → tt_T tt_cl (p, l, e, rm_X9_wordOf, s, m, args, below, meth, c, MQ below (tt_Q tt_cl D ca ad n0 sz false (tt_ret (some (.int ρ.1)) ρ.2)) args s 0 0 (tt_A ad n0 sz), D, ca, tt_A ad n0 sz, 12, some n0) ad 0 0 161 [(0, .ref b0), (1, .int x1), (2, .int x2), (3, .int x3), (4, .int x4), (5, .int x5), (7, .int x7), (8, .int x8)] [] h := by
          intro b0 x1 x2 x3 x4 x5 x7 x8 h hs
          unfold s_X9_wordOf_J161 at hs
          refine tt_iconst (v := 1) X dX9_wordOf_161 (by decide) ?_
          refine tt_goto (tgt := 166) X dX9_wordOf_162 (by decide) ?_
          refine tt_drop [0, 1, 2, 3, 4, 5, 7, 8] ?_
          exact t_166 b0 x1 x2 x3 x4 x5 x7 x8 1 h hs
        refine tt_istore X dX9_wordOf_91 (Nat.le_of_ble_eq_true rfl) ?_
        refine tt_iload X dX9_wordOf_93 rfl ?_
        refine tt_aload_n X dX9_wordOf_95 rfl ?_
        obtain ⟨o96, e96, hs⟩ := gg_bind hs
        refine zr_fr X e96 rfl in_X9_wordOf_X9 (by decide) (by decide +kernel) rfl dX9_wordOf_96 ?_
        refine tt_iload_n X dX9_wordOf_99 rfl ?_
        obtain ⟨z100, e100, hs⟩ := gg_bind hs
        refine zr_il X e100 dX9_wordOf_100 ?_
        refine tt_icmp_ge (tgt := 165) X dX9_wordOf_101 (by decide) (fun c101 => ?_) (fun c101 => ?_)
        · rw [if_pos c101] at hs
          refine tt_drop [0, 1, 2, 3, 4, 5, 7, 8] ?_
          exact t_165 b0 x1 x2 x3 x4 x5 x7 ux0 h hs
        · rw [if_neg c101] at hs
          refine tt_iload X dX9_wordOf_104 rfl ?_
          refine tt_aload_n X dX9_wordOf_106 rfl ?_
          obtain ⟨o107, e107, hs⟩ := gg_bind hs
          refine zr_fr X e107 rfl in_X9_wordOf_X9 (by decide) (by decide +kernel) rfl dX9_wordOf_107 ?_
          refine tt_iload_n X dX9_wordOf_110 rfl ?_
          obtain ⟨z111, e111, hs⟩ := gg_bind hs
          refine zr_il X e111 dX9_wordOf_111 ?_
          refine tt_icmp_eq (tgt := 161) X dX9_wordOf_112 (by decide) (fun c112 => ?_) (fun c112 => ?_)
          · rw [if_pos c112] at hs
            refine tt_drop [0, 1, 2, 3, 4, 5, 7, 8] ?_
            exact t_161 b0 x1 x2 x3 x4 x5 x7 ux0 h hs
          · rw [if_neg c112] at hs
            refine tt_aload_n X dX9_wordOf_115 rfl ?_
            refine tt_iload_n X dX9_wordOf_116 rfl ?_
            refine tt_iload X dX9_wordOf_117 rfl ?_
            obtain ⟨o119, f119, hs⟩ := gg_bind hs
            obtain ⟨w119, e119, hs⟩ := gg_bind hs
            refine zr_callV X f119 rfl (c_X9_wordAt l e119) (fun hts => cwV 2 hts gX9_wordOf_X9_wordAt rfl rfl rfl (by decide +kernel) ⟨by decide, by decide⟩) rfl rfl (Nat.le_of_ble_eq_true rfl) dX9_wordOf_119 ⟨Nat.zero_le _, Nat.zero_le _⟩ ?_
            refine tt_aload_n X dX9_wordOf_122 rfl ?_
            refine tt_iload_n X dX9_wordOf_123 rfl ?_
            refine tt_iload X dX9_wordOf_124 rfl ?_
            obtain ⟨o126, f126, hs⟩ := gg_bind hs
            obtain ⟨w126, e126, hs⟩ := gg_bind hs
            refine zr_callV X f126 rfl (c_X9_wordAt l e126) (fun hts => cwV 2 hts gX9_wordOf_X9_wordAt rfl rfl rfl (by decide +kernel) ⟨by decide, by decide⟩) rfl rfl (Nat.le_of_ble_eq_true rfl) dX9_wordOf_126 ⟨Nat.zero_le _, Nat.zero_le _⟩ ?_
            refine tt_icmp_eq (tgt := 161) X dX9_wordOf_129 (by decide) (fun c129 => ?_) (fun c129 => ?_)
            · rw [if_pos c129] at hs
              refine tt_drop [0, 1, 2, 3, 4, 5, 7, 8] ?_
              exact t_161 b0 x1 x2 x3 x4 x5 x7 ux0 w126.2 hs
            · rw [if_neg c129] at hs
              refine tt_aload_n X dX9_wordOf_132 rfl ?_
              obtain ⟨o133, e133, hs⟩ := gg_bind hs
              refine zr_fr X e133 rfl in_X9_wordOf_X9 (by decide) (by decide +kernel) rfl dX9_wordOf_133 ?_
              refine tt_iload X dX9_wordOf_136 rfl ?_
              refine tt_iload X dX9_wordOf_138 rfl ?_
              refine tt_iconst (v := 1) X dX9_wordOf_140 (by decide) ?_
              refine tt_iadd X dX9_wordOf_141 ?_
              obtain ⟨w142, e142, hs⟩ := gg_bind hs
              refine zr_callS X (c_X9_spot l e142) (fun hts => va_cwS 2 hts gX9_wordOf_X9_spot rfl rfl rfl (by decide +kernel) ⟨by decide, by decide⟩) rfl rfl (Nat.le_of_ble_eq_true rfl) dX9_wordOf_142 ⟨Nat.zero_le _, Nat.zero_le _⟩ ?_
              obtain ⟨z145, e145, hs⟩ := gg_bind hs
              refine zr_il X e145 dX9_wordOf_145 ?_
              refine tt_aload_n X dX9_wordOf_146 rfl ?_
              obtain ⟨o147, e147, hs⟩ := gg_bind hs
              refine zr_fr X e147 rfl in_X9_wordOf_X9 (by decide) (by decide +kernel) rfl dX9_wordOf_147 ?_
              refine tt_iload X dX9_wordOf_150 rfl ?_
              refine tt_iload X dX9_wordOf_152 rfl ?_
              obtain ⟨w154, e154, hs⟩ := gg_bind hs
              refine zr_callS X (c_X9_spot l e154) (fun hts => va_cwS 2 hts gX9_wordOf_X9_spot rfl rfl rfl (by decide +kernel) ⟨by decide, by decide⟩) rfl rfl (Nat.le_of_ble_eq_true rfl) dX9_wordOf_154 ⟨Nat.zero_le _, Nat.zero_le _⟩ ?_
              obtain ⟨z157, e157, hs⟩ := gg_bind hs
              refine zr_il X e157 dX9_wordOf_157 ?_
              refine tt_icmp_ge (tgt := 165) X dX9_wordOf_158 (by decide) (fun c158 => ?_) (fun c158 => ?_)
              · rw [if_pos c158] at hs
                refine tt_drop [0, 1, 2, 3, 4, 5, 7, 8] ?_
                exact t_165 b0 x1 x2 x3 x4 x5 x7 ux0 w154.2 hs
              · rw [if_neg c158] at hs
                refine tt_drop [0, 1, 2, 3, 4, 5, 7, 8] ?_
                exact t_161 b0 x1 x2 x3 x4 x5 x7 ux0 w154.2 hs
      have t_90 : ∀ (b0 : Nat) (x1 : Int32) (x2 : Int32) (x3 : Int32) (x4 : Int32) (x5 : Int32) (x7 : Int32) (h : tt_H), s_X9_wordOf_J90 (s_X9_wordOf_J91 (s_X9_wordOf_L12 n12)) b0 x1 x2 x3 x4 x5 x7 h = some ρ → tt_T tt_cl (p, l, e, rm_X9_wordOf, s, m, args, below, meth, c, MQ below (tt_Q tt_cl D ca ad n0 sz false (tt_ret (some (.int ρ.1)) ρ.2)) args s 0 0 (tt_A ad n0 sz), D, ca, tt_A ad n0 sz, 12, some n0) ad 0 0 90 [(0, .ref b0), (1, .int x1), (2, .int x2), (3, .int x3), (4, .int x4), (5, .int x5), (7, .int x7)] [] h := by
        intro b0 x1 x2 x3 x4 x5 x7 h hs
        unfold s_X9_wordOf_J90 at hs
        refine tt_iconst (v := 0) X dX9_wordOf_90 (by decide) ?_
        refine tt_drop [0, 1, 2, 3, 4, 5, 7] ?_
        exact t_91 b0 x1 x2 x3 x4 x5 x7 0 h hs
      have t_86 : ∀ (b0 : Nat) (x1 : Int32) (x2 : Int32) (x3 : Int32) (x4 : Int32) (x5 : Int32) (x7 : Int32) (h : tt_H), s_X9_wordOf_J86 (s_X9_wordOf_J91 (s_X9_wordOf_L12 n12)) b0 x1 x2 x3 x4 x5 x7 h = some ρ → tt_T tt_cl (p, l, e, rm_X9_wordOf, s, m, args, below, meth, c, MQ below (tt_Q tt_cl D ca ad n0 sz false (tt_ret (some (.int ρ.1)) ρ.2)) args s 0 0 (tt_A ad n0 sz), D, ca, tt_A ad n0 sz, 12, some n0) ad 0 0 86 [(0, .ref b0), (1, .int x1), (2, .int x2), (3, .int x3), (4, .int x4), (5, .int x5), (7, .int x7)] [] h := by
        intro b0 x1 x2 x3 x4 x5 x7 h hs
        unfold s_X9_wordOf_J86 at hs
        refine tt_iconst (v := 1) X dX9_wordOf_86 (by decide) ?_
        refine tt_goto (tgt := 91) X dX9_wordOf_87 (by decide) ?_
        refine tt_drop [0, 1, 2, 3, 4, 5, 7] ?_
        exact t_91 b0 x1 x2 x3 x4 x5 x7 1 h hs
      refine tt_iload X dX9_wordOf_12 rfl ?_
      refine tt_iload_n X dX9_wordOf_14 rfl ?_
      refine tt_icmp_gt (tgt := 310) X dX9_wordOf_15 (by decide) (fun c15 => ?_) (fun c15 => ?_)
      · rw [if_pos c15] at hs
        refine tt_iload X dX9_wordOf_310 rfl ?_
        obtain rfl := Option.some.inj hs
        exact tt_iret X rfl dX9_wordOf_312 ⟨rfl, rfl⟩
      · rw [if_neg c15] at hs
        refine tt_iload X dX9_wordOf_18 rfl ?_
        refine tt_aload_n X dX9_wordOf_20 rfl ?_
        obtain ⟨o21, e21, hs⟩ := gg_bind hs
        refine zr_fr X e21 rfl in_X9_wordOf_X9 (by decide) (by decide +kernel) rfl dX9_wordOf_21 ?_
        refine tt_iload_n X dX9_wordOf_24 rfl ?_
        obtain ⟨z25, e25, hs⟩ := gg_bind hs
        refine zr_il X e25 dX9_wordOf_25 ?_
        refine tt_icmp_ge (tgt := 90) X dX9_wordOf_26 (by decide) (fun c26 => ?_) (fun c26 => ?_)
        · rw [if_pos c26] at hs
          refine tt_drop [0, 1, 2, 3, 4, 5, 7] ?_
          exact t_90 b0 x1 x2 x3 x4 x5 x7 h hs
        · rw [if_neg c26] at hs
          refine tt_iload X dX9_wordOf_29 rfl ?_
          refine tt_aload_n X dX9_wordOf_31 rfl ?_
          obtain ⟨o32, e32, hs⟩ := gg_bind hs
          refine zr_fr X e32 rfl in_X9_wordOf_X9 (by decide) (by decide +kernel) rfl dX9_wordOf_32 ?_
          refine tt_iload_n X dX9_wordOf_35 rfl ?_
          obtain ⟨z36, e36, hs⟩ := gg_bind hs
          refine zr_il X e36 dX9_wordOf_36 ?_
          refine tt_icmp_eq (tgt := 86) X dX9_wordOf_37 (by decide) (fun c37 => ?_) (fun c37 => ?_)
          · rw [if_pos c37] at hs
            refine tt_drop [0, 1, 2, 3, 4, 5, 7] ?_
            exact t_86 b0 x1 x2 x3 x4 x5 x7 h hs
          · rw [if_neg c37] at hs
            refine tt_aload_n X dX9_wordOf_40 rfl ?_
            refine tt_iload_n X dX9_wordOf_41 rfl ?_
            refine tt_iload X dX9_wordOf_42 rfl ?_
            obtain ⟨o44, f44, hs⟩ := gg_bind hs
            obtain ⟨w44, e44, hs⟩ := gg_bind hs
            refine zr_callV X f44 rfl (c_X9_wordAt l e44) (fun hts => cwV 2 hts gX9_wordOf_X9_wordAt rfl rfl rfl (by decide +kernel) ⟨by decide, by decide⟩) rfl rfl (Nat.le_of_ble_eq_true rfl) dX9_wordOf_44 ⟨Nat.zero_le _, Nat.zero_le _⟩ ?_
            refine tt_aload_n X dX9_wordOf_47 rfl ?_
            refine tt_iload_n X dX9_wordOf_48 rfl ?_
            refine tt_iload X dX9_wordOf_49 rfl ?_
            obtain ⟨o51, f51, hs⟩ := gg_bind hs
            obtain ⟨w51, e51, hs⟩ := gg_bind hs
            refine zr_callV X f51 rfl (c_X9_wordAt l e51) (fun hts => cwV 2 hts gX9_wordOf_X9_wordAt rfl rfl rfl (by decide +kernel) ⟨by decide, by decide⟩) rfl rfl (Nat.le_of_ble_eq_true rfl) dX9_wordOf_51 ⟨Nat.zero_le _, Nat.zero_le _⟩ ?_
            refine tt_icmp_eq (tgt := 86) X dX9_wordOf_54 (by decide) (fun c54 => ?_) (fun c54 => ?_)
            · rw [if_pos c54] at hs
              refine tt_drop [0, 1, 2, 3, 4, 5, 7] ?_
              exact t_86 b0 x1 x2 x3 x4 x5 x7 w51.2 hs
            · rw [if_neg c54] at hs
              refine tt_aload_n X dX9_wordOf_57 rfl ?_
              obtain ⟨o58, e58, hs⟩ := gg_bind hs
              refine zr_fr X e58 rfl in_X9_wordOf_X9 (by decide) (by decide +kernel) rfl dX9_wordOf_58 ?_
              refine tt_iload X dX9_wordOf_61 rfl ?_
              refine tt_iconst (v := 1) X dX9_wordOf_63 (by decide) ?_
              refine tt_iadd X dX9_wordOf_64 ?_
              refine tt_iload X dX9_wordOf_65 rfl ?_
              obtain ⟨w67, e67, hs⟩ := gg_bind hs
              refine zr_callS X (c_X9_spot l e67) (fun hts => va_cwS 2 hts gX9_wordOf_X9_spot rfl rfl rfl (by decide +kernel) ⟨by decide, by decide⟩) rfl rfl (Nat.le_of_ble_eq_true rfl) dX9_wordOf_67 ⟨Nat.zero_le _, Nat.zero_le _⟩ ?_
              obtain ⟨z70, e70, hs⟩ := gg_bind hs
              refine zr_il X e70 dX9_wordOf_70 ?_
              refine tt_aload_n X dX9_wordOf_71 rfl ?_
              obtain ⟨o72, e72, hs⟩ := gg_bind hs
              refine zr_fr X e72 rfl in_X9_wordOf_X9 (by decide) (by decide +kernel) rfl dX9_wordOf_72 ?_
              refine tt_iload X dX9_wordOf_75 rfl ?_
              refine tt_iload X dX9_wordOf_77 rfl ?_
              obtain ⟨w79, e79, hs⟩ := gg_bind hs
              refine zr_callS X (c_X9_spot l e79) (fun hts => va_cwS 2 hts gX9_wordOf_X9_spot rfl rfl rfl (by decide +kernel) ⟨by decide, by decide⟩) rfl rfl (Nat.le_of_ble_eq_true rfl) dX9_wordOf_79 ⟨Nat.zero_le _, Nat.zero_le _⟩ ?_
              obtain ⟨z82, e82, hs⟩ := gg_bind hs
              refine zr_il X e82 dX9_wordOf_82 ?_
              refine tt_icmp_ge (tgt := 90) X dX9_wordOf_83 (by decide) (fun c83 => ?_) (fun c83 => ?_)
              · rw [if_pos c83] at hs
                refine tt_drop [0, 1, 2, 3, 4, 5, 7] ?_
                exact t_90 b0 x1 x2 x3 x4 x5 x7 w79.2 hs
              · rw [if_neg c83] at hs
                refine tt_drop [0, 1, 2, 3, 4, 5, 7] ?_
                exact t_86 b0 x1 x2 x3 x4 x5 x7 w79.2 hs
  refine tt_iconst (v := 0) X dX9_wordOf_0 (by decide) ?_
  refine tt_istore X dX9_wordOf_1 (Nat.le_of_ble_eq_true rfl) ?_
  refine tt_iconst (v := 0) X dX9_wordOf_3 (by decide) ?_
  refine tt_istore X dX9_wordOf_4 (Nat.le_of_ble_eq_true rfl) ?_
  refine tt_iconst (v := 0) X dX9_wordOf_6 (by decide) ?_
  refine tt_istore X dX9_wordOf_7 (Nat.le_of_ble_eq_true rfl) ?_
  refine tt_iconst (v := 0) X dX9_wordOf_9 (by decide) ?_
  refine tt_istore X dX9_wordOf_10 (Nat.le_of_ble_eq_true rfl) ?_
  refine tt_drop [0, 1, 2, 3, 4, 5, 6, 7] ?_
  exact t_12 1000 b0 x1 x2 x3 0 0 0 0 h hs

theorem in_X9_shortest_X9 : ∀ w ∈ u_ws RX9 TX9 26, w ∈ wsX9_shortest := by decide +kernel
def s_X9_shortest (b0 : Nat) (x1 : Int32) (x2 : Int32) (x3 : Int32) (h : tt_H) : Option (Int64 × tt_H) :=
  (gg_obj h b0 9).bind fun _ =>
  (s_X9_isDay b0 x1 h).bind fun w2 =>
  if w2.1 = 0 then
    some ((-9223372036854775808), w2.2)
  else
  (gg_obj w2.2 b0 9).bind fun _ =>
  (s_X9_isDay b0 x2 w2.2).bind fun w10 =>
  if w10.1 = 0 then
    some ((-9223372036854775808), w10.2)
  else
  if ((-1)) ≤ x3 then
    (gg_obj w10.2 b0 9).bind fun _ =>
    (s_X9_layYet b0 x1 x2 w10.2).bind fun w28 =>
    (gg_fr w28.2 b0 9 20).bind fun o33 =>
    (gg_il w28.2 o33 0).bind fun z37 =>
    if x3 < z37 then
      if x3 = ((-1)) then
        (gg_fr w28.2 b0 9 21).bind fun o51 =>
        (gg_jl w28.2 o51 0).bind fun z55 =>
        some (z55, w28.2)
      else
      (gg_obj w28.2 b0 9).bind fun _ =>
      (s_X9_wordOf b0 x1 x2 x3 w28.2).bind fun w63 =>
      some (w63.1.toInt64, w63.2)
    else
    some ((-9223372036854775808), w28.2)
  else
  some ((-9223372036854775808), w10.2)
abbrev rm_X9_shortest : Room := { frames := 3, cells := 0, slots := 0, locals := 73 }
set_option maxHeartbeats 4000000 in
set_option maxRecDepth 100000 in
theorem c_X9_shortest (l : Launch) {b0 : Nat} {x1 : Int32} {x2 : Int32} {x3 : Int32} {h : tt_H} {ρ : Int64 × tt_H} (hs : s_X9_shortest b0 x1 x2 x3 h = some ρ) : tt_M tt_cl l yX9_shortest wsX9_shortest rm_X9_shortest 0 0 false [.ref b0, .int x1, .int x2, .int x3] h (tt_ret (some (.long ρ.1)) ρ.2) := by
  refine tt_M.of0 (cc := cX9_shortest) (maxL := 4) (ret := (some .long)) (by decide +kernel) rfl (Nat.le_of_ble_eq_true rfl) ?_
  intro p e s m args below meth c D ca ad n0 sz hwf hsz X hini
  unfold s_X9_shortest at hs
  refine tt_aload_n X dX9_shortest_0 rfl ?_
  refine tt_iload_n X dX9_shortest_1 rfl ?_
  obtain ⟨o2, f2, hs⟩ := gg_bind hs
  obtain ⟨w2, e2, hs⟩ := gg_bind hs
  refine zr_callV X f2 rfl (c_X9_isDay l e2) (fun hts => cwV 1 hts gX9_shortest_X9_isDay rfl rfl rfl (by decide +kernel) ⟨by decide, by decide⟩) rfl rfl (Nat.le_of_ble_eq_true rfl) dX9_shortest_2 ⟨Nat.zero_le _, Nat.zero_le _⟩ ?_
  refine tt_if_eq (tgt := 21) X dX9_shortest_5 (by decide) (fun c5 => ?_) (fun c5 => ?_)
  · rw [if_pos c5] at hs
    refine tt_ldc2 (v := (-9223372036854775808)) X (by decide +kernel) dX9_shortest_21 ?_
    obtain rfl := Option.some.inj hs
    exact tt_lret X rfl dX9_shortest_24 ⟨rfl, rfl⟩
  · rw [if_neg c5] at hs
    refine tt_aload_n X dX9_shortest_8 rfl ?_
    refine tt_iload_n X dX9_shortest_9 rfl ?_
    obtain ⟨o10, f10, hs⟩ := gg_bind hs
    obtain ⟨w10, e10, hs⟩ := gg_bind hs
    refine zr_callV X f10 rfl (c_X9_isDay l e10) (fun hts => cwV 1 hts gX9_shortest_X9_isDay rfl rfl rfl (by decide +kernel) ⟨by decide, by decide⟩) rfl rfl (Nat.le_of_ble_eq_true rfl) dX9_shortest_10 ⟨Nat.zero_le _, Nat.zero_le _⟩ ?_
    refine tt_if_eq (tgt := 21) X dX9_shortest_13 (by decide) (fun c13 => ?_) (fun c13 => ?_)
    · rw [if_pos c13] at hs
      refine tt_ldc2 (v := (-9223372036854775808)) X (by decide +kernel) dX9_shortest_21 ?_
      obtain rfl := Option.some.inj hs
      exact tt_lret X rfl dX9_shortest_24 ⟨rfl, rfl⟩
    · rw [if_neg c13] at hs
      refine tt_iload_n X dX9_shortest_16 rfl ?_
      refine tt_iconst (v := (-1)) X dX9_shortest_17 (by decide) ?_
      refine tt_icmp_ge (tgt := 25) X dX9_shortest_18 (by decide) (fun c18 => ?_) (fun c18 => ?_)
      · rw [if_pos c18] at hs
        refine tt_aload_n X dX9_shortest_25 rfl ?_
        refine tt_iload_n X dX9_shortest_26 rfl ?_
        refine tt_iload_n X dX9_shortest_27 rfl ?_
        obtain ⟨o28, f28, hs⟩ := gg_bind hs
        obtain ⟨w28, e28, hs⟩ := gg_bind hs
        refine zr_callV X f28 rfl (c_X9_layYet l e28) (fun hts => cwV 2 hts gX9_shortest_X9_layYet rfl rfl rfl (by decide +kernel) ⟨by decide, by decide⟩) rfl rfl (Nat.le_of_ble_eq_true rfl) dX9_shortest_28 ⟨Nat.zero_le _, Nat.zero_le _⟩ ?_
        refine tt_iload_n X dX9_shortest_31 rfl ?_
        refine tt_aload_n X dX9_shortest_32 rfl ?_
        obtain ⟨o33, e33, hs⟩ := gg_bind hs
        refine zr_fr X e33 rfl in_X9_shortest_X9 (by decide) (by decide +kernel) rfl dX9_shortest_33 ?_
        refine tt_iconst (v := 0) X dX9_shortest_36 (by decide) ?_
        obtain ⟨z37, e37, hs⟩ := gg_bind hs
        refine zr_il X e37 dX9_shortest_37 ?_
        refine tt_icmp_lt (tgt := 45) X dX9_shortest_38 (by decide) (fun c38 => ?_) (fun c38 => ?_)
        · rw [if_pos c38] at hs
          refine tt_iload_n X dX9_shortest_45 rfl ?_
          refine tt_iconst (v := (-1)) X dX9_shortest_46 (by decide) ?_
          refine tt_icmp_ne (tgt := 59) X dX9_shortest_47 (by decide) (fun c47 => ?_) (fun c47 => ?_)
          · rw [if_neg c47] at hs
            refine tt_aload_n X dX9_shortest_59 rfl ?_
            refine tt_iload_n X dX9_shortest_60 rfl ?_
            refine tt_iload_n X dX9_shortest_61 rfl ?_
            refine tt_iload_n X dX9_shortest_62 rfl ?_
            obtain ⟨o63, f63, hs⟩ := gg_bind hs
            obtain ⟨w63, e63, hs⟩ := gg_bind hs
            refine zr_callV X f63 rfl (c_X9_wordOf l e63) (fun hts => cwV 3 hts gX9_shortest_X9_wordOf rfl rfl rfl (by decide +kernel) ⟨by decide, by decide⟩) rfl rfl (Nat.le_of_ble_eq_true rfl) dX9_shortest_63 ⟨Nat.zero_le _, Nat.zero_le _⟩ ?_
            refine tt_i2l X dX9_shortest_66 ?_
            obtain rfl := Option.some.inj hs
            exact tt_lret X rfl dX9_shortest_67 ⟨rfl, rfl⟩
          · rw [if_pos c47] at hs
            refine tt_aload_n X dX9_shortest_50 rfl ?_
            obtain ⟨o51, e51, hs⟩ := gg_bind hs
            refine zr_fr X e51 rfl in_X9_shortest_X9 (by decide) (by decide +kernel) rfl dX9_shortest_51 ?_
            refine tt_iconst (v := 0) X dX9_shortest_54 (by decide) ?_
            obtain ⟨z55, e55, hs⟩ := gg_bind hs
            refine zr_jl X e55 dX9_shortest_55 ?_
            refine tt_goto (tgt := 67) X dX9_shortest_56 (by decide) ?_
            obtain rfl := Option.some.inj hs
            exact tt_lret X rfl dX9_shortest_67 ⟨rfl, rfl⟩
        · rw [if_neg c38] at hs
          refine tt_ldc2 (v := (-9223372036854775808)) X (by decide +kernel) dX9_shortest_41 ?_
          obtain rfl := Option.some.inj hs
          exact tt_lret X rfl dX9_shortest_44 ⟨rfl, rfl⟩
      · rw [if_neg c18] at hs
        refine tt_ldc2 (v := (-9223372036854775808)) X (by decide +kernel) dX9_shortest_21 ?_
        obtain rfl := Option.some.inj hs
        exact tt_lret X rfl dX9_shortest_24 ⟨rfl, rfl⟩

theorem in_X9_sing_X9 : ∀ w ∈ u_ws RX9 TX9 26, w ∈ wsX9_sing := by decide +kernel
def s_X9_sing_J25 (b0 : Nat) (x1 : Int32) (ub0 : Nat) (ux1 : Int32) (h : tt_H) : Option (Int32 × tt_H) :=
  (gg_obj h ub0 9).bind fun _ =>
  (s_X9_begins ub0 ux1 h).bind fun w25 =>
  (gg_fr w25.2 b0 9 5).bind fun o29 =>
  (gg_il w25.2 o29 x1).bind fun z33 =>
  if z33 = 2 then
    some (40, w25.2)
  else
  some (x1, w25.2)
def s_X9_sing (b0 : Nat) (x1 : Int32) (h : tt_H) : Option (Int32 × tt_H) :=
  (s_X9_isWord x1 h).bind fun w1 =>
  if w1.1 = 0 then
    some ((-1), w1.2)
  else
  (gg_fr w1.2 b0 9 5).bind fun o11 =>
  (gg_il w1.2 o11 x1).bind fun z15 =>
  if z15 = 2 then
    s_X9_sing_J25 b0 x1 b0 5 w1.2
  else
  s_X9_sing_J25 b0 x1 b0 4 w1.2
abbrev rm_X9_sing : Room := { frames := 2, cells := 0, slots := 0, locals := 42 }
set_option maxHeartbeats 4000000 in
set_option maxRecDepth 100000 in
theorem c_X9_sing (l : Launch) {b0 : Nat} {x1 : Int32} {h : tt_H} {ρ : Int32 × tt_H} (hs : s_X9_sing b0 x1 h = some ρ) : tt_M tt_cl l yX9_sing wsX9_sing rm_X9_sing 0 0 false [.ref b0, .int x1] h (tt_ret (some (.int ρ.1)) ρ.2) := by
  refine tt_M.of0 (cc := cX9_sing) (maxL := 2) (ret := (some .int)) (by decide +kernel) rfl (Nat.le_of_ble_eq_true rfl) ?_
  intro p e s m args below meth c D ca ad n0 sz hwf hsz X hini
  unfold s_X9_sing at hs
  have t_25 : ∀ (b0 : Nat) (x1 : Int32) (ub0 : Nat) (ux1 : Int32) (h : tt_H), s_X9_sing_J25 b0 x1 ub0 ux1 h = some ρ → tt_T tt_cl (p, l, e, rm_X9_sing, s, m, args, below, meth, c, MQ below (tt_Q tt_cl D ca ad n0 sz false (tt_ret (some (.int ρ.1)) ρ.2)) args s 0 0 (tt_A ad n0 sz), D, ca, tt_A ad n0 sz, 2, some n0) ad 0 0 25 [(0, .ref b0), (1, .int x1)] [.int ux1, .ref ub0] h := by
    intro b0 x1 ub0 ux1 h hs
    unfold s_X9_sing_J25 at hs
    obtain ⟨o25, f25, hs⟩ := gg_bind hs
    obtain ⟨w25, e25, hs⟩ := gg_bind hs
    refine zr_callV X f25 rfl (c_X9_begins l e25) (fun hts => cwV 1 hts gX9_sing_X9_begins rfl rfl rfl (by decide +kernel) ⟨by decide, by decide⟩) rfl rfl (Nat.le_of_ble_eq_true rfl) dX9_sing_25 ⟨Nat.zero_le _, Nat.zero_le _⟩ ?_
    refine tt_aload_n X dX9_sing_28 rfl ?_
    obtain ⟨o29, e29, hs⟩ := gg_bind hs
    refine zr_fr X e29 rfl in_X9_sing_X9 (by decide) (by decide +kernel) rfl dX9_sing_29 ?_
    refine tt_iload_n X dX9_sing_32 rfl ?_
    obtain ⟨z33, e33, hs⟩ := gg_bind hs
    refine zr_il X e33 dX9_sing_33 ?_
    refine tt_iconst (v := 2) X dX9_sing_34 (by decide) ?_
    refine tt_icmp_ne (tgt := 43) X dX9_sing_35 (by decide) (fun c35 => ?_) (fun c35 => ?_)
    · rw [if_neg c35] at hs
      refine tt_iload_n X dX9_sing_43 rfl ?_
      obtain rfl := Option.some.inj hs
      exact tt_iret X rfl dX9_sing_44 ⟨rfl, rfl⟩
    · rw [if_pos c35] at hs
      refine tt_bipush (v := 40) X dX9_sing_38 (by decide) ?_
      refine tt_goto (tgt := 44) X dX9_sing_40 (by decide) ?_
      obtain rfl := Option.some.inj hs
      exact tt_iret X rfl dX9_sing_44 ⟨rfl, rfl⟩
  refine tt_iload_n X dX9_sing_0 rfl ?_
  obtain ⟨w1, e1, hs⟩ := gg_bind hs
  refine zr_callS X (c_X9_isWord l e1) (fun hts => va_cwS 1 hts gX9_sing_X9_isWord rfl rfl rfl (by decide +kernel) ⟨by decide, by decide⟩) rfl rfl (Nat.le_of_ble_eq_true rfl) dX9_sing_1 ⟨Nat.zero_le _, Nat.zero_le _⟩ ?_
  refine tt_if_ne (tgt := 9) X dX9_sing_4 (by decide) (fun c4 => ?_) (fun c4 => ?_)
  · rw [if_neg c4] at hs
    refine tt_aload_n X dX9_sing_9 rfl ?_
    refine tt_aload_n X dX9_sing_10 rfl ?_
    obtain ⟨o11, e11, hs⟩ := gg_bind hs
    refine zr_fr X e11 rfl in_X9_sing_X9 (by decide) (by decide +kernel) rfl dX9_sing_11 ?_
    refine tt_iload_n X dX9_sing_14 rfl ?_
    obtain ⟨z15, e15, hs⟩ := gg_bind hs
    refine zr_il X e15 dX9_sing_15 ?_
    refine tt_iconst (v := 2) X dX9_sing_16 (by decide) ?_
    refine tt_icmp_ne (tgt := 24) X dX9_sing_17 (by decide) (fun c17 => ?_) (fun c17 => ?_)
    · rw [if_neg c17] at hs
      refine tt_iconst (v := 4) X dX9_sing_24 (by decide) ?_
      refine tt_drop [0, 1] ?_
      exact t_25 b0 x1 b0 4 w1.2 hs
    · rw [if_pos c17] at hs
      refine tt_iconst (v := 5) X dX9_sing_20 (by decide) ?_
      refine tt_goto (tgt := 25) X dX9_sing_21 (by decide) ?_
      refine tt_drop [0, 1] ?_
      exact t_25 b0 x1 b0 5 w1.2 hs
  · rw [if_pos c4] at hs
    refine tt_iconst (v := (-1)) X dX9_sing_7 (by decide) ?_
    obtain rfl := Option.some.inj hs
    exact tt_iret X rfl dX9_sing_8 ⟨rfl, rfl⟩

theorem in_X9_tell_X9 : ∀ w ∈ u_ws RX9 TX9 26, w ∈ wsX9_tell := by decide +kernel
def s_X9_tell (b0 : Nat) (x1 : Int32) (h : tt_H) : Option (Int32 × tt_H) :=
  (s_X9_isWord x1 h).bind fun w1 =>
  if w1.1 = 0 then
    some ((-1), w1.2)
  else
  (gg_obj w1.2 b0 9).bind fun _ =>
  (s_X9_inCries b0 x1 w1.2).bind fun w11 =>
  (gg_fr w11.2 b0 9 5).bind fun o16 =>
  (gg_il w11.2 o16 x1).bind fun z20 =>
  if z20 = 1 then
    (gg_obj w11.2 b0 9).bind fun _ =>
    (s_X9_begins b0 2 w11.2).bind fun w50 =>
    (gg_obj w50.2 b0 9).bind fun _ =>
    (s_X9_begins b0 1 w50.2).bind fun w55 =>
    some (w11.1 + 100, w55.2)
  else
  if z20 = 2 then
    (gg_obj w11.2 b0 9).bind fun _ =>
    (s_X9_begins b0 3 w11.2).bind fun w65 =>
    (gg_obj w65.2 b0 9).bind fun _ =>
    (s_X9_begins b0 2 w65.2).bind fun w70 =>
    (gg_obj w70.2 b0 9).bind fun _ =>
    (s_X9_begins b0 1 w70.2).bind fun w75 =>
    (gg_obj w75.2 b0 9).bind fun _ =>
    (s_X9_begins b0 1 w75.2).bind fun w80 =>
    some ((2 * w11.1) + 100, w80.2)
  else
  (gg_obj w11.2 b0 9).bind fun _ =>
  (s_X9_begins b0 1 w11.2).bind fun w92 =>
  some (w11.1, w92.2)
abbrev rm_X9_tell : Room := { frames := 3, cells := 0, slots := 0, locals := 69 }
set_option maxHeartbeats 4000000 in
set_option maxRecDepth 100000 in
theorem c_X9_tell (l : Launch) {b0 : Nat} {x1 : Int32} {h : tt_H} {ρ : Int32 × tt_H} (hs : s_X9_tell b0 x1 h = some ρ) : tt_M tt_cl l yX9_tell wsX9_tell rm_X9_tell 0 0 false [.ref b0, .int x1] h (tt_ret (some (.int ρ.1)) ρ.2) := by
  refine tt_M.of0 (cc := cX9_tell) (maxL := 3) (ret := (some .int)) (by decide +kernel) rfl (Nat.le_of_ble_eq_true rfl) ?_
  intro p e s m args below meth c D ca ad n0 sz hwf hsz X hini
  unfold s_X9_tell at hs
  refine tt_iload_n X dX9_tell_0 rfl ?_
  obtain ⟨w1, e1, hs⟩ := gg_bind hs
  refine zr_callS X (c_X9_isWord l e1) (fun hts => va_cwS 1 hts gX9_tell_X9_isWord rfl rfl rfl (by decide +kernel) ⟨by decide, by decide⟩) rfl rfl (Nat.le_of_ble_eq_true rfl) dX9_tell_1 ⟨Nat.zero_le _, Nat.zero_le _⟩ ?_
  refine tt_if_ne (tgt := 9) X dX9_tell_4 (by decide) (fun c4 => ?_) (fun c4 => ?_)
  · rw [if_neg c4] at hs
    refine tt_aload_n X dX9_tell_9 rfl ?_
    refine tt_iload_n X dX9_tell_10 rfl ?_
    obtain ⟨o11, f11, hs⟩ := gg_bind hs
    obtain ⟨w11, e11, hs⟩ := gg_bind hs
    refine zr_callV X f11 rfl (c_X9_inCries l e11) (fun hts => cwV 1 hts gX9_tell_X9_inCries rfl rfl rfl (by decide +kernel) ⟨by decide, by decide⟩) rfl rfl (Nat.le_of_ble_eq_true rfl) dX9_tell_11 ⟨Nat.zero_le _, Nat.zero_le _⟩ ?_
    refine tt_istore_n X dX9_tell_14 (Nat.le_of_ble_eq_true rfl) ?_
    refine tt_aload_n X dX9_tell_15 rfl ?_
    obtain ⟨o16, e16, hs⟩ := gg_bind hs
    refine zr_fr X e16 rfl in_X9_tell_X9 (by decide) (by decide +kernel) rfl dX9_tell_16 ?_
    refine tt_iload_n X dX9_tell_19 rfl ?_
    obtain ⟨z20, e20, hs⟩ := gg_bind hs
    refine zr_il X e20 dX9_tell_20 ?_
    by_cases c21_0 : z20 = 1
    · rw [if_pos c21_0] at hs
      refine zr_lookup X dX9_tell_21 (by decide) (off := 27) (tgt := 48) (by show Op.lookupswitch.offset [(1, 27), (2, 42)] 69 _ = _; rw [c21_0]; rfl) (by decide) ?_
      refine tt_aload_n X dX9_tell_48 rfl ?_
      refine tt_iconst (v := 2) X dX9_tell_49 (by decide) ?_
      obtain ⟨o50, f50, hs⟩ := gg_bind hs
      obtain ⟨w50, e50, hs⟩ := gg_bind hs
      refine zr_callV X f50 rfl (c_X9_begins l e50) (fun hts => cwV 1 hts gX9_tell_X9_begins rfl rfl rfl (by decide +kernel) ⟨by decide, by decide⟩) rfl rfl (Nat.le_of_ble_eq_true rfl) dX9_tell_50 ⟨Nat.zero_le _, Nat.zero_le _⟩ ?_
      refine tt_aload_n X dX9_tell_53 rfl ?_
      refine tt_iconst (v := 1) X dX9_tell_54 (by decide) ?_
      obtain ⟨o55, f55, hs⟩ := gg_bind hs
      obtain ⟨w55, e55, hs⟩ := gg_bind hs
      refine zr_callV X f55 rfl (c_X9_begins l e55) (fun hts => cwV 1 hts gX9_tell_X9_begins rfl rfl rfl (by decide +kernel) ⟨by decide, by decide⟩) rfl rfl (Nat.le_of_ble_eq_true rfl) dX9_tell_55 ⟨Nat.zero_le _, Nat.zero_le _⟩ ?_
      refine tt_iload_n X dX9_tell_58 rfl ?_
      refine tt_bipush (v := 100) X dX9_tell_59 (by decide) ?_
      refine tt_iadd X dX9_tell_61 ?_
      obtain rfl := Option.some.inj hs
      exact tt_iret X rfl dX9_tell_62 ⟨rfl, rfl⟩
    · rw [if_neg c21_0] at hs
      by_cases c21_1 : z20 = 2
      · rw [if_pos c21_1] at hs
        refine zr_lookup X dX9_tell_21 (by decide) (off := 42) (tgt := 63) (by show Op.lookupswitch.offset [(1, 27), (2, 42)] 69 _ = _; rw [lv_osw (a := 1) c21_0 (by decide)]; rw [c21_1]; rfl) (by decide) ?_
        refine tt_aload_n X dX9_tell_63 rfl ?_
        refine tt_iconst (v := 3) X dX9_tell_64 (by decide) ?_
        obtain ⟨o65, f65, hs⟩ := gg_bind hs
        obtain ⟨w65, e65, hs⟩ := gg_bind hs
        refine zr_callV X f65 rfl (c_X9_begins l e65) (fun hts => cwV 1 hts gX9_tell_X9_begins rfl rfl rfl (by decide +kernel) ⟨by decide, by decide⟩) rfl rfl (Nat.le_of_ble_eq_true rfl) dX9_tell_65 ⟨Nat.zero_le _, Nat.zero_le _⟩ ?_
        refine tt_aload_n X dX9_tell_68 rfl ?_
        refine tt_iconst (v := 2) X dX9_tell_69 (by decide) ?_
        obtain ⟨o70, f70, hs⟩ := gg_bind hs
        obtain ⟨w70, e70, hs⟩ := gg_bind hs
        refine zr_callV X f70 rfl (c_X9_begins l e70) (fun hts => cwV 1 hts gX9_tell_X9_begins rfl rfl rfl (by decide +kernel) ⟨by decide, by decide⟩) rfl rfl (Nat.le_of_ble_eq_true rfl) dX9_tell_70 ⟨Nat.zero_le _, Nat.zero_le _⟩ ?_
        refine tt_aload_n X dX9_tell_73 rfl ?_
        refine tt_iconst (v := 1) X dX9_tell_74 (by decide) ?_
        obtain ⟨o75, f75, hs⟩ := gg_bind hs
        obtain ⟨w75, e75, hs⟩ := gg_bind hs
        refine zr_callV X f75 rfl (c_X9_begins l e75) (fun hts => cwV 1 hts gX9_tell_X9_begins rfl rfl rfl (by decide +kernel) ⟨by decide, by decide⟩) rfl rfl (Nat.le_of_ble_eq_true rfl) dX9_tell_75 ⟨Nat.zero_le _, Nat.zero_le _⟩ ?_
        refine tt_aload_n X dX9_tell_78 rfl ?_
        refine tt_iconst (v := 1) X dX9_tell_79 (by decide) ?_
        obtain ⟨o80, f80, hs⟩ := gg_bind hs
        obtain ⟨w80, e80, hs⟩ := gg_bind hs
        refine zr_callV X f80 rfl (c_X9_begins l e80) (fun hts => cwV 1 hts gX9_tell_X9_begins rfl rfl rfl (by decide +kernel) ⟨by decide, by decide⟩) rfl rfl (Nat.le_of_ble_eq_true rfl) dX9_tell_80 ⟨Nat.zero_le _, Nat.zero_le _⟩ ?_
        refine tt_iconst (v := 2) X dX9_tell_83 (by decide) ?_
        refine tt_iload_n X dX9_tell_84 rfl ?_
        refine tt_imul X dX9_tell_85 ?_
        refine tt_bipush (v := 100) X dX9_tell_86 (by decide) ?_
        refine tt_iadd X dX9_tell_88 ?_
        obtain rfl := Option.some.inj hs
        exact tt_iret X rfl dX9_tell_89 ⟨rfl, rfl⟩
      · rw [if_neg c21_1] at hs
        refine zr_lookup X dX9_tell_21 (by decide) (off := 69) (tgt := 90) (by show Op.lookupswitch.offset [(1, 27), (2, 42)] 69 _ = _; rw [lv_osw (a := 1) c21_0 (by decide), lv_osw (a := 2) c21_1 (by decide)]; rfl) (by decide) ?_
        refine tt_aload_n X dX9_tell_90 rfl ?_
        refine tt_iconst (v := 1) X dX9_tell_91 (by decide) ?_
        obtain ⟨o92, f92, hs⟩ := gg_bind hs
        obtain ⟨w92, e92, hs⟩ := gg_bind hs
        refine zr_callV X f92 rfl (c_X9_begins l e92) (fun hts => cwV 1 hts gX9_tell_X9_begins rfl rfl rfl (by decide +kernel) ⟨by decide, by decide⟩) rfl rfl (Nat.le_of_ble_eq_true rfl) dX9_tell_92 ⟨Nat.zero_le _, Nat.zero_le _⟩ ?_
        refine tt_iload_n X dX9_tell_95 rfl ?_
        obtain rfl := Option.some.inj hs
        exact tt_iret X rfl dX9_tell_96 ⟨rfl, rfl⟩
  · rw [if_pos c4] at hs
    refine tt_iconst (v := (-1)) X dX9_tell_7 (by decide) ?_
    obtain rfl := Option.some.inj hs
    exact tt_iret X rfl dX9_tell_8 ⟨rfl, rfl⟩

theorem in_X9_threeYet_X9 : ∀ w ∈ u_ws RX9 TX9 26, w ∈ wsX9_threeYet := by decide +kernel
def s_X9_threeYet_J219 (κ54 : Nat → Int32 → Int32 → Int32 → Int32 → Int32 → Int32 → Int32 → Int32 → tt_H → Option (Int32 × tt_H)) (b0 : Nat) (x1 : Int32) (x2 : Int32) (x3 : Int32) (x4 : Int32) (x5 : Int32) (x6 : Int32) (x8 : Int32) (x9 : Int32) (h : tt_H) : Option (Int32 × tt_H) :=
  κ54 b0 x1 x2 x3 x4 x5 x6 x8 (x9 + 1) h
def s_X9_threeYet_J217 (κ219 : Nat → Int32 → Int32 → Int32 → Int32 → Int32 → Int32 → Int32 → Int32 → tt_H → Option (Int32 × tt_H)) (b0 : Nat) (x1 : Int32) (x2 : Int32) (x3 : Int32) (x4 : Int32) (x5 : Int32) (x6 : Int32) (x9 : Int32) (ux0 : Int32) (h : tt_H) : Option (Int32 × tt_H) :=
  κ219 b0 x1 x2 x3 x4 x5 x6 ux0 x9 h
def s_X9_threeYet_J157 (κ54 : Nat → Int32 → Int32 → Int32 → Int32 → Int32 → Int32 → Int32 → Int32 → tt_H → Option (Int32 × tt_H)) (b0 : Nat) (x1 : Int32) (x2 : Int32) (x3 : Int32) (x4 : Int32) (x5 : Int32) (x6 : Int32) (x8 : Int32) (x9 : Int32) (x10 : Int32) (x11 : Int32) (ux0 : Int32) (ux1 : Int32) (h : tt_H) : Option (Int32 × tt_H) :=
  if ((x10 + x11) + (ux0 + ux1)) ≤ ((x4 + x5) + x6) then
    s_X9_threeYet_J219 κ54 b0 x1 x2 x3 x4 x5 x6 x8 x9 h
  else
  (gg_fr h b0 9 22).bind fun o181 =>
  (gg_il h o181 (((169 * x10) + (13 * x11)) + (ux0 + ux1))).bind fun z199 =>
  if x8 ≤ (1 + z199) then
    s_X9_threeYet_J217 (s_X9_threeYet_J219 κ54) b0 x1 x2 x3 x4 x5 x6 x9 x8 h
  else
  s_X9_threeYet_J217 (s_X9_threeYet_J219 κ54) b0 x1 x2 x3 x4 x5 x6 x9 (1 + z199) h
def s_X9_threeYet_J156 (κ157 : Nat → Int32 → Int32 → Int32 → Int32 → Int32 → Int32 → Int32 → Int32 → Int32 → Int32 → Int32 → Int32 → tt_H → Option (Int32 × tt_H)) (b0 : Nat) (x1 : Int32) (x2 : Int32) (x3 : Int32) (x4 : Int32) (x5 : Int32) (x6 : Int32) (x8 : Int32) (x9 : Int32) (x10 : Int32) (x11 : Int32) (ux0 : Int32) (h : tt_H) : Option (Int32 × tt_H) :=
  κ157 b0 x1 x2 x3 x4 x5 x6 x8 x9 x10 x11 ux0 0 h
def s_X9_threeYet_J124 (κ54 : Nat → Int32 → Int32 → Int32 → Int32 → Int32 → Int32 → Int32 → Int32 → tt_H → Option (Int32 × tt_H)) (b0 : Nat) (x1 : Int32) (x2 : Int32) (x3 : Int32) (x4 : Int32) (x5 : Int32) (x6 : Int32) (x8 : Int32) (x9 : Int32) (x10 : Int32) (ux0 : Int32) (ux1 : Int32) (h : tt_H) : Option (Int32 × tt_H) :=
  (gg_fr h b0 9 7).bind fun o132 =>
  (gg_il h o132 x3).bind fun z136 =>
  if z136 ≤ x6 then
    s_X9_threeYet_J156 (s_X9_threeYet_J157 κ54) b0 x1 x2 x3 x4 x5 x6 x8 x9 x10 (ux0 + ux1) x6 h
  else
  (gg_obj h b0 9).bind fun _ =>
  (s_X9_wordAt b0 x3 x6 h).bind fun w144 =>
  if w144.1 = x9 then
    s_X9_threeYet_J157 κ54 b0 x1 x2 x3 x4 x5 x6 x8 x9 x10 (ux0 + ux1) x6 1 w144.2
  else
  s_X9_threeYet_J156 (s_X9_threeYet_J157 κ54) b0 x1 x2 x3 x4 x5 x6 x8 x9 x10 (ux0 + ux1) x6 w144.2
def s_X9_threeYet_J123 (κ124 : Nat → Int32 → Int32 → Int32 → Int32 → Int32 → Int32 → Int32 → Int32 → Int32 → Int32 → Int32 → tt_H → Option (Int32 × tt_H)) (b0 : Nat) (x1 : Int32) (x2 : Int32) (x3 : Int32) (x4 : Int32) (x5 : Int32) (x6 : Int32) (x8 : Int32) (x9 : Int32) (x10 : Int32) (ux0 : Int32) (h : tt_H) : Option (Int32 × tt_H) :=
  κ124 b0 x1 x2 x3 x4 x5 x6 x8 x9 x10 ux0 0 h
def s_X9_threeYet_J91 (κ54 : Nat → Int32 → Int32 → Int32 → Int32 → Int32 → Int32 → Int32 → Int32 → tt_H → Option (Int32 × tt_H)) (b0 : Nat) (x1 : Int32) (x2 : Int32) (x3 : Int32) (x4 : Int32) (x5 : Int32) (x6 : Int32) (x8 : Int32) (x9 : Int32) (ux0 : Int32) (ux1 : Int32) (h : tt_H) : Option (Int32 × tt_H) :=
  (gg_fr h b0 9 7).bind fun o99 =>
  (gg_il h o99 x2).bind fun z103 =>
  if z103 ≤ x5 then
    s_X9_threeYet_J123 (s_X9_threeYet_J124 κ54) b0 x1 x2 x3 x4 x5 x6 x8 x9 (ux0 + ux1) x5 h
  else
  (gg_obj h b0 9).bind fun _ =>
  (s_X9_wordAt b0 x2 x5 h).bind fun w111 =>
  if w111.1 = x9 then
    s_X9_threeYet_J124 κ54 b0 x1 x2 x3 x4 x5 x6 x8 x9 (ux0 + ux1) x5 1 w111.2
  else
  s_X9_threeYet_J123 (s_X9_threeYet_J124 κ54) b0 x1 x2 x3 x4 x5 x6 x8 x9 (ux0 + ux1) x5 w111.2
def s_X9_threeYet_J90 (κ91 : Nat → Int32 → Int32 → Int32 → Int32 → Int32 → Int32 → Int32 → Int32 → Int32 → Int32 → tt_H → Option (Int32 × tt_H)) (b0 : Nat) (x1 : Int32) (x2 : Int32) (x3 : Int32) (x4 : Int32) (x5 : Int32) (x6 : Int32) (x8 : Int32) (x9 : Int32) (ux0 : Int32) (h : tt_H) : Option (Int32 × tt_H) :=
  κ91 b0 x1 x2 x3 x4 x5 x6 x8 x9 ux0 0 h
def s_X9_threeYet_L54 : Nat → Nat → Int32 → Int32 → Int32 → Int32 → Int32 → Int32 → Int32 → Int32 → tt_H → Option (Int32 × tt_H)
  | 0, _, _, _, _, _, _, _, _, _, _ => none
  | n + 1, b0, x1, x2, x3, x4, x5, x6, x8, x9, h =>
    if 8 ≤ x9 then
      some (x8, h)
    else
    (gg_fr h b0 9 7).bind fun o66 =>
    (gg_il h o66 x1).bind fun z70 =>
    if z70 ≤ x4 then
      s_X9_threeYet_J90 (s_X9_threeYet_J91 (s_X9_threeYet_L54 n)) b0 x1 x2 x3 x4 x5 x6 x8 x9 x4 h
    else
    (gg_obj h b0 9).bind fun _ =>
    (s_X9_wordAt b0 x1 x4 h).bind fun w78 =>
    if w78.1 = x9 then
      s_X9_threeYet_J91 (s_X9_threeYet_L54 n) b0 x1 x2 x3 x4 x5 x6 x8 x9 x4 1 w78.2
    else
    s_X9_threeYet_J90 (s_X9_threeYet_J91 (s_X9_threeYet_L54 n)) b0 x1 x2 x3 x4 x5 x6 x8 x9 x4 w78.2
def s_X9_threeYet_J38 (b0 : Nat) (x1 : Int32) (x2 : Int32) (x3 : Int32) (x4 : Int32) (x5 : Int32) (x6 : Int32) (ux0 : Int32) (h : tt_H) : Option (Int32 × tt_H) :=
  if ux0 = 0 then
    s_X9_threeYet_L54 1000 b0 x1 x2 x3 x4 x5 x6 99 0 h
  else
  some (0, h)
def s_X9_threeYet_J37 (κ38 : Nat → Int32 → Int32 → Int32 → Int32 → Int32 → Int32 → Int32 → tt_H → Option (Int32 × tt_H)) (b0 : Nat) (x1 : Int32) (x2 : Int32) (x3 : Int32) (x4 : Int32) (x5 : Int32) (x6 : Int32) (h : tt_H) : Option (Int32 × tt_H) :=
  κ38 b0 x1 x2 x3 x4 x5 x6 0 h
def s_X9_threeYet (b0 : Nat) (x1 : Int32) (x2 : Int32) (x3 : Int32) (x4 : Int32) (x5 : Int32) (x6 : Int32) (h : tt_H) : Option (Int32 × tt_H) :=
  (gg_fr h b0 9 7).bind fun o3 =>
  (gg_il h o3 x1).bind fun z7 =>
  if x4 = z7 then
    (gg_fr h b0 9 7).bind fun o14 =>
    (gg_il h o14 x2).bind fun z18 =>
    if x5 = z18 then
      (gg_fr h b0 9 7).bind fun o25 =>
      (gg_il h o25 x3).bind fun z29 =>
      if x6 = z29 then
        s_X9_threeYet_J38 b0 x1 x2 x3 x4 x5 x6 1 h
      else
      s_X9_threeYet_J37 s_X9_threeYet_J38 b0 x1 x2 x3 x4 x5 x6 h
    else
    s_X9_threeYet_J37 s_X9_threeYet_J38 b0 x1 x2 x3 x4 x5 x6 h
  else
  s_X9_threeYet_J37 s_X9_threeYet_J38 b0 x1 x2 x3 x4 x5 x6 h
abbrev rm_X9_threeYet : Room := { frames := 1, cells := 0, slots := 0, locals := 22 }
set_option maxHeartbeats 4000000 in
set_option maxRecDepth 100000 in
theorem c_X9_threeYet (l : Launch) {b0 : Nat} {x1 : Int32} {x2 : Int32} {x3 : Int32} {x4 : Int32} {x5 : Int32} {x6 : Int32} {h : tt_H} {ρ : Int32 × tt_H} (hs : s_X9_threeYet b0 x1 x2 x3 x4 x5 x6 h = some ρ) : tt_M tt_cl l yX9_threeYet wsX9_threeYet rm_X9_threeYet 0 0 false [.ref b0, .int x1, .int x2, .int x3, .int x4, .int x5, .int x6] h (tt_ret (some (.int ρ.1)) ρ.2) := by
  refine tt_M.of0 (cc := cX9_threeYet) (maxL := 14) (ret := (some .int)) (by decide +kernel) rfl (Nat.le_of_ble_eq_true rfl) ?_
  intro p e s m args below meth c D ca ad n0 sz hwf hsz X hini
  unfold s_X9_threeYet at hs
  have t_38 : ∀ (b0 : Nat) (x1 : Int32) (x2 : Int32) (x3 : Int32) (x4 : Int32) (x5 : Int32) (x6 : Int32) (ux0 : Int32) (h : tt_H), s_X9_threeYet_J38 b0 x1 x2 x3 x4 x5 x6 ux0 h = some ρ → tt_T tt_cl (p, l, e, rm_X9_threeYet, s, m, args, below, meth, c, MQ below (tt_Q tt_cl D ca ad n0 sz false (tt_ret (some (.int ρ.1)) ρ.2)) args s 0 0 (tt_A ad n0 sz), D, ca, tt_A ad n0 sz, 14, some n0) ad 0 0 38 [(0, .ref b0), (1, .int x1), (2, .int x2), (3, .int x3), (4, .int x4), (5, .int x5), (6, .int x6)] [.int ux0] h := by
    intro b0 x1 x2 x3 x4 x5 x6 ux0 h hs
    unfold s_X9_threeYet_J38 at hs
    have t_54 : ∀ (fu : Nat) (b0 : Nat) (x1 : Int32) (x2 : Int32) (x3 : Int32) (x4 : Int32) (x5 : Int32) (x6 : Int32) (x8 : Int32) (x9 : Int32) (h : tt_H), s_X9_threeYet_L54 fu b0 x1 x2 x3 x4 x5 x6 x8 x9 h = some ρ → tt_T tt_cl (p, l, e, rm_X9_threeYet, s, m, args, below, meth, c, MQ below (tt_Q tt_cl D ca ad n0 sz false (tt_ret (some (.int ρ.1)) ρ.2)) args s 0 0 (tt_A ad n0 sz), D, ca, tt_A ad n0 sz, 14, some n0) ad 0 0 54 [(0, .ref b0), (1, .int x1), (2, .int x2), (3, .int x3), (4, .int x4), (5, .int x5), (6, .int x6), (8, .int x8), (9, .int x9)] [] h := by
      intro fu
      induction fu with
      | zero => intro b0 x1 x2 x3 x4 x5 x6 x8 x9 h hs; exact absurd hs (by rw [s_X9_threeYet_L54]; exact fun q => by cases q)
      | succ n54 ih =>
        intro b0 x1 x2 x3 x4 x5 x6 x8 x9 h hs
        rw [s_X9_threeYet_L54] at hs
        have t_54 := ih
        have t_91 : ∀ (b0 : Nat) (x1 : Int32) (x2 : Int32) (x3 : Int32) (x4 : Int32) (x5 : Int32) (x6 : Int32) (x8 : Int32) (x9 : Int32) (ux0 : Int32) (ux1 : Int32) (h : tt_H), s_X9_threeYet_J91 (s_X9_threeYet_L54 n54) b0 x1 x2 x3 x4 x5 x6 x8 x9 ux0 ux1 h = some ρ → tt_T tt_cl (p, l, e, rm_X9_threeYet, s, m, args, below, meth, c, MQ below (tt_Q tt_cl D ca ad n0 sz false (tt_ret (some (.int ρ.1)) ρ.2)) args s 0 0 (tt_A ad n0 sz), D, ca, tt_A ad n0 sz, 14, some n0) ad 0 0 91 [(0, .ref b0), (1, .int x1), (2, .int x2), (3, .int x3), (4, .int x4), (5, .int x5), (6, .int x6), (8, .int x8), (9, .int x9)] [.int ux1, .int ux0] h := by
          intro b0 x1 x2 x3 x4 x5 x6 x8 x9 ux0 ux1 h hs
          unfold s_X9_threeYet_J91 at hs
          have t_124 : ∀ (b0 : Nat) (x1 : Int32) (x2 : Int32) (x3 : Int32) (x4 : Int32) (x5 : Int32) (x6 : Int32) (x8 : Int32) (x9 : Int32) (x10 : Int32) (ux0 : Int32) (ux1 : Int32) (h : tt_H), s_X9_threeYet_J124 (s_X9_threeYet_L54 n54) b0 x1 x2 x3 x4 x5 x6 x8 x9 x10 ux0 ux1 h = some ρ → tt_T tt_cl (p, l, e, rm_X9_threeYet, s, m, args, below, meth, c, MQ below (tt_Q tt_cl D ca ad n0 sz false (tt_ret (some (.int ρ.1)) ρ.2)) args s 0 0 (tt_A ad n0 sz), D, ca, tt_A ad n0 sz, 14, some n0) ad 0 0 124 [(0, .ref b0), (1, .int x1), (2, .int x2), (3, .int x3), (4, .int x4), (5, .int x5), (6, .int x6), (8, .int x8), (9, .int x9), (10, .int x10)] [.int ux1, .int ux0] h := by
            intro b0 x1 x2 x3 x4 x5 x6 x8 x9 x10 ux0 ux1 h hs
            unfold s_X9_threeYet_J124 at hs
            have t_157 : ∀ (b0 : Nat) (x1 : Int32) (x2 : Int32) (x3 : Int32) (x4 : Int32) (x5 : Int32) (x6 : Int32) (x8 : Int32) (x9 : Int32) (x10 : Int32) (x11 : Int32) (ux0 : Int32) (ux1 : Int32) (h : tt_H), s_X9_threeYet_J157 (s_X9_threeYet_L54 n54) b0 x1 x2 x3 x4 x5 x6 x8 x9 x10 x11 ux0 ux1 h = some ρ → tt_T tt_cl (p, l, e, rm_X9_threeYet, s, m, args, below, meth, c, MQ below (tt_Q tt_cl D ca ad n0 sz false (tt_ret (some (.int ρ.1)) ρ.2)) args s 0 0 (tt_A ad n0 sz), D, ca, tt_A ad n0 sz, 14, some n0) ad 0 0 157 [(0, .ref b0), (1, .int x1), (2, .int x2), (3, .int x3), (4, .int x4), (5, .int x5), (6, .int x6), (8, .int x8), (9, .int x9), (10, .int x10), (11, .int x11)] [.int ux1, .int ux0] h := by
              intro b0 x1 x2 x3 x4 x5 x6 x8 x9 x10 x11 ux0 ux1 h hs
              unfold s_X9_threeYet_J157 at hs
              have t_219 : ∀ (b0 : Nat) (x1 : Int32) (x2 : Int32) (x3 : Int32) (x4 : Int32) (x5 : Int32) (x6 : Int32) (x8 : Int32) (x9 : Int32) (h : tt_H), s_X9_threeYet_J219 (s_X9_threeYet_L54 n54) b0 x1 x2 x3 x4 x5 x6 x8 x9 h = some ρ → tt_T tt_cl (p, l, e, rm_X9_threeYet, s, m, args, below, meth, c, MQ below (tt_Q tt_cl D ca ad n0 sz false (tt_ret (some (.int ρ.1)) ρ.2)) args s 0 0 (tt_A ad n0 sz), D, ca, tt_A ad n0 sz, 14, some n0) ad 0 0 219 [(0, .ref b0), (1, .int x1), (2, .int x2), (3, .int x3), (4, .int x4), (5, .int x5), (6, .int x6), (8, .int x8), (9, .int x9)] [] h := by
                intro b0 x1 x2 x3 x4 x5 x6 x8 x9 h hs
                unfold s_X9_threeYet_J219 at hs
                refine tt_iinc (v := x9 + 1) X dX9_threeYet_219 rfl rfl (Nat.le_of_ble_eq_true rfl) ?_
                refine tt_goto (tgt := 54) X dX9_threeYet_222 (by decide) ?_
                refine tt_drop [0, 1, 2, 3, 4, 5, 6, 8, 9] ?_
                exact t_54 b0 x1 x2 x3 x4 x5 x6 x8 (x9 + 1) h hs
              have t_217 : ∀ (b0 : Nat) (x1 : Int32) (x2 : Int32) (x3 : Int32) (x4 : Int32) (x5 : Int32) (x6 : Int32) (x9 : Int32) (ux0 : Int32) (h : tt_H), s_X9_threeYet_J217 (s_X9_threeYet_J219 (s_X9_threeYet_L54 n54)) b0 x1 x2 x3 x4 x5 x6 x9 ux0 h = some ρ → tt_T tt_cl (p, l, e, rm_X9_threeYet, s, m, args, below, meth, c, MQ below (tt_Q tt_cl D ca ad n0 sz false (tt_ret (some (.int ρ.1)) ρ.2)) args s 0 0 (tt_A ad n0 sz), D, ca, tt_A ad n0 sz, 14, some n0) ad 0 0 217 [(0, .ref b0), (1, .int x1), (2, .int x2), (3, .int x3), (4, .int x4), (5, .int x5), (6, .int x6), (9, .int x9)] [.int ux0] h := by
                intro b0 x1 x2 x3 x4 x5 x6 x9 ux0 h hs
                unfold s_X9_threeYet_J217 at hs
                refine tt_istore X dX9_threeYet_217 (Nat.le_of_ble_eq_true rfl) ?_
                refine tt_drop [0, 1, 2, 3, 4, 5, 6, 8, 9] ?_
                exact t_219 b0 x1 x2 x3 x4 x5 x6 ux0 x9 h hs
              refine tt_iadd X dX9_threeYet_157 ?_
              refine tt_istore X dX9_threeYet_158 (Nat.le_of_ble_eq_true rfl) ?_
              refine tt_iload X dX9_threeYet_160 rfl ?_
              refine tt_iload X dX9_threeYet_162 rfl ?_
              refine tt_iadd X dX9_threeYet_164 ?_
              refine tt_iload X dX9_threeYet_165 rfl ?_
              refine tt_iadd X dX9_threeYet_167 ?_
              refine tt_iload X dX9_threeYet_168 rfl ?_
              refine tt_iload X dX9_threeYet_170 rfl ?_
              refine tt_iadd X dX9_threeYet_172 ?_
              refine tt_iload X dX9_threeYet_173 rfl ?_
              refine tt_iadd X dX9_threeYet_175 ?_
              refine tt_icmp_le (tgt := 219) X dX9_threeYet_176 (by decide) (fun c176 => ?_) (fun c176 => ?_)
              · rw [if_pos c176] at hs
                refine tt_drop [0, 1, 2, 3, 4, 5, 6, 8, 9] ?_
                exact t_219 b0 x1 x2 x3 x4 x5 x6 x8 x9 h hs
              · rw [if_neg c176] at hs
                refine tt_iconst (v := 1) X dX9_threeYet_179 (by decide) ?_
                refine tt_aload_n X dX9_threeYet_180 rfl ?_
                obtain ⟨o181, e181, hs⟩ := gg_bind hs
                refine zr_fr X e181 rfl in_X9_threeYet_X9 (by decide) (by decide +kernel) rfl dX9_threeYet_181 ?_
                refine tt_sipush (v := 169) X dX9_threeYet_184 (by decide) ?_
                refine tt_iload X dX9_threeYet_187 rfl ?_
                refine tt_imul X dX9_threeYet_189 ?_
                refine tt_bipush (v := 13) X dX9_threeYet_190 (by decide) ?_
                refine tt_iload X dX9_threeYet_192 rfl ?_
                refine tt_imul X dX9_threeYet_194 ?_
                refine tt_iadd X dX9_threeYet_195 ?_
                refine tt_iload X dX9_threeYet_196 rfl ?_
                refine tt_iadd X dX9_threeYet_198 ?_
                obtain ⟨z199, e199, hs⟩ := gg_bind hs
                refine zr_il X e199 dX9_threeYet_199 ?_
                refine tt_iadd X dX9_threeYet_200 ?_
                refine tt_istore X dX9_threeYet_201 (Nat.le_of_ble_eq_true rfl) ?_
                refine tt_iload X dX9_threeYet_203 rfl ?_
                refine tt_iload X dX9_threeYet_205 rfl ?_
                refine tt_icmp_ge (tgt := 215) X dX9_threeYet_207 (by decide) (fun c207 => ?_) (fun c207 => ?_)
                · rw [if_pos c207] at hs
                  refine tt_iload X dX9_threeYet_215 rfl ?_
                  refine tt_drop [0, 1, 2, 3, 4, 5, 6, 9] ?_
                  exact t_217 b0 x1 x2 x3 x4 x5 x6 x9 x8 h hs
                · rw [if_neg c207] at hs
                  refine tt_iload X dX9_threeYet_210 rfl ?_
                  refine tt_goto (tgt := 217) X dX9_threeYet_212 (by decide) ?_
                  refine tt_drop [0, 1, 2, 3, 4, 5, 6, 9] ?_
                  exact t_217 b0 x1 x2 x3 x4 x5 x6 x9 (1 + z199) h hs
            have t_156 : ∀ (b0 : Nat) (x1 : Int32) (x2 : Int32) (x3 : Int32) (x4 : Int32) (x5 : Int32) (x6 : Int32) (x8 : Int32) (x9 : Int32) (x10 : Int32) (x11 : Int32) (ux0 : Int32) (h : tt_H), s_X9_threeYet_J156 (s_X9_threeYet_J157 (s_X9_threeYet_L54 n54)) b0 x1 x2 x3 x4 x5 x6 x8 x9 x10 x11 ux0 h = some ρ → tt_T tt_cl (p, l, e, rm_X9_threeYet, s, m, args, below, meth, c, MQ below (tt_Q tt_cl D ca ad n0 sz false (tt_ret (some (.int ρ.1)) ρ.2)) args s 0 0 (tt_A ad n0 sz), D, ca, tt_A ad n0 sz, 14, some n0) ad 0 0 156 [(0, .ref b0), (1, .int x1), (2, .int x2), (3, .int x3), (4, .int x4), (5, .int x5), (6, .int x6), (8, .int x8), (9, .int x9), (10, .int x10), (11, .int x11)] [.int ux0] h := by
              intro b0 x1 x2 x3 x4 x5 x6 x8 x9 x10 x11 ux0 h hs
              unfold s_X9_threeYet_J156 at hs
              refine tt_iconst (v := 0) X dX9_threeYet_156 (by decide) ?_
              refine tt_drop [0, 1, 2, 3, 4, 5, 6, 8, 9, 10, 11] ?_
              exact t_157 b0 x1 x2 x3 x4 x5 x6 x8 x9 x10 x11 ux0 0 h hs
            refine tt_iadd X dX9_threeYet_124 ?_
            refine tt_istore X dX9_threeYet_125 (Nat.le_of_ble_eq_true rfl) ?_
            refine tt_iload X dX9_threeYet_127 rfl ?_
            refine tt_iload X dX9_threeYet_129 rfl ?_
            refine tt_aload_n X dX9_threeYet_131 rfl ?_
            obtain ⟨o132, e132, hs⟩ := gg_bind hs
            refine zr_fr X e132 rfl in_X9_threeYet_X9 (by decide) (by decide +kernel) rfl dX9_threeYet_132 ?_
            refine tt_iload_n X dX9_threeYet_135 rfl ?_
            obtain ⟨z136, e136, hs⟩ := gg_bind hs
            refine zr_il X e136 dX9_threeYet_136 ?_
            refine tt_icmp_ge (tgt := 156) X dX9_threeYet_137 (by decide) (fun c137 => ?_) (fun c137 => ?_)
            · rw [if_pos c137] at hs
              refine tt_drop [0, 1, 2, 3, 4, 5, 6, 8, 9, 10, 11] ?_
              exact t_156 b0 x1 x2 x3 x4 x5 x6 x8 x9 x10 (ux0 + ux1) x6 h hs
            · rw [if_neg c137] at hs
              refine tt_aload_n X dX9_threeYet_140 rfl ?_
              refine tt_iload_n X dX9_threeYet_141 rfl ?_
              refine tt_iload X dX9_threeYet_142 rfl ?_
              obtain ⟨o144, f144, hs⟩ := gg_bind hs
              obtain ⟨w144, e144, hs⟩ := gg_bind hs
              refine zr_callV X f144 rfl (c_X9_wordAt l e144) (fun hts => cwV 2 hts gX9_threeYet_X9_wordAt rfl rfl rfl (by decide +kernel) ⟨by decide, by decide⟩) rfl rfl (Nat.le_of_ble_eq_true rfl) dX9_threeYet_144 ⟨Nat.zero_le _, Nat.zero_le _⟩ ?_
              refine tt_iload X dX9_threeYet_147 rfl ?_
              refine tt_icmp_ne (tgt := 156) X dX9_threeYet_149 (by decide) (fun c149 => ?_) (fun c149 => ?_)
              · rw [if_neg c149] at hs
                refine tt_drop [0, 1, 2, 3, 4, 5, 6, 8, 9, 10, 11] ?_
                exact t_156 b0 x1 x2 x3 x4 x5 x6 x8 x9 x10 (ux0 + ux1) x6 w144.2 hs
              · rw [if_pos c149] at hs
                refine tt_iconst (v := 1) X dX9_threeYet_152 (by decide) ?_
                refine tt_goto (tgt := 157) X dX9_threeYet_153 (by decide) ?_
                refine tt_drop [0, 1, 2, 3, 4, 5, 6, 8, 9, 10, 11] ?_
                exact t_157 b0 x1 x2 x3 x4 x5 x6 x8 x9 x10 (ux0 + ux1) x6 1 w144.2 hs
          have t_123 : ∀ (b0 : Nat) (x1 : Int32) (x2 : Int32) (x3 : Int32) (x4 : Int32) (x5 : Int32) (x6 : Int32) (x8 : Int32) (x9 : Int32) (x10 : Int32) (ux0 : Int32) (h : tt_H), s_X9_threeYet_J123 (s_X9_threeYet_J124 (s_X9_threeYet_L54 n54)) b0 x1 x2 x3 x4 x5 x6 x8 x9 x10 ux0 h = some ρ → tt_T tt_cl (p, l, e, rm_X9_threeYet, s, m, args, below, meth, c, MQ below (tt_Q tt_cl D ca ad n0 sz false (tt_ret (some (.int ρ.1)) ρ.2)) args s 0 0 (tt_A ad n0 sz), D, ca, tt_A ad n0 sz, 14, some n0) ad 0 0 123 [(0, .ref b0), (1, .int x1), (2, .int x2), (3, .int x3), (4, .int x4), (5, .int x5), (6, .int x6), (8, .int x8), (9, .int x9), (10, .int x10)] [.int ux0] h := by
            intro b0 x1 x2 x3 x4 x5 x6 x8 x9 x10 ux0 h hs
            unfold s_X9_threeYet_J123 at hs
            refine tt_iconst (v := 0) X dX9_threeYet_123 (by decide) ?_
            refine tt_drop [0, 1, 2, 3, 4, 5, 6, 8, 9, 10] ?_
            exact t_124 b0 x1 x2 x3 x4 x5 x6 x8 x9 x10 ux0 0 h hs
          refine tt_iadd X dX9_threeYet_91 ?_
          refine tt_istore X dX9_threeYet_92 (Nat.le_of_ble_eq_true rfl) ?_
          refine tt_iload X dX9_threeYet_94 rfl ?_
          refine tt_iload X dX9_threeYet_96 rfl ?_
          refine tt_aload_n X dX9_threeYet_98 rfl ?_
          obtain ⟨o99, e99, hs⟩ := gg_bind hs
          refine zr_fr X e99 rfl in_X9_threeYet_X9 (by decide) (by decide +kernel) rfl dX9_threeYet_99 ?_
          refine tt_iload_n X dX9_threeYet_102 rfl ?_
          obtain ⟨z103, e103, hs⟩ := gg_bind hs
          refine zr_il X e103 dX9_threeYet_103 ?_
          refine tt_icmp_ge (tgt := 123) X dX9_threeYet_104 (by decide) (fun c104 => ?_) (fun c104 => ?_)
          · rw [if_pos c104] at hs
            refine tt_drop [0, 1, 2, 3, 4, 5, 6, 8, 9, 10] ?_
            exact t_123 b0 x1 x2 x3 x4 x5 x6 x8 x9 (ux0 + ux1) x5 h hs
          · rw [if_neg c104] at hs
            refine tt_aload_n X dX9_threeYet_107 rfl ?_
            refine tt_iload_n X dX9_threeYet_108 rfl ?_
            refine tt_iload X dX9_threeYet_109 rfl ?_
            obtain ⟨o111, f111, hs⟩ := gg_bind hs
            obtain ⟨w111, e111, hs⟩ := gg_bind hs
            refine zr_callV X f111 rfl (c_X9_wordAt l e111) (fun hts => cwV 2 hts gX9_threeYet_X9_wordAt rfl rfl rfl (by decide +kernel) ⟨by decide, by decide⟩) rfl rfl (Nat.le_of_ble_eq_true rfl) dX9_threeYet_111 ⟨Nat.zero_le _, Nat.zero_le _⟩ ?_
            refine tt_iload X dX9_threeYet_114 rfl ?_
            refine tt_icmp_ne (tgt := 123) X dX9_threeYet_116 (by decide) (fun c116 => ?_) (fun c116 => ?_)
            · rw [if_neg c116] at hs
              refine tt_drop [0, 1, 2, 3, 4, 5, 6, 8, 9, 10] ?_
              exact t_123 b0 x1 x2 x3 x4 x5 x6 x8 x9 (ux0 + ux1) x5 w111.2 hs
            · rw [if_pos c116] at hs
              refine tt_iconst (v := 1) X dX9_threeYet_119 (by decide) ?_
              refine tt_goto (tgt := 124) X dX9_threeYet_120 (by decide) ?_
              refine tt_drop [0, 1, 2, 3, 4, 5, 6, 8, 9, 10] ?_
              exact t_124 b0 x1 x2 x3 x4 x5 x6 x8 x9 (ux0 + ux1) x5 1 w111.2 hs
        have t_90 : ∀ (b0 : Nat) (x1 : Int32) (x2 : Int32) (x3 : Int32) (x4 : Int32) (x5 : Int32) (x6 : Int32) (x8 : Int32) (x9 : Int32) (ux0 : Int32) (h : tt_H), s_X9_threeYet_J90 (s_X9_threeYet_J91 (s_X9_threeYet_L54 n54)) b0 x1 x2 x3 x4 x5 x6 x8 x9 ux0 h = some ρ → tt_T tt_cl (p, l, e, rm_X9_threeYet, s, m, args, below, meth, c, MQ below (tt_Q tt_cl D ca ad n0 sz false (tt_ret (some (.int ρ.1)) ρ.2)) args s 0 0 (tt_A ad n0 sz), D, ca, tt_A ad n0 sz, 14, some n0) ad 0 0 90 [(0, .ref b0), (1, .int x1), (2, .int x2), (3, .int x3), (4, .int x4), (5, .int x5), (6, .int x6), (8, .int x8), (9, .int x9)] [.int ux0] h := by
          intro b0 x1 x2 x3 x4 x5 x6 x8 x9 ux0 h hs
          unfold s_X9_threeYet_J90 at hs
          refine tt_iconst (v := 0) X dX9_threeYet_90 (by decide) ?_
          refine tt_drop [0, 1, 2, 3, 4, 5, 6, 8, 9] ?_
          exact t_91 b0 x1 x2 x3 x4 x5 x6 x8 x9 ux0 0 h hs
        refine tt_iload X dX9_threeYet_54 rfl ?_
        refine tt_bipush (v := 8) X dX9_threeYet_56 (by decide) ?_
        refine tt_icmp_ge (tgt := 225) X dX9_threeYet_58 (by decide) (fun c58 => ?_) (fun c58 => ?_)
        · rw [if_pos c58] at hs
          refine tt_iload X dX9_threeYet_225 rfl ?_
          obtain rfl := Option.some.inj hs
          exact tt_iret X rfl dX9_threeYet_227 ⟨rfl, rfl⟩
        · rw [if_neg c58] at hs
          refine tt_iload X dX9_threeYet_61 rfl ?_
          refine tt_iload X dX9_threeYet_63 rfl ?_
          refine tt_aload_n X dX9_threeYet_65 rfl ?_
          obtain ⟨o66, e66, hs⟩ := gg_bind hs
          refine zr_fr X e66 rfl in_X9_threeYet_X9 (by decide) (by decide +kernel) rfl dX9_threeYet_66 ?_
          refine tt_iload_n X dX9_threeYet_69 rfl ?_
          obtain ⟨z70, e70, hs⟩ := gg_bind hs
          refine zr_il X e70 dX9_threeYet_70 ?_
          refine tt_icmp_ge (tgt := 90) X dX9_threeYet_71 (by decide) (fun c71 => ?_) (fun c71 => ?_)
          · rw [if_pos c71] at hs
            refine tt_drop [0, 1, 2, 3, 4, 5, 6, 8, 9] ?_
            exact t_90 b0 x1 x2 x3 x4 x5 x6 x8 x9 x4 h hs
          · rw [if_neg c71] at hs
            refine tt_aload_n X dX9_threeYet_74 rfl ?_
            refine tt_iload_n X dX9_threeYet_75 rfl ?_
            refine tt_iload X dX9_threeYet_76 rfl ?_
            obtain ⟨o78, f78, hs⟩ := gg_bind hs
            obtain ⟨w78, e78, hs⟩ := gg_bind hs
            refine zr_callV X f78 rfl (c_X9_wordAt l e78) (fun hts => cwV 2 hts gX9_threeYet_X9_wordAt rfl rfl rfl (by decide +kernel) ⟨by decide, by decide⟩) rfl rfl (Nat.le_of_ble_eq_true rfl) dX9_threeYet_78 ⟨Nat.zero_le _, Nat.zero_le _⟩ ?_
            refine tt_iload X dX9_threeYet_81 rfl ?_
            refine tt_icmp_ne (tgt := 90) X dX9_threeYet_83 (by decide) (fun c83 => ?_) (fun c83 => ?_)
            · rw [if_neg c83] at hs
              refine tt_drop [0, 1, 2, 3, 4, 5, 6, 8, 9] ?_
              exact t_90 b0 x1 x2 x3 x4 x5 x6 x8 x9 x4 w78.2 hs
            · rw [if_pos c83] at hs
              refine tt_iconst (v := 1) X dX9_threeYet_86 (by decide) ?_
              refine tt_goto (tgt := 91) X dX9_threeYet_87 (by decide) ?_
              refine tt_drop [0, 1, 2, 3, 4, 5, 6, 8, 9] ?_
              exact t_91 b0 x1 x2 x3 x4 x5 x6 x8 x9 x4 1 w78.2 hs
    refine tt_istore X dX9_threeYet_38 (Nat.le_of_ble_eq_true rfl) ?_
    refine tt_iload X dX9_threeYet_40 rfl ?_
    refine tt_if_eq (tgt := 47) X dX9_threeYet_42 (by decide) (fun c42 => ?_) (fun c42 => ?_)
    · rw [if_pos c42] at hs
      refine tt_bipush (v := 99) X dX9_threeYet_47 (by decide) ?_
      refine tt_istore X dX9_threeYet_49 (Nat.le_of_ble_eq_true rfl) ?_
      refine tt_iconst (v := 0) X dX9_threeYet_51 (by decide) ?_
      refine tt_istore X dX9_threeYet_52 (Nat.le_of_ble_eq_true rfl) ?_
      refine tt_drop [0, 1, 2, 3, 4, 5, 6, 8, 9] ?_
      exact t_54 1000 b0 x1 x2 x3 x4 x5 x6 99 0 h hs
    · rw [if_neg c42] at hs
      refine tt_iconst (v := 0) X dX9_threeYet_45 (by decide) ?_
      obtain rfl := Option.some.inj hs
      exact tt_iret X rfl dX9_threeYet_46 ⟨rfl, rfl⟩
  have t_37 : ∀ (b0 : Nat) (x1 : Int32) (x2 : Int32) (x3 : Int32) (x4 : Int32) (x5 : Int32) (x6 : Int32) (h : tt_H), s_X9_threeYet_J37 s_X9_threeYet_J38 b0 x1 x2 x3 x4 x5 x6 h = some ρ → tt_T tt_cl (p, l, e, rm_X9_threeYet, s, m, args, below, meth, c, MQ below (tt_Q tt_cl D ca ad n0 sz false (tt_ret (some (.int ρ.1)) ρ.2)) args s 0 0 (tt_A ad n0 sz), D, ca, tt_A ad n0 sz, 14, some n0) ad 0 0 37 [(0, .ref b0), (1, .int x1), (2, .int x2), (3, .int x3), (4, .int x4), (5, .int x5), (6, .int x6)] [] h := by
    intro b0 x1 x2 x3 x4 x5 x6 h hs
    unfold s_X9_threeYet_J37 at hs
    refine tt_iconst (v := 0) X dX9_threeYet_37 (by decide) ?_
    refine tt_drop [0, 1, 2, 3, 4, 5, 6] ?_
    exact t_38 b0 x1 x2 x3 x4 x5 x6 0 h hs
  refine tt_iload X dX9_threeYet_0 rfl ?_
  refine tt_aload_n X dX9_threeYet_2 rfl ?_
  obtain ⟨o3, e3, hs⟩ := gg_bind hs
  refine zr_fr X e3 rfl in_X9_threeYet_X9 (by decide) (by decide +kernel) rfl dX9_threeYet_3 ?_
  refine tt_iload_n X dX9_threeYet_6 rfl ?_
  obtain ⟨z7, e7, hs⟩ := gg_bind hs
  refine zr_il X e7 dX9_threeYet_7 ?_
  refine tt_icmp_ne (tgt := 37) X dX9_threeYet_8 (by decide) (fun c8 => ?_) (fun c8 => ?_)
  · rw [if_neg c8] at hs
    refine tt_drop [0, 1, 2, 3, 4, 5, 6] ?_
    exact t_37 b0 x1 x2 x3 x4 x5 x6 h hs
  · rw [if_pos c8] at hs
    refine tt_iload X dX9_threeYet_11 rfl ?_
    refine tt_aload_n X dX9_threeYet_13 rfl ?_
    obtain ⟨o14, e14, hs⟩ := gg_bind hs
    refine zr_fr X e14 rfl in_X9_threeYet_X9 (by decide) (by decide +kernel) rfl dX9_threeYet_14 ?_
    refine tt_iload_n X dX9_threeYet_17 rfl ?_
    obtain ⟨z18, e18, hs⟩ := gg_bind hs
    refine zr_il X e18 dX9_threeYet_18 ?_
    refine tt_icmp_ne (tgt := 37) X dX9_threeYet_19 (by decide) (fun c19 => ?_) (fun c19 => ?_)
    · rw [if_neg c19] at hs
      refine tt_drop [0, 1, 2, 3, 4, 5, 6] ?_
      exact t_37 b0 x1 x2 x3 x4 x5 x6 h hs
    · rw [if_pos c19] at hs
      refine tt_iload X dX9_threeYet_22 rfl ?_
      refine tt_aload_n X dX9_threeYet_24 rfl ?_
      obtain ⟨o25, e25, hs⟩ := gg_bind hs
      refine zr_fr X e25 rfl in_X9_threeYet_X9 (by decide) (by decide +kernel) rfl dX9_threeYet_25 ?_
      refine tt_iload_n X dX9_threeYet_28 rfl ?_
      obtain ⟨z29, e29, hs⟩ := gg_bind hs
      refine zr_il X e29 dX9_threeYet_29 ?_
      refine tt_icmp_ne (tgt := 37) X dX9_threeYet_30 (by decide) (fun c30 => ?_) (fun c30 => ?_)
      · rw [if_neg c30] at hs
        refine tt_drop [0, 1, 2, 3, 4, 5, 6] ?_
        exact t_37 b0 x1 x2 x3 x4 x5 x6 h hs
      · rw [if_pos c30] at hs
        refine tt_iconst (v := 1) X dX9_threeYet_33 (by decide) ?_
        refine tt_goto (tgt := 38) X dX9_threeYet_34 (by decide) ?_
        refine tt_drop [0, 1, 2, 3, 4, 5, 6] ?_
        exact t_38 b0 x1 x2 x3 x4 x5 x6 1 h hs

theorem in_X9_three_X9 : ∀ w ∈ u_ws RX9 TX9 26, w ∈ wsX9_three := by decide +kernel
def s_X9_three_L60 (κ47 : Nat → Int32 → Int32 → Int32 → Int32 → Int32 → tt_H → Option (Int32 × tt_H)) : Nat → Nat → Int32 → Int32 → Int32 → Int32 → Int32 → Int32 → tt_H → Option (Int32 × tt_H)
  | 0, _, _, _, _, _, _, _, _ => none
  | n + 1, b0, x1, x2, x3, x4, x5, x6, h =>
    if x6 < 0 then
      κ47 b0 x1 x2 x3 x4 (x5 + (-1)) h
    else
    (gg_fr h b0 9 22).bind fun o66 =>
    (gg_obj h b0 9).bind fun _ =>
    (s_X9_threeYet b0 x1 x2 x3 x4 x5 x6 h).bind fun w94 =>
    (gg_is w94.2 o66 (((169 * x4) + (13 * x5)) + x6) w94.1).bind fun h97 =>
    s_X9_three_L60 κ47 n b0 x1 x2 x3 x4 x5 (x6 + (-1)) h97
def s_X9_three_L47 (κ34 : Nat → Int32 → Int32 → Int32 → Int32 → tt_H → Option (Int32 × tt_H)) : Nat → Nat → Int32 → Int32 → Int32 → Int32 → Int32 → tt_H → Option (Int32 × tt_H)
  | 0, _, _, _, _, _, _, _ => none
  | n + 1, b0, x1, x2, x3, x4, x5, h =>
    if x5 < 0 then
      κ34 b0 x1 x2 x3 (x4 + (-1)) h
    else
    (gg_fr h b0 9 7).bind fun o53 =>
    (gg_il h o53 x3).bind fun z57 =>
    s_X9_three_L60 (s_X9_three_L47 κ34 n) 1000 b0 x1 x2 x3 x4 x5 z57 h
def s_X9_three_L34 : Nat → Nat → Int32 → Int32 → Int32 → Int32 → tt_H → Option (Int32 × tt_H)
  | 0, _, _, _, _, _, _ => none
  | n + 1, b0, x1, x2, x3, x4, h =>
    if x4 < 0 then
      (gg_fr h b0 9 22).bind fun o117 =>
      (gg_il h o117 0).bind fun z121 =>
      some (z121, h)
    else
    (gg_fr h b0 9 7).bind fun o40 =>
    (gg_il h o40 x2).bind fun z44 =>
    s_X9_three_L47 (s_X9_three_L34 n) 1000 b0 x1 x2 x3 x4 z44 h
def s_X9_three (b0 : Nat) (x1 : Int32) (x2 : Int32) (x3 : Int32) (h : tt_H) : Option (Int32 × tt_H) :=
  (gg_obj h b0 9).bind fun _ =>
  (s_X9_isDay b0 x1 h).bind fun w2 =>
  if w2.1 = 0 then
    some ((-1), w2.2)
  else
  (gg_obj w2.2 b0 9).bind fun _ =>
  (s_X9_isDay b0 x2 w2.2).bind fun w10 =>
  if w10.1 = 0 then
    some ((-1), w10.2)
  else
  (gg_obj w10.2 b0 9).bind fun _ =>
  (s_X9_isDay b0 x3 w10.2).bind fun w18 =>
  if w18.1 = 0 then
    some ((-1), w18.2)
  else
  (gg_fr w18.2 b0 9 7).bind fun o27 =>
  (gg_il w18.2 o27 x1).bind fun z31 =>
  s_X9_three_L34 1000 b0 x1 x2 x3 z31 w18.2
abbrev rm_X9_three : Room := { frames := 2, cells := 0, slots := 0, locals := 55 }
set_option maxHeartbeats 4000000 in
set_option maxRecDepth 100000 in
theorem c_X9_three (l : Launch) {b0 : Nat} {x1 : Int32} {x2 : Int32} {x3 : Int32} {h : tt_H} {ρ : Int32 × tt_H} (hs : s_X9_three b0 x1 x2 x3 h = some ρ) : tt_M tt_cl l yX9_three wsX9_three rm_X9_three 0 0 false [.ref b0, .int x1, .int x2, .int x3] h (tt_ret (some (.int ρ.1)) ρ.2) := by
  refine tt_M.of0 (cc := cX9_three) (maxL := 7) (ret := (some .int)) (by decide +kernel) rfl (Nat.le_of_ble_eq_true rfl) ?_
  intro p e s m args below meth c D ca ad n0 sz hwf hsz X hini
  unfold s_X9_three at hs
  have t_34 : ∀ (fu : Nat) (b0 : Nat) (x1 : Int32) (x2 : Int32) (x3 : Int32) (x4 : Int32) (h : tt_H), s_X9_three_L34 fu b0 x1 x2 x3 x4 h = some ρ → tt_T tt_cl (p, l, e, rm_X9_three, s, m, args, below, meth, c, MQ below (tt_Q tt_cl D ca ad n0 sz false (tt_ret (some (.int ρ.1)) ρ.2)) args s 0 0 (tt_A ad n0 sz), D, ca, tt_A ad n0 sz, 7, some n0) ad 0 0 34 [(0, .ref b0), (1, .int x1), (2, .int x2), (3, .int x3), (4, .int x4)] [] h := by
    intro fu
    induction fu with
    | zero => intro b0 x1 x2 x3 x4 h hs; exact absurd hs (by rw [s_X9_three_L34]; exact fun q => by cases q)
    | succ n34 ih =>
      intro b0 x1 x2 x3 x4 h hs
      rw [s_X9_three_L34] at hs
      have t_34 := ih
      have t_47 : ∀ (fu : Nat) (b0 : Nat) (x1 : Int32) (x2 : Int32) (x3 : Int32) (x4 : Int32) (x5 : Int32) (h : tt_H), s_X9_three_L47 (s_X9_three_L34 n34) fu b0 x1 x2 x3 x4 x5 h = some ρ → tt_T tt_cl (p, l, e, rm_X9_three, s, m, args, below, meth, c, MQ below (tt_Q tt_cl D ca ad n0 sz false (tt_ret (some (.int ρ.1)) ρ.2)) args s 0 0 (tt_A ad n0 sz), D, ca, tt_A ad n0 sz, 7, some n0) ad 0 0 47 [(0, .ref b0), (1, .int x1), (2, .int x2), (3, .int x3), (4, .int x4), (5, .int x5)] [] h := by
        intro fu
        induction fu with
        | zero => intro b0 x1 x2 x3 x4 x5 h hs; exact absurd hs (by rw [s_X9_three_L47]; exact fun q => by cases q)
        | succ n47 ih =>
          intro b0 x1 x2 x3 x4 x5 h hs
          rw [s_X9_three_L47] at hs
          have t_47 := ih
          have t_60 : ∀ (fu : Nat) (b0 : Nat) (x1 : Int32) (x2 : Int32) (x3 : Int32) (x4 : Int32) (x5 : Int32) (x6 : Int32) (h : tt_H), s_X9_three_L60 (s_X9_three_L47 (s_X9_three_L34 n34) n47) fu b0 x1 x2 x3 x4 x5 x6 h = some ρ → tt_T tt_cl (p, l, e, rm_X9_three, s, m, args, below, meth, c, MQ below (tt_Q tt_cl D ca ad n0 sz false (tt_ret (some (.int ρ.1)) ρ.2)) args s 0 0 (tt_A ad n0 sz), D, ca, tt_A ad n0 sz, 7, some n0) ad 0 0 60 [(0, .ref b0), (1, .int x1), (2, .int x2), (3, .int x3), (4, .int x4), (5, .int x5), (6, .int x6)] [] h := by
            intro fu
            induction fu with
            | zero => intro b0 x1 x2 x3 x4 x5 x6 h hs; exact absurd hs (by rw [s_X9_three_L60]; exact fun q => by cases q)
            | succ n60 ih =>
              intro b0 x1 x2 x3 x4 x5 x6 h hs
              rw [s_X9_three_L60] at hs
              have t_60 := ih
              refine tt_iload X dX9_three_60 rfl ?_
              refine tt_if_lt (tgt := 104) X dX9_three_62 (by decide) (fun c62 => ?_) (fun c62 => ?_)
              · rw [if_pos c62] at hs
                refine tt_iinc (v := x5 + (-1)) X dX9_three_104 rfl rfl (Nat.le_of_ble_eq_true rfl) ?_
                refine tt_goto (tgt := 47) X dX9_three_107 (by decide) ?_
                refine tt_drop [0, 1, 2, 3, 4, 5] ?_
                exact t_47 b0 x1 x2 x3 x4 (x5 + (-1)) h hs
              · rw [if_neg c62] at hs
                refine tt_aload_n X dX9_three_65 rfl ?_
                obtain ⟨o66, e66, hs⟩ := gg_bind hs
                refine zr_fr X e66 rfl in_X9_three_X9 (by decide) (by decide +kernel) rfl dX9_three_66 ?_
                refine tt_sipush (v := 169) X dX9_three_69 (by decide) ?_
                refine tt_iload X dX9_three_72 rfl ?_
                refine tt_imul X dX9_three_74 ?_
                refine tt_bipush (v := 13) X dX9_three_75 (by decide) ?_
                refine tt_iload X dX9_three_77 rfl ?_
                refine tt_imul X dX9_three_79 ?_
                refine tt_iadd X dX9_three_80 ?_
                refine tt_iload X dX9_three_81 rfl ?_
                refine tt_iadd X dX9_three_83 ?_
                refine tt_aload_n X dX9_three_84 rfl ?_
                refine tt_iload_n X dX9_three_85 rfl ?_
                refine tt_iload_n X dX9_three_86 rfl ?_
                refine tt_iload_n X dX9_three_87 rfl ?_
                refine tt_iload X dX9_three_88 rfl ?_
                refine tt_iload X dX9_three_90 rfl ?_
                refine tt_iload X dX9_three_92 rfl ?_
                obtain ⟨o94, f94, hs⟩ := gg_bind hs
                obtain ⟨w94, e94, hs⟩ := gg_bind hs
                refine zr_callV X f94 rfl (c_X9_threeYet l e94) (fun hts => cwV 6 hts gX9_three_X9_threeYet rfl rfl rfl (by decide +kernel) ⟨by decide, by decide⟩) rfl rfl (Nat.le_of_ble_eq_true rfl) dX9_three_94 ⟨Nat.zero_le _, Nat.zero_le _⟩ ?_
                obtain ⟨h97, e97, hs⟩ := gg_bind hs
                refine zr_is X e97 dX9_three_97 ?_
                refine tt_iinc (v := x6 + (-1)) X dX9_three_98 rfl rfl (Nat.le_of_ble_eq_true rfl) ?_
                refine tt_goto (tgt := 60) X dX9_three_101 (by decide) ?_
                refine tt_drop [0, 1, 2, 3, 4, 5, 6] ?_
                exact t_60 b0 x1 x2 x3 x4 x5 (x6 + (-1)) h97 hs
          refine tt_iload X dX9_three_47 rfl ?_
          refine tt_if_lt (tgt := 110) X dX9_three_49 (by decide) (fun c49 => ?_) (fun c49 => ?_)
          · rw [if_pos c49] at hs
            refine tt_iinc (v := x4 + (-1)) X dX9_three_110 rfl rfl (Nat.le_of_ble_eq_true rfl) ?_
            refine tt_goto (tgt := 34) X dX9_three_113 (by decide) ?_
            refine tt_drop [0, 1, 2, 3, 4] ?_
            exact t_34 b0 x1 x2 x3 (x4 + (-1)) h hs
          · rw [if_neg c49] at hs
            refine tt_aload_n X dX9_three_52 rfl ?_
            obtain ⟨o53, e53, hs⟩ := gg_bind hs
            refine zr_fr X e53 rfl in_X9_three_X9 (by decide) (by decide +kernel) rfl dX9_three_53 ?_
            refine tt_iload_n X dX9_three_56 rfl ?_
            obtain ⟨z57, e57, hs⟩ := gg_bind hs
            refine zr_il X e57 dX9_three_57 ?_
            refine tt_istore X dX9_three_58 (Nat.le_of_ble_eq_true rfl) ?_
            refine tt_drop [0, 1, 2, 3, 4, 5, 6] ?_
            exact t_60 1000 b0 x1 x2 x3 x4 x5 z57 h hs
      refine tt_iload X dX9_three_34 rfl ?_
      refine tt_if_lt (tgt := 116) X dX9_three_36 (by decide) (fun c36 => ?_) (fun c36 => ?_)
      · rw [if_pos c36] at hs
        refine tt_aload_n X dX9_three_116 rfl ?_
        obtain ⟨o117, e117, hs⟩ := gg_bind hs
        refine zr_fr X e117 rfl in_X9_three_X9 (by decide) (by decide +kernel) rfl dX9_three_117 ?_
        refine tt_iconst (v := 0) X dX9_three_120 (by decide) ?_
        obtain ⟨z121, e121, hs⟩ := gg_bind hs
        refine zr_il X e121 dX9_three_121 ?_
        obtain rfl := Option.some.inj hs
        exact tt_iret X rfl dX9_three_122 ⟨rfl, rfl⟩
      · rw [if_neg c36] at hs
        refine tt_aload_n X dX9_three_39 rfl ?_
        obtain ⟨o40, e40, hs⟩ := gg_bind hs
        refine zr_fr X e40 rfl in_X9_three_X9 (by decide) (by decide +kernel) rfl dX9_three_40 ?_
        refine tt_iload_n X dX9_three_43 rfl ?_
        obtain ⟨z44, e44, hs⟩ := gg_bind hs
        refine zr_il X e44 dX9_three_44 ?_
        refine tt_istore X dX9_three_45 (Nat.le_of_ble_eq_true rfl) ?_
        refine tt_drop [0, 1, 2, 3, 4, 5] ?_
        exact t_47 1000 b0 x1 x2 x3 x4 z44 h hs
  refine tt_aload_n X dX9_three_0 rfl ?_
  refine tt_iload_n X dX9_three_1 rfl ?_
  obtain ⟨o2, f2, hs⟩ := gg_bind hs
  obtain ⟨w2, e2, hs⟩ := gg_bind hs
  refine zr_callV X f2 rfl (c_X9_isDay l e2) (fun hts => cwV 1 hts gX9_three_X9_isDay rfl rfl rfl (by decide +kernel) ⟨by decide, by decide⟩) rfl rfl (Nat.le_of_ble_eq_true rfl) dX9_three_2 ⟨Nat.zero_le _, Nat.zero_le _⟩ ?_
  refine tt_if_eq (tgt := 24) X dX9_three_5 (by decide) (fun c5 => ?_) (fun c5 => ?_)
  · rw [if_pos c5] at hs
    refine tt_iconst (v := (-1)) X dX9_three_24 (by decide) ?_
    obtain rfl := Option.some.inj hs
    exact tt_iret X rfl dX9_three_25 ⟨rfl, rfl⟩
  · rw [if_neg c5] at hs
    refine tt_aload_n X dX9_three_8 rfl ?_
    refine tt_iload_n X dX9_three_9 rfl ?_
    obtain ⟨o10, f10, hs⟩ := gg_bind hs
    obtain ⟨w10, e10, hs⟩ := gg_bind hs
    refine zr_callV X f10 rfl (c_X9_isDay l e10) (fun hts => cwV 1 hts gX9_three_X9_isDay rfl rfl rfl (by decide +kernel) ⟨by decide, by decide⟩) rfl rfl (Nat.le_of_ble_eq_true rfl) dX9_three_10 ⟨Nat.zero_le _, Nat.zero_le _⟩ ?_
    refine tt_if_eq (tgt := 24) X dX9_three_13 (by decide) (fun c13 => ?_) (fun c13 => ?_)
    · rw [if_pos c13] at hs
      refine tt_iconst (v := (-1)) X dX9_three_24 (by decide) ?_
      obtain rfl := Option.some.inj hs
      exact tt_iret X rfl dX9_three_25 ⟨rfl, rfl⟩
    · rw [if_neg c13] at hs
      refine tt_aload_n X dX9_three_16 rfl ?_
      refine tt_iload_n X dX9_three_17 rfl ?_
      obtain ⟨o18, f18, hs⟩ := gg_bind hs
      obtain ⟨w18, e18, hs⟩ := gg_bind hs
      refine zr_callV X f18 rfl (c_X9_isDay l e18) (fun hts => cwV 1 hts gX9_three_X9_isDay rfl rfl rfl (by decide +kernel) ⟨by decide, by decide⟩) rfl rfl (Nat.le_of_ble_eq_true rfl) dX9_three_18 ⟨Nat.zero_le _, Nat.zero_le _⟩ ?_
      refine tt_if_ne (tgt := 26) X dX9_three_21 (by decide) (fun c21 => ?_) (fun c21 => ?_)
      · rw [if_neg c21] at hs
        refine tt_aload_n X dX9_three_26 rfl ?_
        obtain ⟨o27, e27, hs⟩ := gg_bind hs
        refine zr_fr X e27 rfl in_X9_three_X9 (by decide) (by decide +kernel) rfl dX9_three_27 ?_
        refine tt_iload_n X dX9_three_30 rfl ?_
        obtain ⟨z31, e31, hs⟩ := gg_bind hs
        refine zr_il X e31 dX9_three_31 ?_
        refine tt_istore X dX9_three_32 (Nat.le_of_ble_eq_true rfl) ?_
        refine tt_drop [0, 1, 2, 3, 4] ?_
        exact t_34 1000 b0 x1 x2 x3 z31 w18.2 hs
      · rw [if_pos c21] at hs
        refine tt_iconst (v := (-1)) X dX9_three_24 (by decide) ?_
        obtain rfl := Option.some.inj hs
        exact tt_iret X rfl dX9_three_25 ⟨rfl, rfl⟩

theorem in_X9_trace_X9 : ∀ w ∈ u_ws RX9 TX9 26, w ∈ wsX9_trace := by decide +kernel
def s_X9_trace (b0 : Nat) (h : tt_H) : Option (Int32 × tt_H) :=
  (gg_fi h b0 9 1).bind fun z1 =>
  some (z1, h)
abbrev rm_X9_trace : Room := { frames := 0, cells := 0, slots := 0, locals := 0 }
set_option maxHeartbeats 4000000 in
set_option maxRecDepth 100000 in
theorem c_X9_trace (l : Launch) {b0 : Nat} {h : tt_H} {ρ : Int32 × tt_H} (hs : s_X9_trace b0 h = some ρ) : tt_M tt_cl l yX9_trace wsX9_trace rm_X9_trace 0 0 false [.ref b0] h (tt_ret (some (.int ρ.1)) ρ.2) := by
  refine tt_M.of0 (cc := cX9_trace) (maxL := 1) (ret := (some .int)) (by decide +kernel) rfl (Nat.le_of_ble_eq_true rfl) ?_
  intro p e s m args below meth c D ca ad n0 sz hwf hsz X hini
  unfold s_X9_trace at hs
  refine tt_aload_n X dX9_trace_0 rfl ?_
  obtain ⟨z1, e1, hs⟩ := gg_bind hs
  refine zr_fi X e1 rfl in_X9_trace_X9 (by decide) (by decide +kernel) rfl dX9_trace_1 ?_
  obtain rfl := Option.some.inj hs
  exact tt_iret X rfl dX9_trace_4 ⟨rfl, rfl⟩

theorem in_X9_twice_X9 : ∀ w ∈ u_ws RX9 TX9 26, w ∈ wsX9_twice := by decide +kernel
def s_X9_twice_J45 (κ14 : Nat → Int32 → Int32 → Int32 → tt_H → Option (Int32 × tt_H)) (b0 : Nat) (x1 : Int32) (x3 : Int32) (ux0 : Int32) (ux1 : Int32) (h : tt_H) : Option (Int32 × tt_H) :=
  κ14 b0 x1 (ux0 + ux1) (x3 + 1) h
def s_X9_twice_L14 : Nat → Nat → Int32 → Int32 → Int32 → tt_H → Option (Int32 × tt_H)
  | 0, _, _, _, _, _ => none
  | n + 1, b0, x1, x2, x3, h =>
    (gg_fr h b0 9 7).bind fun o16 =>
    (gg_il h o16 x1).bind fun z20 =>
    if z20 ≤ x3 then
      some (x2, h)
    else
    (gg_obj h b0 9).bind fun _ =>
    (s_X9_wordAt b0 x1 x3 h).bind fun w30 =>
    (gg_obj w30.2 b0 9).bind fun _ =>
    (s_X9_isIn b0 x1 w30.1 x3 w30.2).bind fun w34 =>
    if w34.1 = 0 then
      s_X9_twice_J45 (s_X9_twice_L14 n) b0 x1 x3 x2 0 w34.2
    else
    s_X9_twice_J45 (s_X9_twice_L14 n) b0 x1 x3 x2 1 w34.2
def s_X9_twice (b0 : Nat) (x1 : Int32) (h : tt_H) : Option (Int32 × tt_H) :=
  (gg_obj h b0 9).bind fun _ =>
  (s_X9_isDay b0 x1 h).bind fun w2 =>
  if w2.1 = 0 then
    some ((-1), w2.2)
  else
  s_X9_twice_L14 1000 b0 x1 0 0 w2.2
abbrev rm_X9_twice : Room := { frames := 2, cells := 0, slots := 0, locals := 46 }
set_option maxHeartbeats 4000000 in
set_option maxRecDepth 100000 in
theorem c_X9_twice (l : Launch) {b0 : Nat} {x1 : Int32} {h : tt_H} {ρ : Int32 × tt_H} (hs : s_X9_twice b0 x1 h = some ρ) : tt_M tt_cl l yX9_twice wsX9_twice rm_X9_twice 0 0 false [.ref b0, .int x1] h (tt_ret (some (.int ρ.1)) ρ.2) := by
  refine tt_M.of0 (cc := cX9_twice) (maxL := 4) (ret := (some .int)) (by decide +kernel) rfl (Nat.le_of_ble_eq_true rfl) ?_
  intro p e s m args below meth c D ca ad n0 sz hwf hsz X hini
  unfold s_X9_twice at hs
  have t_14 : ∀ (fu : Nat) (b0 : Nat) (x1 : Int32) (x2 : Int32) (x3 : Int32) (h : tt_H), s_X9_twice_L14 fu b0 x1 x2 x3 h = some ρ → tt_T tt_cl (p, l, e, rm_X9_twice, s, m, args, below, meth, c, MQ below (tt_Q tt_cl D ca ad n0 sz false (tt_ret (some (.int ρ.1)) ρ.2)) args s 0 0 (tt_A ad n0 sz), D, ca, tt_A ad n0 sz, 4, some n0) ad 0 0 14 [(0, .ref b0), (1, .int x1), (2, .int x2), (3, .int x3)] [] h := by
    intro fu
    induction fu with
    | zero => intro b0 x1 x2 x3 h hs; exact absurd hs (by rw [s_X9_twice_L14]; exact fun q => by cases q)
    | succ n14 ih =>
      intro b0 x1 x2 x3 h hs
      rw [s_X9_twice_L14] at hs
      have t_14 := ih
      have t_45 : ∀ (b0 : Nat) (x1 : Int32) (x3 : Int32) (ux0 : Int32) (ux1 : Int32) (h : tt_H), s_X9_twice_J45 (s_X9_twice_L14 n14) b0 x1 x3 ux0 ux1 h = some ρ → tt_T tt_cl (p, l, e, rm_X9_twice, s, m, args, below, meth, c, MQ below (tt_Q tt_cl D ca ad n0 sz false (tt_ret (some (.int ρ.1)) ρ.2)) args s 0 0 (tt_A ad n0 sz), D, ca, tt_A ad n0 sz, 4, some n0) ad 0 0 45 [(0, .ref b0), (1, .int x1), (3, .int x3)] [.int ux1, .int ux0] h := by
        intro b0 x1 x3 ux0 ux1 h hs
        unfold s_X9_twice_J45 at hs
        refine tt_iadd X dX9_twice_45 ?_
        refine tt_istore_n X dX9_twice_46 (Nat.le_of_ble_eq_true rfl) ?_
        refine tt_iinc (v := x3 + 1) X dX9_twice_47 rfl rfl (Nat.le_of_ble_eq_true rfl) ?_
        refine tt_goto (tgt := 14) X dX9_twice_50 (by decide) ?_
        refine tt_drop [0, 1, 2, 3] ?_
        exact t_14 b0 x1 (ux0 + ux1) (x3 + 1) h hs
      refine tt_iload_n X dX9_twice_14 rfl ?_
      refine tt_aload_n X dX9_twice_15 rfl ?_
      obtain ⟨o16, e16, hs⟩ := gg_bind hs
      refine zr_fr X e16 rfl in_X9_twice_X9 (by decide) (by decide +kernel) rfl dX9_twice_16 ?_
      refine tt_iload_n X dX9_twice_19 rfl ?_
      obtain ⟨z20, e20, hs⟩ := gg_bind hs
      refine zr_il X e20 dX9_twice_20 ?_
      refine tt_icmp_ge (tgt := 53) X dX9_twice_21 (by decide) (fun c21 => ?_) (fun c21 => ?_)
      · rw [if_pos c21] at hs
        refine tt_iload_n X dX9_twice_53 rfl ?_
        obtain rfl := Option.some.inj hs
        exact tt_iret X rfl dX9_twice_54 ⟨rfl, rfl⟩
      · rw [if_neg c21] at hs
        refine tt_iload_n X dX9_twice_24 rfl ?_
        refine tt_aload_n X dX9_twice_25 rfl ?_
        refine tt_iload_n X dX9_twice_26 rfl ?_
        refine tt_aload_n X dX9_twice_27 rfl ?_
        refine tt_iload_n X dX9_twice_28 rfl ?_
        refine tt_iload_n X dX9_twice_29 rfl ?_
        obtain ⟨o30, f30, hs⟩ := gg_bind hs
        obtain ⟨w30, e30, hs⟩ := gg_bind hs
        refine zr_callV X f30 rfl (c_X9_wordAt l e30) (fun hts => cwV 2 hts gX9_twice_X9_wordAt rfl rfl rfl (by decide +kernel) ⟨by decide, by decide⟩) rfl rfl (Nat.le_of_ble_eq_true rfl) dX9_twice_30 ⟨Nat.zero_le _, Nat.zero_le _⟩ ?_
        refine tt_iload_n X dX9_twice_33 rfl ?_
        obtain ⟨o34, f34, hs⟩ := gg_bind hs
        obtain ⟨w34, e34, hs⟩ := gg_bind hs
        refine zr_callV X f34 rfl (c_X9_isIn l e34) (fun hts => cwV 3 hts gX9_twice_X9_isIn rfl rfl rfl (by decide +kernel) ⟨by decide, by decide⟩) rfl rfl (Nat.le_of_ble_eq_true rfl) dX9_twice_34 ⟨Nat.zero_le _, Nat.zero_le _⟩ ?_
        refine tt_if_eq (tgt := 44) X dX9_twice_37 (by decide) (fun c37 => ?_) (fun c37 => ?_)
        · rw [if_pos c37] at hs
          refine tt_iconst (v := 0) X dX9_twice_44 (by decide) ?_
          refine tt_drop [0, 1, 3] ?_
          exact t_45 b0 x1 x3 x2 0 w34.2 hs
        · rw [if_neg c37] at hs
          refine tt_iconst (v := 1) X dX9_twice_40 (by decide) ?_
          refine tt_goto (tgt := 45) X dX9_twice_41 (by decide) ?_
          refine tt_drop [0, 1, 3] ?_
          exact t_45 b0 x1 x3 x2 1 w34.2 hs
  refine tt_aload_n X dX9_twice_0 rfl ?_
  refine tt_iload_n X dX9_twice_1 rfl ?_
  obtain ⟨o2, f2, hs⟩ := gg_bind hs
  obtain ⟨w2, e2, hs⟩ := gg_bind hs
  refine zr_callV X f2 rfl (c_X9_isDay l e2) (fun hts => cwV 1 hts gX9_twice_X9_isDay rfl rfl rfl (by decide +kernel) ⟨by decide, by decide⟩) rfl rfl (Nat.le_of_ble_eq_true rfl) dX9_twice_2 ⟨Nat.zero_le _, Nat.zero_le _⟩ ?_
  refine tt_if_ne (tgt := 10) X dX9_twice_5 (by decide) (fun c5 => ?_) (fun c5 => ?_)
  · rw [if_neg c5] at hs
    refine tt_iconst (v := 0) X dX9_twice_10 (by decide) ?_
    refine tt_istore_n X dX9_twice_11 (Nat.le_of_ble_eq_true rfl) ?_
    refine tt_iconst (v := 0) X dX9_twice_12 (by decide) ?_
    refine tt_istore_n X dX9_twice_13 (Nat.le_of_ble_eq_true rfl) ?_
    refine tt_drop [0, 1, 2, 3] ?_
    exact t_14 1000 b0 x1 0 0 w2.2 hs
  · rw [if_pos c5] at hs
    refine tt_iconst (v := (-1)) X dX9_twice_8 (by decide) ?_
    obtain rfl := Option.some.inj hs
    exact tt_iret X rfl dX9_twice_9 ⟨rfl, rfl⟩

theorem in_X9_ways_X9 : ∀ w ∈ u_ws RX9 TX9 26, w ∈ wsX9_ways := by decide +kernel
def s_X9_ways_J130 (κ44 : Nat → Int32 → Int32 → Int32 → Int32 → Int32 → tt_H → Option (Int64 × tt_H)) (b0 : Nat) (x1 : Int32) (x2 : Int32) (x3 : Int32) (x4 : Int32) (x5 : Int32) (y6 : Int64) (h : tt_H) : Option (Int64 × tt_H) :=
  (gg_fr h b0 9 19).bind fun o131 =>
  (s_X9_spot x5 x4 h).bind fun w138 =>
  (gg_js w138.2 o131 w138.1 y6).bind fun h143 =>
  κ44 b0 x1 x2 x3 x4 (x5 + 1) h143
def s_X9_ways_J127 (κ130 : Nat → Int32 → Int32 → Int32 → Int32 → Int32 → Int64 → tt_H → Option (Int64 × tt_H)) (b0 : Nat) (x1 : Int32) (x2 : Int32) (x3 : Int32) (x4 : Int32) (x5 : Int32) (uy0 : Int64) (uy1 : Int64) (h : tt_H) : Option (Int64 × tt_H) :=
  κ130 b0 x1 x2 x3 x4 x5 (uy0 + uy1) h
def s_X9_ways_J60 (κ44 : Nat → Int32 → Int32 → Int32 → Int32 → Int32 → tt_H → Option (Int64 × tt_H)) (b0 : Nat) (x1 : Int32) (x2 : Int32) (x3 : Int32) (x4 : Int32) (x5 : Int32) (uy0 : Int64) (h : tt_H) : Option (Int64 × tt_H) :=
  if x5 ≤ 0 then
    s_X9_ways_J130 κ44 b0 x1 x2 x3 x4 x5 uy0 h
  else
  if x4 ≤ 0 then
    s_X9_ways_J130 κ44 b0 x1 x2 x3 x4 x5 uy0 h
  else
  (gg_fr h b0 9 19).bind fun o73 =>
  (s_X9_spot x5 (x4 - 1) h).bind fun w82 =>
  (gg_jl w82.2 o73 w82.1).bind fun z85 =>
  (gg_obj w82.2 b0 9).bind fun _ =>
  (s_X9_wordAt b0 x1 (x5 - 1) w82.2).bind fun w92 =>
  (gg_obj w92.2 b0 9).bind fun _ =>
  (s_X9_wordAt b0 x2 (x4 - 1) w92.2).bind fun w101 =>
  if w92.1 = w101.1 then
    (gg_fr w101.2 b0 9 19).bind fun o108 =>
    (s_X9_spot (x5 - 1) (x4 - 1) w101.2).bind fun w119 =>
    (gg_jl w119.2 o108 w119.1).bind fun z122 =>
    s_X9_ways_J127 (s_X9_ways_J130 κ44) b0 x1 x2 x3 x4 x5 z85 z122 w119.2
  else
  s_X9_ways_J127 (s_X9_ways_J130 κ44) b0 x1 x2 x3 x4 x5 z85 0 w101.2
def s_X9_ways_L44 (κ30 : Nat → Int32 → Int32 → Int32 → Int32 → tt_H → Option (Int64 × tt_H)) : Nat → Nat → Int32 → Int32 → Int32 → Int32 → Int32 → tt_H → Option (Int64 × tt_H)
  | 0, _, _, _, _, _, _, _ => none
  | n + 1, b0, x1, x2, x3, x4, x5, h =>
    if x3 < x5 then
      κ30 b0 x1 x2 x3 (x4 + 1) h
    else
    if x5 = 0 then
      s_X9_ways_J60 (s_X9_ways_L44 κ30 n) b0 x1 x2 x3 x4 x5 1 h
    else
    s_X9_ways_J60 (s_X9_ways_L44 κ30 n) b0 x1 x2 x3 x4 x5 0 h
def s_X9_ways_L30 : Nat → Nat → Int32 → Int32 → Int32 → Int32 → tt_H → Option (Int64 × tt_H)
  | 0, _, _, _, _, _, _ => none
  | n + 1, b0, x1, x2, x3, x4, h =>
    (gg_fr h b0 9 7).bind fun o33 =>
    (gg_il h o33 x2).bind fun z37 =>
    if z37 < x4 then
      (gg_fr h b0 9 19).bind fun o157 =>
      (gg_fr h b0 9 7).bind fun o162 =>
      (gg_il h o162 x2).bind fun z166 =>
      (s_X9_spot x3 z166 h).bind fun w167 =>
      (gg_jl w167.2 o157 w167.1).bind fun z170 =>
      some (z170, w167.2)
    else
    s_X9_ways_L44 (s_X9_ways_L30 n) 1000 b0 x1 x2 x3 x4 0 h
def s_X9_ways (b0 : Nat) (x1 : Int32) (x2 : Int32) (h : tt_H) : Option (Int64 × tt_H) :=
  (gg_obj h b0 9).bind fun _ =>
  (s_X9_isDay b0 x1 h).bind fun w2 =>
  if w2.1 = 0 then
    some ((-9223372036854775808), w2.2)
  else
  (gg_obj w2.2 b0 9).bind fun _ =>
  (s_X9_isDay b0 x2 w2.2).bind fun w10 =>
  if w10.1 = 0 then
    some ((-9223372036854775808), w10.2)
  else
  (gg_fr w10.2 b0 9 7).bind fun o21 =>
  (gg_il w10.2 o21 x1).bind fun z25 =>
  s_X9_ways_L30 1000 b0 x1 x2 z25 0 w10.2
abbrev rm_X9_ways : Room := { frames := 1, cells := 0, slots := 0, locals := 22 }
set_option maxHeartbeats 4000000 in
set_option maxRecDepth 100000 in
theorem c_X9_ways (l : Launch) {b0 : Nat} {x1 : Int32} {x2 : Int32} {h : tt_H} {ρ : Int64 × tt_H} (hs : s_X9_ways b0 x1 x2 h = some ρ) : tt_M tt_cl l yX9_ways wsX9_ways rm_X9_ways 0 0 false [.ref b0, .int x1, .int x2] h (tt_ret (some (.long ρ.1)) ρ.2) := by
  refine tt_M.of0 (cc := cX9_ways) (maxL := 8) (ret := (some .long)) (by decide +kernel) rfl (Nat.le_of_ble_eq_true rfl) ?_
  intro p e s m args below meth c D ca ad n0 sz hwf hsz X hini
  unfold s_X9_ways at hs
  have t_30 : ∀ (fu : Nat) (b0 : Nat) (x1 : Int32) (x2 : Int32) (x3 : Int32) (x4 : Int32) (h : tt_H), s_X9_ways_L30 fu b0 x1 x2 x3 x4 h = some ρ → tt_T tt_cl (p, l, e, rm_X9_ways, s, m, args, below, meth, c, MQ below (tt_Q tt_cl D ca ad n0 sz false (tt_ret (some (.long ρ.1)) ρ.2)) args s 0 0 (tt_A ad n0 sz), D, ca, tt_A ad n0 sz, 8, some n0) ad 0 0 30 [(0, .ref b0), (1, .int x1), (2, .int x2), (3, .int x3), (4, .int x4)] [] h := by
    intro fu
    induction fu with
    | zero => intro b0 x1 x2 x3 x4 h hs; exact absurd hs (by rw [s_X9_ways_L30]; exact fun q => by cases q)
    | succ n30 ih =>
      intro b0 x1 x2 x3 x4 h hs
      rw [s_X9_ways_L30] at hs
      have t_30 := ih
      have t_44 : ∀ (fu : Nat) (b0 : Nat) (x1 : Int32) (x2 : Int32) (x3 : Int32) (x4 : Int32) (x5 : Int32) (h : tt_H), s_X9_ways_L44 (s_X9_ways_L30 n30) fu b0 x1 x2 x3 x4 x5 h = some ρ → tt_T tt_cl (p, l, e, rm_X9_ways, s, m, args, below, meth, c, MQ below (tt_Q tt_cl D ca ad n0 sz false (tt_ret (some (.long ρ.1)) ρ.2)) args s 0 0 (tt_A ad n0 sz), D, ca, tt_A ad n0 sz, 8, some n0) ad 0 0 44 [(0, .ref b0), (1, .int x1), (2, .int x2), (3, .int x3), (4, .int x4), (5, .int x5)] [] h := by
        intro fu
        induction fu with
        | zero => intro b0 x1 x2 x3 x4 x5 h hs; exact absurd hs (by rw [s_X9_ways_L44]; exact fun q => by cases q)
        | succ n44 ih =>
          intro b0 x1 x2 x3 x4 x5 h hs
          rw [s_X9_ways_L44] at hs
          have t_44 := ih
          have t_60 : ∀ (b0 : Nat) (x1 : Int32) (x2 : Int32) (x3 : Int32) (x4 : Int32) (x5 : Int32) (uy0 : Int64) (h : tt_H), s_X9_ways_J60 (s_X9_ways_L44 (s_X9_ways_L30 n30) n44) b0 x1 x2 x3 x4 x5 uy0 h = some ρ → tt_T tt_cl (p, l, e, rm_X9_ways, s, m, args, below, meth, c, MQ below (tt_Q tt_cl D ca ad n0 sz false (tt_ret (some (.long ρ.1)) ρ.2)) args s 0 0 (tt_A ad n0 sz), D, ca, tt_A ad n0 sz, 8, some n0) ad 0 0 60 [(0, .ref b0), (1, .int x1), (2, .int x2), (3, .int x3), (4, .int x4), (5, .int x5)] [.long uy0] h := by
            intro b0 x1 x2 x3 x4 x5 uy0 h hs
            unfold s_X9_ways_J60 at hs
            have t_130 : ∀ (b0 : Nat) (x1 : Int32) (x2 : Int32) (x3 : Int32) (x4 : Int32) (x5 : Int32) (y6 : Int64) (h : tt_H), s_X9_ways_J130 (s_X9_ways_L44 (s_X9_ways_L30 n30) n44) b0 x1 x2 x3 x4 x5 y6 h = some ρ → tt_T tt_cl (p, l, e, rm_X9_ways, s, m, args, below, meth, c, MQ below (tt_Q tt_cl D ca ad n0 sz false (tt_ret (some (.long ρ.1)) ρ.2)) args s 0 0 (tt_A ad n0 sz), D, ca, tt_A ad n0 sz, 8, some n0) ad 0 0 130 [(0, .ref b0), (1, .int x1), (2, .int x2), (3, .int x3), (4, .int x4), (5, .int x5), (6, .long y6)] [] h := by
              intro b0 x1 x2 x3 x4 x5 y6 h hs
              unfold s_X9_ways_J130 at hs
              refine tt_aload_n X dX9_ways_130 rfl ?_
              obtain ⟨o131, e131, hs⟩ := gg_bind hs
              refine zr_fr X e131 rfl in_X9_ways_X9 (by decide) (by decide +kernel) rfl dX9_ways_131 ?_
              refine tt_iload X dX9_ways_134 rfl ?_
              refine tt_iload X dX9_ways_136 rfl ?_
              obtain ⟨w138, e138, hs⟩ := gg_bind hs
              refine zr_callS X (c_X9_spot l e138) (fun hts => va_cwS 2 hts gX9_ways_X9_spot rfl rfl rfl (by decide +kernel) ⟨by decide, by decide⟩) rfl rfl (Nat.le_of_ble_eq_true rfl) dX9_ways_138 ⟨Nat.zero_le _, Nat.zero_le _⟩ ?_
              refine tt_lload X dX9_ways_141 rfl ?_
              obtain ⟨h143, e143, hs⟩ := gg_bind hs
              refine zr_js X e143 dX9_ways_143 ?_
              refine tt_iinc (v := x5 + 1) X dX9_ways_144 rfl rfl (Nat.le_of_ble_eq_true rfl) ?_
              refine tt_goto (tgt := 44) X dX9_ways_147 (by decide) ?_
              refine tt_drop [0, 1, 2, 3, 4, 5] ?_
              exact t_44 b0 x1 x2 x3 x4 (x5 + 1) h143 hs
            have t_127 : ∀ (b0 : Nat) (x1 : Int32) (x2 : Int32) (x3 : Int32) (x4 : Int32) (x5 : Int32) (uy0 : Int64) (uy1 : Int64) (h : tt_H), s_X9_ways_J127 (s_X9_ways_J130 (s_X9_ways_L44 (s_X9_ways_L30 n30) n44)) b0 x1 x2 x3 x4 x5 uy0 uy1 h = some ρ → tt_T tt_cl (p, l, e, rm_X9_ways, s, m, args, below, meth, c, MQ below (tt_Q tt_cl D ca ad n0 sz false (tt_ret (some (.long ρ.1)) ρ.2)) args s 0 0 (tt_A ad n0 sz), D, ca, tt_A ad n0 sz, 8, some n0) ad 0 0 127 [(0, .ref b0), (1, .int x1), (2, .int x2), (3, .int x3), (4, .int x4), (5, .int x5)] [.long uy1, .long uy0] h := by
              intro b0 x1 x2 x3 x4 x5 uy0 uy1 h hs
              unfold s_X9_ways_J127 at hs
              refine tt_ladd X dX9_ways_127 ?_
              refine tt_lstore X dX9_ways_128 (Nat.le_of_ble_eq_true rfl) ?_
              refine tt_drop [0, 1, 2, 3, 4, 5, 6] ?_
              exact t_130 b0 x1 x2 x3 x4 x5 (uy0 + uy1) h hs
            refine tt_lstore X dX9_ways_60 (Nat.le_of_ble_eq_true rfl) ?_
            refine tt_iload X dX9_ways_62 rfl ?_
            refine tt_if_le (tgt := 130) X dX9_ways_64 (by decide) (fun c64 => ?_) (fun c64 => ?_)
            · rw [if_pos c64] at hs
              refine tt_drop [0, 1, 2, 3, 4, 5, 6] ?_
              exact t_130 b0 x1 x2 x3 x4 x5 uy0 h hs
            · rw [if_neg c64] at hs
              refine tt_iload X dX9_ways_67 rfl ?_
              refine tt_if_le (tgt := 130) X dX9_ways_69 (by decide) (fun c69 => ?_) (fun c69 => ?_)
              · rw [if_pos c69] at hs
                refine tt_drop [0, 1, 2, 3, 4, 5, 6] ?_
                exact t_130 b0 x1 x2 x3 x4 x5 uy0 h hs
              · rw [if_neg c69] at hs
                refine tt_aload_n X dX9_ways_72 rfl ?_
                obtain ⟨o73, e73, hs⟩ := gg_bind hs
                refine zr_fr X e73 rfl in_X9_ways_X9 (by decide) (by decide +kernel) rfl dX9_ways_73 ?_
                refine tt_iload X dX9_ways_76 rfl ?_
                refine tt_iload X dX9_ways_78 rfl ?_
                refine tt_iconst (v := 1) X dX9_ways_80 (by decide) ?_
                refine tt_isub X dX9_ways_81 ?_
                obtain ⟨w82, e82, hs⟩ := gg_bind hs
                refine zr_callS X (c_X9_spot l e82) (fun hts => va_cwS 2 hts gX9_ways_X9_spot rfl rfl rfl (by decide +kernel) ⟨by decide, by decide⟩) rfl rfl (Nat.le_of_ble_eq_true rfl) dX9_ways_82 ⟨Nat.zero_le _, Nat.zero_le _⟩ ?_
                obtain ⟨z85, e85, hs⟩ := gg_bind hs
                refine zr_jl X e85 dX9_ways_85 ?_
                refine tt_aload_n X dX9_ways_86 rfl ?_
                refine tt_iload_n X dX9_ways_87 rfl ?_
                refine tt_iload X dX9_ways_88 rfl ?_
                refine tt_iconst (v := 1) X dX9_ways_90 (by decide) ?_
                refine tt_isub X dX9_ways_91 ?_
                obtain ⟨o92, f92, hs⟩ := gg_bind hs
                obtain ⟨w92, e92, hs⟩ := gg_bind hs
                refine zr_callV X f92 rfl (c_X9_wordAt l e92) (fun hts => cwV 2 hts gX9_ways_X9_wordAt rfl rfl rfl (by decide +kernel) ⟨by decide, by decide⟩) rfl rfl (Nat.le_of_ble_eq_true rfl) dX9_ways_92 ⟨Nat.zero_le _, Nat.zero_le _⟩ ?_
                refine tt_aload_n X dX9_ways_95 rfl ?_
                refine tt_iload_n X dX9_ways_96 rfl ?_
                refine tt_iload X dX9_ways_97 rfl ?_
                refine tt_iconst (v := 1) X dX9_ways_99 (by decide) ?_
                refine tt_isub X dX9_ways_100 ?_
                obtain ⟨o101, f101, hs⟩ := gg_bind hs
                obtain ⟨w101, e101, hs⟩ := gg_bind hs
                refine zr_callV X f101 rfl (c_X9_wordAt l e101) (fun hts => cwV 2 hts gX9_ways_X9_wordAt rfl rfl rfl (by decide +kernel) ⟨by decide, by decide⟩) rfl rfl (Nat.le_of_ble_eq_true rfl) dX9_ways_101 ⟨Nat.zero_le _, Nat.zero_le _⟩ ?_
                refine tt_icmp_ne (tgt := 126) X dX9_ways_104 (by decide) (fun c104 => ?_) (fun c104 => ?_)
                · rw [if_neg c104] at hs
                  refine tt_lconst (v := 0) X dX9_ways_126 (by decide) ?_
                  refine tt_drop [0, 1, 2, 3, 4, 5] ?_
                  exact t_127 b0 x1 x2 x3 x4 x5 z85 0 w101.2 hs
                · rw [if_pos c104] at hs
                  refine tt_aload_n X dX9_ways_107 rfl ?_
                  obtain ⟨o108, e108, hs⟩ := gg_bind hs
                  refine zr_fr X e108 rfl in_X9_ways_X9 (by decide) (by decide +kernel) rfl dX9_ways_108 ?_
                  refine tt_iload X dX9_ways_111 rfl ?_
                  refine tt_iconst (v := 1) X dX9_ways_113 (by decide) ?_
                  refine tt_isub X dX9_ways_114 ?_
                  refine tt_iload X dX9_ways_115 rfl ?_
                  refine tt_iconst (v := 1) X dX9_ways_117 (by decide) ?_
                  refine tt_isub X dX9_ways_118 ?_
                  obtain ⟨w119, e119, hs⟩ := gg_bind hs
                  refine zr_callS X (c_X9_spot l e119) (fun hts => va_cwS 2 hts gX9_ways_X9_spot rfl rfl rfl (by decide +kernel) ⟨by decide, by decide⟩) rfl rfl (Nat.le_of_ble_eq_true rfl) dX9_ways_119 ⟨Nat.zero_le _, Nat.zero_le _⟩ ?_
                  obtain ⟨z122, e122, hs⟩ := gg_bind hs
                  refine zr_jl X e122 dX9_ways_122 ?_
                  refine tt_goto (tgt := 127) X dX9_ways_123 (by decide) ?_
                  refine tt_drop [0, 1, 2, 3, 4, 5] ?_
                  exact t_127 b0 x1 x2 x3 x4 x5 z85 z122 w119.2 hs
          refine tt_iload X dX9_ways_44 rfl ?_
          refine tt_iload_n X dX9_ways_46 rfl ?_
          refine tt_icmp_gt (tgt := 150) X dX9_ways_47 (by decide) (fun c47 => ?_) (fun c47 => ?_)
          · rw [if_pos c47] at hs
            refine tt_iinc (v := x4 + 1) X dX9_ways_150 rfl rfl (Nat.le_of_ble_eq_true rfl) ?_
            refine tt_goto (tgt := 30) X dX9_ways_153 (by decide) ?_
            refine tt_drop [0, 1, 2, 3, 4] ?_
            exact t_30 b0 x1 x2 x3 (x4 + 1) h hs
          · rw [if_neg c47] at hs
            refine tt_iload X dX9_ways_50 rfl ?_
            refine tt_if_ne (tgt := 59) X dX9_ways_52 (by decide) (fun c52 => ?_) (fun c52 => ?_)
            · rw [if_neg c52] at hs
              refine tt_lconst (v := 0) X dX9_ways_59 (by decide) ?_
              refine tt_drop [0, 1, 2, 3, 4, 5] ?_
              exact t_60 b0 x1 x2 x3 x4 x5 0 h hs
            · rw [if_pos c52] at hs
              refine tt_lconst (v := 1) X dX9_ways_55 (by decide) ?_
              refine tt_goto (tgt := 60) X dX9_ways_56 (by decide) ?_
              refine tt_drop [0, 1, 2, 3, 4, 5] ?_
              exact t_60 b0 x1 x2 x3 x4 x5 1 h hs
      refine tt_iload X dX9_ways_30 rfl ?_
      refine tt_aload_n X dX9_ways_32 rfl ?_
      obtain ⟨o33, e33, hs⟩ := gg_bind hs
      refine zr_fr X e33 rfl in_X9_ways_X9 (by decide) (by decide +kernel) rfl dX9_ways_33 ?_
      refine tt_iload_n X dX9_ways_36 rfl ?_
      obtain ⟨z37, e37, hs⟩ := gg_bind hs
      refine zr_il X e37 dX9_ways_37 ?_
      refine tt_icmp_gt (tgt := 156) X dX9_ways_38 (by decide) (fun c38 => ?_) (fun c38 => ?_)
      · rw [if_pos c38] at hs
        refine tt_aload_n X dX9_ways_156 rfl ?_
        obtain ⟨o157, e157, hs⟩ := gg_bind hs
        refine zr_fr X e157 rfl in_X9_ways_X9 (by decide) (by decide +kernel) rfl dX9_ways_157 ?_
        refine tt_iload_n X dX9_ways_160 rfl ?_
        refine tt_aload_n X dX9_ways_161 rfl ?_
        obtain ⟨o162, e162, hs⟩ := gg_bind hs
        refine zr_fr X e162 rfl in_X9_ways_X9 (by decide) (by decide +kernel) rfl dX9_ways_162 ?_
        refine tt_iload_n X dX9_ways_165 rfl ?_
        obtain ⟨z166, e166, hs⟩ := gg_bind hs
        refine zr_il X e166 dX9_ways_166 ?_
        obtain ⟨w167, e167, hs⟩ := gg_bind hs
        refine zr_callS X (c_X9_spot l e167) (fun hts => va_cwS 2 hts gX9_ways_X9_spot rfl rfl rfl (by decide +kernel) ⟨by decide, by decide⟩) rfl rfl (Nat.le_of_ble_eq_true rfl) dX9_ways_167 ⟨Nat.zero_le _, Nat.zero_le _⟩ ?_
        obtain ⟨z170, e170, hs⟩ := gg_bind hs
        refine zr_jl X e170 dX9_ways_170 ?_
        obtain rfl := Option.some.inj hs
        exact tt_lret X rfl dX9_ways_171 ⟨rfl, rfl⟩
      · rw [if_neg c38] at hs
        refine tt_iconst (v := 0) X dX9_ways_41 (by decide) ?_
        refine tt_istore X dX9_ways_42 (Nat.le_of_ble_eq_true rfl) ?_
        refine tt_drop [0, 1, 2, 3, 4, 5] ?_
        exact t_44 1000 b0 x1 x2 x3 x4 0 h hs
  refine tt_aload_n X dX9_ways_0 rfl ?_
  refine tt_iload_n X dX9_ways_1 rfl ?_
  obtain ⟨o2, f2, hs⟩ := gg_bind hs
  obtain ⟨w2, e2, hs⟩ := gg_bind hs
  refine zr_callV X f2 rfl (c_X9_isDay l e2) (fun hts => cwV 1 hts gX9_ways_X9_isDay rfl rfl rfl (by decide +kernel) ⟨by decide, by decide⟩) rfl rfl (Nat.le_of_ble_eq_true rfl) dX9_ways_2 ⟨Nat.zero_le _, Nat.zero_le _⟩ ?_
  refine tt_if_eq (tgt := 16) X dX9_ways_5 (by decide) (fun c5 => ?_) (fun c5 => ?_)
  · rw [if_pos c5] at hs
    refine tt_ldc2 (v := (-9223372036854775808)) X (by decide +kernel) dX9_ways_16 ?_
    obtain rfl := Option.some.inj hs
    exact tt_lret X rfl dX9_ways_19 ⟨rfl, rfl⟩
  · rw [if_neg c5] at hs
    refine tt_aload_n X dX9_ways_8 rfl ?_
    refine tt_iload_n X dX9_ways_9 rfl ?_
    obtain ⟨o10, f10, hs⟩ := gg_bind hs
    obtain ⟨w10, e10, hs⟩ := gg_bind hs
    refine zr_callV X f10 rfl (c_X9_isDay l e10) (fun hts => cwV 1 hts gX9_ways_X9_isDay rfl rfl rfl (by decide +kernel) ⟨by decide, by decide⟩) rfl rfl (Nat.le_of_ble_eq_true rfl) dX9_ways_10 ⟨Nat.zero_le _, Nat.zero_le _⟩ ?_
    refine tt_if_ne (tgt := 20) X dX9_ways_13 (by decide) (fun c13 => ?_) (fun c13 => ?_)
    · rw [if_neg c13] at hs
      refine tt_aload_n X dX9_ways_20 rfl ?_
      obtain ⟨o21, e21, hs⟩ := gg_bind hs
      refine zr_fr X e21 rfl in_X9_ways_X9 (by decide) (by decide +kernel) rfl dX9_ways_21 ?_
      refine tt_iload_n X dX9_ways_24 rfl ?_
      obtain ⟨z25, e25, hs⟩ := gg_bind hs
      refine zr_il X e25 dX9_ways_25 ?_
      refine tt_istore_n X dX9_ways_26 (Nat.le_of_ble_eq_true rfl) ?_
      refine tt_iconst (v := 0) X dX9_ways_27 (by decide) ?_
      refine tt_istore X dX9_ways_28 (Nat.le_of_ble_eq_true rfl) ?_
      refine tt_drop [0, 1, 2, 3, 4] ?_
      exact t_30 1000 b0 x1 x2 z25 0 w10.2 hs
    · rw [if_pos c13] at hs
      refine tt_ldc2 (v := (-9223372036854775808)) X (by decide +kernel) dX9_ways_16 ?_
      obtain rfl := Option.some.inj hs
      exact tt_lret X rfl dX9_ways_19 ⟨rfl, rfl⟩

def s_X9_within (b0 : Nat) (x1 : Int32) (x2 : Int32) (h : tt_H) : Option (Int32 × tt_H) :=
  (gg_obj h b0 9).bind fun _ =>
  (s_X9_isDay b0 x1 h).bind fun w2 =>
  if w2.1 = 0 then
    some ((-1), w2.2)
  else
  (gg_obj w2.2 b0 9).bind fun _ =>
  (s_X9_isDay b0 x2 w2.2).bind fun w10 =>
  if w10.1 = 0 then
    some ((-1), w10.2)
  else
  (gg_obj w10.2 b0 9).bind fun _ =>
  (s_X9_isWithin b0 x1 x2 w10.2).bind fun w21 =>
  if w21.1 = 0 then
    some (0, w21.2)
  else
  some (1, w21.2)
abbrev rm_X9_within : Room := { frames := 2, cells := 0, slots := 0, locals := 46 }
set_option maxHeartbeats 4000000 in
set_option maxRecDepth 100000 in
theorem c_X9_within (l : Launch) {b0 : Nat} {x1 : Int32} {x2 : Int32} {h : tt_H} {ρ : Int32 × tt_H} (hs : s_X9_within b0 x1 x2 h = some ρ) : tt_M tt_cl l yX9_within wsX9_within rm_X9_within 0 0 false [.ref b0, .int x1, .int x2] h (tt_ret (some (.int ρ.1)) ρ.2) := by
  refine tt_M.of0 (cc := cX9_within) (maxL := 3) (ret := (some .int)) (by decide +kernel) rfl (Nat.le_of_ble_eq_true rfl) ?_
  intro p e s m args below meth c D ca ad n0 sz hwf hsz X hini
  unfold s_X9_within at hs
  refine tt_aload_n X dX9_within_0 rfl ?_
  refine tt_iload_n X dX9_within_1 rfl ?_
  obtain ⟨o2, f2, hs⟩ := gg_bind hs
  obtain ⟨w2, e2, hs⟩ := gg_bind hs
  refine zr_callV X f2 rfl (c_X9_isDay l e2) (fun hts => cwV 1 hts gX9_within_X9_isDay rfl rfl rfl (by decide +kernel) ⟨by decide, by decide⟩) rfl rfl (Nat.le_of_ble_eq_true rfl) dX9_within_2 ⟨Nat.zero_le _, Nat.zero_le _⟩ ?_
  refine tt_if_eq (tgt := 16) X dX9_within_5 (by decide) (fun c5 => ?_) (fun c5 => ?_)
  · rw [if_pos c5] at hs
    refine tt_iconst (v := (-1)) X dX9_within_16 (by decide) ?_
    obtain rfl := Option.some.inj hs
    exact tt_iret X rfl dX9_within_17 ⟨rfl, rfl⟩
  · rw [if_neg c5] at hs
    refine tt_aload_n X dX9_within_8 rfl ?_
    refine tt_iload_n X dX9_within_9 rfl ?_
    obtain ⟨o10, f10, hs⟩ := gg_bind hs
    obtain ⟨w10, e10, hs⟩ := gg_bind hs
    refine zr_callV X f10 rfl (c_X9_isDay l e10) (fun hts => cwV 1 hts gX9_within_X9_isDay rfl rfl rfl (by decide +kernel) ⟨by decide, by decide⟩) rfl rfl (Nat.le_of_ble_eq_true rfl) dX9_within_10 ⟨Nat.zero_le _, Nat.zero_le _⟩ ?_
    refine tt_if_ne (tgt := 18) X dX9_within_13 (by decide) (fun c13 => ?_) (fun c13 => ?_)
    · rw [if_neg c13] at hs
      refine tt_aload_n X dX9_within_18 rfl ?_
      refine tt_iload_n X dX9_within_19 rfl ?_
      refine tt_iload_n X dX9_within_20 rfl ?_
      obtain ⟨o21, f21, hs⟩ := gg_bind hs
      obtain ⟨w21, e21, hs⟩ := gg_bind hs
      refine zr_callV X f21 rfl (c_X9_isWithin l e21) (fun hts => cwV 2 hts gX9_within_X9_isWithin rfl rfl rfl (by decide +kernel) ⟨by decide, by decide⟩) rfl rfl (Nat.le_of_ble_eq_true rfl) dX9_within_21 ⟨Nat.zero_le _, Nat.zero_le _⟩ ?_
      refine tt_if_eq (tgt := 31) X dX9_within_24 (by decide) (fun c24 => ?_) (fun c24 => ?_)
      · rw [if_pos c24] at hs
        refine tt_iconst (v := 0) X dX9_within_31 (by decide) ?_
        obtain rfl := Option.some.inj hs
        exact tt_iret X rfl dX9_within_32 ⟨rfl, rfl⟩
      · rw [if_neg c24] at hs
        refine tt_iconst (v := 1) X dX9_within_27 (by decide) ?_
        refine tt_goto (tgt := 32) X dX9_within_28 (by decide) ?_
        obtain rfl := Option.some.inj hs
        exact tt_iret X rfl dX9_within_32 ⟨rfl, rfl⟩
    · rw [if_pos c13] at hs
      refine tt_iconst (v := (-1)) X dX9_within_16 (by decide) ?_
      obtain rfl := Option.some.inj hs
      exact tt_iret X rfl dX9_within_17 ⟨rfl, rfl⟩
