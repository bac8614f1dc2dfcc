noncomputable def s_L_law_L731 (Ls : Nat) (xs : Nat → Int32) (κ703 : Int32 → Int32 → Nat → tt_H → Option (Int32 × tt_H)) : Nat → Int32 → Int32 → Int32 → Nat → tt_H → Option (Int32 × tt_H)
  | 0, _, _, _, _, _ => none
  | n + 1, x7, x9, x10, nn, h =>
    (gg_il h 50 0).bind fun z735 =>
    if z735 ≤ x10 then
      κ703 x7 (x9 + 1) nn h
    else
    (gg_obj h 0 8).bind fun _ =>
    (s_X8_said 0 x10 h).bind fun w742 =>
    (gg_jl w742.2 49 x10).bind fun z750 =>
    (gg_il w742.2 50 (1 + x10)).bind fun z756 =>
    (s_L_said 51 z750 z756 w742.2).bind fun w757 =>
    if w742.1 = w757.1 then
      s_L_law_L731 Ls xs κ703 n x7 x9 (x10 + 1) nn w757.2
    else
    some (0, w757.2)
noncomputable def s_L_law_L703 (Ls : Nat) (xs : Nat → Int32) : Nat → Int32 → Int32 → Nat → tt_H → Option (Int32 × tt_H)
  | 0, _, _, _, _ => none
  | n + 1, x7, x9, nn, h =>
    if 4 ≤ x9 then
      (gg_il h 50 0).bind fun z781 =>
      (gg_obj h 0 8).bind fun _ =>
      (s_X8_within 0 0 z781 h).bind fun w782 =>
      if w782.1 = ((-1)) then
        (gg_obj w782.2 0 8).bind fun _ =>
        (s_X8_within 0 ((-1)) 0 w782.2).bind fun w792 =>
        if w792.1 = ((-1)) then
          (gg_il w792.2 50 0).bind fun z802 =>
          (gg_obj w792.2 0 8).bind fun _ =>
          (s_X8_ways 0 z802 0 w792.2).bind fun w804 =>
          if (lg_cmp w804.1 ((-9223372036854775808))) = 0 then
            (gg_il w804.2 50 0).bind fun z818 =>
            (gg_obj w804.2 0 8).bind fun _ =>
            (s_X8_place 0 0 z818 0 0 w804.2).bind fun w821 =>
            if w821.1 = ((-1)) then
              (gg_il w821.2 50 1).bind fun z833 =>
              (gg_obj w821.2 0 8).bind fun _ =>
              (s_X8_place 0 0 0 z833 0 w821.2).bind fun w835 =>
              if w835.1 = ((-1)) then
                (gg_obj w835.2 0 8).bind fun _ =>
                (s_X8_place 0 0 0 ((-1)) 0 w835.2).bind fun w847 =>
                if w847.1 = ((-1)) then
                  (gg_obj w847.2 0 8).bind fun _ =>
                  (s_X8_place 0 0 0 0 2 w847.2).bind fun w859 =>
                  if w859.1 = ((-2)) then
                    (gg_il w859.2 50 (1 + x7)).bind fun z873 =>
                    (gg_obj w859.2 0 8).bind fun _ =>
                    (s_X8_mayBe 0 z873 w859.2).bind fun w874 =>
                    if w874.1 = ((-1)) then
                      (gg_obj w874.2 0 8).bind fun _ =>
                      (s_X8_mayBe 0 ((-1)) w874.2).bind fun w883 =>
                      if w883.1 = ((-1)) then
                        (gg_il w883.2 50 0).bind fun z893 =>
                        (gg_obj w883.2 0 8).bind fun _ =>
                        (s_X8_said 0 z893 w883.2).bind fun w894 =>
                        if w894.1 = ((-1)) then
                          (gg_il w894.2 50 0).bind fun z904 =>
                          (gg_obj w894.2 0 8).bind fun _ =>
                          (s_X8_ofDay 0 z904 0 w894.2).bind fun w906 =>
                          if w906.1 = ((-1)) then
                            (gg_obj w906.2 0 8).bind fun _ =>
                            (s_X8_ofDay 0 0 ((-2)) w906.2).bind fun w917 =>
                            if w917.1 = ((-1)) then
                              (gg_obj w917.2 0 8).bind fun _ =>
                              (s_X8_kind 0 8 0 w917.2).bind fun w928 =>
                              if w928.1 = ((-1)) then
                                (gg_obj w928.2 0 8).bind fun _ =>
                                (s_X8_kind 0 0 3 w928.2).bind fun w938 =>
                                if w938.1 = ((-2)) then
                                  (gg_obj w938.2 0 8).bind fun _ =>
                                  (s_X8_kind 0 ((-1)) 0 w938.2).bind fun w949 =>
                                  if w949.1 = ((-1)) then
                                    some (1, w949.2)
                                  else
                                  some (0, w949.2)
                                else
                                some (0, w938.2)
                              else
                              some (0, w928.2)
                            else
                            some (0, w917.2)
                          else
                          some (0, w906.2)
                        else
                        some (0, w894.2)
                      else
                      some (0, w883.2)
                    else
                    some (0, w874.2)
                  else
                  some (0, w859.2)
                else
                some (0, w847.2)
              else
              some (0, w835.2)
            else
            some (0, w821.2)
          else
          some (0, w804.2)
        else
        some (0, w792.2)
      else
      some (0, w782.2)
    else
    (s_L_cell Ls xs (4 + x9) h).bind fun w715 =>
    (s_L_kinds 0 w715.1 51 w715.2).bind fun w720 =>
    if w720.1 = 0 then
      some (0, w720.2)
    else
    s_L_law_L731 Ls xs (s_L_law_L703 Ls xs n) 10000 x7 x9 0 nn w720.2
noncomputable def s_L_law_L667 (Ls : Nat) (xs : Nat → Int32) : Nat → Int32 → Nat → Int32 → Nat → tt_H → Option (Int32 × tt_H)
  | 0, _, _, _, _, _ => none
  | n + 1, x7, b8, x9, nn, h =>
    (gg_il h 50 (1 + x7)).bind fun z674 =>
    if z674 ≤ x9 then
      s_L_law_L703 Ls xs 10000 x7 0 nn h
    else
    (gg_obj h 0 8).bind fun _ =>
    (s_X8_mayBe 0 x9 h).bind fun w681 =>
    (gg_il w681.2 b8 x9).bind fun z688 =>
    if w681.1 = z688 then
      s_L_law_L667 Ls xs n x7 b8 (x9 + 1) nn w681.2
    else
    some (0, w681.2)
noncomputable def s_L_law_J652 (Ls : Nat) (xs : Nat → Int32) (κ244 : Int32 → Nat → Int32 → Int32 → Nat → tt_H → Option (Int32 × tt_H)) (x7 : Int32) (b8 : Nat) (x9 : Int32) (x10 : Int32) (nn : Nat) (h : tt_H) : Option (Int32 × tt_H) :=
  κ244 x7 b8 x9 (x10 + 1) nn h
noncomputable def s_L_law_L595 (Ls : Nat) (xs : Nat → Int32) (κ652 : Int32 → Nat → Int32 → Int32 → Nat → tt_H → Option (Int32 × tt_H)) : Nat → Int32 → Nat → Int32 → Int32 → Nat → Nat → Int32 → Nat → tt_H → Option (Int32 × tt_H)
  | 0, _, _, _, _, _, _, _, _, _ => none
  | n + 1, x7, b8, x9, x10, b13, b14, x15, nn, h =>
    (gg_il h 50 (1 + x9)).bind fun z602 =>
    if z602 ≤ x15 then
      κ652 x7 b8 x9 x10 nn h
    else
    (gg_obj h 0 8).bind fun _ =>
    (s_X8_place 0 x9 x10 x15 0 h).bind fun w614 =>
    (gg_il w614.2 b13 x15).bind fun z621 =>
    if w614.1 = z621 then
      (gg_obj w614.2 0 8).bind fun _ =>
      (s_X8_place 0 x9 x10 x15 1 w614.2).bind fun w633 =>
      (gg_il w633.2 b14 x15).bind fun z640 =>
      if w633.1 = z640 then
        s_L_law_L595 Ls xs κ652 n x7 b8 x9 x10 b13 b14 (x15 + 1) nn w633.2
      else
      some (0, w633.2)
    else
    some (0, w614.2)
noncomputable def s_L_law_J585 (Ls : Nat) (xs : Nat → Int32) (κ652 : Int32 → Nat → Int32 → Int32 → Nat → tt_H → Option (Int32 × tt_H)) (x7 : Int32) (b8 : Nat) (x9 : Int32) (x10 : Int32) (x11 : Int32) (b13 : Nat) (b14 : Nat) (ux0 : Int32) (nn : Nat) (h : tt_H) : Option (Int32 × tt_H) :=
  if ux0 = x11 then
    s_L_law_L595 Ls xs κ652 10000 x7 b8 x9 x10 b13 b14 0 nn h
  else
  some (0, h)
noncomputable def s_L_law_J554 (Ls : Nat) (xs : Nat → Int32) (κ382 : Int32 → Nat → Int32 → Int32 → Int32 → Int32 → Nat → Nat → Int32 → Nat → tt_H → Option (Int32 × tt_H)) (x7 : Int32) (b8 : Nat) (x9 : Int32) (x10 : Int32) (x11 : Int32) (x12 : Int32) (b13 : Nat) (b14 : Nat) (x15 : Int32) (nn : Nat) (h : tt_H) : Option (Int32 × tt_H) :=
  κ382 x7 b8 x9 x10 x11 x12 b13 b14 (x15 + 1) nn h
noncomputable def s_L_law_J548 (Ls : Nat) (xs : Nat → Int32) (κ444 : Int32 → Nat → Int32 → Int32 → Int32 → Int32 → Nat → Nat → Int32 → Int32 → Int32 → Nat → tt_H → Option (Int32 × tt_H)) (x7 : Int32) (b8 : Nat) (x9 : Int32) (x10 : Int32) (x11 : Int32) (x12 : Int32) (b13 : Nat) (b14 : Nat) (x15 : Int32) (x16 : Int32) (x17 : Int32) (nn : Nat) (h : tt_H) : Option (Int32 × tt_H) :=
  κ444 x7 b8 x9 x10 x11 x12 b13 b14 x15 x16 (x17 + 1) nn h
noncomputable def s_L_law_J545 (Ls : Nat) (xs : Nat → Int32) (κ548 : Int32 → Nat → Int32 → Int32 → Int32 → Int32 → Nat → Nat → Int32 → Int32 → Int32 → Nat → tt_H → Option (Int32 × tt_H)) (x7 : Int32) (b8 : Nat) (x9 : Int32) (x10 : Int32) (x11 : Int32) (x12 : Int32) (b13 : Nat) (b14 : Nat) (x15 : Int32) (x16 : Int32) (x17 : Int32) (nn : Nat) (h : tt_H) : Option (Int32 × tt_H) :=
  κ548 x7 b8 x9 x10 x11 x12 b13 b14 x15 (x16 + 1) x17 nn h
noncomputable def s_L_law_J525 (Ls : Nat) (xs : Nat → Int32) (κ548 : Int32 → Nat → Int32 → Int32 → Int32 → Int32 → Nat → Nat → Int32 → Int32 → Int32 → Nat → tt_H → Option (Int32 × tt_H)) (x7 : Int32) (b8 : Nat) (x9 : Int32) (x10 : Int32) (x11 : Int32) (x12 : Int32) (b13 : Nat) (b14 : Nat) (x15 : Int32) (x16 : Int32) (x17 : Int32) (ub0 : Nat) (ux1 : Int32) (ux2 : Int32) (nn : Nat) (h : tt_H) : Option (Int32 × tt_H) :=
  (gg_is h ub0 ux1 ux2).bind fun h525 =>
  if x10 = x7 then
    (gg_il h525 b8 x17).bind fun z538 =>
    (gg_is h525 b8 x17 (z538 ||| ((1 : Int32) <<< (x9 &&& 31)))).bind fun h544 =>
    s_L_law_J545 Ls xs κ548 x7 b8 x9 x10 x11 x12 b13 b14 x15 x16 x17 nn h544
  else
  s_L_law_J545 Ls xs κ548 x7 b8 x9 x10 x11 x12 b13 b14 x15 x16 x17 nn h525
noncomputable def s_L_law_J500 (Ls : Nat) (xs : Nat → Int32) (κ548 : Int32 → Nat → Int32 → Int32 → Int32 → Int32 → Nat → Nat → Int32 → Int32 → Int32 → Nat → tt_H → Option (Int32 × tt_H)) (x7 : Int32) (b8 : Nat) (x9 : Int32) (x10 : Int32) (x11 : Int32) (x12 : Int32) (b13 : Nat) (b14 : Nat) (x15 : Int32) (x16 : Int32) (x17 : Int32) (ub0 : Nat) (ux1 : Int32) (ux2 : Int32) (nn : Nat) (h : tt_H) : Option (Int32 × tt_H) :=
  (gg_is h ub0 ux1 ux2).bind fun h500 =>
  (gg_il h500 b14 x16).bind fun z511 =>
  if x17 ≤ z511 then
    (gg_il h500 b14 x16).bind fun z524 =>
    s_L_law_J525 Ls xs κ548 x7 b8 x9 x10 x11 x12 b13 b14 x15 x16 x17 b14 x16 z524 nn h500
  else
  s_L_law_J525 Ls xs κ548 x7 b8 x9 x10 x11 x12 b13 b14 x15 x16 x17 b14 x16 x17 nn h500
noncomputable def s_L_law_J490 (Ls : Nat) (xs : Nat → Int32) (κ500 : Int32 → Nat → Int32 → Int32 → Int32 → Int32 → Nat → Nat → Int32 → Int32 → Int32 → Nat → Int32 → Int32 → Nat → tt_H → Option (Int32 × tt_H)) (x7 : Int32) (b8 : Nat) (x9 : Int32) (x10 : Int32) (x11 : Int32) (x12 : Int32) (b13 : Nat) (b14 : Nat) (x15 : Int32) (x16 : Int32) (x17 : Int32) (ub0 : Nat) (ux1 : Int32) (nn : Nat) (h : tt_H) : Option (Int32 × tt_H) :=
  κ500 x7 b8 x9 x10 x11 x12 b13 b14 x15 x16 x17 ub0 ux1 x17 nn h
noncomputable def s_L_law_L444 (Ls : Nat) (xs : Nat → Int32) (κ554 : Int32 → Nat → Int32 → Int32 → Int32 → Int32 → Nat → Nat → Int32 → Nat → tt_H → Option (Int32 × tt_H)) : Nat → Int32 → Nat → Int32 → Int32 → Int32 → Int32 → Nat → Nat → Int32 → Int32 → Int32 → Nat → tt_H → Option (Int32 × tt_H)
  | 0, _, _, _, _, _, _, _, _, _, _, _, _, _ => none
  | n + 1, x7, b8, x9, x10, x11, x12, b13, b14, x15, x16, x17, nn, h =>
    (gg_il h 50 (1 + x10)).bind fun z451 =>
    if z451 ≤ x17 then
      κ554 x7 b8 x9 x10 x11 x12 b13 b14 x15 nn h
    else
    if ((x15 >>> (x17 &&& 31)) &&& 1) = 0 then
      s_L_law_J548 Ls xs (s_L_law_L444 Ls xs κ554 n) x7 b8 x9 x10 x11 x12 b13 b14 x15 x16 x17 nn h
    else
    (gg_il h b13 x16).bind fun z476 =>
    if z476 < 0 then
      s_L_law_J490 Ls xs (s_L_law_J500 Ls xs (s_L_law_J548 Ls xs (s_L_law_L444 Ls xs κ554 n))) x7 b8 x9 x10 x11 x12 b13 b14 x15 x16 x17 b13 x16 nn h
    else
    (gg_il h b13 x16).bind fun z486 =>
    if z486 ≤ x17 then
      (gg_il h b13 x16).bind fun z499 =>
      s_L_law_J500 Ls xs (s_L_law_J548 Ls xs (s_L_law_L444 Ls xs κ554 n)) x7 b8 x9 x10 x11 x12 b13 b14 x15 x16 x17 b13 x16 z499 nn h
    else
    s_L_law_J490 Ls xs (s_L_law_J500 Ls xs (s_L_law_J548 Ls xs (s_L_law_L444 Ls xs κ554 n))) x7 b8 x9 x10 x11 x12 b13 b14 x15 x16 x17 b13 x16 nn h
noncomputable def s_L_law_L382 (Ls : Nat) (xs : Nat → Int32) (κ652 : Int32 → Nat → Int32 → Int32 → Nat → tt_H → Option (Int32 × tt_H)) : Nat → Int32 → Nat → Int32 → Int32 → Int32 → Int32 → Nat → Nat → Int32 → Nat → tt_H → Option (Int32 × tt_H)
  | 0, _, _, _, _, _, _, _, _, _, _, _ => none
  | n + 1, x7, b8, x9, x10, x11, x12, b13, b14, x15, nn, h =>
    (gg_il h 50 (1 + x10)).bind fun z390 =>
    if ((1 : Int32) <<< (z390 &&& 31)) ≤ x15 then
      (gg_obj h 0 8).bind fun _ =>
      (s_X8_ways 0 x9 x10 h).bind fun w565 =>
      if (lg_cmp w565.1 x12.toInt64) = 0 then
        if x12 ≤ 0 then
          s_L_law_J585 Ls xs κ652 x7 b8 x9 x10 x11 b13 b14 0 nn w565.2
        else
        s_L_law_J585 Ls xs κ652 x7 b8 x9 x10 x11 b13 b14 1 nn w565.2
      else
      some (0, w565.2)
    else
    (s_L_size x15 h).bind fun w397 =>
    (gg_il w397.2 50 (1 + x9)).bind fun z405 =>
    if w397.1 = z405 then
      (gg_jl w397.2 49 x10).bind fun z412 =>
      (gg_il w397.2 50 (1 + x10)).bind fun z418 =>
      (s_L_part z412 z418 x15 w397.2).bind fun w421 =>
      (gg_jl w421.2 49 x9).bind fun z427 =>
      if (lg_cmp w421.1 z427) = 0 then
        s_L_law_L444 Ls xs (s_L_law_J554 Ls xs (s_L_law_L382 Ls xs κ652 n)) 10000 x7 b8 x9 x10 x11 (x12 + 1) b13 b14 x15 0 0 nn w421.2
      else
      s_L_law_J554 Ls xs (s_L_law_L382 Ls xs κ652 n) x7 b8 x9 x10 x11 x12 b13 b14 x15 nn w421.2
    else
    s_L_law_J554 Ls xs (s_L_law_L382 Ls xs κ652 n) x7 b8 x9 x10 x11 x12 b13 b14 x15 nn w397.2
noncomputable def s_L_law_L352 (Ls : Nat) (xs : Nat → Int32) (κ652 : Int32 → Nat → Int32 → Int32 → Nat → tt_H → Option (Int32 × tt_H)) : Nat → Int32 → Nat → Int32 → Int32 → Int32 → Int32 → Nat → Nat → Int32 → Nat → tt_H → Option (Int32 × tt_H)
  | 0, _, _, _, _, _, _, _, _, _, _, _ => none
  | n + 1, x7, b8, x9, x10, x11, x12, b13, b14, x15, nn, h =>
    if 12 ≤ x15 then
      s_L_law_L382 Ls xs κ652 10000 x7 b8 x9 x10 x11 x12 b13 b14 0 nn h
    else
    (gg_is h b13 x15 ((-9))).bind fun h365 =>
    (gg_is h365 b14 x15 ((-9))).bind fun h372 =>
    s_L_law_L352 Ls xs κ652 n x7 b8 x9 x10 x11 x12 b13 b14 (x15 + 1) nn h372
noncomputable def s_L_law_J334 (Ls : Nat) (xs : Nat → Int32) (κ652 : Int32 → Nat → Int32 → Int32 → Nat → tt_H → Option (Int32 × tt_H)) (x7 : Int32) (b8 : Nat) (x9 : Int32) (x10 : Int32) (x11 : Int32) (nn : Nat) (h : tt_H) : Option (Int32 × tt_H) :=
  (gg_new nn [1000000, 0, 49, 50, 51, b8] h).bind fun _ =>
  (gg_new (nn + 1) [1000000, 0, 49, 50, 51, b8, nn] (va_up h nn (some (tt_ia 12 (fun _ => 0))))).bind fun _ =>
  s_L_law_L352 Ls xs κ652 10000 x7 b8 x9 x10 x11 0 nn (nn + 1) 0 (nn + 1 + 1) (va_up (va_up h nn (some (tt_ia 12 (fun _ => 0)))) (nn + 1) (some (tt_ia 12 (fun _ => 0))))
noncomputable def s_L_law_J295 (Ls : Nat) (xs : Nat → Int32) (κ244 : Int32 → Nat → Int32 → Int32 → Nat → tt_H → Option (Int32 × tt_H)) (x7 : Int32) (b8 : Nat) (x9 : Int32) (x10 : Int32) (x11 : Int32) (ux0 : Int32) (ux1 : Int32) (nn : Nat) (h : tt_H) : Option (Int32 × tt_H) :=
  if ux0 = ux1 then
    if x9 = x7 then
      s_L_law_J334 Ls xs (s_L_law_J652 Ls xs κ244) x7 b8 x9 x10 x11 nn h
    else
    if x10 = x7 then
      s_L_law_J334 Ls xs (s_L_law_J652 Ls xs κ244) x7 b8 x9 x10 x11 nn h
    else
    (gg_nz 2).bind fun _ =>
    if ((x9 + x10) - (x9 + x10) / 2 * 2) = 0 then
      if x9 = x10 then
        s_L_law_J334 Ls xs (s_L_law_J652 Ls xs κ244) x7 b8 x9 x10 x11 nn h
      else
      s_L_law_J652 Ls xs κ244 x7 b8 x9 x10 nn h
    else
    s_L_law_J334 Ls xs (s_L_law_J652 Ls xs κ244) x7 b8 x9 x10 x11 nn h
  else
  some (0, h)
noncomputable def s_L_law_L244 (Ls : Nat) (xs : Nat → Int32) (κ157 : Int32 → Nat → Int32 → Nat → tt_H → Option (Int32 × tt_H)) : Nat → Int32 → Nat → Int32 → Int32 → Nat → tt_H → Option (Int32 × tt_H)
  | 0, _, _, _, _, _, _ => none
  | n + 1, x7, b8, x9, x10, nn, h =>
    (gg_il h 50 0).bind fun z248 =>
    if z248 ≤ x10 then
      κ157 x7 b8 (x9 + 1) nn h
    else
    (gg_jl h 49 x9).bind fun z255 =>
    (gg_il h 50 (1 + x9)).bind fun z261 =>
    (gg_jl h 49 x10).bind fun z265 =>
    (gg_il h 50 (1 + x10)).bind fun z271 =>
    (s_L_within z255 z261 z265 z271 h).bind fun w272 =>
    (gg_obj w272.2 0 8).bind fun _ =>
    (s_X8_within 0 x9 x10 w272.2).bind fun w282 =>
    if w272.1 = 0 then
      s_L_law_J295 Ls xs (s_L_law_L244 Ls xs κ157 n) x7 b8 x9 x10 w272.1 w282.1 0 nn w282.2
    else
    s_L_law_J295 Ls xs (s_L_law_L244 Ls xs κ157 n) x7 b8 x9 x10 w272.1 w282.1 1 nn w282.2
noncomputable def s_L_law_L202 (Ls : Nat) (xs : Nat → Int32) (κ157 : Int32 → Nat → Int32 → Nat → tt_H → Option (Int32 × tt_H)) : Nat → Int32 → Nat → Int32 → Int32 → Nat → tt_H → Option (Int32 × tt_H)
  | 0, _, _, _, _, _, _ => none
  | n + 1, x7, b8, x9, x10, nn, h =>
    (gg_il h 50 (1 + x9)).bind fun z209 =>
    if z209 ≤ x10 then
      s_L_law_L244 Ls xs κ157 10000 x7 b8 x9 0 nn h
    else
    (gg_obj h 0 8).bind fun _ =>
    (s_X8_ofDay 0 x9 x10 h).bind fun w218 =>
    (gg_jl w218.2 49 x9).bind fun z224 =>
    (s_L_word z224 x10 w218.2).bind fun w227 =>
    if w218.1 = w227.1 then
      s_L_law_L202 Ls xs κ157 n x7 b8 x9 (x10 + 1) nn w227.2
    else
    some (0, w227.2)
noncomputable def s_L_law_L157 (Ls : Nat) (xs : Nat → Int32) : Nat → Int32 → Nat → Int32 → Nat → tt_H → Option (Int32 × tt_H)
  | 0, _, _, _, _, _ => none
  | n + 1, x7, b8, x9, nn, h =>
    (gg_il h 50 0).bind fun z161 =>
    if z161 ≤ x9 then
      s_L_law_L667 Ls xs 10000 x7 b8 0 nn h
    else
    (gg_obj h 0 8).bind fun _ =>
    (s_X8_ofDay 0 x9 ((-1)) h).bind fun w169 =>
    (gg_il w169.2 50 (1 + x9)).bind fun z177 =>
    if w169.1 = z177 then
      (gg_il w169.2 50 (1 + x9)).bind fun z189 =>
      (gg_obj w169.2 0 8).bind fun _ =>
      (s_X8_ofDay 0 x9 z189 w169.2).bind fun w190 =>
      if w190.1 = ((-1)) then
        s_L_law_L202 Ls xs (s_L_law_L157 Ls xs n) 10000 x7 b8 x9 0 nn w190.2
      else
      some (0, w190.2)
    else
    some (0, w169.2)
noncomputable def s_L_law_J130 (Ls : Nat) (xs : Nat → Int32) (x6 : Int32) (nn : Nat) (h : tt_H) : Option (Int32 × tt_H) :=
  (gg_obj h 0 8).bind fun _ =>
  (s_X8_leftOut 0 h).bind fun w131 =>
  if w131.1 = x6 then
    (gg_il w131.2 50 0).bind fun z143 =>
    (gg_new nn [1000000, 0, 49, 50, 51] w131.2).bind fun _ =>
    s_L_law_L157 Ls xs 10000 (z143 - 1) nn 0 (nn + 1) (va_up w131.2 nn (some (tt_ia 12 (fun _ => 0))))
  else
  some (0, w131.2)
noncomputable def s_L_law_J122 (Ls : Nat) (xs : Nat → Int32) (κ76 : Int32 → Int32 → Nat → tt_H → Option (Int32 × tt_H)) (x7 : Int32) (ux0 : Int32) (nn : Nat) (h : tt_H) : Option (Int32 × tt_H) :=
  κ76 ux0 (x7 + 1) nn h
noncomputable def s_L_law_L76 (Ls : Nat) (xs : Nat → Int32) : Nat → Int32 → Int32 → Nat → tt_H → Option (Int32 × tt_H)
  | 0, _, _, _, _ => none
  | n + 1, x6, x7, nn, h =>
    (gg_il h 50 0).bind fun z80 =>
    if z80 ≤ x7 then
      s_L_law_J130 Ls xs x6 nn h
    else
    if 0 ≤ x6 then
      s_L_law_J130 Ls xs x6 nn h
    else
    (gg_jl h 49 (x7 - 1)).bind fun z94 =>
    (gg_il h 50 x7).bind fun z98 =>
    (gg_jl h 49 x7).bind fun z102 =>
    (gg_il h 50 (1 + x7)).bind fun z108 =>
    (s_L_within z94 z98 z102 z108 h).bind fun w109 =>
    if w109.1 = 0 then
      s_L_law_J122 Ls xs (s_L_law_L76 Ls xs n) x7 x7 nn w109.2
    else
    s_L_law_J122 Ls xs (s_L_law_L76 Ls xs n) x7 ((-9)) nn w109.2
noncomputable def s_L_law (Ls : Nat) (xs : Nat → Int32) (nn : Nat) (h : tt_H) : Option (Int32 × tt_H) :=
  (s_L_put Ls xs 0 0 12 49 50 h).bind fun w31 =>
  if w31.1 < 1 then
    some (0, w31.2)
  else
  (gg_obj w31.2 0 8).bind fun _ =>
  (s_X8_cries 0 0 0 0 w31.1 w31.2).bind fun w48 =>
  (gg_il w48.2 50 0).bind fun z53 =>
  if w48.1 = z53 then
    (gg_obj w48.2 0 8).bind fun _ =>
    (s_X8_many 0 w48.2).bind fun w58 =>
    (gg_il w58.2 50 0).bind fun z63 =>
    if w58.1 = z63 then
      s_L_law_L76 Ls xs 10000 ((-9)) 1 nn w58.2
    else
    some (0, w58.2)
  else
  some (0, w48.2)
