/-! THE LAW'S LOOP, AND ITS BEGINNING -/
theorem lw_6 {L i : Nat} (hL : L ≤ 3072) (hiL : i ≤ L) (h : ¬ nI L - 6 < nI i) : i + 6 ≤ L := by
  rcases Nat.lt_or_ge L 6 with q | q
  · refine absurd ?_ h
    have h1 : nI L - nI 6 < 0 := pk_sneg (by decide) q
    exact Int32.lt_of_lt_of_le h1 (nI_pos' (by omega))
  · rw [show (6 : Int32) = nI 6 from rfl, pk_sub q] at h
    rcases Nat.lt_or_ge (L - 6) i with z | z
    · exact absurd (nI_lt z (by omega)) h
    · omega
set_option maxHeartbeats 4000000 in
theorem lw_loop {p : Program} {l : Launch} {e : Env} {s : State} {m : MethodId} {below : List Frame} {meth : Method} {c : Code} {b : Nat} {D : va_G} {ca : Nat → ClassId} {ad : Nat → Nat} {L : Nat} {xs : Nat → Int32} (X : tt_X tt_cl (lw_K p l e s m below meth c b D ca) code RL ret wsL_law) (hX : va_X b L xs s s.heap) (hbl : b < s.heap.size) (hb : ad 1000000 = b) (hL : L ≤ 3072) : ∀ (fu i : Nat) (h : tt_H), i ≤ L → L - i < fu → pp_Inv h → tt_T tt_cl (lw_K p l e s m below meth c b D ca) ad 600000 7302250 18 (lw_Lc i) [] h := by
  intro fu
  induction fu with
  | zero => exact fun i h hi hf => absurd hf (Nat.not_lt_zero _)
  | succ fu ih =>
    intro i h hiL hfu hI
    refine tt_iload_n X dL_law_18 rfl ?_
    refine tt_aload_n X dL_law_19 rfl ?_
    refine lw_slen X hX hbl hb dL_law_20 ?_
    refine tt_bipush (v := 6) X dL_law_21 (by decide) ?_
    refine tt_isub X dL_law_23 ?_
    refine tt_icmp_gt (tgt := 1215) X dL_law_24 (by decide) (fun q => ?_) (fun q => ?_)
    · refine tt_iconst (v := 1) X dL_law_1215 (by decide) ?_
      exact lw_fin X dL_law_1216
    · have hi : i + 6 ≤ L := lw_6 hL hiL q
      have back : ∀ h2, pp_Inv h2 → tt_T tt_cl (lw_K p l e s m below meth c b D ca) ad 600000 7302250 1209 (lw_Lc i) [] h2 := fun h2 hI2 => by
        refine tt_iinc (x := nI i) (v := nI (i + 6)) X dL_law_1209 rfl (by rw [show Int32.ofInt 6 = nI 6 by decide, nI_add]) (Nat.le_of_ble_eq_true rfl) ?_
        refine tt_goto (tgt := 18) X dL_law_1212 (by decide) ?_
        exact tt_setL (L2 := lw_Lc (i + 6)) rfl (ih (i + 6) h2 hi (by omega) hI2)
      refine tt_aload_n X dL_law_27 rfl ?_
      refine tt_iload_n X dL_law_28 rfl ?_
      refine lw_sld X hX hbl hb (vp_in_nI (show i < L by omega) (by omega)) dL_law_29 ?_
      refine tt_bipush (v := 31) X dL_law_30 (by decide) ?_
      refine tt_iand X dL_law_32 ?_
      obtain ⟨j, hj, ej⟩ := pk_andE (xs (nI i).toNatClampNeg) (m := 31) 5 (by decide)
      rw [ej]
      by_cases hj30 : j < 30
      rotate_left
      · have hjj : j = 30 ∨ j = 31 := by omega
        rcases hjj with rfl | rfl
        · exact lw_tout (x := nI 30) (tgt := 1209) X dL_law_33 (by decide) (by decide) (back h hI)
        · exact lw_tout (x := nI 31) (tgt := 1209) X dL_law_33 (by decide) (by decide) (back h hI)
      have hjj : j = 0 ∨ j = 1 ∨ j = 2 ∨ j = 3 ∨ j = 4 ∨ j = 5 ∨ j = 6 ∨ j = 7 ∨ j = 8 ∨ j = 9 ∨ j = 10 ∨ j = 11 ∨ j = 12 ∨ j = 13 ∨ j = 14 ∨ j = 15 ∨ j = 16 ∨ j = 17 ∨ j = 18 ∨ j = 19 ∨ j = 20 ∨ j = 21 ∨ j = 22 ∨ j = 23 ∨ j = 24 ∨ j = 25 ∨ j = 26 ∨ j = 27 ∨ j = 28 ∨ j = 29 := by omega
      clear ej hj hj30
      rcases hjj with rfl | rfl | rfl | rfl | rfl | rfl | rfl | rfl | rfl | rfl | rfl | rfl | rfl | rfl | rfl | rfl | rfl | rfl | rfl | rfl | rfl | rfl | rfl | rfl | rfl | rfl | rfl | rfl | rfl | rfl
      · exact lw_tin (x := nI 0) X dL_law_33 (by decide) (by decide) (off := 135) (by decide +kernel) (by decide) (lc_0 X hX hbl hb hL hi hI back)
      · exact lw_tin (x := nI 1) X dL_law_33 (by decide) (by decide) (off := 188) (by decide +kernel) (by decide) (lc_1 X hX hbl hb hL hi hI back)
      · exact lw_tin (x := nI 2) X dL_law_33 (by decide) (by decide) (off := 221) (by decide +kernel) (by decide) (lc_2 X hX hbl hb hL hi hI back)
      · exact lw_tin (x := nI 3) X dL_law_33 (by decide) (by decide) (off := 254) (by decide +kernel) (by decide) (lc_3 X hX hbl hb hL hi hI back)
      · exact lw_tin (x := nI 4) X dL_law_33 (by decide) (by decide) (off := 287) (by decide +kernel) (by decide) (lc_4 X hX hbl hb hL hi hI back)
      · exact lw_tin (x := nI 5) X dL_law_33 (by decide) (by decide) (off := 320) (by decide +kernel) (by decide) (lc_5 X hX hbl hb hL hi hI back)
      · exact lw_tin (x := nI 6) X dL_law_33 (by decide) (by decide) (off := 333) (by decide +kernel) (by decide) (lc_6 X hX hbl hb hL hi hI back)
      · exact lw_tin (x := nI 7) X dL_law_33 (by decide) (by decide) (off := 356) (by decide +kernel) (by decide) (lc_7 X hX hbl hb hL hi hI back)
      · exact lw_tin (x := nI 8) X dL_law_33 (by decide) (by decide) (off := 425) (by decide +kernel) (by decide) (lc_8 X hX hbl hb hL hi hI back)
      · exact lw_tin (x := nI 9) X dL_law_33 (by decide) (by decide) (off := 459) (by decide +kernel) (by decide) (lc_9 X hX hbl hb hL hi hI back)
      · exact lw_tin (x := nI 10) X dL_law_33 (by decide) (by decide) (off := 512) (by decide +kernel) (by decide) (lc_10 X hX hbl hb hL hi hI back)
      · exact lw_tin (x := nI 11) X dL_law_33 (by decide) (by decide) (off := 535) (by decide +kernel) (by decide) (lc_11 X hX hbl hb hL hi hI back)
      · exact lw_tin (x := nI 12) X dL_law_33 (by decide) (by decide) (off := 578) (by decide +kernel) (by decide) (lc_12 X hX hbl hb hL hi hI back)
      · exact lw_tin (x := nI 13) X dL_law_33 (by decide) (by decide) (off := 622) (by decide +kernel) (by decide) (lc_13 X hX hbl hb hL hi hI back)
      · exact lw_tin (x := nI 14) X dL_law_33 (by decide) (by decide) (off := 665) (by decide +kernel) (by decide) (lc_14 X hX hbl hb hL hi hI back)
      · exact lw_tin (x := nI 15) X dL_law_33 (by decide) (by decide) (off := 709) (by decide +kernel) (by decide) (lc_15 X hX hbl hb hL hi hI back)
      · exact lw_tin (x := nI 16) X dL_law_33 (by decide) (by decide) (off := 743) (by decide +kernel) (by decide) (lc_16 X hX hbl hb hL hi hI back)
      · exact lw_tin (x := nI 17) X dL_law_33 (by decide) (by decide) (off := 776) (by decide +kernel) (by decide) (lc_17 X hX hbl hb hL hi hI back)
      · exact lw_tin (x := nI 18) X dL_law_33 (by decide) (by decide) (off := 819) (by decide +kernel) (by decide) (lc_18 X hX hbl hb hL hi hI back)
      · exact lw_tin (x := nI 19) X dL_law_33 (by decide) (by decide) (off := 842) (by decide +kernel) (by decide) (lc_19 X hX hbl hb hL hi hI back)
      · exact lw_tin (x := nI 20) X dL_law_33 (by decide) (by decide) (off := 885) (by decide +kernel) (by decide) (lc_20 X hX hbl hb hL hi hI back)
      · exact lw_tin (x := nI 21) X dL_law_33 (by decide) (by decide) (off := 908) (by decide +kernel) (by decide) (lc_21 X hX hbl hb hL hi hI back)
      · exact lw_tin (x := nI 22) X dL_law_33 (by decide) (by decide) (off := 951) (by decide +kernel) (by decide) (lc_22 X hX hbl hb hL hi hI back)
      · exact lw_tin (x := nI 23) X dL_law_33 (by decide) (by decide) (off := 995) (by decide +kernel) (by decide) (lc_23 X hX hbl hb hL hi hI back)
      · exact lw_tin (x := nI 24) X dL_law_33 (by decide) (by decide) (off := 1058) (by decide +kernel) (by decide) (lc_24 X hX hbl hb hL hi hI back)
      · exact lw_tin (x := nI 25) X dL_law_33 (by decide) (by decide) (off := 1081) (by decide +kernel) (by decide) (lc_25 X hX hbl hb hL hi hI back)
      · exact lw_tin (x := nI 26) X dL_law_33 (by decide) (by decide) (off := 1104) (by decide +kernel) (by decide) (lc_26 X hX hbl hb hL hi hI back)
      · exact lw_tin (x := nI 27) X dL_law_33 (by decide) (by decide) (off := 1137) (by decide +kernel) (by decide) (lc_27 X hX hbl hb hL hi hI back)
      · exact lw_tin (x := nI 28) X dL_law_33 (by decide) (by decide) (off := 1150) (by decide +kernel) (by decide) (lc_28 X hX hbl hb hL hi hI back)
      · exact lw_tin (x := nI 29) X dL_law_33 (by decide) (by decide) (off := 1163) (by decide +kernel) (by decide) (lc_29 X hX hbl hb hL hi hI back)
theorem lw_arr {s : State} {A : Array Value} {ty : FieldType} (h : (Cond.arrayClass ty).before A s = true) (hr : ∀ cA, va_RA s cA ty = (s.vm.findClass ("[" ++ ty.toString) = some cA)) : ∃ cA, ArrOfT s cA ty ∧ va_RA s cA ty := by
  obtain ⟨cA, k, comp, h1, h2, h3⟩ := Cond.arrayClass_spec h
  exact ⟨cA, fun n z => ⟨(fun k h => by cases h), k, h2, comp, h3⟩, by rw [hr]; exact h1⟩
theorem lw_arq {s : State} {A : Array Value} {C : String} (h : (Cond.arrayOver (.object C)).before A s = true) : ∃ cA, ArrOfT s cA (.object C) ∧ va_RA s cA (.object C) := by
  obtain ⟨comp, cA, k, h1, -, h3, h4, h5⟩ := Cond.arrayOver_spec h
  exact ⟨cA, fun n z => ⟨(fun k h => by cases h), k, h3, comp, h4⟩, k, comp, h3, h4, h1, h5⟩
theorem in_law_X0 : ∀ w ∈ u_ws RX0 TX0 2, w ∈ lw_tbl := inT_wsX00
theorem in_law_X1 : ∀ w ∈ u_ws RX1 TX1 2, w ∈ lw_tbl := inT_wsX10
theorem in_law_X2 : ∀ w ∈ u_ws RX2 TX2 2, w ∈ lw_tbl := inT_wsX20
theorem in_law_X3 : ∀ w ∈ u_ws RX3 TX3 3, w ∈ lw_tbl := inT_wsX30
theorem in_law_X4 : ∀ w ∈ u_ws RX4 TX4 1, w ∈ lw_tbl := inT_wsX40
theorem in_law_X5 : ∀ w ∈ u_ws RX5 TX5 2, w ∈ lw_tbl := inT_wsX50
theorem in_law_X6 : ∀ w ∈ u_ws RX6 TX6 3, w ∈ lw_tbl := inT_wsX60
theorem in_law_X7 : ∀ w ∈ u_ws RX7 TX7 2, w ∈ lw_tbl := inT_wsX70
theorem in_law_X8 : ∀ w ∈ u_ws RX8 TX8 13, w ∈ lw_tbl := inT_wsX80
theorem in_law_X9 : ∀ w ∈ u_ws RX9 TX9 26, w ∈ lw_tbl := inT_wsX90
theorem lw_known {s : State} {b : Nat} (hts : ∀ w ∈ lw_tbl, w.before #[Value.ref b] s = true) : ∃ (D : va_G) (ca : Nat → ClassId), va_K D tt_cl (tt_tys ca) s := by
  obtain ⟨c0, iS0, hKn0⟩ := u_known (C := RX0) (T := TX0) (N := 2) (n := 2) hts in_law_X0 (hts (.instantiable RX0 2) (by decide +kernel))
  obtain ⟨c1, iS1, hKn1⟩ := u_known (C := RX1) (T := TX1) (N := 2) (n := 2) hts in_law_X1 (hts (.instantiable RX1 2) (by decide +kernel))
  obtain ⟨c2, iS2, hKn2⟩ := u_known (C := RX2) (T := TX2) (N := 2) (n := 2) hts in_law_X2 (hts (.instantiable RX2 2) (by decide +kernel))
  obtain ⟨c3, iS3, hKn3⟩ := u_known (C := RX3) (T := TX3) (N := 3) (n := 3) hts in_law_X3 (hts (.instantiable RX3 3) (by decide +kernel))
  obtain ⟨c4, iS4, hKn4⟩ := u_known (C := RX4) (T := TX4) (N := 1) (n := 1) hts in_law_X4 (hts (.instantiable RX4 1) (by decide +kernel))
  obtain ⟨c5, iS5, hKn5⟩ := u_known (C := RX5) (T := TX5) (N := 2) (n := 2) hts in_law_X5 (hts (.instantiable RX5 2) (by decide +kernel))
  obtain ⟨c6, iS6, hKn6⟩ := u_known (C := RX6) (T := TX6) (N := 3) (n := 3) hts in_law_X6 (hts (.instantiable RX6 3) (by decide +kernel))
  obtain ⟨c7, iS7, hKn7⟩ := u_known (C := RX7) (T := TX7) (N := 2) (n := 2) hts in_law_X7 (hts (.instantiable RX7 2) (by decide +kernel))
  obtain ⟨c8, iS8, hKn8⟩ := u_known (C := RX8) (T := TX8) (N := 13) (n := 13) hts in_law_X8 (hts (.instantiable RX8 13) (by decide +kernel))
  obtain ⟨c9, iS9, hKn9⟩ := u_known (C := RX9) (T := TX9) (N := 26) (n := 26) hts in_law_X9 (hts (.instantiable RX9 26) (by decide +kernel))
  obtain ⟨a0, ha0⟩ := lw_arr (ty := .int) (hts (.arrayClass .int) (by decide +kernel)) (fun _ => rfl)
  obtain ⟨a1, ha1⟩ := lw_arr (ty := .long) (hts (.arrayClass .long) (by decide +kernel)) (fun _ => rfl)
  obtain ⟨a2, ha2⟩ := lw_arr (ty := .boolean) (hts (.arrayClass .boolean) (by decide +kernel)) (fun _ => rfl)
  obtain ⟨a3, ha3⟩ := lw_arq (C := "AddedCries$Cry") (hts (.arrayOver (.object "AddedCries$Cry")) (by decide +kernel))
  obtain ⟨a4, ha4⟩ := lw_arq (C := "AddedCries$Sheet") (hts (.arrayOver (.object "AddedCries$Sheet")) (by decide +kernel))
  refine ⟨(fun k => if k = 0 then c0 else if k = 1 then c1 else if k = 2 then c2 else if k = 3 then c3 else if k = 4 then c4 else if k = 5 then c5 else if k = 6 then c6 else if k = 7 then c7 else if k = 8 then c8 else c9, fun k => if k = 0 then iS0 else if k = 1 then iS1 else if k = 2 then iS2 else if k = 3 then iS3 else if k = 4 then iS4 else if k = 5 then iS5 else if k = 6 then iS6 else if k = 7 then iS7 else if k = 8 then iS8 else iS9), fun k => if k = 0 then a0 else if k = 1 then a1 else if k = 2 then a2 else if k = 3 then a3 else a4, fun k q hq => ?_, fun k q hq => ?_⟩
  · match k, hq with
    | 0, hq => cases hq; exact hKn0
    | 1, hq => cases hq; exact hKn1
    | 2, hq => cases hq; exact hKn2
    | 3, hq => cases hq; exact hKn3
    | 4, hq => cases hq; exact hKn4
    | 5, hq => cases hq; exact hKn5
    | 6, hq => cases hq; exact hKn6
    | 7, hq => cases hq; exact hKn7
    | 8, hq => cases hq; exact hKn8
    | 9, hq => cases hq; exact hKn9
    | k + 10, hq => simp [tt_cl] at hq
  · match k, hq with
    | 0, hq => cases hq; exact ha0
    | 1, hq => cases hq; exact ha1
    | 2, hq => cases hq; exact ha2
    | 3, hq => cases hq; exact ha3
    | 4, hq => cases hq; exact ha4
    | k + 5, hq => simp [tt_tys] at hq
theorem lw_E {s : State} {b : Nat} (hts : ∀ w ∈ lw_tbl, w.before #[Value.ref b] s = true) : al_E s := by
  refine ⟨va_AO.of (hts (.arrayOver (.object "AddedCries$Cry")) (by decide +kernel)), va_AO.of (hts (.arrayOver (.object "AddedCries$Sheet")) (by decide +kernel)), fun q hq => ?_⟩
  have hall : ∀ q ∈ al_nests, Cond.methodLinkNest q.1 q.2.1 q.2.2.1 q.2.2.2 ∈ lw_tbl := by decide +kernel
  exact va_Nw.of rfl (hts _ (hall q hq))
