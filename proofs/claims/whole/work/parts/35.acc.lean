/-! WHAT THE STATE GIVES: reads of the class and of the model -/
theorem pp_rng (n : Nat) (hn : n < 2 ^ 31) (x : Int32) : (∃ k, k < n ∧ x = nI k) ∨ (x < 0 ∨ nI n ≤ x) := by
  rcases pk_ix x hn with h | h | ⟨j, h1, h2⟩
  · exact Or.inr (Or.inl h)
  · exact Or.inr (Or.inr h)
  · exact Or.inl ⟨j, h1, h2⟩
section ACC
variable {kn : Nat → Nat} {dc : Nat} {sz : Nat → Nat} {wd : Nat → Nat → Nat} {so sl : Nat → Nat} {sc : Nat → Nat → Int32} {tr ft : Int32} {h : tt_H}

theorem ca_b {α : Type} (ha : cc_I (kn, dc, sz, wd, so, sl, sc, tr, ft) h) (x : Option α) : ((gg_obj h 0 8).bind fun _ => x) = x := by
  rw [pp_obj ha.1]; rfl

theorem ca_0 (ha : cc_I (kn, dc, sz, wd, so, sl, sc, tr, ft) h) : gg_fr h 0 8 0 = some 1 := pp_fr ha.1 rfl

theorem ca_1 (ha : cc_I (kn, dc, sz, wd, so, sl, sc, tr, ft) h) : gg_fr h 0 8 1 = some 2 := pp_fr ha.1 rfl

theorem ca_2 (ha : cc_I (kn, dc, sz, wd, so, sl, sc, tr, ft) h) : gg_fr h 0 8 2 = some 3 := pp_fr ha.1 rfl

theorem ca_3 (ha : cc_I (kn, dc, sz, wd, so, sl, sc, tr, ft) h) : gg_fr h 0 8 3 = some 4 := pp_fr ha.1 rfl

theorem ca_4 (ha : cc_I (kn, dc, sz, wd, so, sl, sc, tr, ft) h) : gg_fr h 0 8 4 = some 6 := pp_fr ha.1 rfl

theorem ca_5 (ha : cc_I (kn, dc, sz, wd, so, sl, sc, tr, ft) h) : gg_fr h 0 8 5 = some 10 := pp_fr ha.1 rfl

theorem ca_6 (ha : cc_I (kn, dc, sz, wd, so, sl, sc, tr, ft) h) : gg_fr h 0 8 6 = some 13 := pp_fr ha.1 rfl

theorem ca_7 (ha : cc_I (kn, dc, sz, wd, so, sl, sc, tr, ft) h) : gg_fr h 0 8 7 = some 18 := pp_fr ha.1 rfl

theorem ca_8 (ha : cc_I (kn, dc, sz, wd, so, sl, sc, tr, ft) h) : gg_fr h 0 8 8 = some 23 := pp_fr ha.1 rfl

theorem ca_9 (ha : cc_I (kn, dc, sz, wd, so, sl, sc, tr, ft) h) : gg_fr h 0 8 9 = some 28 := pp_fr ha.1 rfl

theorem ca_dc (ha : cc_I (kn, dc, sz, wd, so, sl, sc, tr, ft) h) : gg_fi h 0 8 10 = some (nI dc) := pp_fi ha.1 rfl
theorem ca_tr (ha : cc_I (kn, dc, sz, wd, so, sl, sc, tr, ft) h) : gg_fi h 0 8 11 = some tr := pp_fi ha.1 rfl
theorem ca_ft (ha : cc_I (kn, dc, sz, wd, so, sl, sc, tr, ft) h) : gg_fi h 0 8 12 = some ft := pp_fi ha.1 rfl
theorem ca_kind (ha : cc_I (kn, dc, sz, wd, so, sl, sc, tr, ft) h) {w : Nat} (hw : w < 8) : gg_il h 1 (nI w) = some (nI (kn w)) := by
  obtain ⟨-, ⟨g, e1, e2⟩, -⟩ := ha
  rw [pp_il e1 hw (by decide), e2 w hw]
theorem ca_cry (hV : pp_V (kn, dc, sz, wd, so, sl, sc, tr, ft)) (ha : cc_I (kn, dc, sz, wd, so, sl, sc, tr, ft) h) {d : Nat} (hd : d < dc) : pp_cry h (29 + 2 * d) (sz d) (wd d) := by
  obtain ⟨-, v1, v2, -⟩ := hV
  obtain ⟨-, -, -, -, a4, -⟩ := ha
  obtain ⟨g, z, e1, e2, e3⟩ := a4 d (by omega)
  obtain ⟨w1, w2, w3⟩ := v2 d hd
  obtain ⟨rfl, e4⟩ := e3 hd
  exact ⟨g, e1, e2, w2, fun k hk => ⟨e4 k hk, w3 k hk⟩⟩
theorem ca_none (ha : cc_I (kn, dc, sz, wd, so, sl, sc, tr, ft) h) : pp_cry h 4 0 (fun _ => 0) := by
  obtain ⟨-, -, -, -, -, ⟨g, e1, e2⟩, -⟩ := ha
  exact ⟨g, e1, e2, by decide, fun k hk => absurd hk (Nat.not_lt_zero k)⟩
theorem ca_in (hV : pp_V (kn, dc, sz, wd, so, sl, sc, tr, ft)) (ha : cc_I (kn, dc, sz, wd, so, sl, sc, tr, ft) h) {d : Nat} (hd : d < dc) : s_X8_cryOf 0 (nI d) h = some (some (29 + 2 * d), h) := by
  obtain ⟨-, v1, -⟩ := hV
  unfold s_X8_cryOf
  rw [if_neg (nI_pos (by omega)), ca_dc ha, pp_bind, if_neg (nI_ge hd (by omega)), if_neg (show ¬ (6 : Int32) ≤ nI d from nI_ge (a := d) (b := 6) (by omega) (by decide)), ca_1 ha, pp_bind]
  obtain ⟨-, -, ⟨g, e1, e2⟩, -⟩ := ha
  rw [pp_ql e1 (by omega) (by decide) (e2 d (by omega)), pp_bind]
theorem ca_out (ha : cc_I (kn, dc, sz, wd, so, sl, sc, tr, ft) h) {x : Int32} (hx : x < 0 ∨ nI dc ≤ x) : s_X8_cryOf 0 x h = some (none, h) := by
  unfold s_X8_cryOf
  by_cases h0 : x < 0
  · rw [if_pos h0]
  · rw [if_neg h0, ca_dc ha, pp_bind, if_pos (hx.resolve_left h0)]
theorem ca_last (hV : pp_V (kn, dc, sz, wd, so, sl, sc, tr, ft)) (ha : cc_I (kn, dc, sz, wd, so, sl, sc, tr, ft) h) (hd : 0 < dc) : s_X8_lastCry 0 h = some (some (29 + 2 * (dc - 1)), h) := by
  unfold s_X8_lastCry
  rw [ca_dc ha, pp_bind, ca_b ha, pp_m1 hd, ca_in hV ha (by omega), pp_bind]
theorem ca_last0 (ha : cc_I (kn, dc, sz, wd, so, sl, sc, tr, ft) h) (hd : dc = 0) : s_X8_lastCry 0 h = some (none, h) := by
  unfold s_X8_lastCry
  rw [ca_dc ha, pp_bind, ca_b ha, hd, ca_out ha (Or.inl (by decide)), pp_bind]
theorem ca_putft (ha : cc_I (kn, dc, sz, wd, so, sl, sc, tr, ft) h) (x : Int32) : gg_put h 0 8 12 (.int x) = some (va_up h 0 (some (cc_ob dc tr x))) := pp_put ha.1 _ (Nat.le_of_ble_eq_true rfl)
theorem ca_puttr (ha : cc_I (kn, dc, sz, wd, so, sl, sc, tr, ft) h) (x : Int32) : gg_put h 0 8 11 (.int x) = some (va_up h 0 (some (cc_ob dc x ft))) := pp_put ha.1 _ (Nat.le_of_ble_eq_true rfl)
theorem ca_up0 {P' : pp_P} (ha : cc_A (kn, dc, sz, wd, so, sl, sc, tr, ft) h) (tr' ft' : Int32) : cc_A (kn, dc, sz, wd, so, sl, sc, tr', ft') (va_up h 0 (some (cc_ob dc tr' ft'))) := by
  obtain ⟨⟨a0, a1, a2, a3, a4, a5, a6, a7⟩, hS⟩ := ha
  have e : ∀ i, i ≠ 0 → va_up h 0 (some (cc_ob dc tr' ft')) i = h i := fun i hi => va_up_ne _ _ hi
  refine ⟨⟨va_up_self _ _ _, by rw [e 1 (by decide)]; exact a1, by rw [e 2 (by decide)]; exact a2, by rw [e 3 (by decide)]; exact a3, fun d hd => ?_, by rw [e 4 (by decide), e 5 (by decide)]; exact a5, fun k hk => ?_, ?_⟩, ?_⟩
  · rw [e _ (by omega), e _ (by omega)]; exact a4 d hd
  · rw [e _ (by omega), e _ (by omega)]; exact a6 k hk
  · rw [e 6 (by decide), e 10 (by decide), e 13 (by decide), e 14 (by decide), e 16 (by decide), e 19 (by decide), e 21 (by decide), e 24 (by decide), e 26 (by decide)]; exact a7
  · obtain ⟨s1, s2, s3, s4, s5⟩ := hS
    refine ⟨fun q hq => ?_, fun q hq => ?_, by rw [e 11 (by decide)]; exact s3, by rw [e 18 (by decide)]; exact s4, by rw [e 23 (by decide)]; exact s5⟩
    · rw [e q.1 (by revert q; decide)]; exact s1 q hq
    · rw [e q.1 (by revert q; decide)]; exact s2 q hq
theorem ca_up1 (ha : cc_A (kn, dc, sz, wd, so, sl, sc, tr, ft) h) {g : Nat → Int32} (he : h 1 = some (tt_ia 8 g)) {w k : Nat} (hw : w < 8) : cc_A (fun j => if j = w then k else kn j, dc, sz, wd, so, sl, sc, tr, ft) (va_up h 1 (some (tt_ia 8 (upd g w (nI k))))) := by
  obtain ⟨⟨a0, ⟨g1, a1, b1⟩, a2, a3, a4, a5, a6, a7⟩, hS⟩ := ha
  obtain rfl : g = g1 := by rw [he] at a1; simp at a1; exact a1
  have e : ∀ i, i ≠ 1 → va_up h 1 (some (tt_ia 8 (upd g w (nI k)))) i = h i := fun i hi => va_up_ne _ _ hi
  refine ⟨⟨by rw [e 0 (by decide)]; exact a0, ⟨_, va_up_self _ _ _, fun j hj => ?_⟩, by rw [e 2 (by decide)]; exact a2, by rw [e 3 (by decide)]; exact a3, fun d hd => ?_, by rw [e 4 (by decide), e 5 (by decide)]; exact a5, fun k hk => ?_, ?_⟩, ?_⟩
  · by_cases hjw : j = w
    · simp [upd, hjw]
    · simp only [upd, if_neg hjw]; exact b1 j hj
  · rw [e _ (by omega), e _ (by omega)]; exact a4 d hd
  · rw [e _ (by omega), e _ (by omega)]; exact a6 k hk
  · rw [e 6 (by decide), e 10 (by decide), e 13 (by decide), e 14 (by decide), e 16 (by decide), e 19 (by decide), e 21 (by decide), e 24 (by decide), e 26 (by decide)]; exact a7
  · obtain ⟨s1, s2, s3, s4, s5⟩ := hS
    refine ⟨fun q hq => ?_, fun q hq => ?_, by rw [e 11 (by decide)]; exact s3, by rw [e 18 (by decide)]; exact s4, by rw [e 23 (by decide)]; exact s5⟩
    · rw [e q.1 (by revert q; decide)]; exact s1 q hq
    · rw [e q.1 (by revert q; decide)]; exact s2 q hq
/-! the model -/
theorem ma_o (hm : mm_I (kn, dc, sz, wd, so, sl, sc, tr, ft) h) : pp_mo h := by
  obtain ⟨⟨at_, rd, pm, po, pt, e⟩, -⟩ := hm
  exact ⟨_, _, _, _, _, _, _, _, e⟩
theorem ma_dc (hm : mm_I (kn, dc, sz, wd, so, sl, sc, tr, ft) h) : gg_fi h 49 9 6 = some (nI dc) := by
  obtain ⟨⟨at_, rd, pm, po, pt, e⟩, -⟩ := hm
  exact pp_fi e rfl
theorem ma_tr (hm : mm_I (kn, dc, sz, wd, so, sl, sc, tr, ft) h) : gg_fi h 49 9 1 = some tr := by
  obtain ⟨⟨at_, rd, pm, po, pt, e⟩, -⟩ := hm
  exact pp_fi e rfl
theorem ma_ft (hm : mm_I (kn, dc, sz, wd, so, sl, sc, tr, ft) h) : gg_fi h 49 9 0 = some ft := by
  obtain ⟨⟨at_, rd, pm, po, pt, e⟩, -⟩ := hm
  exact pp_fi e rfl
theorem ma_kind (hm : mm_I (kn, dc, sz, wd, so, sl, sc, tr, ft) h) {w : Nat} (hw : w < 8) : gg_il h 53 (nI w) = some (nI (kn w)) := by
  obtain ⟨-, -, -, -, ⟨g, e1, e2⟩, -⟩ := hm
  rw [pp_il e1 hw (by decide), e2 w hw]
theorem ma_day (hV : pp_V (kn, dc, sz, wd, so, sl, sc, tr, ft)) (hm : mm_I (kn, dc, sz, wd, so, sl, sc, tr, ft) h) {d : Nat} (hd : d < dc) : pp_m h d (sz d) (wd d) := by
  have hmo := ma_o hm
  obtain ⟨-, v1, v2, -⟩ := hV
  obtain ⟨-, -, -, -, -, ln, e1, wr, e2, e3⟩ := hm
  obtain ⟨w1, w2, w3⟩ := v2 d hd
  exact ⟨hmo, ln, wr, e1, e2, by omega, (e3 d hd).1, w2, fun k hk => ⟨(e3 d hd).2 k hk, w3 k hk⟩⟩
theorem ma_in (hV : pp_V (kn, dc, sz, wd, so, sl, sc, tr, ft)) (hm : mm_I (kn, dc, sz, wd, so, sl, sc, tr, ft) h) {d : Nat} (hd : d < dc) : s_X9_isDay 49 (nI d) h = some (1, h) := by
  obtain ⟨-, v1, -⟩ := hV
  unfold s_X9_isDay
  rw [if_neg (nI_pos (by omega)), ma_dc hm, pp_bind, if_neg (nI_ge hd (by omega))]
theorem ma_out (hm : mm_I (kn, dc, sz, wd, so, sl, sc, tr, ft) h) {x : Int32} (hx : x < 0 ∨ nI dc ≤ x) : s_X9_isDay 49 x h = some (0, h) := by
  unfold s_X9_isDay
  by_cases h0 : x < 0
  · rw [if_pos h0]
  · rw [if_neg h0, ma_dc hm, pp_bind, if_pos (hx.resolve_left h0)]
theorem ma_putft (hm : mm_I (kn, dc, sz, wd, so, sl, sc, tr, ft) h) (x : Int32) : ∃ h1, gg_put h 49 9 0 (.int x) = some h1 ∧ mm_I (kn, dc, sz, wd, so, sl, sc, tr, x) h1 ∧ ∀ i, i ≠ 49 → h1 i = h i := by
  obtain ⟨⟨at_, rd, pm, po, pt, e⟩, a1, a2, a3, a4, ln, a5, wr, a6⟩ := hm
  refine ⟨_, pp_put e _ (Nat.le_of_ble_eq_true rfl), ?_, fun i hi => va_up_ne _ _ hi⟩
  exact ⟨⟨at_, rd, pm, po, pt, va_up_self _ _ _⟩, by rw [va_up_ne _ _ (by decide)]; exact a1, by rw [va_up_ne _ _ (by decide)]; exact a2, by rw [va_up_ne _ _ (by decide)]; exact a3, by rw [va_up_ne _ _ (by decide)]; exact a4, ln, by rw [va_up_ne _ _ (by decide)]; exact a5, wr, by rw [va_up_ne _ _ (by decide)]; exact a6⟩
theorem ma_puttr (hm : mm_I (kn, dc, sz, wd, so, sl, sc, tr, ft) h) (x : Int32) : ∃ h1, gg_put h 49 9 1 (.int x) = some h1 ∧ mm_I (kn, dc, sz, wd, so, sl, sc, x, ft) h1 ∧ ∀ i, i ≠ 49 → h1 i = h i := by
  obtain ⟨⟨at_, rd, pm, po, pt, e⟩, a1, a2, a3, a4, ln, a5, wr, a6⟩ := hm
  refine ⟨_, pp_put e _ (Nat.le_of_ble_eq_true rfl), ?_, fun i hi => va_up_ne _ _ hi⟩
  exact ⟨⟨at_, rd, pm, po, pt, va_up_self _ _ _⟩, by rw [va_up_ne _ _ (by decide)]; exact a1, by rw [va_up_ne _ _ (by decide)]; exact a2, by rw [va_up_ne _ _ (by decide)]; exact a3, by rw [va_up_ne _ _ (by decide)]; exact a4, ln, by rw [va_up_ne _ _ (by decide)]; exact a5, wr, by rw [va_up_ne _ _ (by decide)]; exact a6⟩
theorem mm_S.out {h h' : tt_H} (hs : mm_S h) (e : ∀ i, 55 < i → h' i = h i) : mm_S h' := by
  refine ⟨fun q hq => ?_, fun q hq => ?_⟩
  · have : 55 < q.1 := by revert q; decide
    rw [e q.1 this]; exact hs.1 q hq
  · have : 55 < q.1 := by revert q; decide
    rw [e q.1 this]; exact hs.2 q hq
theorem ma_up53 (hm : mm_A (kn, dc, sz, wd, so, sl, sc, tr, ft) h) {g : Nat → Int32} (he : h 53 = some (tt_ia 8 g)) {w k : Nat} (hw : w < 8) : mm_A (fun j => if j = w then k else kn j, dc, sz, wd, so, sl, sc, tr, ft) (va_up h 53 (some (tt_ia 8 (upd g w (nI k))))) := by
  obtain ⟨⟨a0, a1, a2, a3, ⟨g1, a4, b4⟩, ln, a5, wr, a6⟩, hS⟩ := hm
  obtain rfl : g = g1 := by rw [he] at a4; simp at a4; exact a4
  refine ⟨⟨by rw [va_up_ne _ _ (by decide)]; exact a0, by rw [va_up_ne _ _ (by decide)]; exact a1, by rw [va_up_ne _ _ (by decide)]; exact a2, by rw [va_up_ne _ _ (by decide)]; exact a3, ⟨_, va_up_self _ _ _, fun j hj => ?_⟩, ln, by rw [va_up_ne _ _ (by decide)]; exact a5, wr, by rw [va_up_ne _ _ (by decide)]; exact a6⟩, hS.out (fun i hi => va_up_ne _ _ (by omega))⟩
  by_cases hjw : j = w
  · simp [upd, hjw]
  · simp only [upd, if_neg hjw]; exact b4 j hj
end ACC
theorem pi_inside (x a b : Int32) (h : tt_H) : s_X9_inside x a b h = some (if x < a ∨ b < x then 0 else 1, h) := by
  unfold s_X9_inside
  by_cases h1 : x < a
  · rw [if_pos h1, if_pos (Or.inl h1)]
  · by_cases h2 : b < x
    · rw [if_neg h1, if_pos h2, if_pos (Or.inr h2)]
    · rw [if_neg h1, if_neg h2, if_neg (fun z => z.elim h1 h2)]
theorem pi_ins_in {k n : Nat} (hk : k < n) (hn : n < 2 ^ 31) (h : tt_H) : s_X9_inside (nI k) 0 (nI n - 1) h = some (1, h) := by
  rw [pi_inside, if_neg]
  rw [pp_m1 (by omega)]
  rintro (z | z)
  · exact nI_pos (by omega) z
  · exact nI_nlt (by omega) (by omega) z
theorem pi_ins_out {n : Nat} {x : Int32} (hx : x < 0 ∨ nI n ≤ x) (hn : n < 2 ^ 31) (h : tt_H) : s_X9_inside x 0 (nI n - 1) h = some (0, h) := by
  rw [pi_inside, if_pos]
  by_cases h0 : x < 0
  · exact Or.inl h0
  · refine Or.inr ?_
    obtain ⟨k, hk, rfl⟩ := nI_of h0
    have h1 : n ≤ k := (nI_leI hn hk).mp (hx.resolve_left h0)
    cases n with
    | zero => rw [show nI 0 - 1 = -1 by decide]; exact Int32.lt_of_lt_of_le (by decide : (-1 : Int32) < 0) (nI_pos' hk)
    | succ n => rw [nI_pred]; exact nI_lt (by omega) hk
