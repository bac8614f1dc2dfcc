theorem pp_hasO {h : tt_H} {b n : Nat} {f : Nat → Nat} (hc : pp_cry h b n f) {x : Int32} (hx : x < 0 ∨ nI n ≤ x) : s_X2_has b x h = some (0, h) := by
  have hn := hc.le
  by_cases h0 : x < 0
  · exact pp_hasN hc h0
  · obtain ⟨k, hk, rfl⟩ := nI_of h0
    have h1 : n ≤ k := (nI_leI (by omega) hk).mp (hx.resolve_left h0)
    rw [pp_has hc hk, if_neg (by omega)]
section PL
variable {kn : Nat → Nat} {dc : Nat} {sz : Nat → Nat} {wd : Nat → Nat → Nat} {so sl : Nat → Nat} {sc : Nat → Nat → Int32} {tr ft : Int32} {h : tt_H}
theorem cl_first (ha : cc_I (kn, dc, sz, wd, so, sl, sc, tr, ft) h) {g : Nat → Int32} (e : h 7 = some (tt_ia 12 g)) {k : Nat} (hk : k < 12) : s_X3_first 6 (nI k) h = some (g k, h) := by
  have hF : h 6 = some (tt_ob 3 [.ref 7, .ref 8, .ref 9]) := by obtain ⟨-, -, -, -, -, -, -, e, -⟩ := ha; exact e
  unfold s_X3_first
  rw [if_neg (nI_pos (by omega)), if_neg (show ¬ (12 : Int32) ≤ nI k from nI_ge (a := k) (b := 12) hk (by decide)), pp_fr hF (v := 7) rfl, pp_bind, pp_il e hk (by decide), pp_bind]
theorem cl_lastp (ha : cc_I (kn, dc, sz, wd, so, sl, sc, tr, ft) h) {g : Nat → Int32} (e : h 8 = some (tt_ia 12 g)) {k : Nat} (hk : k < 12) : s_X3_last 6 (nI k) h = some (g k, h) := by
  have hF : h 6 = some (tt_ob 3 [.ref 7, .ref 8, .ref 9]) := by obtain ⟨-, -, -, -, -, -, -, e, -⟩ := ha; exact e
  unfold s_X3_last
  rw [if_neg (nI_pos (by omega)), if_neg (show ¬ (12 : Int32) ≤ nI k from nI_ge (a := k) (b := 12) hk (by decide)), pp_fr hF (v := 8) rfl, pp_bind, pp_il e hk (by decide), pp_bind]
end PL
theorem E_place {h : tt_H} (hI : pp_Inv h) (x1 x2 x3 x4 : Int32) : pp_G (s_X8_place 0 x1 x2 x3 x4) (s_X9_place 49 x1 x2 x3 x4) h := by
  obtain ⟨⟨kn, dc, sz, wd, so, sl, sc, tr, ft⟩, hV, ha, hm⟩ := hI
  have hdc : dc ≤ 6 := hV.2.1
  rcases pp_rng dc (by omega) x1 with ⟨d1, hd1, rfl⟩ | h1
  · have c1 := ca_cry hV ha.1 hd1
    have l1 := c1.le
    rcases pp_rng dc (by omega) x2 with ⟨d2, hd2, rfl⟩ | h2
    · have c2 := ca_cry hV ha.1 hd2
      rcases pp_rng (sz d1) (by omega) x3 with ⟨k, hk, rfl⟩ | h3
      · rcases pp_rng 2 (by decide) x4 with ⟨q, hq, rfl⟩ | h4
        · by_cases hw : gK (sz d1) (wd d1) (wd d2) (sz d2) = sz d1
          · have hb : pw_b (sz d1) (sz d2) (wd d1) (wd d2) = 1 := if_pos hw
            refine pp_G.of (if q = 0 then nI (gA (sz d1) (wd d1) (wd d2) (sz d2) k) else nI (gB (wd d1) (wd d2) (sz d2) (sz d1) (fun _ => 0) k)) ha hm hV ?_ (fun h hm => ?_)
            · obtain ⟨h1, g, l, e1, e2, e3, e7, e8, e9⟩ := cl_make ha c1 c2 (by omega) (by omega)
              refine ⟨h1, ?_, e2, fun i hi => e3 i (by omega) (by omega)⟩
              rw [hb] at e1
              unfold s_X8_place
              simp only [ca_b ha.1, ca_in hV ha.1 hd1, ca_in hV ha.1 hd2, gg_opt_some, pp_cobj c1, pp_has c1 (k := k) (by omega), hk, if_in hq, ca_4 ha.1, ca_fit ha.1, e1, pp_bind, pn_10, ↓reduceIte, ca_4 e2.1, ca_fit e2.1, cl_first e2.1 e7 (k := k) (by omega), cl_lastp e2.1 e8 (k := k) (by omega), (e9 hw k hk).1, (e9 hw k hk).2]
              rcases (show q = 0 ∨ q = 1 by omega) with rfl | rfl
              · rfl
              · rfl
            · obtain ⟨h1, g, l, e1, e2, e3, e7, e8, e9⟩ := ml_within hV hm hd1 hd2
              refine ⟨h1, ?_, e2, fun i hi => e3 i (by omega) (by omega)⟩
              rw [hb] at e1
              have hb := ma_o hm.1
              have d1' := ma_day hV hm.1 hd1
              unfold s_X9_place
              simp only [hb.b, ma_in hV hm.1 hd1, ma_in hV hm.1 hd2, mo_7 hb, pp_mlen d1', pi_ins_in hk (show sz d1 < 2 ^ 31 by omega), j1_in hq, e1, pp_bind, pn_10, ↓reduceIte, mo_13 (ma_o e2.1), mo_14 (ma_o e2.1), pp_il e7 (show k < 12 by omega) (by decide), pp_il e8 (show k < 12 by omega) (by decide), (e9 hw k hk).1, (e9 hw k hk).2]
              rcases (show q = 0 ∨ q = 1 by omega) with rfl | rfl
              · rfl
              · rfl
          · have hb : pw_b (sz d1) (sz d2) (wd d1) (wd d2) = 0 := if_neg hw
            refine pp_G.of (-9) ha hm hV ?_ (fun h hm => ?_)
            · obtain ⟨h1, g, l, e1, e2, e3, -⟩ := cl_make ha c1 c2 (by omega) (by omega)
              refine ⟨h1, ?_, e2, fun i hi => e3 i (by omega) (by omega)⟩
              rw [hb] at e1
              unfold s_X8_place
              simp only [ca_b ha.1, ca_in hV ha.1 hd1, ca_in hV ha.1 hd2, gg_opt_some, pp_cobj c1, pp_has c1 (k := k) (by omega), hk, if_in hq, ca_4 ha.1, ca_fit ha.1, e1, pp_bind, pn_10, pn_00, ↓reduceIte]
            · obtain ⟨h1, g, l, e1, e2, e3, -⟩ := ml_within hV hm hd1 hd2
              refine ⟨h1, ?_, e2, fun i hi => e3 i (by omega) (by omega)⟩
              rw [hb] at e1
              have hb := ma_o hm.1
              have d1' := ma_day hV hm.1 hd1
              unfold s_X9_place
              simp only [hb.b, ma_in hV hm.1 hd1, ma_in hV hm.1 hd2, mo_7 hb, pp_mlen d1', pi_ins_in hk (show sz d1 < 2 ^ 31 by omega), j1_in hq, e1, pp_bind, pn_10, pn_00, ↓reduceIte]
        · refine pp_G.rd (-2) hV ha hm ?_ (fun h hm => ?_)
          · unfold s_X8_place
            simp only [ca_b ha.1, ca_in hV ha.1 hd1, ca_in hV ha.1 hd2, gg_opt_some, pp_cobj c1, pp_has c1 (k := k) (by omega), hk, if_out h4, pp_bind, pn_10, pn_00, ↓reduceIte]
          · have hb := ma_o hm.1
            have d1' := ma_day hV hm.1 hd1
            unfold s_X9_place
            simp only [hb.b, ma_in hV hm.1 hd1, ma_in hV hm.1 hd2, mo_7 hb, pp_mlen d1', pi_ins_in hk (show sz d1 < 2 ^ 31 by omega), j1_out h4, pp_bind, pn_10, pn_00, ↓reduceIte]
      · refine pp_G.rd (-1) hV ha hm ?_ (fun h hm => ?_)
        · unfold s_X8_place
          simp only [ca_b ha.1, ca_in hV ha.1 hd1, ca_in hV ha.1 hd2, gg_opt_some, pp_cobj c1, pp_hasO c1 h3, pp_bind, pn_10, pn_00, ↓reduceIte]
        · have hb := ma_o hm.1
          have d1' := ma_day hV hm.1 hd1
          unfold s_X9_place
          simp only [hb.b, ma_in hV hm.1 hd1, ma_in hV hm.1 hd2, mo_7 hb, pp_mlen d1', pi_ins_out h3 (show sz d1 < 2 ^ 31 by omega), pp_bind, pn_10, pn_00, ↓reduceIte]
    · refine pp_G.rd (-1) hV ha hm ?_ (fun h hm => ?_)
      · unfold s_X8_place
        simp only [ca_b ha.1, ca_in hV ha.1 hd1, ca_out ha.1 h2, gg_opt_some, gg_opt_none, pp_bind]
      · unfold s_X9_place
        simp only [(ma_o hm.1).b, ma_in hV hm.1 hd1, ma_out hm.1 h2, pp_bind, pn_10, pn_00, ↓reduceIte]
  · refine pp_G.rd (-1) hV ha hm ?_ (fun h hm => ?_)
    · unfold s_X8_place
      rcases pp_rng dc (by omega) x2 with ⟨d2, hd2, rfl⟩ | h2
      · simp only [ca_b ha.1, ca_out ha.1 h1, ca_in hV ha.1 hd2, gg_opt_none, pp_bind]
      · simp only [ca_b ha.1, ca_out ha.1 h1, ca_out ha.1 h2, gg_opt_none, pp_bind]
    · unfold s_X9_place
      simp only [(ma_o hm.1).b, ma_out hm.1 h1, pp_bind, pn_00, ↓reduceIte]
/-- whether a WORD is among the first s from k on -/
def hw_R (f : Nat → Nat) (w : Nat) : Nat → Nat → Int32
  | 0, _ => 0
  | s + 1, k => if f k = w then 1 else hw_R f w s (k + 1)
section HW
variable {h : tt_H} {b d n w : Nat} {f : Nat → Nat}
theorem hw_c (hc : pp_cry h b n f) (hw : w < 8) : ∀ (s k fu : Nat), k + s = n → s < fu → s_X2_hasWord_L2 fu b (nI w) (nI k) h = some (hw_R f w s k, h) := by
  have hn := hc.le
  intro s
  induction s with
  | zero =>
    intro k fu hk hfu
    obtain ⟨fu, rfl⟩ : ∃ z, fu = z + 1 := ⟨fu - 1, by omega⟩
    rw [s_X2_hasWord_L2, pp_fi hc.choose_spec.1 (v := nI n) rfl, pp_bind, if_pos (nI_le (by omega) (by omega))]
    rfl
  | succ s ih =>
    intro k fu hk hfu
    obtain ⟨fu, rfl⟩ : ∃ z, fu = z + 1 := ⟨fu - 1, by omega⟩
    obtain ⟨g, e1, e2, e3, e4⟩ := id hc
    have h8 := (e4 k (by omega)).2
    rw [s_X2_hasWord_L2, pp_fi e1 (v := nI n) rfl, pp_bind, if_neg (nI_ge (by omega) (by omega)), pp_fr e1 (v := b + 1) rfl, pp_bind, pp_il e2 (by omega) (by decide), pp_bind, (e4 k (by omega)).1]
    by_cases hfw : f k = w
    · rw [if_pos (by rw [hfw]), hw_R, if_pos hfw]
    · rw [if_neg (fun z => hfw ((nI_eq (by omega) (by omega)).mp z)), hw_R, if_neg hfw, nI_1, ih (k + 1) fu (by omega) (by omega)]
theorem hw_m (hc : pp_m h d n f) (hw : w < 8) {m : Nat} (hm : m ≤ n) : ∀ (s k fu : Nat), k + s = m → s < fu → s_X9_isIn_L3 fu 49 (nI d) (nI w) (nI m) (nI k) h = some (hw_R f w s k, h) := by
  have hn := hc.le
  intro s
  induction s with
  | zero =>
    intro k fu hk hfu
    obtain ⟨fu, rfl⟩ : ∃ z, fu = z + 1 := ⟨fu - 1, by omega⟩
    rw [s_X9_isIn_L3, if_pos (nI_le (by omega) (by omega))]
    rfl
  | succ s ih =>
    intro k fu hk hfu
    obtain ⟨fu, rfl⟩ : ∃ z, fu = z + 1 := ⟨fu - 1, by omega⟩
    have h8 := hc.lt8 (show k < n by omega)
    rw [s_X9_isIn_L3, if_neg (nI_ge (by omega) (by omega)), hc.1.b, pp_mw hc (by omega), pp_bind]
    simp only []
    by_cases hfw : f k = w
    · rw [if_pos (by rw [hfw]), hw_R, if_pos hfw]
    · rw [if_neg (fun z => hfw ((nI_eq (by omega) (by omega)).mp z)), hw_R, if_neg hfw, nI_1, ih (k + 1) fu (by omega) (by omega)]
theorem pp_hasWord (hc : pp_cry h b n f) (hw : w < 8) : s_X2_hasWord b (nI w) h = some (hw_R f w n 0, h) := hw_c hc hw n 0 1000 (by omega) (by have := hc.le; omega)
theorem pp_isIn (hc : pp_m h d n f) (hw : w < 8) {m : Nat} (hm : m ≤ n) : s_X9_isIn 49 (nI d) (nI w) (nI m) h = some (hw_R f w m 0, h) := hw_m hc hw hm m 0 1000 (by omega) (by have := hc.le; omega)
end HW
/-- in how many DAYS' CRIES -/
def tc_N (F : Nat → Int32) : Nat → Nat → Nat
  | 0, _ => 0
  | s + 1, d => (if F d = 0 then 0 else 1) + tc_N F s (d + 1)
theorem tc_le (F : Nat → Int32) : ∀ s d, tc_N F s d ≤ s
  | 0, _ => Nat.le_refl 0
  | s + 1, d => by
    have := tc_le F s (d + 1)
    unfold tc_N
    split <;> omega
section TC
variable {kn : Nat → Nat} {dc : Nat} {sz : Nat → Nat} {wd : Nat → Nat → Nat} {so sl : Nat → Nat} {sc : Nat → Nat → Int32} {tr ft : Int32} {h : tt_H} {w : Nat}
def tc_F (sz : Nat → Nat) (wd : Nat → Nat → Nat) (w d : Nat) : Int32 := hw_R (wd d) w (sz d) 0
theorem tc_c (hV : pp_V (kn, dc, sz, wd, so, sl, sc, tr, ft)) (ha : cc_I (kn, dc, sz, wd, so, sl, sc, tr, ft) h) (hw : w < 8) : ∀ (s d a fu : Nat), d + s = dc → s < fu → a + s < 1000 → s_X8_wordTells_L9 fu 0 (nI w) (nI a) (nI d) h = some (nI (a + tc_N (tc_F sz wd w) s d), h) := by
  have hdc : dc ≤ 6 := hV.2.1
  intro s
  induction s with
  | zero =>
    intro d a fu hd hfu _
    obtain ⟨fu, rfl⟩ : ∃ z, fu = z + 1 := ⟨fu - 1, by omega⟩
    rw [s_X8_wordTells_L9]
    simp only [ca_dc ha, nI_le (show dc ≤ d by omega) (show d < 2 ^ 31 by omega), pp_bind, ↓reduceIte]
    rfl
  | succ s ih =>
    intro d a fu hd hfu hA
    obtain ⟨fu, rfl⟩ : ∃ z, fu = z + 1 := ⟨fu - 1, by omega⟩
    have c1 := ca_cry hV ha (show d < dc by omega)
    have e1 := pp_hasWord c1 hw
    rw [show hw_R (wd d) w (sz d) 0 = tc_F sz wd w d from rfl] at e1
    rw [s_X8_wordTells_L9, tc_N]
    simp only [ca_dc ha, nI_ge (show d < dc by omega) (show dc < 2 ^ 31 by omega), ca_b ha, ca_in hV ha (show d < dc by omega), gg_opt_some, pp_cobj c1, e1, s_X8_wordTells_J41, nI_1, pp_bind, ↓reduceIte]
    by_cases hF : tc_F sz wd w d = 0
    · simp only [hF, ↓reduceIte]
      rw [ih (d + 1) a fu (by omega) (by omega) (by omega), Nat.zero_add]
    · simp only [hF, ↓reduceIte]
      rw [ih (d + 1) (a + 1) fu (by omega) (by omega) (by omega), Nat.add_assoc]
theorem tc_m (hV : pp_V (kn, dc, sz, wd, so, sl, sc, tr, ft)) (hm : mm_I (kn, dc, sz, wd, so, sl, sc, tr, ft) h) (hw : w < 8) : ∀ (s d a fu : Nat), d + s = dc → s < fu → a + s < 1000 → s_X9_inCries_L4 fu 49 (nI w) (nI a) (nI d) h = some (nI (a + tc_N (tc_F sz wd w) s d), h) := by
  have hdc : dc ≤ 6 := hV.2.1
  intro s
  induction s with
  | zero =>
    intro d a fu hd hfu _
    obtain ⟨fu, rfl⟩ : ∃ z, fu = z + 1 := ⟨fu - 1, by omega⟩
    rw [s_X9_inCries_L4]
    simp only [ma_dc hm, nI_le (show dc ≤ d by omega) (show d < 2 ^ 31 by omega), pp_bind, ↓reduceIte]
    rfl
  | succ s ih =>
    intro d a fu hd hfu hA
    obtain ⟨fu, rfl⟩ : ∃ z, fu = z + 1 := ⟨fu - 1, by omega⟩
    have c1 := ma_day hV hm (show d < dc by omega)
    have e1 := pp_isIn c1 hw (Nat.le_refl _)
    rw [show hw_R (wd d) w (sz d) 0 = tc_F sz wd w d from rfl] at e1
    rw [s_X9_inCries_L4, tc_N]
    simp only [ma_dc hm, nI_ge (show d < dc by omega) (show dc < 2 ^ 31 by omega), c1.1.b, mo_7 c1.1, pp_mlen c1, e1, s_X9_inCries_J33, nI_1, pp_bind, ↓reduceIte]
    by_cases hF : tc_F sz wd w d = 0
    · simp only [hF, ↓reduceIte, Int32.add_zero]
      rw [ih (d + 1) a fu (by omega) (by omega) (by omega), Nat.zero_add]
    · simp only [hF, ↓reduceIte]
      rw [ih (d + 1) (a + 1) fu (by omega) (by omega) (by omega), Nat.add_assoc]
end TC
