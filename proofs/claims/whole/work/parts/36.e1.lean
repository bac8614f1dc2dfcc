/-! THE CALLS, first of all the plain ones -/
theorem pn_10 : ((1 : Int32) = 0) = False := by decide
theorem pn_00 : ((0 : Int32) = 0) = True := by decide
section W8
variable {h : tt_H}
theorem iw_in {w : Nat} (hw : w < 8) : s_X8_isWord (nI w) h = some (1, h) := by
  unfold s_X8_isWord
  rw [if_neg (nI_pos (by omega)), if_neg (show ¬ (8 : Int32) ≤ nI w from nI_ge (a := w) (b := 8) hw (by decide))]
theorem iw_out {x : Int32} (hx : x < 0 ∨ nI 8 ≤ x) : s_X8_isWord x h = some (0, h) := by
  unfold s_X8_isWord
  by_cases h0 : x < 0
  · rw [if_pos h0]
  · rw [if_neg h0, if_pos (show (8 : Int32) ≤ x from hx.resolve_left h0)]
theorem ik_in {w : Nat} (hw : w < 3) : s_X8_isKind (nI w) h = some (1, h) := by
  unfold s_X8_isKind
  rw [if_neg (nI_pos (by omega)), if_neg (show ¬ (3 : Int32) ≤ nI w from nI_ge (a := w) (b := 3) hw (by decide))]
theorem ik_out {x : Int32} (hx : x < 0 ∨ nI 3 ≤ x) : s_X8_isKind x h = some (0, h) := by
  unfold s_X8_isKind
  by_cases h0 : x < 0
  · rw [if_pos h0]
  · rw [if_neg h0, if_pos (show (3 : Int32) ≤ x from hx.resolve_left h0)]
theorem is_in {w : Nat} (hw : w < 3) : s_X8_isSort (nI w) h = some (1, h) := by
  unfold s_X8_isSort
  rw [if_neg (nI_pos (by omega)), if_neg (show ¬ (3 : Int32) ≤ nI w from nI_ge (a := w) (b := 3) hw (by decide))]
theorem is_out {x : Int32} (hx : x < 0 ∨ nI 3 ≤ x) : s_X8_isSort x h = some (0, h) := by
  unfold s_X8_isSort
  by_cases h0 : x < 0
  · rw [if_pos h0]
  · rw [if_neg h0, if_pos (show (3 : Int32) ≤ x from hx.resolve_left h0)]
theorem if_in {w : Nat} (hw : w < 2) : s_X8_isFirstOrSecond (nI w) h = some (1, h) := by
  unfold s_X8_isFirstOrSecond
  rcases (show w = 0 ∨ w = 1 by omega) with rfl | rfl
  · rfl
  · rfl
theorem if_out {x : Int32} (hx : x < 0 ∨ nI 2 ≤ x) : s_X8_isFirstOrSecond x h = some (0, h) := by
  unfold s_X8_isFirstOrSecond
  rw [if_neg, if_neg]
  · rintro rfl; revert hx; decide
  · rintro rfl; revert hx; decide
theorem jw_in {w : Nat} (hw : w < 8) : s_X9_isWord (nI w) h = some (1, h) := by
  unfold s_X9_isWord
  rw [show (7 : Int32) = nI 8 - 1 by decide, pi_ins_in hw (by decide)]; rfl
theorem jw_out {x : Int32} (hx : x < 0 ∨ nI 8 ≤ x) : s_X9_isWord x h = some (0, h) := by
  unfold s_X9_isWord
  rw [show (7 : Int32) = nI 8 - 1 by decide, pi_ins_out hx (by decide)]; rfl
theorem j2_in {w : Nat} (hw : w < 3) : s_X9_inside (nI w) 0 2 h = some (1, h) := by
  rw [show (2 : Int32) = nI 3 - 1 by decide, pi_ins_in hw (by decide)]
theorem j2_out {x : Int32} (hx : x < 0 ∨ nI 3 ≤ x) : s_X9_inside x 0 2 h = some (0, h) := by
  rw [show (2 : Int32) = nI 3 - 1 by decide, pi_ins_out hx (by decide)]
theorem j1_in {w : Nat} (hw : w < 2) : s_X9_inside (nI w) 0 1 h = some (1, h) := by
  rw [show (1 : Int32) = nI 2 - 1 by decide, pi_ins_in hw (by decide)]; rfl
theorem j1_out {x : Int32} (hx : x < 0 ∨ nI 2 ≤ x) : s_X9_inside x 0 1 h = some (0, h) := by
  rw [show (1 : Int32) = nI 2 - 1 by decide, pi_ins_out hx (by decide)]
end W8
theorem E_trace {h : tt_H} (hI : pp_Inv h) : pp_G (s_X8_trace 0) (s_X9_trace 49) h := by
  obtain ⟨⟨kn, dc, sz, wd, so, sl, sc, tr, ft⟩, hV, ha, hm⟩ := hI
  refine pp_G.rd tr hV ha hm ?_ (fun h hm => ?_)
  · unfold s_X8_trace; rw [ca_tr ha.1]; rfl
  · unfold s_X9_trace; rw [ma_tr hm.1]; rfl
theorem E_fault {h : tt_H} (hI : pp_Inv h) : pp_G (s_X8_fault 0) (s_X9_fault 49) h := by
  obtain ⟨⟨kn, dc, sz, wd, so, sl, sc, tr, ft⟩, hV, ha, hm⟩ := hI
  refine pp_G.rd ft hV ha hm ?_ (fun h hm => ?_)
  · unfold s_X8_fault; rw [ca_ft ha.1]; rfl
  · unfold s_X9_fault; rw [ma_ft hm.1]; rfl
theorem E_many {h : tt_H} (hI : pp_Inv h) : pp_G (s_X8_many 0) (s_X9_many 49) h := by
  obtain ⟨⟨kn, dc, sz, wd, so, sl, sc, tr, ft⟩, hV, ha, hm⟩ := hI
  refine pp_G.rd (nI dc) hV ha hm ?_ (fun h hm => ?_)
  · unfold s_X8_many; rw [ca_dc ha.1]; rfl
  · unfold s_X9_many; rw [ma_dc hm.1]; rfl
theorem E_kind {h : tt_H} (hI : pp_Inv h) (x1 x2 : Int32) : pp_G (s_X8_kind 0 x1 x2) (s_X9_kind 49 x1 x2) h := by
  obtain ⟨⟨kn, dc, sz, wd, so, sl, sc, tr, ft⟩, hV, ha, hm⟩ := hI
  rcases pp_rng 8 (by decide) x1 with ⟨w, hw, rfl⟩ | h1
  · rcases pp_rng 3 (by decide) x2 with ⟨k, hk, rfl⟩ | h2
    · refine pp_G.of (P' := (fun j => if j = w then k else kn j, dc, sz, wd, so, sl, sc, tr, ft)) (nI (kn w)) ha hm ?_ ?_ (fun h hm => ?_)
      · obtain ⟨v0, v1⟩ := hV
        refine ⟨fun j hj => ?_, v1⟩
        show (if j = w then k else kn j) < 3
        by_cases hjw : j = w
        · rw [if_pos hjw]; exact hk
        · rw [if_neg hjw]; exact v0 j hj
      · obtain ⟨g, e1, -⟩ := ha.1.2.1
        refine ⟨_, ?_, ca_up1 ha e1 hw, fun i hi => va_up_ne _ _ (by omega)⟩
        unfold s_X8_kind
        simp only [iw_in hw, ik_in hk, ca_0 ha.1, ca_kind ha.1 hw, pp_is e1 hw (by decide), pp_bind, gg_opt_some, gg_opt_none, pn_10, pn_00, ↓reduceIte]
      · obtain ⟨g, e1, -⟩ := hm.1.2.2.2.2.1
        refine ⟨_, ?_, ma_up53 hm e1 hw, fun i hi => va_up_ne _ _ (by omega)⟩
        unfold s_X9_kind
        simp only [jw_in hw, j2_in hk, mo_5 (ma_o hm.1), ma_kind hm.1 hw, pp_is e1 hw (by decide), pp_bind, gg_opt_some, gg_opt_none, pn_10, pn_00, ↓reduceIte]
    · refine pp_G.rd (-2) hV ha hm ?_ (fun h hm => ?_)
      · unfold s_X8_kind
        simp only [iw_in hw, ik_out h2, pp_bind, gg_opt_some, gg_opt_none, pn_10, pn_00, ↓reduceIte]
      · unfold s_X9_kind
        simp only [jw_in hw, j2_out h2, pp_bind, gg_opt_some, gg_opt_none, pn_10, pn_00, ↓reduceIte]
  · refine pp_G.rd (-1) hV ha hm ?_ (fun h hm => ?_)
    · unfold s_X8_kind
      simp only [iw_out h1, pp_bind, gg_opt_some, gg_opt_none, pn_10, pn_00, ↓reduceIte]
    · unfold s_X9_kind
      simp only [jw_out h1, pp_bind, gg_opt_some, gg_opt_none, pn_10, pn_00, ↓reduceIte]
theorem E_ofDay {h : tt_H} (hI : pp_Inv h) (x1 x2 : Int32) : pp_G (s_X8_ofDay 0 x1 x2) (s_X9_ofDay 49 x1 x2) h := by
  obtain ⟨⟨kn, dc, sz, wd, so, sl, sc, tr, ft⟩, hV, ha, hm⟩ := hI
  have hdc : dc ≤ 6 := hV.2.1
  rcases pp_rng dc (by omega) x1 with ⟨d, hd, rfl⟩ | h1
  · have hc := ca_cry hV ha.1 hd
    have hle := hc.le
    by_cases hx : x2 = -1
    · subst hx
      refine pp_G.rd (nI (sz d)) hV ha hm ?_ (fun h hm => ?_)
      · unfold s_X8_ofDay
        simp only [ca_b ha.1, ca_in hV ha.1 hd, pp_cobj hc, pp_size hc, pp_bind, gg_opt_some, gg_opt_none, pn_10, pn_00, ↓reduceIte]
      · have hd' := ma_day hV hm.1 hd
        unfold s_X9_ofDay
        simp only [hd'.1.b, ma_in hV hm.1 hd, mo_7 hd'.1, pp_mlen hd', pi_inside, pp_bind, gg_opt_some, gg_opt_none, pn_10, pn_00, ↓reduceIte]
        have : ¬ ((-1 : Int32) < -1 ∨ nI (sz d) - 1 < -1) := by
          rintro (z | z)
          · exact absurd z (by decide)
          · have h0 := (hV.2.2.1 d hd).1
            rw [pp_m1 h0] at z
            exact nI_pos (show sz d - 1 < 2 ^ 31 by omega) (Int32.lt_of_lt_of_le z (by decide))
        simp only [this, pn_10, ↓reduceIte]
    · rcases pp_rng (sz d) (by omega) x2 with ⟨k, hk, rfl⟩ | h2
      · refine pp_G.rd (nI (wd d k)) hV ha hm ?_ (fun h hm => ?_)
        · unfold s_X8_ofDay
          simp only [ca_b ha.1, ca_in hV ha.1 hd, hx, pp_cobj hc, pp_has hc (k := k) (by omega), hk, pp_at hc (k := k) (by omega), pp_w_in hk, pp_bind, gg_opt_some, gg_opt_none, pn_10, pn_00, ↓reduceIte]
        · have hd' := ma_day hV hm.1 hd
          unfold s_X9_ofDay
          simp only [hd'.1.b, ma_in hV hm.1 hd, mo_7 hd'.1, pp_mlen hd', pi_inside, hx, pp_mw hd' hk, pp_bind, gg_opt_some, gg_opt_none, pn_10, pn_00, ↓reduceIte]
          have : ¬ (nI k < -1 ∨ nI (sz d) - 1 < nI k) := by
            rintro (z | z)
            · exact nI_pos (show k < 2 ^ 31 by omega) (Int32.lt_of_lt_of_le z (by decide))
            · rw [pp_m1 (by omega)] at z
              exact nI_nlt (by omega) (by omega) z
          simp only [this, pn_10, ↓reduceIte]
      · refine pp_G.rd (-1) hV ha hm ?_ (fun h hm => ?_)
        · unfold s_X8_ofDay
          simp only [ca_b ha.1, ca_in hV ha.1 hd, hx, pp_cobj hc, pp_bind, gg_opt_some, gg_opt_none, pn_10, pn_00, ↓reduceIte]
          by_cases h0 : x2 < 0
          · simp only [pp_hasN hc h0, pp_bind, gg_opt_some, gg_opt_none, pn_10, pn_00, ↓reduceIte]
          · obtain ⟨k, hk, rfl⟩ := nI_of h0
            have hkn : sz d ≤ k := (nI_leI (by omega) hk).mp (h2.resolve_left h0)
            simp only [pp_has hc hk, show ¬ k < sz d by omega, pp_bind, gg_opt_some, gg_opt_none, pn_10, pn_00, ↓reduceIte]
        · have hd' := ma_day hV hm.1 hd
          unfold s_X9_ofDay
          simp only [hd'.1.b, ma_in hV hm.1 hd, mo_7 hd'.1, pp_mlen hd', pi_inside, pp_bind, gg_opt_some, gg_opt_none, pn_10, pn_00, ↓reduceIte]
          have : x2 < -1 ∨ nI (sz d) - 1 < x2 := by
            by_cases h0 : x2 < 0
            · refine Or.inl ?_
              rw [Int32.lt_iff_toInt_lt] at h0 ⊢
              have e1 : (0 : Int32).toInt = 0 := rfl
              have e2 : (-1 : Int32).toInt = -1 := rfl
              have e3 : x2.toInt ≠ -1 := fun z => hx (Int32.toInt_inj.mp (z.trans e2.symm))
              omega
            · obtain ⟨k, hk, rfl⟩ := nI_of h0
              have hkn : sz d ≤ k := (nI_leI (by omega) hk).mp (h2.resolve_left h0)
              have hp := (hV.2.2.1 d hd).1
              rw [pp_m1 hp]
              exact Or.inr (nI_lt (by omega) hk)
          simp only [this, pn_00, ↓reduceIte]
  · refine pp_G.rd (-1) hV ha hm ?_ (fun h hm => ?_)
    · unfold s_X8_ofDay
      simp only [ca_b ha.1, ca_out ha.1 h1, pp_bind, gg_opt_some, gg_opt_none, pn_10, pn_00, ↓reduceIte]
    · unfold s_X9_ofDay
      simp only [(ma_o hm.1).b, ma_out hm.1 h1, pp_bind, gg_opt_some, gg_opt_none, pn_10, pn_00, ↓reduceIte]
/-! WITHIN of two DAYS, with what it leaves -/
section WI
variable {kn : Nat → Nat} {dc : Nat} {sz : Nat → Nat} {wd : Nat → Nat → Nat} {so sl : Nat → Nat} {sc : Nat → Nat → Int32} {tr ft : Int32} {h : tt_H}
def pw_b (n1 n2 : Nat) (f1 f2 : Nat → Nat) : Int32 := if gK n1 f1 f2 n2 = n1 then 1 else 0
theorem cl_make (ha : cc_A (kn, dc, sz, wd, so, sl, sc, tr, ft) h) {b1 b2 n1 n2 : Nat} {f1 f2 : Nat → Nat} (c1 : pp_cry h b1 n1 f1) (c2 : pp_cry h b2 n2 f2) (k1 : 29 ≤ b1 ∨ b1 = 4) (k2 : 29 ≤ b2 ∨ b2 = 4) :
    ∃ h1 g l, s_X3_make 6 b1 b2 h = some (pw_b n1 n2 f1 f2, h1) ∧ cc_A (kn, dc, sz, wd, so, sl, sc, tr, ft) h1 ∧ (∀ i, i ≠ 7 → i ≠ 8 → h1 i = h i) ∧ h1 7 = some (tt_ia 12 g) ∧ h1 8 = some (tt_ia 12 l) ∧ (gK n1 f1 f2 n2 = n1 → ∀ k, k < n1 → g k = nI (gA n1 f1 f2 n2 k) ∧ l k = nI (gB f1 f2 n2 n1 (fun _ => 0) k)) := by
  obtain ⟨g7, e7⟩ := ha.2.1 (7, 12) (by decide)
  obtain ⟨g8, e8⟩ := ha.2.1 (8, 12) (by decide)
  have hF : h 6 = some (tt_ob 3 [.ref 7, .ref 8, .ref 9]) := by obtain ⟨-, -, -, -, -, -, -, e, -⟩ := ha.1; exact e
  obtain ⟨g, l, e1, e2⟩ := pp_make c1 c2 hF e7 e8 (by omega) (by omega)
  refine ⟨_, g, l, e1, (ha.upI (p := 7) (N := 12) (by decide) g).upI (p := 8) (N := 12) (by decide) l, fun i h1 h2 => ?_, ?_, va_up_self _ _ _, e2⟩
  · rw [va_up_ne _ _ h2, va_up_ne _ _ h1]
  · rw [va_up_ne _ _ (by decide), va_up_self]
theorem ml_within (hV : pp_V (kn, dc, sz, wd, so, sl, sc, tr, ft)) (hm : mm_A (kn, dc, sz, wd, so, sl, sc, tr, ft) h) {d1 d2 : Nat} (hd1 : d1 < dc) (hd2 : d2 < dc) :
    ∃ h1 g l, s_X9_isWithin 49 (nI d1) (nI d2) h = some (pw_b (sz d1) (sz d2) (wd d1) (wd d2), h1) ∧ mm_A (kn, dc, sz, wd, so, sl, sc, tr, ft) h1 ∧ (∀ i, i ≠ 58 → i ≠ 59 → h1 i = h i) ∧ h1 58 = some (tt_ia 12 g) ∧ h1 59 = some (tt_ia 12 l) ∧ (gK (sz d1) (wd d1) (wd d2) (sz d2) = sz d1 → ∀ k, k < sz d1 → g k = nI (gA (sz d1) (wd d1) (wd d2) (sz d2) k) ∧ l k = nI (gB (wd d1) (wd d2) (sz d2) (sz d1) (fun _ => 0) k)) := by
  obtain ⟨g7, e7⟩ := hm.2.1 (58, 12) (by decide)
  obtain ⟨g8, e8⟩ := hm.2.1 (59, 12) (by decide)
  obtain ⟨g, l, e1, e2⟩ := mw_within (ma_day hV hm.1 hd1) (ma_day hV hm.1 hd2) e7 e8
  refine ⟨_, g, l, e1, (hm.upI (p := 58) (N := 12) (by decide) g).upI (p := 59) (N := 12) (by decide) l, fun i h1 h2 => ?_, ?_, va_up_self _ _ _, e2⟩
  · rw [va_up_ne _ _ h2, va_up_ne _ _ h1]
  · rw [va_up_ne _ _ (by decide), va_up_self]
theorem ca_fit (ha : cc_I (kn, dc, sz, wd, so, sl, sc, tr, ft) h) {α : Type} (x : Option α) : ((gg_obj h 6 3).bind fun _ => x) = x := by
  obtain ⟨-, -, -, -, -, -, -, e, -⟩ := ha
  rw [pp_obj e]; rfl
end WI
theorem E_within {h : tt_H} (hI : pp_Inv h) (x1 x2 : Int32) : pp_G (s_X8_within 0 x1 x2) (s_X9_within 49 x1 x2) h := by
  obtain ⟨⟨kn, dc, sz, wd, so, sl, sc, tr, ft⟩, hV, ha, hm⟩ := hI
  have hdc : dc ≤ 6 := hV.2.1
  rcases pp_rng dc (by omega) x1 with ⟨d1, hd1, rfl⟩ | h1
  · rcases pp_rng dc (by omega) x2 with ⟨d2, hd2, rfl⟩ | h2
    · refine pp_G.of (pw_b (sz d1) (sz d2) (wd d1) (wd d2)) ha hm hV ?_ (fun h hm => ?_)
      · obtain ⟨h1, g, l, e1, e2, e3, -⟩ := cl_make ha (ca_cry hV ha.1 hd1) (ca_cry hV ha.1 hd2) (by omega) (by omega)
        refine ⟨h1, ?_, e2, fun i hi => e3 i (by omega) (by omega)⟩
        unfold s_X8_within
        simp only [ca_b ha.1, ca_in hV ha.1 hd1, ca_in hV ha.1 hd2, ca_4 ha.1, ca_fit ha.1, e1, pp_bind, gg_opt_some, gg_opt_none, pn_10, pn_00, ↓reduceIte]
        unfold pw_b
        by_cases hw : gK (sz d1) (wd d1) (wd d2) (sz d2) = sz d1
        · simp only [if_pos hw]; rw [if_neg (by decide)]
        · simp only [if_neg hw]; rw [if_pos trivial]
      · obtain ⟨h1, g, l, e1, e2, e3, -⟩ := ml_within hV hm hd1 hd2
        refine ⟨h1, ?_, e2, fun i hi => e3 i (by omega) (by omega)⟩
        have hb := ma_o hm.1
        unfold s_X9_within
        simp only [hb.b, ma_in hV hm.1 hd1, ma_in hV hm.1 hd2, e1, pp_bind, gg_opt_some, gg_opt_none, pn_10, pn_00, ↓reduceIte]
        unfold pw_b
        by_cases hw : gK (sz d1) (wd d1) (wd d2) (sz d2) = sz d1
        · simp only [if_pos hw]; rw [if_neg (by decide)]
        · simp only [if_neg hw]; rw [if_pos trivial]
    · refine pp_G.rd (-1) hV ha hm ?_ (fun h hm => ?_)
      · unfold s_X8_within
        simp only [ca_b ha.1, ca_in hV ha.1 hd1, ca_out ha.1 h2, pp_bind, gg_opt_some, gg_opt_none, pn_10, pn_00, ↓reduceIte]
      · have hb := ma_o hm.1
        unfold s_X9_within
        simp only [hb.b, ma_in hV hm.1 hd1, ma_out hm.1 h2, pp_bind, gg_opt_some, gg_opt_none, pn_10, pn_00, ↓reduceIte]
  · refine pp_G.rd (-1) hV ha hm ?_ (fun h hm => ?_)
    · unfold s_X8_within
      rcases pp_rng dc (by omega) x2 with ⟨d2, hd2, rfl⟩ | h2
      · simp only [ca_b ha.1, ca_out ha.1 h1, ca_in hV ha.1 hd2, pp_bind, gg_opt_some, gg_opt_none, pn_10, pn_00, ↓reduceIte]
      · simp only [ca_b ha.1, ca_out ha.1 h1, ca_out ha.1 h2, pp_bind, gg_opt_some, gg_opt_none, pn_10, pn_00, ↓reduceIte]
    · have hb := ma_o hm.1
      unfold s_X9_within
      simp only [hb.b, ma_out hm.1 h1, pp_bind, gg_opt_some, gg_opt_none, pn_10, pn_00, ↓reduceIte]
