section ST
variable {kn : Nat → Nat} {dc : Nat} {sz : Nat → Nat} {wd : Nat → Nat → Nat} {so sl : Nat → Nat} {sc : Nat → Nat → Int32} {tr ft : Int32} {h : tt_H}
theorem cl_leave (ha : cc_A (kn, dc, sz, wd, so, sl, sc, tr, ft) h) (x : Int32) : ∃ h1, s_X8_leave 0 x h = some ((), h1) ∧ cc_A (kn, dc, sz, wd, so, sl, sc, 31 * tr + x, ft) h1 ∧ ∀ i, i ≠ 0 → h1 i = h i := by
  refine ⟨_, ?_, ca_up0 (P' := (kn, dc, sz, wd, so, sl, sc, tr, ft)) ha (31 * tr + x) ft, fun i hi => va_up_ne _ _ hi⟩
  unfold s_X8_leave
  simp only [ca_tr ha.1, ca_puttr ha.1, pp_bind]
theorem cl_fails (ha : cc_A (kn, dc, sz, wd, so, sl, sc, tr, ft) h) (x : Int32) : ∃ h1, s_X8_fails 0 x h = some (-10 - x, h1) ∧ cc_A (kn, dc, sz, wd, so, sl, sc, tr, x) h1 ∧ ∀ i, i ≠ 0 → h1 i = h i := by
  refine ⟨_, ?_, ca_up0 (P' := (kn, dc, sz, wd, so, sl, sc, tr, ft)) ha tr x, fun i hi => va_up_ne _ _ hi⟩
  unfold s_X8_fails
  simp only [ca_putft ha.1, pp_bind]
theorem cl_put (ha : cc_A (kn, dc, sz, wd, so, sl, sc, tr, ft) h) (x : Int32) : ∃ h1, gg_put h 0 8 12 (.int x) = some h1 ∧ cc_A (kn, dc, sz, wd, so, sl, sc, tr, x) h1 ∧ ∀ i, i ≠ 0 → h1 i = h i :=
  ⟨_, ca_putft ha.1 x, ca_up0 (P' := (kn, dc, sz, wd, so, sl, sc, tr, ft)) ha tr x, fun i hi => va_up_ne _ _ hi⟩
theorem ml_put (hm : mm_A (kn, dc, sz, wd, so, sl, sc, tr, ft) h) (x : Int32) : ∃ h1, gg_put h 49 9 0 (.int x) = some h1 ∧ mm_A (kn, dc, sz, wd, so, sl, sc, tr, x) h1 ∧ ∀ i, i ≠ 49 → h1 i = h i := by
  obtain ⟨h1, e1, e2, e3⟩ := ma_putft hm.1 x
  exact ⟨h1, e1, ⟨e2, hm.2.out (fun i hi => e3 i (by omega))⟩, e3⟩
theorem ml_fails (hm : mm_A (kn, dc, sz, wd, so, sl, sc, tr, ft) h) (x : Int32) : ∃ h1, s_X9_fails 49 x h = some (-10 - x, h1) ∧ mm_A (kn, dc, sz, wd, so, sl, sc, tr, x) h1 ∧ ∀ i, i ≠ 49 → h1 i = h i := by
  obtain ⟨h1, e1, e2, e3⟩ := ml_put hm x
  refine ⟨h1, ?_, e2, e3⟩
  unfold s_X9_fails
  simp only [e1, pp_bind]
theorem ml_begins (hm : mm_A (kn, dc, sz, wd, so, sl, sc, tr, ft) h) (x : Int32) : ∃ h1, s_X9_begins 49 x h = some ((), h1) ∧ mm_A (kn, dc, sz, wd, so, sl, sc, 31 * tr + x, ft) h1 ∧ ∀ i, i ≠ 49 → h1 i = h i := by
  obtain ⟨h1, e1, e2, e3⟩ := ma_puttr hm.1 (31 * tr + x)
  refine ⟨h1, ?_, ⟨e2, hm.2.out (fun i hi => e3 i (by omega))⟩, e3⟩
  unfold s_X9_begins
  simp only [ma_tr hm.1, e1, pp_bind]
theorem kn_lt (hV : pp_V (kn, dc, sz, wd, so, sl, sc, tr, ft)) {w : Nat} (hw : w < 8) : kn w < 3 := hV.1 w hw
end ST
theorem E_sing {h : tt_H} (hI : pp_Inv h) (x1 : Int32) : pp_G (s_X8_sing 0 x1) (s_X9_sing 49 x1) h := by
  obtain ⟨⟨kn, dc, sz, wd, so, sl, sc, tr, ft⟩, hV, ha, hm⟩ := hI
  rcases pp_rng 8 (by decide) x1 with ⟨w, hw, rfl⟩ | h1
  · have hk := kn_lt hV hw
    by_cases h2 : kn w = 2
    · have e2 : nI (kn w) = 2 := by rw [h2]; rfl
      refine pp_G.of (P' := (kn, dc, sz, wd, so, sl, sc, 31 * tr + 5, ft)) 40 ha hm hV ?_ (fun h hm => ?_)
      · obtain ⟨h1, f1, f2, f3⟩ := cl_leave ha 5
        refine ⟨h1, ?_, f2, fun i hi => f3 i (by omega)⟩
        unfold s_X8_sing
        simp only [iw_in hw, ca_0 ha.1, ca_kind ha.1 hw, ca_b ha.1, s_X8_doubtSings, e2, f1, pp_bind, pn_10, ↓reduceIte]
      · obtain ⟨h1, f1, f2, f3⟩ := ml_begins hm 5
        refine ⟨h1, ?_, f2, fun i hi => f3 i (by omega)⟩
        unfold s_X9_sing
        simp only [jw_in hw, mo_5 (ma_o hm.1), ma_kind hm.1 hw, (ma_o hm.1).b, s_X9_sing_J25, e2, f1, mo_5 (ma_o f2.1), ma_kind f2.1 hw, pp_bind, pn_10, ↓reduceIte]
    · have e2 : ¬ nI (kn w) = 2 := fun z => h2 ((nI_eq (b := 2) (by omega) (by decide)).mp z)
      refine pp_G.of (P' := (kn, dc, sz, wd, so, sl, sc, 31 * tr + 4, ft)) (nI w) ha hm hV ?_ (fun h hm => ?_)
      · obtain ⟨h1, f1, f2, f3⟩ := cl_leave ha 4
        refine ⟨h1, ?_, f2, fun i hi => f3 i (by omega)⟩
        unfold s_X8_sing
        simp only [iw_in hw, ca_0 ha.1, ca_kind ha.1 hw, ca_b ha.1, s_X8_wordSings, e2, f1, pp_bind, pn_10, ↓reduceIte]
      · obtain ⟨h1, f1, f2, f3⟩ := ml_begins hm 4
        refine ⟨h1, ?_, f2, fun i hi => f3 i (by omega)⟩
        unfold s_X9_sing
        simp only [jw_in hw, mo_5 (ma_o hm.1), ma_kind hm.1 hw, (ma_o hm.1).b, s_X9_sing_J25, e2, f1, mo_5 (ma_o f2.1), ma_kind f2.1 hw, pp_bind, pn_10, ↓reduceIte]
  · refine pp_G.rd (-1) hV ha hm ?_ (fun h hm => ?_)
    · unfold s_X8_sing
      simp only [iw_out h1, pp_bind, pn_00, ↓reduceIte]
    · unfold s_X9_sing
      simp only [jw_out h1, pp_bind, pn_00, ↓reduceIte]
theorem E_as {h : tt_H} (hI : pp_Inv h) (x1 x2 : Int32) : pp_G (s_X8_as 0 x1 x2) (s_X9_as 49 x1 x2) h := by
  obtain ⟨⟨kn, dc, sz, wd, so, sl, sc, tr, ft⟩, hV, ha, hm⟩ := hI
  rcases pp_rng 8 (by decide) x1 with ⟨w, hw, rfl⟩ | h1
  · have hk := kn_lt hV hw
    rcases pp_rng 3 (by decide) x2 with ⟨k, hk2, rfl⟩ | h2
    · by_cases hc : k ≤ kn w
      · have c1 : nI k ≤ nI (kn w) := nI_le hc (by omega)
        have c2 : ¬ nI (kn w) < nI k := nI_nlt hc (by omega)
        refine pp_G.of (P' := (kn, dc, sz, wd, so, sl, sc, tr, 0)) 1 ha hm hV ?_ (fun h hm => ?_)
        · obtain ⟨h1, f1, f2, f3⟩ := cl_put ha 0
          refine ⟨h1, ?_, f2, fun i hi => f3 i (by omega)⟩
          unfold s_X8_as
          simp only [f1, iw_in hw, ik_in hk2, ca_0 f2.1, ca_kind f2.1 hw, c1, pp_bind, pn_10, ↓reduceIte]
        · obtain ⟨h1, f1, f2, f3⟩ := ml_put hm 0
          refine ⟨h1, ?_, f2, fun i hi => f3 i (by omega)⟩
          unfold s_X9_as
          simp only [f1, jw_in hw, j2_in hk2, mo_5 (ma_o f2.1), ma_kind f2.1 hw, c2, pp_bind, pn_10, ↓reduceIte]
      · have c1 : ¬ nI k ≤ nI (kn w) := nI_ge (by omega) (by omega)
        have c2 : nI (kn w) < nI k := nI_lt (by omega) (by omega)
        refine pp_G.of (P' := (kn, dc, sz, wd, so, sl, sc, tr, 2)) (-10 - 2) ha hm hV ?_ (fun h hm => ?_)
        · obtain ⟨h1, f1, f2, f3⟩ := cl_put ha 0
          obtain ⟨h2, g1, g2, g3⟩ := cl_fails f2 2
          refine ⟨h2, ?_, g2, fun i hi => (g3 i (by omega)).trans (f3 i (by omega))⟩
          unfold s_X8_as
          simp only [f1, iw_in hw, ik_in hk2, ca_0 f2.1, ca_kind f2.1 hw, c1, ca_b f2.1, g1, pp_bind, pn_10, ↓reduceIte]
        · obtain ⟨h1, f1, f2, f3⟩ := ml_put hm 0
          obtain ⟨h2, g1, g2, g3⟩ := ml_fails f2 2
          refine ⟨h2, ?_, g2, fun i hi => (g3 i (by omega)).trans (f3 i (by omega))⟩
          unfold s_X9_as
          simp only [f1, jw_in hw, j2_in hk2, mo_5 (ma_o f2.1), ma_kind f2.1 hw, c2, (ma_o f2.1).b, g1, pp_bind, pn_10, ↓reduceIte]
    · refine pp_G.of (P' := (kn, dc, sz, wd, so, sl, sc, tr, 0)) (-2) ha hm hV ?_ (fun h hm => ?_)
      · obtain ⟨h1, f1, f2, f3⟩ := cl_put ha 0
        refine ⟨h1, ?_, f2, fun i hi => f3 i (by omega)⟩
        unfold s_X8_as
        simp only [f1, iw_in hw, ik_out h2, pp_bind, pn_10, pn_00, ↓reduceIte]
      · obtain ⟨h1, f1, f2, f3⟩ := ml_put hm 0
        refine ⟨h1, ?_, f2, fun i hi => f3 i (by omega)⟩
        unfold s_X9_as
        simp only [f1, jw_in hw, j2_out h2, pp_bind, pn_10, pn_00, ↓reduceIte]
  · refine pp_G.of (P' := (kn, dc, sz, wd, so, sl, sc, tr, 0)) (-1) ha hm hV ?_ (fun h hm => ?_)
    · obtain ⟨h2, f1, f2, f3⟩ := cl_put ha 0
      refine ⟨h2, ?_, f2, fun i hi => f3 i (by omega)⟩
      unfold s_X8_as
      simp only [f1, iw_out h1, pp_bind, pn_00, ↓reduceIte]
    · obtain ⟨h2, f1, f2, f3⟩ := ml_put hm 0
      refine ⟨h2, ?_, f2, fun i hi => f3 i (by omega)⟩
      unfold s_X9_as
      simp only [f1, jw_out h1, pp_bind, pn_00, ↓reduceIte]
/-- LEFT OUT -/
def lo_R (W : Nat → Int32) : Nat → Nat → Int32
  | 0, _ => -9
  | s + 1, d => if W d = 0 then nI d else lo_R W s (d + 1)
section LO
variable {kn : Nat → Nat} {dc : Nat} {sz : Nat → Nat} {wd : Nat → Nat → Nat} {so sl : Nat → Nat} {sc : Nat → Nat → Int32} {tr ft : Int32}
def lo_W (sz : Nat → Nat) (wd : Nat → Nat → Nat) (d : Nat) : Int32 := pw_b (sz (d - 1)) (sz d) (wd (d - 1)) (wd d)
theorem lo_c (hV : pp_V (kn, dc, sz, wd, so, sl, sc, tr, ft)) : ∀ (s d fu : Nat) (h : tt_H), cc_A (kn, dc, sz, wd, so, sl, sc, tr, ft) h → dc - d = s → 1 ≤ d → d < 100 → s < fu → ∃ h1, s_X8_leftOut_L2 fu 0 (nI d) h = some (lo_R (lo_W sz wd) s d, h1) ∧ cc_A (kn, dc, sz, wd, so, sl, sc, tr, ft) h1 ∧ ∀ i, 49 ≤ i → h1 i = h i := by
  have hdc : dc ≤ 6 := hV.2.1
  intro s
  induction s with
  | zero =>
    intro d fu h ha hs h1 h2 hfu
    obtain ⟨fu, rfl⟩ : ∃ z, fu = z + 1 := ⟨fu - 1, by omega⟩
    refine ⟨h, ?_, ha, fun _ _ => rfl⟩
    rw [s_X8_leftOut_L2]
    simp only [ca_dc ha.1, nI_le (show dc ≤ d by omega) (show d < 2 ^ 31 by omega), pp_bind, ↓reduceIte]
    rfl
  | succ s ih =>
    intro d fu h ha hs h1 h2 hfu
    obtain ⟨fu, rfl⟩ : ∃ z, fu = z + 1 := ⟨fu - 1, by omega⟩
    obtain ⟨h3, g, l, e1, e2, e3, -⟩ := cl_make ha (ca_cry hV ha.1 (show d - 1 < dc by omega)) (ca_cry hV ha.1 (show d < dc by omega)) (by omega) (by omega)
    have hb : ∀ (c : Int32), pw_b (sz (d - 1)) (sz d) (wd (d - 1)) (wd d) = c → s_X8_leftOut_L2 (fu + 1) 0 (nI d) h = if c = 0 then some (nI d, h3) else s_X8_leftOut_L2 fu 0 (nI (d + 1)) h3 := by
      intro c hc
      rw [hc] at e1
      rw [s_X8_leftOut_L2]
      simp only [ca_dc ha.1, nI_ge (show d < dc by omega) (show dc < 2 ^ 31 by omega), ca_b ha.1, pp_m1 (show 0 < d by omega), ca_in hV ha.1 (show d - 1 < dc by omega), ca_in hV ha.1 (show d < dc by omega), gg_opt_some, ca_4 ha.1, ca_fit ha.1, e1, s_X8_leftOut_J46, nI_1, pp_bind, ↓reduceIte]
    have e4 := hb (lo_W sz wd d) rfl
    by_cases hw : lo_W sz wd d = 0
    · refine ⟨h3, ?_, e2, fun i hi => e3 i (by omega) (by omega)⟩
      rw [e4, if_pos hw, lo_R, if_pos hw]
    · obtain ⟨h5, f1, f2, f3⟩ := ih (d + 1) fu h3 e2 (by omega) (by omega) (by omega) (by omega)
      refine ⟨h5, ?_, f2, fun i hi => (f3 i hi).trans (e3 i (by omega) (by omega))⟩
      rw [e4, if_neg hw, lo_R, if_neg hw, f1]
theorem lo_m (hV : pp_V (kn, dc, sz, wd, so, sl, sc, tr, ft)) : ∀ (s d fu : Nat) (h : tt_H), mm_A (kn, dc, sz, wd, so, sl, sc, tr, ft) h → dc - d = s → 1 ≤ d → d < 100 → s < fu → ∃ h1, s_X9_leftOut_L2 fu 49 (nI d) h = some (lo_R (lo_W sz wd) s d, h1) ∧ mm_A (kn, dc, sz, wd, so, sl, sc, tr, ft) h1 ∧ ∀ i, i < 49 → h1 i = h i := by
  have hdc : dc ≤ 6 := hV.2.1
  intro s
  induction s with
  | zero =>
    intro d fu h hm hs h1 h2 hfu
    obtain ⟨fu, rfl⟩ : ∃ z, fu = z + 1 := ⟨fu - 1, by omega⟩
    refine ⟨h, ?_, hm, fun _ _ => rfl⟩
    rw [s_X9_leftOut_L2]
    simp only [ma_dc hm.1, nI_le (show dc ≤ d by omega) (show d < 2 ^ 31 by omega), pp_bind, ↓reduceIte]
    rfl
  | succ s ih =>
    intro d fu h hm hs h1 h2 hfu
    obtain ⟨fu, rfl⟩ : ∃ z, fu = z + 1 := ⟨fu - 1, by omega⟩
    obtain ⟨h3, g, l, e1, e2, e3, -⟩ := ml_within hV hm (show d - 1 < dc by omega) (show d < dc by omega)
    have hb : ∀ (c : Int32), pw_b (sz (d - 1)) (sz d) (wd (d - 1)) (wd d) = c → s_X9_leftOut_L2 (fu + 1) 49 (nI d) h = if c = 0 then some (nI d, h3) else s_X9_leftOut_L2 fu 49 (nI (d + 1)) h3 := by
      intro c hc
      rw [hc] at e1
      rw [s_X9_leftOut_L2]
      simp only [ma_dc hm.1, nI_ge (show d < dc by omega) (show dc < 2 ^ 31 by omega), (ma_o hm.1).b, pp_m1 (show 0 < d by omega), e1, nI_1, pp_bind, ↓reduceIte]
    have e4 := hb (lo_W sz wd d) rfl
    by_cases hw : lo_W sz wd d = 0
    · refine ⟨h3, ?_, e2, fun i hi => e3 i (by omega) (by omega)⟩
      rw [e4, if_pos hw, lo_R, if_pos hw]
    · obtain ⟨h5, f1, f2, f3⟩ := ih (d + 1) fu h3 e2 (by omega) (by omega) (by omega) (by omega)
      refine ⟨h5, ?_, f2, fun i hi => (f3 i hi).trans (e3 i (by omega) (by omega))⟩
      rw [e4, if_neg hw, lo_R, if_neg hw, f1]
end LO
theorem E_leftOut {h : tt_H} (hI : pp_Inv h) : pp_G (s_X8_leftOut 0) (s_X9_leftOut 49) h := by
  obtain ⟨⟨kn, dc, sz, wd, so, sl, sc, tr, ft⟩, hV, ha, hm⟩ := hI
  have hdc : dc ≤ 6 := hV.2.1
  refine pp_G.of (lo_R (lo_W sz wd) (dc - 1) 1) ha hm hV ?_ (fun h hm => ?_)
  · exact lo_c hV (dc - 1) 1 1000 h ha rfl (by decide) (by decide) (by omega)
  · exact lo_m hV (dc - 1) 1 1000 h hm rfl (by decide) (by decide) (by omega)
