/-! TELL -/
section TE
variable {kn : Nat → Nat} {dc : Nat} {sz : Nat → Nat} {wd : Nat → Nat → Nat} {so sl : Nat → Nat} {sc : Nat → Nat → Int32} {tr ft : Int32} {h : tt_H} {w : Nat}
theorem cl_wt (hV : pp_V (kn, dc, sz, wd, so, sl, sc, tr, ft)) (ha : cc_A (kn, dc, sz, wd, so, sl, sc, tr, ft) h) (hw : w < 8) : ∃ h1, s_X8_wordTells 0 (nI w) h = some (nI (tc_N (tc_F sz wd w) dc 0), h1) ∧ cc_A (kn, dc, sz, wd, so, sl, sc, 31 * tr + 1, ft) h1 ∧ ∀ i, i ≠ 0 → h1 i = h i := by
  have hdc : dc ≤ 6 := hV.2.1
  obtain ⟨h1, f1, f2, f3⟩ := cl_leave ha 1
  refine ⟨h1, ?_, f2, f3⟩
  have e := tc_c (tr := 31 * tr + 1) (ft := ft) hV f2.1 hw dc 0 0 1000 (by omega) (by omega) (by omega)
  rw [Nat.zero_add] at e
  unfold s_X8_wordTells
  simp only [ca_b ha.1, f1, pp_bind]
  exact e
theorem cl_dt (hV : pp_V (kn, dc, sz, wd, so, sl, sc, tr, ft)) (ha : cc_A (kn, dc, sz, wd, so, sl, sc, tr, ft) h) (hw : w < 8) : ∃ h1, s_X8_denialTells 0 (nI w) h = some (nI (tc_N (tc_F sz wd w) dc 0) + 100, h1) ∧ cc_A (kn, dc, sz, wd, so, sl, sc, 31 * (31 * tr + 2) + 1, ft) h1 ∧ ∀ i, i ≠ 0 → h1 i = h i := by
  obtain ⟨h1, f1, f2, f3⟩ := cl_leave ha 2
  obtain ⟨h2, g1, g2, g3⟩ := cl_wt (tr := 31 * tr + 2) (ft := ft) hV f2 hw
  refine ⟨h2, ?_, g2, fun i hi => (g3 i hi).trans (f3 i hi)⟩
  unfold s_X8_denialTells
  simp only [ca_b ha.1, f1, ca_b f2.1, g1, pp_bind]
theorem ml_inC (hV : pp_V (kn, dc, sz, wd, so, sl, sc, tr, ft)) (hm : mm_I (kn, dc, sz, wd, so, sl, sc, tr, ft) h) (hw : w < 8) : s_X9_inCries 49 (nI w) h = some (nI (tc_N (tc_F sz wd w) dc 0), h) := by
  have hdc : dc ≤ 6 := hV.2.1
  have e := tc_m hV hm hw dc 0 0 1000 (by omega) (by omega) (by omega)
  rw [Nat.zero_add] at e
  exact e
end TE
theorem E_tell {h : tt_H} (hI : pp_Inv h) (x1 : Int32) : pp_G (s_X8_tell 0 x1) (s_X9_tell 49 x1) h := by
  obtain ⟨⟨kn, dc, sz, wd, so, sl, sc, tr, ft⟩, hV, ha, hm⟩ := hI
  rcases pp_rng 8 (by decide) x1 with ⟨w, hw, rfl⟩ | h1
  · have hk := kn_lt hV hw
    have hN : ∀ N : Nat, (nI N + 100 + nI N : Int32) = 2 * nI N + 100 := fun N => by
      rw [pp_lit 100, pp_lit 2, nI_add, nI_add, pk_mul, nI_add]
      congr 1; omega
    rcases (show kn w = 0 ∨ kn w = 1 ∨ kn w = 2 by omega) with h2 | h2 | h2
    · have e1 : ¬ nI (kn w) = 1 := by rw [h2]; decide
      have e2 : ¬ nI (kn w) = 2 := by rw [h2]; decide
      refine pp_G.of (P' := (kn, dc, sz, wd, so, sl, sc, 31 * tr + 1, ft)) (nI (tc_N (tc_F sz wd w) dc 0)) ha hm hV ?_ (fun h hm => ?_)
      · obtain ⟨h1, f1, f2, f3⟩ := cl_wt hV ha hw
        refine ⟨h1, ?_, f2, fun i hi => f3 i (by omega)⟩
        unfold s_X8_tell
        simp only [iw_in hw, ca_0 ha.1, ca_kind ha.1 hw, ca_b ha.1, e1, e2, f1, pp_bind, pn_10, ↓reduceIte]
      · obtain ⟨h1, f1, f2, f3⟩ := ml_begins hm 1
        refine ⟨h1, ?_, f2, fun i hi => f3 i (by omega)⟩
        unfold s_X9_tell
        simp only [jw_in hw, mo_5 (ma_o hm.1), ma_kind hm.1 hw, (ma_o hm.1).b, ml_inC hV hm.1 hw, e1, e2, f1, pp_bind, pn_10, ↓reduceIte]
    · have e1 : nI (kn w) = 1 := by rw [h2]; rfl
      have e2 : ¬ nI (kn w) = 2 := by rw [h2]; decide
      refine pp_G.of (P' := (kn, dc, sz, wd, so, sl, sc, 31 * (31 * tr + 2) + 1, ft)) (nI (tc_N (tc_F sz wd w) dc 0) + 100) ha hm hV ?_ (fun h hm => ?_)
      · obtain ⟨h1, f1, f2, f3⟩ := cl_dt hV ha hw
        refine ⟨h1, ?_, f2, fun i hi => f3 i (by omega)⟩
        unfold s_X8_tell
        simp only [iw_in hw, ca_0 ha.1, ca_kind ha.1 hw, ca_b ha.1, e2, f1, pp_bind, pn_10, ↓reduceIte]
        rw [if_pos e1]
      · obtain ⟨h1, f1, f2, f3⟩ := ml_begins hm 2
        obtain ⟨h2, g1, g2, g3⟩ := ml_begins f2 1
        refine ⟨h2, ?_, g2, fun i hi => (g3 i (by omega)).trans (f3 i (by omega))⟩
        unfold s_X9_tell
        simp only [jw_in hw, mo_5 (ma_o hm.1), ma_kind hm.1 hw, (ma_o hm.1).b, ml_inC hV hm.1 hw, f1, (ma_o f2.1).b, g1, pp_bind, pn_10, ↓reduceIte]
        rw [if_pos e1]
    · have e1 : ¬ nI (kn w) = 1 := by rw [h2]; decide
      have e2 : nI (kn w) = 2 := by rw [h2]; rfl
      refine pp_G.of (P' := (kn, dc, sz, wd, so, sl, sc, 31 * (31 * (31 * (31 * tr + 3) + 2) + 1) + 1, ft)) (2 * nI (tc_N (tc_F sz wd w) dc 0) + 100) ha hm hV ?_ (fun h hm => ?_)
      · obtain ⟨h1, f1, f2, f3⟩ := cl_leave ha 3
        obtain ⟨h2, g1, g2, g3⟩ := cl_dt (tr := 31 * tr + 3) (ft := ft) hV f2 hw
        obtain ⟨h3, i1, i2, i3⟩ := cl_wt (tr := 31 * (31 * (31 * tr + 3) + 2) + 1) (ft := ft) hV g2 hw
        refine ⟨h3, ?_, i2, fun i hi => (i3 i (by omega)).trans ((g3 i (by omega)).trans (f3 i (by omega)))⟩
        unfold s_X8_tell s_X8_doubtTells
        simp only [iw_in hw, ca_0 ha.1, ca_kind ha.1 hw, ca_b ha.1, f1, ca_b f2.1, g1, ca_b g2.1, i1, hN, pp_bind, pn_10, ↓reduceIte]
        rw [if_pos e2]
      · obtain ⟨h1, f1, f2, f3⟩ := ml_begins hm 3
        obtain ⟨h2, g1, g2, g3⟩ := ml_begins f2 2
        obtain ⟨h3, i1, i2, i3⟩ := ml_begins g2 1
        obtain ⟨h4, j1, j2, j3⟩ := ml_begins i2 1
        refine ⟨h4, ?_, j2, fun i hi => (j3 i (by omega)).trans ((i3 i (by omega)).trans ((g3 i (by omega)).trans (f3 i (by omega))))⟩
        unfold s_X9_tell
        simp only [jw_in hw, mo_5 (ma_o hm.1), ma_kind hm.1 hw, (ma_o hm.1).b, ml_inC hV hm.1 hw, f1, (ma_o f2.1).b, g1, (ma_o g2.1).b, i1, (ma_o i2.1).b, j1, e1, pp_bind, pn_10, ↓reduceIte]
        rw [if_pos e2]
  · refine pp_G.rd (-1) hV ha hm ?_ (fun h hm => ?_)
    · unfold s_X8_tell
      simp only [iw_out h1, pp_bind, pn_00, ↓reduceIte]
    · unfold s_X9_tell
      simp only [jw_out h1, pp_bind, pn_00, ↓reduceIte]
/-! ADD: a WORD is put into a row -/
def ins_f {α : Type} (p : Nat) (x : α) (g : Nat → α) (k : Nat) : α := if k < p then g k else if k = p then x else g (k - 1)
theorem ins_ob {h : tt_H} {b n p : Nat} {x : Int32} (hb : h b = some (tt_ob 2 [.ref (b + 1), .int (nI n)])) (hn : n < 12) (hp : p ≤ n) :
    ∀ (s k fu : Nat) (g gc : Nat → Int32), p + s = k → s < fu → k ≤ n → (∀ j, j ≤ k → gc j = g j) → (∀ j, k < j → j ≤ n → gc j = g (j - 1)) →
      ∃ g', s_X2_insert_L25 fu b (nI p) x (nI k) (va_up h (b + 1) (some (tt_ia 12 gc))) = some ((), va_up (va_up h (b + 1) (some (tt_ia 12 g'))) b (some (tt_ob 2 [.ref (b + 1), .int (nI (n + 1))]))) ∧ ∀ j, j ≤ n → g' j = ins_f p x g j := by
  intro s
  induction s with
  | zero =>
    intro k fu g gc hk hfu hkn h1 h2
    obtain ⟨fu, rfl⟩ : ∃ z, fu = z + 1 := ⟨fu - 1, by omega⟩
    obtain rfl : p = k := by omega
    have hb' : ∀ g : Nat → Int32, va_up h (b + 1) (some (tt_ia 12 g)) b = some (tt_ob 2 [.ref (b + 1), .int (nI n)]) := fun g => by rw [va_up_ne _ _ (by omega)]; exact hb
    refine ⟨upd gc p x, ?_, fun j hj => ?_⟩
    · rw [s_X2_insert_L25, if_pos (nI_le (Nat.le_refl p) (by omega)), pp_fr (hb' gc) (v := b + 1) rfl, pp_bind, pp_is (va_up_self _ _ _) (by omega) (by decide), pp_bind, bx_uu, pp_fi (hb' _) (v := nI n) rfl, pp_bind, pp_put (hb' _) _ (Nat.le_of_ble_eq_true rfl), pp_bind, nI_1]
      rfl
    · unfold ins_f
      by_cases hj1 : j < p
      · rw [if_pos hj1, pk_un (by omega)]; exact h1 j (by omega)
      · rw [if_neg hj1]
        by_cases hj2 : j = p
        · rw [if_pos hj2, hj2, pk_us]
        · rw [if_neg hj2, pk_un hj2]; exact h2 j (by omega) hj
  | succ s ih =>
    intro k fu g gc hk hfu hkn h1 h2
    obtain ⟨fu, rfl⟩ : ∃ z, fu = z + 1 := ⟨fu - 1, by omega⟩
    have hb' : ∀ g : Nat → Int32, va_up h (b + 1) (some (tt_ia 12 g)) b = some (tt_ob 2 [.ref (b + 1), .int (nI n)]) := fun g => by rw [va_up_ne _ _ (by omega)]; exact hb
    obtain ⟨g', e1, e2⟩ := ih (k - 1) fu g (upd gc k (gc (k - 1))) (by omega) (by omega) (by omega) (fun j hj => by rw [pk_un (by omega)]; exact h1 j (by omega)) (fun j hj hj2 => by
      by_cases hjk : j = k
      · rw [hjk, pk_us]; exact h1 (k - 1) (by omega)
      · rw [pk_un hjk]; exact h2 j (by omega) hj2)
    refine ⟨g', ?_, e2⟩
    rw [s_X2_insert_L25, if_neg (nI_ge (by omega) (by omega)), pp_fr (hb' gc) (v := b + 1) rfl, pp_bind, pp_bind, pp_m1 (by omega), pp_il (va_up_self _ _ _) (by omega) (by decide), pp_bind, pp_is (va_up_self _ _ _) (by omega) (by decide), pp_bind, bx_uu, pp_p1 (by omega)]
    exact e1
theorem ins_c {h : tt_H} {b n p : Nat} {x : Int32} {g : Nat → Int32} (hb : h b = some (tt_ob 2 [.ref (b + 1), .int (nI n)])) (hg : h (b + 1) = some (tt_ia 12 g)) (hn : n < 12) (hp : p ≤ n) :
    ∃ g', s_X2_insert b (nI p) x h = some ((), va_up (va_up h (b + 1) (some (tt_ia 12 g'))) b (some (tt_ob 2 [.ref (b + 1), .int (nI (n + 1))]))) ∧ ∀ j, j ≤ n → g' j = ins_f p x g j := by
  obtain ⟨g', e1, e2⟩ := ins_ob (x := x) hb hn hp (n - p) n 1000 g g (by omega) (by omega) (Nat.le_refl _) (fun _ _ => rfl) (fun j h1 h2 => by omega)
  rw [pp_same hg] at e1
  refine ⟨g', ?_, e2⟩
  unfold s_X2_insert s_X2_isFull
  simp only [pp_obj hb, pp_fi hb (k := 1) (v := nI n) rfl, show nI n < 12 from nI_lt (a := n) (b := 12) hn (by decide), nI_pos (show p < 2 ^ 31 by omega), nI_le hp (show n < 2 ^ 31 by omega), pp_bind, pn_00, ↓reduceIte]
  exact e1
section DAY
variable {kn : Nat → Nat} {dc : Nat} {sz : Nat → Nat} {wd : Nat → Nat → Nat} {so sl : Nat → Nat} {sc : Nat → Nat → Int32} {tr ft : Int32} {h : tt_H}
/-- one of the class's rows of WORDS is another one -/
theorem cc_day (ha : cc_A (kn, dc, sz, wd, so, sl, sc, tr, ft) h) {d n' : Nat} {f' : Nat → Nat} {g' : Nat → Int32} (hd : d < 6) (hg : ∀ k, k < n' → g' k = nI (f' k)) :
    cc_A (kn, dc, fun j => if j = d then n' else sz j, fun j => if j = d then f' else wd j, so, sl, sc, tr, ft) (va_up (va_up h (29 + 2 * d + 1) (some (tt_ia 12 g'))) (29 + 2 * d) (some (tt_ob 2 [.ref (29 + 2 * d + 1), .int (nI n')]))) := by
  obtain ⟨⟨a0, a1, a2, a3, a4, a5, a6, a7⟩, hS⟩ := ha
  have e : ∀ i, i ≠ 29 + 2 * d → i ≠ 29 + 2 * d + 1 → va_up (va_up h (29 + 2 * d + 1) (some (tt_ia 12 g'))) (29 + 2 * d) (some (tt_ob 2 [.ref (29 + 2 * d + 1), .int (nI n')])) i = h i := fun i h1 h2 => by rw [va_up_ne _ _ h1, va_up_ne _ _ h2]
  have e2 : ∀ i, i < 29 → va_up (va_up h (29 + 2 * d + 1) (some (tt_ia 12 g'))) (29 + 2 * d) (some (tt_ob 2 [.ref (29 + 2 * d + 1), .int (nI n')])) i = h i := fun i h1 => e i (by omega) (by omega)
  refine ⟨⟨by rw [e2 0 (by decide)]; exact a0, by rw [e2 1 (by decide)]; exact a1, by rw [e2 2 (by decide)]; exact a2, by rw [e2 3 (by decide)]; exact a3, fun j hj => ?_, by rw [e2 4 (by decide), e2 5 (by decide)]; exact a5, fun k hk => ?_, ?_⟩, ?_⟩
  · by_cases hjd : j = d
    · subst hjd
      refine ⟨g', nI n', va_up_self _ _ _, by rw [va_up_ne _ _ (by omega), va_up_self], fun _ => ?_⟩
      simp only [if_true]
      exact ⟨trivial, hg⟩
    · obtain ⟨g, z, c1, c2, c3⟩ := a4 j hj
      refine ⟨g, z, by rw [e _ (by omega) (by omega)]; exact c1, by rw [e _ (by omega) (by omega)]; exact c2, ?_⟩
      simp only [if_neg hjd]
      exact c3
  · rw [e _ (by omega) (by omega), e _ (by omega) (by omega)]; exact a6 k hk
  · rw [e2 6 (by decide), e2 10 (by decide), e2 13 (by decide), e2 14 (by decide), e2 16 (by decide), e2 19 (by decide), e2 21 (by decide), e2 24 (by decide), e2 26 (by decide)]; exact a7
  · obtain ⟨s1, s2, s3, s4, s5⟩ := hS
    refine ⟨fun q hq => ?_, fun q hq => ?_, by rw [e2 11 (by decide)]; exact s3, by rw [e2 18 (by decide)]; exact s4, by rw [e2 23 (by decide)]; exact s5⟩
    · rw [e2 q.1 (by revert q; decide)]; exact s1 q hq
    · rw [e2 q.1 (by revert q; decide)]; exact s2 q hq
/-- the model's DAYS are others -/
theorem mm_days (hm : mm_A (kn, dc, sz, wd, so, sl, sc, tr, ft) h) {dc' : Nat} {sz' : Nat → Nat} {wd' : Nat → Nat → Nat} {ln wr : Nat → Int32} {h' : tt_H} (e49 : ∃ at_ rd pm po pt, h' 49 = some (pp_mob ft tr (nI dc') at_ rd pm po pt)) (e54 : h' 54 = some (tt_ia 6 ln)) (e55 : h' 55 = some (tt_ia 84 wr)) (e : ∀ i, i ≠ 49 → i ≠ 54 → i ≠ 55 → h' i = h i) (hd : ∀ d, d < dc' → ln d = nI (sz' d) ∧ ∀ k, k < sz' d → wr (14 * d + k) = nI (wd' d k)) :
    mm_A (kn, dc', sz', wd', so, sl, sc, tr, ft) h' := by
  obtain ⟨⟨a0, a1, a2, a3, a4, ln0, a5, wr0, a6, a7⟩, hS⟩ := hm
  exact ⟨⟨e49, by rw [e 50 (by decide) (by decide) (by decide)]; exact a1, by rw [e 51 (by decide) (by decide) (by decide)]; exact a2, by rw [e 52 (by decide) (by decide) (by decide)]; exact a3, by rw [e 53 (by decide) (by decide) (by decide)]; exact a4, ln, e54, wr, e55, hd⟩, hS.out (fun i hi => e i (by omega) (by omega) (by omega))⟩
theorem pp_mwr {wr : Nat → Int32} (hm : pp_mo h) (e : h 55 = some (tt_ia 84 wr)) {d k : Nat} (hk : 14 * d + k < 84) : s_X9_wordAt 49 (nI d) (nI k) h = some (wr (14 * d + k), h) := by
  unfold s_X9_wordAt
  rw [mo_8 hm, pp_bind, show ((14 : Int32) * nI d) + nI k = nI (14 * d + k) from by rw [pp_lit 14, pk_mul, nI_add], pp_il e hk (by decide), pp_bind]
theorem ins_m {ln : Nat → Int32} {d n p : Nat} {x : Int32} (hm : pp_mo h) (e54 : h 54 = some (tt_ia 6 ln)) (hl : ln d = nI n) (hd : d < 6) (hn : n < 12) (hp : p ≤ n) :
    ∀ (s k fu : Nat) (g gc : Nat → Int32), p + s = k → s < fu → k ≤ n → (∀ j, j ≤ k → gc (14 * d + j) = g j) → (∀ j, k < j → j ≤ n → gc (14 * d + j) = g (j - 1)) →
      ∃ g', s_X9_add_L63 fu 49 (nI p) x (nI d) (nI k) (va_up h 55 (some (tt_ia 84 gc))) = some (nI (n + 1), va_up (va_up h 55 (some (tt_ia 84 g'))) 54 (some (tt_ia 6 (upd ln d (nI (n + 1)))))) ∧ (∀ j, j ≤ n → g' (14 * d + j) = ins_f p x g j) ∧ ∀ i, (i < 14 * d ∨ 14 * d + n < i) → g' i = gc i := by
  have hix : ∀ k : Nat, ((14 : Int32) * nI d) + nI k = nI (14 * d + k) := fun k => by rw [pp_lit 14, pk_mul, nI_add]
  intro s
  induction s with
  | zero =>
    intro k fu g gc hk hfu hkn h1 h2
    obtain ⟨fu, rfl⟩ : ∃ z, fu = z + 1 := ⟨fu - 1, by omega⟩
    obtain rfl : p = k := by omega
    have hm' : ∀ g : Nat → Int32, pp_mo (va_up h 55 (some (tt_ia 84 g))) := fun g => hm.up _ (by decide)
    have e54' : ∀ g : Nat → Int32, va_up h 55 (some (tt_ia 84 g)) 54 = some (tt_ia 6 ln) := fun g => by rw [va_up_ne _ _ (by decide)]; exact e54
    refine ⟨upd gc (14 * d + p) x, ?_, fun j hj => ?_, fun i hi => pk_un (by omega)⟩
    · rw [s_X9_add_L63, if_pos (nI_le (Nat.le_refl p) (by omega)), mo_8 (hm' gc), pp_bind, hix, pp_is (va_up_self _ _ _) (by omega) (by decide), pp_bind, bx_uu, mo_7 (hm' _), pp_bind, pp_il (e54' _) hd (by decide), pp_bind, pp_is (e54' _) hd (by decide), pp_bind, mo_7 ((hm' _).up _ (by decide)), pp_bind, pp_il (va_up_self _ _ _) hd (by decide), pp_bind, pk_us, hl, nI_1]
    · unfold ins_f
      by_cases hj1 : j < p
      · rw [if_pos hj1, pk_un (by omega)]; exact h1 j (by omega)
      · rw [if_neg hj1]
        by_cases hj2 : j = p
        · rw [if_pos hj2, hj2, pk_us]
        · rw [if_neg hj2, pk_un (by omega)]; exact h2 j (by omega) hj
  | succ s ih =>
    intro k fu g gc hk hfu hkn h1 h2
    obtain ⟨fu, rfl⟩ : ∃ z, fu = z + 1 := ⟨fu - 1, by omega⟩
    have hm' : ∀ g : Nat → Int32, pp_mo (va_up h 55 (some (tt_ia 84 g))) := fun g => hm.up _ (by decide)
    obtain ⟨g', e1, e2, e3⟩ := ih (k - 1) fu g (upd gc (14 * d + k) (gc (14 * d + (k - 1)))) (by omega) (by omega) (by omega) (fun j hj => by rw [pk_un (by omega)]; exact h1 j (by omega)) (fun j hj hj2 => by
      by_cases hjk : j = k
      · rw [hjk, pk_us]; exact h1 (k - 1) (by omega)
      · rw [pk_un (by omega)]; exact h2 j (by omega) hj2)
    refine ⟨g', ?_, e2, fun i hi => by rw [e3 i hi]; exact pk_un (by omega)⟩
    rw [s_X9_add_L63, if_neg (nI_ge (by omega) (by omega)), mo_8 (hm' gc), pp_bind, (hm' gc).b, pp_m1 (by omega), pp_mwr (hm' gc) (va_up_self _ _ _) (by omega), pp_bind]
    simp only []
    rw [hix, pp_is (va_up_self _ _ _) (by omega) (by decide), pp_bind, bx_uu, pp_p1 (by omega)]
    exact e1
end DAY
theorem E_add {h : tt_H} (hI : pp_Inv h) (x1 x2 : Int32) : pp_G (s_X8_add 0 x1 x2) (s_X9_add 49 x1 x2) h := by
  obtain ⟨⟨kn, dc, sz, wd, so, sl, sc, tr, ft⟩, hV, ha, hm⟩ := hI
  have hdc : dc ≤ 6 := hV.2.1
  by_cases hz : dc = 0
  · have hneg : nI dc - 1 < 0 := by rw [hz]; decide
    have hneg2 : ¬ (0 : Int32) ≤ nI dc - 1 := by rw [hz]; decide
    rcases pp_rng 8 (by decide) x2 with ⟨w, hw, rfl⟩ | h2
    · by_cases h0 : x1 < 0
      · have h0' : ¬ (0 : Int32) ≤ x1 := fun z => absurd h0 (Int32.not_lt.mpr z)
        refine pp_G.rd (-1) hV ha hm ?_ (fun h hm => ?_)
        · unfold s_X8_add
          simp only [ca_b ha.1, ca_last0 ha.1 hz, iw_in hw, h0', pp_bind, pn_10, ↓reduceIte]
        · unfold s_X9_add
          simp only [ma_dc hm.1, jw_in hw, h0, pp_bind, pn_10, ↓reduceIte]
      · have h0' : (0 : Int32) ≤ x1 := Int32.not_lt.mp h0
        refine pp_G.rd (-3) hV ha hm ?_ (fun h hm => ?_)
        · unfold s_X8_add
          simp only [ca_b ha.1, ca_last0 ha.1 hz, iw_in hw, h0', gg_opt_none, pp_bind, pn_10, ↓reduceIte]
        · unfold s_X9_add
          simp only [ma_dc hm.1, jw_in hw, h0, hneg, s_X9_add_J34, hneg2, pp_bind, pn_10, ↓reduceIte]
    · refine pp_G.rd (-1) hV ha hm ?_ (fun h hm => ?_)
      · unfold s_X8_add
        simp only [ca_b ha.1, ca_last0 ha.1 hz, iw_out h2, pp_bind, pn_00, ↓reduceIte]
      · unfold s_X9_add
        simp only [ma_dc hm.1, jw_out h2, pp_bind, pn_00, ↓reduceIte]
  · have hd : dc - 1 < dc := by omega
    have hl := ca_last hV ha.1 (show 0 < dc by omega)
    have c1 := ca_cry hV ha.1 hd
    have l1 := c1.le
    rcases pp_rng 8 (by decide) x2 with ⟨w, hw, rfl⟩ | h2
    · rcases pp_rng (sz (dc - 1) + 1) (by omega) x1 with ⟨p, hp, rfl⟩ | h3
      · have hp2 : nI p ≤ nI (sz (dc - 1)) := nI_le (by omega) (by omega)
        have hp3 : ¬ nI p < 0 := nI_pos (by omega)
        have hp4 : (0 : Int32) ≤ nI p := nI_pos' (by omega)
        have hd3 : ¬ nI (dc - 1) < 0 := nI_pos (by omega)
        have hd4 : (0 : Int32) ≤ nI (dc - 1) := nI_pos' (by omega)
        by_cases hf : sz (dc - 1) < 12
        · have hf2 : nI (sz (dc - 1)) < 12 := nI_lt (b := 12) hf (by decide)
          have hf3 : ¬ nI (sz (dc - 1)) = 12 := fun z => absurd ((nI_eq (b := 12) (by omega) (by decide)).mp z) (by omega)
          refine pp_G.of (P' := (kn, dc, (fun j => if j = dc - 1 then sz (dc - 1) + 1 else sz j), (fun j => if j = dc - 1 then ins_f p w (wd (dc - 1)) else wd j), so, sl, sc, tr, ft)) (nI (sz (dc - 1) + 1)) ha hm ?_ ?_ (fun h hm => ?_)
          · obtain ⟨v0, v1, v2, v3⟩ := hV
            refine ⟨v0, v1, fun j hj => ?_, v3⟩
            obtain ⟨w1, w2, w3⟩ := v2 j hj
            by_cases hjd : j = dc - 1
            · subst hjd
              simp only [if_true]
              refine ⟨by omega, by omega, fun k hk => ?_⟩
              unfold ins_f
              split
              · exact w3 k (by omega)
              · split
                · exact hw
                · exact w3 (k - 1) (by omega)
            · simp only [if_neg hjd]
              exact ⟨w1, w2, w3⟩
          · obtain ⟨g, e1, e2, e3, e4⟩ := id c1
            obtain ⟨g', f1, f2⟩ := ins_c (x := nI w) e1 e2 hf (show p ≤ sz (dc - 1) by omega)
            refine ⟨_, ?_, cc_day ha (d := dc - 1) (n' := sz (dc - 1) + 1) (f' := ins_f p w (wd (dc - 1))) (g' := g') (by omega) (fun k hk => ?_), fun i hi => by rw [va_up_ne _ _ (by omega), va_up_ne _ _ (by omega)]⟩
            · have e5 : ∀ e : Option tt_E, va_up (va_up h (29 + 2 * (dc - 1) + 1) e) (29 + 2 * (dc - 1)) (some (tt_ob 2 [.ref (29 + 2 * (dc - 1) + 1), .int (nI (sz (dc - 1) + 1))])) (29 + 2 * (dc - 1)) = some (tt_ob 2 [.ref (29 + 2 * (dc - 1) + 1), .int (nI (sz (dc - 1) + 1))]) := fun e => va_up_self _ _ _
              unfold s_X8_add s_X2_isFull
              simp only [ca_b ha.1, hl, iw_in hw, hp4, gg_opt_some, pp_cobj c1, pp_size c1, hp2, pp_fi e1 (k := 1) (v := nI (sz (dc - 1))) rfl, hf2, f1, pp_bind, pn_10, pn_00, ↓reduceIte]
              unfold s_X2_size
              simp only [pp_obj (e5 _), pp_fi (e5 _) (k := 1) (v := nI (sz (dc - 1) + 1)) rfl, pp_bind]
            · rw [f2 k (by omega)]
              unfold ins_f
              split
              · exact (e4 k (by omega)).1
              · split
                · rfl
                · exact (e4 (k - 1) (by omega)).1
          · have d1' := ma_day hV hm.1 hd
            have hmo := d1'.1
            obtain ⟨⟨at_, rd, pm, po, pt, e49⟩, -, -, -, -, ln, e54, wr, e55, e6⟩ := id hm.1
            have hl1 := (e6 (dc - 1) hd).1
            obtain ⟨g', f1, f2, f3⟩ := ins_m (x := nI w) hmo e54 hl1 (show dc - 1 < 6 by omega) hf (show p ≤ sz (dc - 1) by omega) (sz (dc - 1) - p) (sz (dc - 1)) 1000 (fun j => wr (14 * (dc - 1) + j)) wr (by omega) (by omega) (Nat.le_refl _) (fun _ _ => rfl) (fun j h1 h2 => by omega)
            rw [pp_same e55] at f1
            refine ⟨_, ?_, mm_days hm (h' := va_up (va_up h 55 (some (tt_ia 84 g'))) 54 (some (tt_ia 6 (upd ln (dc - 1) (nI (sz (dc - 1) + 1)))))) (ln := upd ln (dc - 1) (nI (sz (dc - 1) + 1))) (wr := g') ⟨at_, rd, pm, po, pt, by rw [va_up_ne _ _ (by decide), va_up_ne _ _ (by decide)]; exact e49⟩ (va_up_self _ _ _) (by rw [va_up_ne _ _ (by decide), va_up_self]) (fun i h1 h2 h3 => by rw [va_up_ne _ _ h2, va_up_ne _ _ h3]) (fun d hd2 => ?_), fun i hi => by rw [va_up_ne _ _ (by omega), va_up_ne _ _ (by omega)]⟩
            · unfold s_X9_add
              simp only [ma_dc hm.1, pp_m1 (show 0 < dc by omega), jw_in hw, hp3, hd3, s_X9_add_J34, hd4, mo_7 hmo, pp_mlen d1', hp2, hf3, pp_bind, pn_10, ↓reduceIte]
              exact f1
            · by_cases hdd : d = dc - 1
              · subst hdd
                simp only [if_true]
                refine ⟨pk_us, fun k hk => ?_⟩
                rw [f2 k (by omega)]
                unfold ins_f
                split
                · exact (e6 (dc - 1) hd2).2 k (by omega)
                · split
                  · rfl
                  · exact (e6 (dc - 1) hd2).2 (k - 1) (by omega)
              · simp only [if_neg hdd]
                have h12 := (hV.2.2.1 d hd2).2.1
                refine ⟨by rw [pk_un hdd]; exact (e6 d hd2).1, fun k hk => by rw [f3 _ (by omega)]; exact (e6 d hd2).2 k hk⟩
        · have hf2 : ¬ nI (sz (dc - 1)) < 12 := nI_nlt (b := 12) (by omega) (by omega)
          have hf3 : nI (sz (dc - 1)) = 12 := (nI_eq (b := 12) (by omega) (by decide)).mpr (by omega)
          refine pp_G.rd (-4) hV ha hm ?_ (fun h hm => ?_)
          · obtain ⟨g, e1, -⟩ := id c1
            unfold s_X8_add s_X2_isFull
            simp only [ca_b ha.1, hl, iw_in hw, hp4, gg_opt_some, pp_cobj c1, pp_size c1, hp2, pp_fi e1 (k := 1) (v := nI (sz (dc - 1))) rfl, hf2, pp_bind, pn_10, ↓reduceIte]
          · have d1' := ma_day hV hm.1 hd
            unfold s_X9_add
            simp only [ma_dc hm.1, pp_m1 (show 0 < dc by omega), jw_in hw, hp3, hd3, s_X9_add_J34, hd4, mo_7 d1'.1, pp_mlen d1', hp2, pp_bind, pn_10, ↓reduceIte]
            rw [if_pos hf3]
      · refine pp_G.rd (-1) hV ha hm ?_ (fun h hm => ?_)
        · unfold s_X8_add
          by_cases h0 : x1 < 0
          · have h0' : ¬ (0 : Int32) ≤ x1 := fun z => absurd h0 (Int32.not_lt.mpr z)
            simp only [ca_b ha.1, hl, iw_in hw, h0', pp_bind, pn_10, ↓reduceIte]
          · have h0' : (0 : Int32) ≤ x1 := Int32.not_lt.mp h0
            obtain ⟨k, hk, rfl⟩ := nI_of h0
            have hkn : sz (dc - 1) + 1 ≤ k := (nI_leI (by omega) hk).mp (h3.resolve_left h0)
            have hk2 : ¬ nI k ≤ nI (sz (dc - 1)) := nI_ge (by omega) hk
            simp only [ca_b ha.1, hl, iw_in hw, h0', gg_opt_some, pp_cobj c1, pp_size c1, hk2, pp_bind, pn_10, ↓reduceIte]
        · have d1' := ma_day hV hm.1 hd
          have hd3 : ¬ nI (dc - 1) < 0 := nI_pos (by omega)
          unfold s_X9_add
          by_cases h0 : x1 < 0
          · simp only [ma_dc hm.1, jw_in hw, h0, pp_bind, pn_10, ↓reduceIte]
          · obtain ⟨k, hk, rfl⟩ := nI_of h0
            have hkn : sz (dc - 1) + 1 ≤ k := (nI_leI (by omega) hk).mp (h3.resolve_left h0)
            have hk2 : ¬ nI k ≤ nI (sz (dc - 1)) := nI_ge (by omega) hk
            simp only [ma_dc hm.1, pp_m1 (show 0 < dc by omega), jw_in hw, h0, hd3, mo_7 d1'.1, pp_mlen d1', hk2, pp_bind, pn_10, ↓reduceIte]
    · refine pp_G.rd (-1) hV ha hm ?_ (fun h hm => ?_)
      · unfold s_X8_add
        simp only [ca_b ha.1, hl, iw_out h2, pp_bind, pn_00, ↓reduceIte]
      · unfold s_X9_add
        simp only [ma_dc hm.1, jw_out h2, pp_bind, pn_00, ↓reduceIte]
