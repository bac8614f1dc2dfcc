/-! THE CLASS'S CALLS, as the law makes them -/
def pc_G {α : Type} (f : tt_H → Option (α × tt_H)) (h : tt_H) (P' : pp_P) (R : α) : Prop := ∃ h1, f h = some (R, h1) ∧ cc_A P' h1 ∧ ∀ i, 49 ≤ i → h1 i = h i
section KC
variable {kn : Nat → Nat} {dc : Nat} {sz : Nat → Nat} {wd : Nat → Nat → Nat} {so sl : Nat → Nat} {sc : Nat → Nat → Int32} {tr ft : Int32} {h : tt_H}
theorem K_many (ha : cc_A (kn, dc, sz, wd, so, sl, sc, tr, ft) h) : s_X8_many 0 h = some (nI dc, h) := by
  unfold s_X8_many; rw [ca_dc ha.1]; rfl
theorem K_kind (hV : pp_V (kn, dc, sz, wd, so, sl, sc, tr, ft)) (ha : cc_A (kn, dc, sz, wd, so, sl, sc, tr, ft) h) {w k : Nat} (hw : w < 8) (hk : k < 3) : pp_V ((fun j => if j = w then k else kn j), dc, sz, wd, so, sl, sc, tr, ft) ∧ pc_G (s_X8_kind 0 (nI w) (nI k)) h ((fun j => if j = w then k else kn j), dc, sz, wd, so, sl, sc, tr, ft) (nI (kn w)) := by
  obtain ⟨v0, v1⟩ := hV
  refine ⟨⟨fun j hj => ?_, v1⟩, ?_⟩
  · show (if j = w then k else kn j) < 3
    by_cases hjw : j = w
    · rw [if_pos hjw]; exact hk
    · rw [if_neg hjw]; exact v0 j hj
  · obtain ⟨g, e1, -⟩ := ha.1.2.1
    refine ⟨_, ?_, ca_up1 ha e1 hw, fun i hi => va_up_ne _ _ (by omega)⟩
    unfold s_X8_kind
    simp only [iw_in hw, ik_in hk, ca_0 ha.1, ca_kind ha.1 hw, pp_is e1 hw (by decide), pp_bind, gg_opt_some, gg_opt_none, pn_10, pn_00, ↓reduceIte]
theorem K_kind_1 {x1 : Int32} (x2 : Int32) (h1 : x1 < 0 ∨ nI 8 ≤ x1) : s_X8_kind 0 x1 x2 h = some (-1, h) := by
  unfold s_X8_kind
  simp only [iw_out h1, pp_bind, gg_opt_some, gg_opt_none, pn_10, pn_00, ↓reduceIte]
theorem K_kind_2 {w : Nat} (hw : w < 8) {x2 : Int32} (h2 : x2 < 0 ∨ nI 3 ≤ x2) : s_X8_kind 0 (nI w) x2 h = some (-2, h) := by
  unfold s_X8_kind
  simp only [iw_in hw, ik_out h2, pp_bind, gg_opt_some, gg_opt_none, pn_10, pn_00, ↓reduceIte]
theorem K_ofDay_n (hV : pp_V (kn, dc, sz, wd, so, sl, sc, tr, ft)) (ha : cc_A (kn, dc, sz, wd, so, sl, sc, tr, ft) h) {d : Nat} (hd : d < dc) : s_X8_ofDay 0 (nI d) (-1) h = some (nI (sz d), h) := by
  have hc := ca_cry hV ha.1 hd
  unfold s_X8_ofDay
  simp only [ca_b ha.1, ca_in hV ha.1 hd, pp_cobj hc, pp_size hc, pp_bind, gg_opt_some, gg_opt_none, pn_10, pn_00, ↓reduceIte]
theorem K_ofDay_k (hV : pp_V (kn, dc, sz, wd, so, sl, sc, tr, ft)) (ha : cc_A (kn, dc, sz, wd, so, sl, sc, tr, ft) h) {d k : Nat} (hd : d < dc) (hk : k < sz d) : s_X8_ofDay 0 (nI d) (nI k) h = some (nI (wd d k), h) := by
  have hc := ca_cry hV ha.1 hd
  have hle := hc.le
  have hx : ¬ nI k = -1 := fun z => absurd z.symm (pp_neg_ne (by decide) (by omega))
  unfold s_X8_ofDay
  simp only [ca_b ha.1, ca_in hV ha.1 hd, hx, pp_cobj hc, pp_has hc (k := k) (by omega), hk, pp_at hc (k := k) (by omega), pp_w_in hk, pp_bind, gg_opt_some, gg_opt_none, pn_10, pn_00, ↓reduceIte]
theorem K_ofDay_o (hV : pp_V (kn, dc, sz, wd, so, sl, sc, tr, ft)) (ha : cc_A (kn, dc, sz, wd, so, sl, sc, tr, ft) h) {d : Nat} (hd : d < dc) {x2 : Int32} (hx : ¬ x2 = -1) (h2 : x2 < 0 ∨ nI (sz d) ≤ x2) : s_X8_ofDay 0 (nI d) x2 h = some (-1, h) := by
  have hc := ca_cry hV ha.1 hd
  unfold s_X8_ofDay
  simp only [ca_b ha.1, ca_in hV ha.1 hd, hx, pp_cobj hc, pp_hasO hc h2, pp_bind, gg_opt_some, gg_opt_none, pn_10, pn_00, ↓reduceIte]
theorem K_ofDay_d (ha : cc_A (kn, dc, sz, wd, so, sl, sc, tr, ft) h) {x1 : Int32} (x2 : Int32) (h1 : x1 < 0 ∨ nI dc ≤ x1) : s_X8_ofDay 0 x1 x2 h = some (-1, h) := by
  unfold s_X8_ofDay
  simp only [ca_b ha.1, ca_out ha.1 h1, pp_bind, gg_opt_some, gg_opt_none, pn_10, pn_00, ↓reduceIte]
theorem K_within (hV : pp_V (kn, dc, sz, wd, so, sl, sc, tr, ft)) (ha : cc_A (kn, dc, sz, wd, so, sl, sc, tr, ft) h) {d1 d2 : Nat} (hd1 : d1 < dc) (hd2 : d2 < dc) : pc_G (s_X8_within 0 (nI d1) (nI d2)) h (kn, dc, sz, wd, so, sl, sc, tr, ft) (pw_b (sz d1) (sz d2) (wd d1) (wd d2)) := by
  obtain ⟨h1, g, l, e1, e2, e3, -⟩ := cl_make ha (ca_cry hV ha.1 hd1) (ca_cry hV ha.1 hd2) (by omega) (by omega)
  refine ⟨h1, ?_, e2, fun i hi => e3 i (by omega) (by omega)⟩
  unfold s_X8_within
  simp only [ca_b ha.1, ca_in hV ha.1 hd1, ca_in hV ha.1 hd2, ca_4 ha.1, ca_fit ha.1, e1, pp_bind, gg_opt_some, gg_opt_none, pn_10, pn_00, ↓reduceIte]
  unfold pw_b
  by_cases hw : gK (sz d1) (wd d1) (wd d2) (sz d2) = sz d1
  · simp only [if_pos hw]; rw [if_neg (by decide)]
  · simp only [if_neg hw]; rw [if_pos trivial]
theorem K_within_2 (hV : pp_V (kn, dc, sz, wd, so, sl, sc, tr, ft)) (ha : cc_A (kn, dc, sz, wd, so, sl, sc, tr, ft) h) {d1 : Nat} (hd1 : d1 < dc) {x2 : Int32} (h2 : x2 < 0 ∨ nI dc ≤ x2) : s_X8_within 0 (nI d1) x2 h = some (-1, h) := by
  unfold s_X8_within
  simp only [ca_b ha.1, ca_in hV ha.1 hd1, ca_out ha.1 h2, pp_bind, gg_opt_some, gg_opt_none, pn_10, pn_00, ↓reduceIte]
theorem K_within_1 (hV : pp_V (kn, dc, sz, wd, so, sl, sc, tr, ft)) (ha : cc_A (kn, dc, sz, wd, so, sl, sc, tr, ft) h) {x1 : Int32} (h1 : x1 < 0 ∨ nI dc ≤ x1) {d2 : Nat} (hd2 : d2 < dc) : s_X8_within 0 x1 (nI d2) h = some (-1, h) := by
  unfold s_X8_within
  simp only [ca_b ha.1, ca_out ha.1 h1, ca_in hV ha.1 hd2, pp_bind, gg_opt_some, gg_opt_none, pn_10, pn_00, ↓reduceIte]
theorem K_leftOut (hV : pp_V (kn, dc, sz, wd, so, sl, sc, tr, ft)) (ha : cc_A (kn, dc, sz, wd, so, sl, sc, tr, ft) h) : pc_G (s_X8_leftOut 0) h (kn, dc, sz, wd, so, sl, sc, tr, ft) (lo_R (lo_W sz wd) (dc - 1) 1) := by
  have hdc : dc ≤ 6 := hV.2.1
  exact lo_c hV (dc - 1) 1 1000 h ha rfl (by decide) (by decide) (by omega)
theorem K_ways (hV : pp_V (kn, dc, sz, wd, so, sl, sc, tr, ft)) (ha : cc_A (kn, dc, sz, wd, so, sl, sc, tr, ft) h) {d1 d2 : Nat} (hd1 : d1 < dc) (hd2 : d2 < dc) : pc_G (s_X8_ways 0 (nI d1) (nI d2)) h (kn, dc, sz, wd, so, sl, sc, tr, ft) (wy_N (wd d1) (wd d2) (sz d1) (sz d2)) := by
  have c1 := ca_cry hV ha.1 hd1
  have c2 := ca_cry hV ha.1 hd2
  obtain ⟨g9, e9⟩ := ha.2.2.1 (9, 13) (by decide)
  have hF : h 6 = some (tt_ob 3 [.ref 7, .ref 8, .ref 9]) := by obtain ⟨-, -, -, -, -, -, -, e, -⟩ := ha.1; exact e
  obtain ⟨g, e1⟩ := wy_c c1 c2 hF (by omega) e9
  refine ⟨_, ?_, ha.upJ (p := 9) (N := 13) (by decide) g, fun i hi => va_up_ne _ _ (by omega)⟩
  unfold s_X8_ways
  simp only [ca_b ha.1, ca_in hV ha.1 hd1, ca_in hV ha.1 hd2, gg_opt_some, ca_4 ha.1, ca_fit ha.1, e1, pp_bind]
theorem K_ways_1 (hV : pp_V (kn, dc, sz, wd, so, sl, sc, tr, ft)) (ha : cc_A (kn, dc, sz, wd, so, sl, sc, tr, ft) h) {x1 : Int32} (h1 : x1 < 0 ∨ nI dc ≤ x1) {d2 : Nat} (hd2 : d2 < dc) : s_X8_ways 0 x1 (nI d2) h = some (-9223372036854775808, h) := by
  unfold s_X8_ways
  simp only [ca_b ha.1, ca_out ha.1 h1, ca_in hV ha.1 hd2, gg_opt_none, pp_bind]
theorem K_place (hV : pp_V (kn, dc, sz, wd, so, sl, sc, tr, ft)) (ha : cc_A (kn, dc, sz, wd, so, sl, sc, tr, ft) h) {d1 d2 k q : Nat} (hd1 : d1 < dc) (hd2 : d2 < dc) (hk : k < sz d1) (hq : q < 2) : pc_G (s_X8_place 0 (nI d1) (nI d2) (nI k) (nI q)) h (kn, dc, sz, wd, so, sl, sc, tr, ft) (if gK (sz d1) (wd d1) (wd d2) (sz d2) = sz d1 then (if q = 0 then nI (mb_A (sz d1) (sz d2) (wd d1) (wd d2) k) else nI (mb_B (sz d1) (sz d2) (wd d1) (wd d2) k)) else -9) := by
  have c1 := ca_cry hV ha.1 hd1
  have l1 := c1.le
  have c2 := ca_cry hV ha.1 hd2
  by_cases hw : gK (sz d1) (wd d1) (wd d2) (sz d2) = sz d1
  · have hb : pw_b (sz d1) (sz d2) (wd d1) (wd d2) = 1 := if_pos hw
    rw [if_pos hw]
    obtain ⟨h1, g, l, e1, e2, e3, e7, e8, e9⟩ := cl_make ha c1 c2 (by omega) (by omega)
    refine ⟨h1, ?_, e2, fun i hi => e3 i (by omega) (by omega)⟩
    rw [hb] at e1
    unfold s_X8_place
    simp only [ca_b ha.1, ca_in hV ha.1 hd1, ca_in hV ha.1 hd2, gg_opt_some, pp_cobj c1, pp_has c1 (k := k) (by omega), hk, if_in hq, ca_4 ha.1, ca_fit ha.1, e1, pp_bind, pn_10, ↓reduceIte, ca_4 e2.1, ca_fit e2.1, cl_first e2.1 e7 (k := k) (by omega), cl_lastp e2.1 e8 (k := k) (by omega), (e9 hw k hk).1, (e9 hw k hk).2]
    rcases (show q = 0 ∨ q = 1 by omega) with rfl | rfl
    · rfl
    · rfl
  · have hb : pw_b (sz d1) (sz d2) (wd d1) (wd d2) = 0 := if_neg hw
    rw [if_neg hw]
    obtain ⟨h1, g, l, e1, e2, e3, -⟩ := cl_make ha c1 c2 (by omega) (by omega)
    refine ⟨h1, ?_, e2, fun i hi => e3 i (by omega) (by omega)⟩
    rw [hb] at e1
    unfold s_X8_place
    simp only [ca_b ha.1, ca_in hV ha.1 hd1, ca_in hV ha.1 hd2, gg_opt_some, pp_cobj c1, pp_has c1 (k := k) (by omega), hk, if_in hq, ca_4 ha.1, ca_fit ha.1, e1, pp_bind, pn_10, pn_00, ↓reduceIte]
theorem K_place_2 (hV : pp_V (kn, dc, sz, wd, so, sl, sc, tr, ft)) (ha : cc_A (kn, dc, sz, wd, so, sl, sc, tr, ft) h) {d1 : Nat} (hd1 : d1 < dc) {x2 : Int32} (h2 : x2 < 0 ∨ nI dc ≤ x2) (x3 x4 : Int32) : s_X8_place 0 (nI d1) x2 x3 x4 h = some (-1, h) := by
  unfold s_X8_place
  simp only [ca_b ha.1, ca_in hV ha.1 hd1, ca_out ha.1 h2, gg_opt_some, gg_opt_none, pp_bind]
theorem K_place_3 (hV : pp_V (kn, dc, sz, wd, so, sl, sc, tr, ft)) (ha : cc_A (kn, dc, sz, wd, so, sl, sc, tr, ft) h) {d1 d2 : Nat} (hd1 : d1 < dc) (hd2 : d2 < dc) {x3 : Int32} (h3 : x3 < 0 ∨ nI (sz d1) ≤ x3) (x4 : Int32) : s_X8_place 0 (nI d1) (nI d2) x3 x4 h = some (-1, h) := by
  have c1 := ca_cry hV ha.1 hd1
  unfold s_X8_place
  simp only [ca_b ha.1, ca_in hV ha.1 hd1, ca_in hV ha.1 hd2, gg_opt_some, pp_cobj c1, pp_hasO c1 h3, pp_bind, pn_10, pn_00, ↓reduceIte]
theorem K_place_4 (hV : pp_V (kn, dc, sz, wd, so, sl, sc, tr, ft)) (ha : cc_A (kn, dc, sz, wd, so, sl, sc, tr, ft) h) {d1 d2 k : Nat} (hd1 : d1 < dc) (hd2 : d2 < dc) (hk : k < sz d1) {x4 : Int32} (h4 : x4 < 0 ∨ nI 2 ≤ x4) : s_X8_place 0 (nI d1) (nI d2) (nI k) x4 h = some (-2, h) := by
  have c1 := ca_cry hV ha.1 hd1
  have l1 := c1.le
  unfold s_X8_place
  simp only [ca_b ha.1, ca_in hV ha.1 hd1, ca_in hV ha.1 hd2, gg_opt_some, pp_cobj c1, pp_has c1 (k := k) (by omega), hk, if_out h4, pp_bind, pn_10, pn_00, ↓reduceIte]
def mb_V (dc : Nat) (sz : Nat → Nat) (wd : Nat → Nat → Nat) (p : Nat) (d : Nat) : Int32 := ms_W (sz d) (sz (dc - 1)) (wd d) (wd (dc - 1)) p
theorem K_mayBe (hV : pp_V (kn, dc, sz, wd, so, sl, sc, tr, ft)) (ha : cc_A (kn, dc, sz, wd, so, sl, sc, tr, ft) h) (hd0 : 0 < dc) {p : Nat} (hp : p < sz (dc - 1)) : pc_G (s_X8_mayBe 0 (nI p)) h (kn, dc, sz, wd, so, sl, sc, tr, ft) (mb_R (mb_V dc sz wd p) dc 0 0) := by
  have hdc : dc ≤ 6 := hV.2.1
  have hl := ca_last hV ha.1 hd0
  have c1 := ca_cry hV ha.1 (show dc - 1 < dc by omega)
  have l1 := c1.le
  obtain ⟨h1, e1, e2, e3⟩ := mb_c hV hd0 hp dc 0 1000 h 0 ha (by omega) (by omega)
  refine ⟨h1, ?_, e2, e3⟩
  unfold s_X8_mayBe
  simp only [ca_b ha.1, hl, gg_opt_some, pp_cobj c1, pp_has c1 (show p < 2 ^ 31 by omega), hp, pp_bind, pn_10, ↓reduceIte]
  exact e1
theorem K_mayBe_1 (hV : pp_V (kn, dc, sz, wd, so, sl, sc, tr, ft)) (ha : cc_A (kn, dc, sz, wd, so, sl, sc, tr, ft) h) (hd0 : 0 < dc) {x1 : Int32} (h1 : x1 < 0 ∨ nI (sz (dc - 1)) ≤ x1) : s_X8_mayBe 0 x1 h = some (-1, h) := by
  have hl := ca_last hV ha.1 hd0
  have c1 := ca_cry hV ha.1 (show dc - 1 < dc by omega)
  unfold s_X8_mayBe
  simp only [ca_b ha.1, hl, gg_opt_some, pp_cobj c1, pp_hasO c1 h1, pp_bind, pn_00, ↓reduceIte]
/-! what is said, as one state that goes through the CRY -/
def sy_F (kn f : Nat → Nat) : Nat → Nat → sy_S → sy_S
  | 0, _, st => st
  | s + 1, k, st => sy_F kn f s (k + 1) (sy_st kn st (f k))
theorem sy_FG {kn f : Nat → Nat} : ∀ s k st, sy_G kn st → (∀ j, k ≤ j → j < k + s → f j < 8) → sy_G kn (sy_F kn f s k st)
  | 0, _, _, h, _ => h
  | s + 1, k, st, h, hf => sy_FG s (k + 1) _ (sy_Gs h (hf k (Nat.le_refl k) (by omega))) (fun j h1 h2 => hf j (by omega) (by omega))
theorem sy_Fa {kn f : Nat → Nat} {w : Nat} (hw : w < 8) : ∀ s k st, sy_G kn st → (∀ j, k ≤ j → j < k + s → f j < 8) → sy_ab w (sy_F kn f s k st) = sa_E kn w f s k (sy_ab w st)
  | 0, _, _, _, _ => rfl
  | s + 1, k, st, h, hf => by
    have h8 := hf k (Nat.le_refl k) (by omega)
    rw [sy_F, sa_E, sy_Fa hw s (k + 1) _ (sy_Gs h h8) (fun j h1 h2 => hf j (by omega) (by omega)), sy_abs h h8 hw]
theorem sd_F {kn f : Nat → Nat} {n : Nat} (hf : ∀ j, j < n → f j < 8) : sd_C kn n f 8 0 0 = (sy_F kn f n 0 (0, false, 9)).1 := by
  have hG := sy_FG (kn := kn) (f := f) n 0 (0, false, 9) (sy_G0 kn) (fun j _ hj => hf j (by omega))
  have ab : ∀ x, x < 8 → (sy_F kn f n 0 (0, false, 9)).1.testBit x = (sa_E kn x f n 0 (false, false, false)).1 := fun x hx => by
    have := sy_Fa (kn := kn) (f := f) hx n 0 (0, false, 9) (sy_G0 kn) (fun j _ hj => hf j (by omega))
    rw [sy_a0 hx] at this
    rw [← this]; rfl
  refine Nat.eq_of_testBit_eq (fun x => ?_)
  have key : (sd_C kn n f 8 0 0).testBit x = true ↔ (sy_F kn f n 0 (0, false, 9)).1.testBit x = true := by
    rw [sd_bit, Nat.zero_testBit]
    constructor
    · rintro (hx | ⟨-, x8, xk, hx⟩)
      · cases hx
      · rw [ab x (by omega)]; exact hx
    · intro hx
      obtain ⟨x8, xk⟩ := hG.1 x hx
      exact Or.inr ⟨Nat.zero_le x, by omega, xk, by rw [← ab x x8]; exact hx⟩
  cases hb : (sd_C kn n f 8 0 0).testBit x with
  | true => exact (key.mp hb).symm
  | false =>
    cases hb2 : (sy_F kn f n 0 (0, false, 9)).1.testBit x with
    | false => rfl
    | true => rw [key.mpr hb2] at hb; cases hb
theorem K_said (hV : pp_V (kn, dc, sz, wd, so, sl, sc, tr, ft)) (ha : cc_A (kn, dc, sz, wd, so, sl, sc, tr, ft) h) {d : Nat} (hd : d < dc) : s_X8_said 0 (nI d) h = some (nI (sy_F kn (wd d) (sz d) 0 (0, false, 9)).1, h) := by
  have c1 := ca_cry hV ha.1 hd
  have e := sd_c hV ha.1 c1 8 0 1000 0 (by omega) (by omega)
  rw [sd_F (fun j hj => c1.lt8 hj)] at e
  unfold s_X8_said
  simp only [ca_b ha.1, ca_in hV ha.1 hd, gg_opt_some, pp_bind]
  exact e
theorem K_said_1 (ha : cc_A (kn, dc, sz, wd, so, sl, sc, tr, ft) h) {x1 : Int32} (h1 : x1 < 0 ∨ nI dc ≤ x1) : s_X8_said 0 x1 h = some (-1, h) := by
  unfold s_X8_said
  simp only [ca_b ha.1, ca_out ha.1 h1, gg_opt_none, pp_bind]
/-! the SHEET 0: its text -/
theorem K_sheet (hV : pp_V (kn, dc, sz, wd, so, sl, sc, tr, ft)) (ha : cc_A (kn, dc, sz, wd, so, sl, sc, tr, ft) h) : ∃ so' sl' sc', so' 0 = 0 ∧ sl' 0 = 80 ∧ pp_V (kn, dc, sz, wd, so', sl', sc', tr, 0) ∧ pc_G (s_X8_sheet 0 0 0 80) h (kn, dc, sz, wd, so', sl', sc', tr, 0) 1 := by
  have hk : 0 < 4 := by decide
  have hs : 0 < 3 := by decide
  have h3 : (nI 80 : Int32) ≤ 80 := by decide
  have h4 : (0 : Int32) ≤ nI 80 := by decide
  have n0 : ¬ nI 80 < 0 := by decide
  refine ⟨(fun j => if j = 0 then 0 else so j), (fun j => if j = 0 then 80 else sl j), (fun j => if j = 0 then (fun _ => 0) else sc j), rfl, rfl, ?_, ?_⟩
  · obtain ⟨v0, v1, v2, v3⟩ := hV
    refine ⟨v0, v1, v2, fun j hj h9 => ?_⟩
    by_cases hjk : j = 0
    · simp only [if_pos hjk]; exact ⟨hs, by decide⟩
    · simp only [if_neg hjk] at h9 ⊢; exact v3 j hj h9
  · show pc_G (s_X8_sheet 0 (nI 0) (nI 0) (nI 80)) h _ 1
    obtain ⟨h1, f1, f2, f3⟩ := cl_put ha 0
    have hS := sh_of (ft := 0) hV f2.1 hk
    obtain ⟨g, q, e1, e2, e3⟩ := id hS
    obtain ⟨g', p1, p2⟩ := fl_II (y := 0) e2 (by decide)
    have q1 : gg_put (va_up h1 (41 + 2 * 0 + 1) (some (tt_ia 80 g'))) (41 + 2 * 0) 6 1 (.int (nI 80)) = some (va_up (va_up h1 (41 + 2 * 0 + 1) (some (tt_ia 80 g'))) (41 + 2 * 0) (some (tt_ob 6 [.ref (41 + 2 * 0 + 1), .int (nI 80), .int q]))) := pp_put (show va_up h1 (41 + 2 * 0 + 1) (some (tt_ia 80 g')) (41 + 2 * 0) = some (tt_ob 6 [.ref (41 + 2 * 0 + 1), .int (if so 0 = 9 then -1 else nI (sl 0)), .int q]) by rw [va_up_ne _ _ (by omega)]; exact e1) _ (Nat.le_of_ble_eq_true rfl)
    have q2 : gg_put (va_up (va_up h1 (41 + 2 * 0 + 1) (some (tt_ia 80 g'))) (41 + 2 * 0) (some (tt_ob 6 [.ref (41 + 2 * 0 + 1), .int (nI 80), .int q]))) (41 + 2 * 0) 6 2 (.int (nI 0)) = some (va_up (va_up h1 (41 + 2 * 0 + 1) (some (tt_ia 80 g'))) (41 + 2 * 0) (some (tt_ob 6 [.ref (41 + 2 * 0 + 1), .int (nI 80), .int (nI 0)]))) := by
      rw [pp_put (va_up_self _ _ _) _ (Nat.le_of_ble_eq_true rfl), bx_uu]; rfl
    refine ⟨va_up (va_up h1 (41 + 2 * 0 + 1) (some (tt_ia 80 g'))) (41 + 2 * 0) (some (tt_ob 6 [.ref (41 + 2 * 0 + 1), .int (nI 80), .int (nI 0)])), ?_, ?_, fun i hi => by rw [va_up_ne _ _ (by omega), va_up_ne _ _ (by omega)]; exact f3 i (by omega)⟩
    · unfold s_X8_sheet s_X6_renew
      simp only [f1, ca_b f2.1, sh_in f2.1 hk, gg_opt_some, is_in hs, h3, h4, sh_b hS, n0, pp_fr e1 (k := 0) (v := 41 + 2 * 0 + 1) rfl, p1, q1, q2, pp_bind, pn_10, ↓reduceIte]
    · refine cc_sheet f2 hk (g := g') (q := nI 0) (fun i i1 i2 => by rw [va_up_ne _ _ i1, va_up_ne _ _ i2]) ?_ (by rw [va_up_ne _ _ (by omega), va_up_self]) (fun _ => ?_) (fun j _ hjk => ⟨if_neg hjk, if_neg hjk, if_neg hjk⟩)
      · rw [va_up_self]
        simp only [if_true]
        rw [if_neg (by omega)]
      · simp only [if_true]
        exact ⟨trivial, p2⟩
theorem cu_0 : ∀ v, v < 128 → cu_t 0 (nI v) = nI v := by decide +kernel
theorem K_put (hV : pp_V (kn, dc, sz, wd, so, sl, sc, tr, ft)) (ha : cc_A (kn, dc, sz, wd, so, sl, sc, tr, ft) h) (s0 : so 0 = 0) (l0 : sl 0 = 80) {i v : Nat} (hi : i < 80) (hv : v < 128) : pc_G (s_X8_put 0 0 (nI i) (nI v)) h (kn, dc, sz, wd, so, sl, (fun j => if j = 0 then (fun p => if p = i then nI v else sc 0 p) else sc j), tr, 0) 1 := by
  show pc_G (s_X8_put 0 (nI 0) (nI i) (nI v)) h _ 1
  have hk : 0 < 4 := by decide
  have h9 : so 0 ≠ 9 := by omega
  obtain ⟨h3, hL⟩ := hV.2.2.2 0 hk h9
  obtain ⟨h1, f1, f2, f3⟩ := cl_put ha 0
  have hS := sh_of (ft := 0) hV f2.1 hk
  obtain ⟨g, q, e1, e2, e3⟩ := id hS
  have hc := sh_hc hS h9 (i := i) (n := 1) (by omega) (by decide)
  rw [if_pos (show i + 1 ≤ sl 0 by omega), show nI 1 = (1 : Int32) from rfl] at hc
  have hcu := cu_c hS h9 (nI v)
  rw [s0, cu_0 v hv] at hcu
  refine ⟨va_up h1 (41 + 2 * 0 + 1) (some (tt_ia 80 (upd g i (nI v)))), ?_, ?_, fun i hi => by rw [va_up_ne _ _ (by omega)]; exact f3 i (by omega)⟩
  · unfold s_X8_put s_X6_write
    simp only [f1, ca_b f2.1, sh_in f2.1 hk, gg_opt_some, sh_b hS, sh_no hS, if_neg h9, hc, hcu, pp_fr e1 (k := 0) (v := 41 + 2 * 0 + 1) rfl, pp_is e2 (show i < 80 by omega) (by decide), pp_bind, pn_10, pn_00, ↓reduceIte]
  · refine cc_sheet f2 hk (g := upd g i (nI v)) (q := q) (fun j i1 i2 => va_up_ne _ _ i2) (by rw [va_up_ne _ _ (by omega)]; exact e1) (va_up_self _ _ _) (fun _ => ⟨(e3 h9).1, fun p hp => ?_⟩) (fun j _ hjk => ⟨rfl, rfl, if_neg hjk⟩)
    simp only [if_true]
    by_cases hpi : p = i
    · rw [if_pos hpi, hpi, pk_us]
    · rw [if_neg hpi, pk_un hpi]; exact (e3 h9).2.1 p hp
theorem pr_W0 (sz : Nat → Nat) (wd : Nat → Nat → Nat) : pr_W (pr_next (0, sz, wd)) := ⟨Nat.le_of_ble_eq_true rfl, Nat.le_of_ble_eq_true rfl, fun d hd => by have : d + 1 < 0 + 1 := hd; omega, fun d hd => by
  have hd2 : d < 0 + 1 := hd
  have e1 : (pr_next (0, sz, wd)).2.1 d = 0 := if_pos (show d = 0 by omega)
  rw [e1]
  exact ⟨by omega, fun q hq => absurd hq (Nat.not_lt_zero q)⟩⟩
theorem K_cries (hV : pp_V (kn, dc, sz, wd, so, sl, sc, tr, ft)) (ha : cc_A (kn, dc, sz, wd, so, sl, sc, tr, ft) h) (s0 : so 0 = 0) (l0 : sl 0 = 80) {n : Nat} (hn : n ≤ 80) {S' : pr_S} (hok : pr_ok (fun p => sc 0 (0 + p)) n 0 (pr_next (0, sz, wd)) S') : pp_V (kn, S'.1, S'.2.1, S'.2.2, so, sl, sc, tr, 0) ∧ pc_G (s_X8_cries 0 0 0 0 (nI n)) h (kn, S'.1, S'.2.1, S'.2.2, so, sl, sc, tr, 0) (nI S'.1) := by
  have hk : 0 < 4 := by decide
  have hs : 0 < 3 := by decide
  have h9 : so 0 ≠ 9 := by omega
  obtain ⟨v0, v1, v2, v3⟩ := id hV
  obtain ⟨h3, hL⟩ := v3 0 hk h9
  have hin : 0 + n ≤ sl 0 := by omega
  have n0 : (0 : Int32) ≤ nI n := nI_pos' (by omega)
  have hWn := pr_W0 sz wd
  obtain ⟨hW', hl'⟩ := pr_Wk _ n 0 _ S' hWn hok
  refine ⟨pr_V (kn := kn) (tr := tr) (ft := 0) (sc := sc) hW' hl' v0 v3, ?_⟩
  show pc_G (s_X8_cries 0 (nI 0) (nI 0) (nI 0) (nI n)) h _ _
  obtain ⟨h1, f1, f2, f3⟩ := cl_put ha 0
  have hS := sh_of (ft := 0) hV f2.1 hk
  have hr := rf_c hS hs
  rw [if_neg h9, if_pos s0] at hr
  have hc := sh_hc hS h9 (i := 0) (n := n) (by omega) (by omega)
  rw [if_pos hin] at hc
  have e1 := (ff_c hS h9 hin hL n 0 1000 (pr_next (0, sz, wd)) hWn (by omega) (by omega)).1 S' hok
  have e1' : s_X8_firstFaultOf (41 + 2 * 0) (nI 0) (nI n) h1 = some (-9, h1) := e1
  obtain ⟨h2, d1, d2, d3⟩ := cl_take v3 hk h9 hin f2 hok
  refine ⟨h2, ?_, d2, fun j hj => (d3 j hj).trans (f3 j (by omega))⟩
  unfold s_X8_cries
  simp only [f1, ca_b f2.1, sh_in f2.1 hk, gg_opt_some, is_in hs, hr, n0, sh_b hS, hc, e1', d1, ca_dc d2.1, pp_bind, pn_10, ↓reduceIte]
end KC
