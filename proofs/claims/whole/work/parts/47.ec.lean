
/-! SHEETS -/
theorem fl_I {h : tt_H} {b n : Nat} {y : Int32} (hn : n < 900) : ∀ (s k fu : Nat) (gc : Nat → Int32), k + s = n → s < fu → (∀ j, j < k → gc j = y) → ∃ g', s_J7_fill_53178_L5 fu b y (nI k) (nI n) (va_up h b (some (tt_ia n gc))) = some ((), va_up h b (some (tt_ia n g'))) ∧ ∀ j, j < n → g' j = y := by
  intro s
  induction s with
  | zero =>
    intro k fu gc hk hfu hg
    obtain ⟨fu, rfl⟩ : ∃ z, fu = z + 1 := ⟨fu - 1, by omega⟩
    refine ⟨gc, ?_, fun j hj => hg j (by omega)⟩
    rw [s_J7_fill_53178_L5, if_pos (nI_le (by omega) (by omega))]
  | succ s ih =>
    intro k fu gc hk hfu hg
    obtain ⟨fu, rfl⟩ : ∃ z, fu = z + 1 := ⟨fu - 1, by omega⟩
    obtain ⟨g', e1, e2⟩ := ih (k + 1) fu (upd gc k y) (by omega) (by omega) (fun j hj => by
      by_cases hjk : j = k
      · rw [hjk, pk_us]
      · rw [pk_un hjk]; exact hg j (by omega))
    refine ⟨g', ?_, e2⟩
    rw [s_J7_fill_53178_L5, if_neg (nI_ge (by omega) (by omega)), pp_is (va_up_self _ _ _) (by omega) (by omega), pp_bind, bx_uu, nI_1]
    exact e1
theorem fl_II {h : tt_H} {b n : Nat} {g : Nat → Int32} {y : Int32} (hb : h b = some (tt_ia n g)) (hn : n < 900) : ∃ g', s_J7_fill_53178 b y h = some ((), va_up h b (some (tt_ia n g'))) ∧ ∀ j, j < n → g' j = y := by
  obtain ⟨g', e1, e2⟩ := fl_I (h := h) (b := b) (y := y) hn n 0 1000 g (by omega) (by omega) (fun j hj => absurd hj (Nat.not_lt_zero j))
  rw [pp_same hb] at e1
  refine ⟨g', ?_, e2⟩
  unfold s_J7_fill_53178
  rw [pp_lenI hb, pp_bind]
  exact e1
section SHE
variable {kn : Nat → Nat} {dc : Nat} {sz : Nat → Nat} {wd : Nat → Nat → Nat} {so sl : Nat → Nat} {sc : Nat → Nat → Int32} {tr ft : Int32} {h : tt_H} {k : Nat}
theorem sh_in (ha : cc_I (kn, dc, sz, wd, so, sl, sc, tr, ft) h) (hk : k < 4) : s_X8_sheetOf 0 (nI k) h = some (some (41 + 2 * k), h) := by
  unfold s_X8_sheetOf
  rw [if_neg (nI_pos (by omega)), if_neg (show ¬ (4 : Int32) ≤ nI k from nI_ge (a := k) (b := 4) hk (by decide)), ca_2 ha, pp_bind]
  obtain ⟨-, -, -, ⟨g, e1, e2⟩, -⟩ := ha
  rw [pp_ql e1 hk (by decide) (e2 k hk), pp_bind]
theorem sh_out {x : Int32} (hx : x < 0 ∨ nI 4 ≤ x) : s_X8_sheetOf 0 x h = some (none, h) := by
  unfold s_X8_sheetOf
  by_cases h0 : x < 0
  · rw [if_pos h0]
  · rw [if_neg h0, if_pos (show (4 : Int32) ≤ x from hx.resolve_left h0)]
/-- a SHEET of the class -/
def sh_S (h : tt_H) (b : Nat) (s L : Nat) (c : Nat → Int32) : Prop := ∃ (g : Nat → Int32) (q : Int32), h b = some (tt_ob 6 [.ref (b + 1), .int (if s = 9 then -1 else nI L), .int q]) ∧ h (b + 1) = some (tt_ia 80 g) ∧ (s ≠ 9 → q = nI s ∧ (∀ i, i < 80 → g i = c i) ∧ s < 3 ∧ L ≤ 80)
theorem sh_of (hV : pp_V (kn, dc, sz, wd, so, sl, sc, tr, ft)) (ha : cc_I (kn, dc, sz, wd, so, sl, sc, tr, ft) h) (hk : k < 4) : sh_S h (41 + 2 * k) (so k) (sl k) (sc k) := by
  obtain ⟨-, -, -, v3⟩ := hV
  obtain ⟨-, -, -, -, -, -, a6, -⟩ := ha
  obtain ⟨g, q, e1, e2, e3⟩ := a6 k hk
  exact ⟨g, q, e1, e2, fun z => ⟨(e3 z).1, (e3 z).2, v3 k hk z⟩⟩
end SHE
section SHS
variable {h : tt_H} {b s L : Nat} {c : Nat → Int32}
theorem sh_obj (hS : sh_S h b s L c) : ∃ fs, gg_obj h b 6 = some fs := by
  obtain ⟨g, q, e1, -⟩ := hS
  exact ⟨_, pp_obj e1⟩
theorem sh_b {α : Type} (hS : sh_S h b s L c) (x : Option α) : ((gg_obj h b 6).bind fun _ => x) = x := by
  obtain ⟨fs, e⟩ := sh_obj hS
  rw [e]; rfl
theorem sh_no (hS : sh_S h b s L c) : s_X6_isNothing b h = some (if s = 9 then 1 else 0, h) := by
  obtain ⟨g, q, e1, e2, e3⟩ := hS
  unfold s_X6_isNothing
  rw [pp_fi e1 (k := 1) (v := if s = 9 then -1 else nI L) rfl, pp_bind]
  by_cases h9 : s = 9
  · rw [if_pos h9, if_pos rfl, if_pos h9]
  · have := (e3 h9).2.2.2
    rw [if_neg h9, if_neg (fun z => absurd z.symm (pp_neg_ne (by decide) (by omega))), if_neg h9]
theorem sh_so (hS : sh_S h b s L c) (h9 : s ≠ 9) : s_X6_sort b h = some (nI s, h) := by
  obtain ⟨g, q, e1, e2, e3⟩ := hS
  unfold s_X6_sort
  rw [pp_fi e1 (k := 2) (v := q) rfl, pp_bind, (e3 h9).1]
theorem sh_hc (hS : sh_S h b s L c) (h9 : s ≠ 9) {i n : Nat} (hi : i < 2 ^ 31) (hn : n < 2 ^ 31) : s_X6_hasCells b (nI i) (nI n) h = some (if i + n ≤ L then 1 else 0, h) := by
  obtain ⟨g, q, e1, e2, e3⟩ := hS
  have hL := (e3 h9).2.2.2
  unfold s_X6_hasCells
  rw [if_neg (nI_pos hi), if_neg (nI_pos hn), pp_fi e1 (k := 1) (v := nI L) (by rw [if_neg h9]; rfl), pp_bind, nI_l hi, nI_l hn, nI_l (by omega), lN_add]
  by_cases hc : i + n ≤ L
  · rw [if_neg (fun z => absurd ((pk_lLT (by omega) (by omega)).mp ((lg_cmp_gt _ _).mp z)) (by omega)), if_pos hc]
  · rw [if_pos ((lg_cmp_gt _ _).mpr ((pk_lLT (by omega) (by omega)).mpr (by omega))), if_neg hc]
theorem sh_hcN {x1 x2 : Int32} (hx : x1 < 0 ∨ x2 < 0) : s_X6_hasCells b x1 x2 h = some (0, h) := by
  unfold s_X6_hasCells
  by_cases h1 : x1 < 0
  · rw [if_pos h1]
  · rw [if_neg h1, if_pos (hx.resolve_left h1)]
theorem sh_at (hS : sh_S h b s L c) (h9 : s ≠ 9) {i : Nat} (hi : i < L) : s_X6_at b (nI i) h = some (c i, h) := by
  have hb := sh_b (α := Int32 × tt_H) hS
  obtain ⟨g, q, e1, e2, e3⟩ := id hS
  obtain ⟨-, e4, -, hL⟩ := e3 h9
  unfold s_X6_at
  rw [hb, show (1 : Int32) = nI 1 from rfl, sh_hc hS h9 (by omega) (by decide), pp_bind]
  simp only [if_pos (show i + 1 ≤ L by omega), pn_10, ↓reduceIte]
  rw [pp_fr e1 (k := 0) (v := b + 1) rfl, pp_bind, pp_il e2 (by omega) (by decide), pp_bind, e4 i (by omega)]
end SHS
section SHU
variable {kn : Nat → Nat} {dc : Nat} {sz : Nat → Nat} {wd : Nat → Nat → Nat} {so sl : Nat → Nat} {sc : Nat → Nat → Int32} {tr ft : Int32} {h : tt_H} {k : Nat}
theorem cc_sheet (ha : cc_A (kn, dc, sz, wd, so, sl, sc, tr, ft) h) (hk : k < 4) {so' sl' : Nat → Nat} {sc' : Nat → Nat → Int32} {h' : tt_H} {g : Nat → Int32} {q : Int32} (e : ∀ i, i ≠ 41 + 2 * k → i ≠ 41 + 2 * k + 1 → h' i = h i) (e1 : h' (41 + 2 * k) = some (tt_ob 6 [.ref (41 + 2 * k + 1), .int (if so' k = 9 then -1 else nI (sl' k)), .int q])) (e2 : h' (41 + 2 * k + 1) = some (tt_ia 80 g)) (e3 : so' k ≠ 9 → q = nI (so' k) ∧ ∀ i, i < 80 → g i = sc' k i) (eo : ∀ j, j < 4 → j ≠ k → so' j = so j ∧ sl' j = sl j ∧ sc' j = sc j) :
    cc_A (kn, dc, sz, wd, so', sl', sc', tr, ft) h' := by
  obtain ⟨⟨a0, a1, a2, a3, a4, a5, a6, a7⟩, hS⟩ := ha
  have e4 : ∀ i, i < 41 → h' i = h i := fun i hi => e i (by omega) (by omega)
  refine ⟨⟨by rw [e4 0 (by decide)]; exact a0, by rw [e4 1 (by decide)]; exact a1, by rw [e4 2 (by decide)]; exact a2, by rw [e4 3 (by decide)]; exact a3, fun d hd => ?_, by rw [e4 4 (by decide), e4 5 (by decide)]; exact a5, fun j hj => ?_, ?_⟩, ?_⟩
  · rw [e4 _ (by omega), e4 _ (by omega)]; exact a4 d hd
  · by_cases hjk : j = k
    · subst hjk; exact ⟨g, q, e1, e2, e3⟩
    · obtain ⟨o1, o2, o3⟩ := eo j hj hjk
      rw [e _ (by omega) (by omega), e _ (by omega) (by omega), o1, o2, o3]; exact a6 j hj
  · rw [e4 6 (by decide), e4 10 (by decide), e4 13 (by decide), e4 14 (by decide), e4 16 (by decide), e4 19 (by decide), e4 21 (by decide), e4 24 (by decide), e4 26 (by decide)]; exact a7
  · obtain ⟨s1, s2, s3, s4, s5⟩ := hS
    refine ⟨fun q hq => ?_, fun q hq => ?_, by rw [e4 11 (by decide)]; exact s3, by rw [e4 18 (by decide)]; exact s4, by rw [e4 23 (by decide)]; exact s5⟩
    · rw [e4 q.1 (by revert q; decide)]; exact s1 q hq
    · rw [e4 q.1 (by revert q; decide)]; exact s2 q hq
theorem mm_sheets (hm : mm_A (kn, dc, sz, wd, so, sl, sc, tr, ft) h) {so' sl' : Nat → Nat} {sc' : Nat → Nat → Int32} {h' : tt_H} {g50 g51 g52 : Nat → Int32} (e : ∀ i, i ≠ 50 → i ≠ 51 → i ≠ 52 → h' i = h i) (e50 : h' 50 = some (tt_ia 4 g50)) (f50 : ∀ k, k < 4 → g50 k = if so' k = 9 then -9 else nI (so' k)) (e51 : h' 51 = some (tt_ia 4 g51)) (f51 : ∀ k, k < 4 → so' k ≠ 9 → g51 k = nI (sl' k)) (e52 : h' 52 = some (tt_ia 320 g52)) (f52 : ∀ k, k < 4 → so' k ≠ 9 → ∀ i, i < 80 → g52 (80 * k + i) = sc' k i) :
    mm_A (kn, dc, sz, wd, so', sl', sc', tr, ft) h' := by
  obtain ⟨⟨a0, a1, a2, a3, a4, ln0, a5, wr0, a6, a7⟩, hS⟩ := hm
  exact ⟨⟨by rw [e 49 (by decide) (by decide) (by decide)]; exact a0, ⟨g50, e50, f50⟩, ⟨g51, e51, f51⟩, ⟨g52, e52, f52⟩, by rw [e 53 (by decide) (by decide) (by decide)]; exact a4, ln0, by rw [e 54 (by decide) (by decide) (by decide)]; exact a5, wr0, by rw [e 55 (by decide) (by decide) (by decide)]; exact a6, a7⟩, hS.out (fun i hi => e i (by omega) (by omega) (by omega))⟩
theorem ma_so (hm : mm_I (kn, dc, sz, wd, so, sl, sc, tr, ft) h) (hk : k < 4) : gg_il h 50 (nI k) = some (if so k = 9 then -9 else nI (so k)) := by
  obtain ⟨-, ⟨g, e1, e2⟩, -⟩ := hm
  rw [pp_il e1 hk (by decide), e2 k hk]
theorem ma_sl (hm : mm_I (kn, dc, sz, wd, so, sl, sc, tr, ft) h) (hk : k < 4) (h9 : so k ≠ 9) : gg_il h 51 (nI k) = some (nI (sl k)) := by
  obtain ⟨-, -, ⟨g, e1, e2⟩, -⟩ := hm
  rw [pp_il e1 hk (by decide), e2 k hk h9]
theorem ma_sc (hm : mm_I (kn, dc, sz, wd, so, sl, sc, tr, ft) h) (hk : k < 4) (h9 : so k ≠ 9) {i : Nat} (hi : i < 80) : gg_il h 52 (nI (80 * k + i)) = some (sc k i) := by
  obtain ⟨-, -, -, ⟨g, e1, e2⟩, -⟩ := hm
  rw [pp_il e1 (by omega) (by decide), e2 k hk h9 i hi]
theorem js_in (hk : k < 4) : s_X9_isSheet (nI k) h = some (1, h) := by
  unfold s_X9_isSheet
  rw [show (3 : Int32) = nI 4 - 1 by decide, pi_ins_in hk (by decide)]; rfl
theorem js_out {x : Int32} (hx : x < 0 ∨ nI 4 ≤ x) : s_X9_isSheet x h = some (0, h) := by
  unfold s_X9_isSheet
  rw [show (3 : Int32) = nI 4 - 1 by decide, pi_ins_out hx (by decide)]; rfl
theorem jt_in (hk : k < 3) : s_X9_isSort (nI k) h = some (1, h) := by
  unfold s_X9_isSort
  rw [j2_in hk]; rfl
theorem jt_out {x : Int32} (hx : x < 0 ∨ nI 3 ≤ x) : s_X9_isSort x h = some (0, h) := by
  unfold s_X9_isSort
  rw [j2_out hx]; rfl
end SHU
theorem so_n9 {so : Nat → Nat} {k : Nat} (h9 : so k ≠ 9) (h3 : so k < 3) : ¬ (if so k = 9 then (-9 : Int32) else nI (so k)) = -9 := by
  rw [if_neg h9]
  exact fun z => absurd z.symm (pp_neg_ne (by decide) (by omega))
theorem ix80 (k i : Nat) : ((80 : Int32) * nI k) + nI i = nI (80 * k + i) := by rw [pp_lit 80, pk_mul, nI_add]
theorem E_lose {h : tt_H} (hI : pp_Inv h) (x1 : Int32) : pp_G (s_X8_lose 0 x1) (s_X9_lose 49 x1) h := by
  obtain ⟨⟨kn, dc, sz, wd, so, sl, sc, tr, ft⟩, hV, ha, hm⟩ := hI
  rcases pp_rng 4 (by decide) x1 with ⟨k, hk, rfl⟩ | h1
  · have hS := sh_of hV ha.1 hk
    have hV' : pp_V (kn, dc, sz, wd, (fun j => if j = k then 9 else so j), sl, sc, tr, ft) := by
      obtain ⟨v0, v1, v2, v3⟩ := hV
      refine ⟨v0, v1, v2, fun j hj h9 => ?_⟩
      by_cases hjk : j = k
      · simp only [if_pos hjk] at h9; exact absurd rfl h9
      · simp only [if_neg hjk] at h9 ⊢; exact v3 j hj h9
    refine pp_G.of (P' := (kn, dc, sz, wd, (fun j => if j = k then 9 else so j), sl, sc, tr, ft)) (if so k = 9 then 0 else 1) ha hm hV' ?_ (fun h hm => ?_)
    · obtain ⟨g, q, e1, e2, e3⟩ := id hS
      by_cases h9 : so k = 9
      · refine ⟨h, ?_, ?_, fun _ _ => rfl⟩
        · unfold s_X8_lose
          simp only [ca_b ha.1, sh_in ha.1 hk, gg_opt_some, sh_b hS, sh_no hS, if_pos h9, pp_bind, pn_10, ↓reduceIte]
        · refine cc_sheet ha hk (g := g) (q := q) (fun _ _ _ => rfl) ?_ e2 (fun z => absurd (if_pos rfl) z) (fun j _ hjk => ⟨if_neg hjk, rfl, rfl⟩)
          rw [e1, if_pos h9]; simp
      · refine ⟨va_up h (41 + 2 * k) (some (tt_ob 6 [.ref (41 + 2 * k + 1), .int (-1), .int q])), ?_, ?_, fun i hi => va_up_ne _ _ (by omega)⟩
        · unfold s_X8_lose s_X6_drop
          simp only [ca_b ha.1, sh_in ha.1 hk, gg_opt_some, sh_b hS, sh_no hS, if_neg h9, pp_put e1 _ (show 1 < ([Value.ref (41 + 2 * k + 1), Value.int (if so k = 9 then -1 else nI (sl k)), Value.int q] : List Value).length from Nat.le_of_ble_eq_true rfl), pp_bind, pn_00, ↓reduceIte]
          rfl
        · exact cc_sheet ha hk (g := g) (q := q) (fun i i1 _ => va_up_ne _ _ i1) (by rw [va_up_self]; simp) (by rw [va_up_ne _ _ (by omega)]; exact e2) (fun z => absurd (if_pos rfl) z) (fun j _ hjk => ⟨if_neg hjk, rfl, rfl⟩)
    · obtain ⟨-, ⟨g50, e50, f50⟩, ⟨g51, e51, f51⟩, ⟨g52, e52, f52⟩, -⟩ := id hm.1
      have hj : ∀ u : Int32, s_X9_lose_J25 49 (nI k) u h = some (u, va_up h 50 (some (tt_ia 4 (upd g50 k (-9))))) := fun u => by
        unfold s_X9_lose_J25
        rw [mo_2 (ma_o hm.1), pp_bind, pp_is e50 hk (by decide), pp_bind]
      refine ⟨va_up h 50 (some (tt_ia 4 (upd g50 k (-9)))), ?_, ?_, fun i hi => va_up_ne _ _ (by omega)⟩
      · unfold s_X9_lose
        simp only [js_in hk, mo_2 (ma_o hm.1), ma_so hm.1 hk, hj, pp_bind, pn_10, ↓reduceIte]
        by_cases h9 : so k = 9
        · simp only [if_pos h9, ↓reduceIte]
        · have h3 : so k < 3 := (hV.2.2.2 k hk h9).1
          rw [if_neg (so_n9 h9 h3), if_neg h9]
      · refine mm_sheets hm (fun i i1 _ _ => va_up_ne _ _ i1) (va_up_self _ _ _) (fun j hj => ?_) (by rw [va_up_ne _ _ (by decide)]; exact e51) (fun j hj h9 => ?_) (by rw [va_up_ne _ _ (by decide)]; exact e52) (fun j hj h9 => ?_)
        · by_cases hjk : j = k
          · simp only [if_pos hjk, if_true]; rw [hjk, pk_us]
          · simp only [if_neg hjk]; rw [pk_un hjk]; exact f50 j hj
        · by_cases hjk : j = k
          · simp only [if_pos hjk] at h9; exact absurd rfl h9
          · simp only [if_neg hjk] at h9; exact f51 j hj h9
        · by_cases hjk : j = k
          · simp only [if_pos hjk] at h9; exact absurd rfl h9
          · simp only [if_neg hjk] at h9; exact f52 j hj h9
  · refine pp_G.rd (-1) hV ha hm ?_ (fun h hm => ?_)
    · unfold s_X8_lose
      simp only [ca_b ha.1, sh_out h1, gg_opt_none, pp_bind]
    · unfold s_X9_lose
      simp only [js_out h1, pp_bind, pn_00, ↓reduceIte]
