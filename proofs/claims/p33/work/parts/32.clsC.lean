
/-! SHEETS -/
theorem fl_I {h : tt_H} {b n : Nat} {y : Int32} (hn : n < 900) : ∀ (s k fu : Nat) (gc : Nat → Int32), k + s = n → s < fu → (∀ j, j < k → gc j = y) → ∃ g', s_J7_fill_53178_L5 fu b y (nI k) (nI n) (va_up h b (some (tt_ia n gc))) = some ((), va_up h b (some (tt_ia n g'))) ∧ ∀ j, j < n → g' j = y := by
  intro s
  induction s with
  | zero =>
    intro k fu gc hk hfu hg
    obtain ⟨fu, rfl⟩ : ∃ z, fu = z + 1 := ⟨fu - 1, by omega⟩
    refine ⟨gc, ?_, fun j hj => hg j (by omega)⟩
    rw [s_J7_fill_53178_L5, if_pos (nI_le (by omega) (by omega))]
  | succ s ih =>
    intro k fu gc hk hfu hg
    obtain ⟨fu, rfl⟩ : ∃ z, fu = z + 1 := ⟨fu - 1, by omega⟩
    obtain ⟨g', e1, e2⟩ := ih (k + 1) fu (upd gc k y) (by omega) (by omega) (fun j hj => by
      by_cases hjk : j = k
      · rw [hjk, pk_us]
      · rw [pk_un hjk]; exact hg j (by omega))
    refine ⟨g', ?_, e2⟩
    rw [s_J7_fill_53178_L5, if_neg (nI_ge (by omega) (by omega)), pp_is (va_up_self _ _ _) (by omega) (by omega), pp_bind, bx_uu, nI_1]
    exact e1
theorem fl_II {h : tt_H} {b n : Nat} {g : Nat → Int32} {y : Int32} (hb : h b = some (tt_ia n g)) (hn : n < 900) : ∃ g', s_J7_fill_53178 b y h = some ((), va_up h b (some (tt_ia n g'))) ∧ ∀ j, j < n → g' j = y := by
  obtain ⟨g', e1, e2⟩ := fl_I (h := h) (b := b) (y := y) hn n 0 1000 g (by omega) (by omega) (fun j hj => absurd hj (Nat.not_lt_zero j))
  rw [pp_same hb] at e1
  refine ⟨g', ?_, e2⟩
  unfold s_J7_fill_53178
  rw [pp_lenI hb, pp_bind]
  exact e1
section SHE
variable {kn : Nat → Nat} {dc : Nat} {sz : Nat → Nat} {wd : Nat → Nat → Nat} {so sl : Nat → Nat} {sc : Nat → Nat → Int32} {tr ft : Int32} {h : tt_H} {k : Nat}
theorem sh_in (ha : cc_I (kn, dc, sz, wd, so, sl, sc, tr, ft) h) (hk : k < 4) : s_X8_sheetOf 0 (nI k) h = some (some (41 + 2 * k), h) := by
  unfold s_X8_sheetOf
  rw [if_neg (nI_pos (by omega)), if_neg (show ¬ (4 : Int32) ≤ nI k from nI_ge (a := k) (b := 4) hk (by decide)), ca_2 ha, pp_bind]
  obtain ⟨-, -, -, ⟨g, e1, e2⟩, -⟩ := ha
  rw [pp_ql e1 hk (by decide) (e2.1 k hk), pp_bind]
theorem sh_out {x : Int32} (hx : x < 0 ∨ nI 4 ≤ x) : s_X8_sheetOf 0 x h = some (none, h) := by
  unfold s_X8_sheetOf
  by_cases h0 : x < 0
  · rw [if_pos h0]
  · rw [if_neg h0, if_pos (show (4 : Int32) ≤ x from hx.resolve_left h0)]
/-- a SHEET of the class -/
def sh_S (h : tt_H) (b : Nat) (s L : Nat) (c : Nat → Int32) : Prop := ∃ (g : Nat → Int32) (q : Int32), h b = some (tt_ob 6 [.ref (b + 1), .int (if s = 9 then -1 else nI L), .int q]) ∧ h (b + 1) = some (tt_ia 80 g) ∧ (s ≠ 9 → q = nI s ∧ (∀ i, i < 80 → g i = c i) ∧ s < 3 ∧ L ≤ 80)
theorem sh_of (hV : pp_V (kn, dc, sz, wd, so, sl, sc, tr, ft)) (ha : cc_I (kn, dc, sz, wd, so, sl, sc, tr, ft) h) (hk : k < 4) : sh_S h (41 + 2 * k) (so k) (sl k) (sc k) := by
  obtain ⟨-, -, -, v3⟩ := hV
  obtain ⟨-, -, -, -, -, -, a6, -⟩ := ha
  obtain ⟨g, q, e1, e2, e3⟩ := a6 k hk
  exact ⟨g, q, e1, e2, fun z => ⟨(e3 z).1, (e3 z).2, v3 k hk z⟩⟩
end SHE
section SHS
variable {h : tt_H} {b s L : Nat} {c : Nat → Int32}
theorem sh_obj (hS : sh_S h b s L c) : ∃ fs, gg_obj h b 6 = some fs := by
  obtain ⟨g, q, e1, -⟩ := hS
  exact ⟨_, pp_obj e1⟩
theorem sh_b {α : Type} (hS : sh_S h b s L c) (x : Option α) : ((gg_obj h b 6).bind fun _ => x) = x := by
  obtain ⟨fs, e⟩ := sh_obj hS
  rw [e]; rfl
theorem sh_no (hS : sh_S h b s L c) : s_X6_isNothing b h = some (if s = 9 then 1 else 0, h) := by
  obtain ⟨g, q, e1, e2, e3⟩ := hS
  unfold s_X6_isNothing
  rw [pp_fi e1 (k := 1) (v := if s = 9 then -1 else nI L) rfl, pp_bind]
  by_cases h9 : s = 9
  · rw [if_pos h9, if_pos rfl, if_pos h9]
  · have := (e3 h9).2.2.2
    rw [if_neg h9, if_neg (fun z => absurd z.symm (pp_neg_ne (by decide) (by omega))), if_neg h9]
theorem sh_so (hS : sh_S h b s L c) (h9 : s ≠ 9) : s_X6_sort b h = some (nI s, h) := by
  obtain ⟨g, q, e1, e2, e3⟩ := hS
  unfold s_X6_sort
  rw [pp_fi e1 (k := 2) (v := q) rfl, pp_bind, (e3 h9).1]
theorem sh_hc (hS : sh_S h b s L c) (h9 : s ≠ 9) {i n : Nat} (hi : i < 2 ^ 31) (hn : n < 2 ^ 31) : s_X6_hasCells b (nI i) (nI n) h = some (if i + n ≤ L then 1 else 0, h) := by
  obtain ⟨g, q, e1, e2, e3⟩ := hS
  have hL := (e3 h9).2.2.2
  unfold s_X6_hasCells
  rw [if_neg (nI_pos hi), if_neg (nI_pos hn), pp_fi e1 (k := 1) (v := nI L) (by rw [if_neg h9]; rfl), pp_bind, nI_l hi, nI_l hn, nI_l (by omega), lN_add]
  by_cases hc : i + n ≤ L
  · rw [if_neg (fun z => absurd ((pk_lLT (by omega) (by omega)).mp ((lg_cmp_gt _ _).mp z)) (by omega)), if_pos hc]
  · rw [if_pos ((lg_cmp_gt _ _).mpr ((pk_lLT (by omega) (by omega)).mpr (by omega))), if_neg hc]
theorem sh_hcN {x1 x2 : Int32} (hx : x1 < 0 ∨ x2 < 0) : s_X6_hasCells b x1 x2 h = some (0, h) := by
  unfold s_X6_hasCells
  by_cases h1 : x1 < 0
  · rw [if_pos h1]
  · rw [if_neg h1, if_pos (hx.resolve_left h1)]
theorem sh_at (hS : sh_S h b s L c) (h9 : s ≠ 9) {i : Nat} (hi : i < L) : s_X6_at b (nI i) h = some (c i, h) := by
  have hb := sh_b (α := Int32 × tt_H) hS
  obtain ⟨g, q, e1, e2, e3⟩ := id hS
  obtain ⟨-, e4, -, hL⟩ := e3 h9
  unfold s_X6_at
  rw [hb, show (1 : Int32) = nI 1 from rfl, sh_hc hS h9 (by omega) (by decide), pp_bind]
  simp only [if_pos (show i + 1 ≤ L by omega), pn_10, ↓reduceIte]
  rw [pp_fr e1 (k := 0) (v := b + 1) rfl, pp_bind, pp_il e2 (by omega) (by decide), pp_bind, e4 i (by omega)]
end SHS
section SHU
variable {kn : Nat → Nat} {dc : Nat} {sz : Nat → Nat} {wd : Nat → Nat → Nat} {so sl : Nat → Nat} {sc : Nat → Nat → Int32} {tr ft : Int32} {h : tt_H} {k : Nat}
theorem cc_sheet (ha : cc_A (kn, dc, sz, wd, so, sl, sc, tr, ft) h) (hk : k < 4) {so' sl' : Nat → Nat} {sc' : Nat → Nat → Int32} {h' : tt_H} {g : Nat → Int32} {q : Int32} (e : ∀ i, i ≠ 41 + 2 * k → i ≠ 41 + 2 * k + 1 → h' i = h i) (e1 : h' (41 + 2 * k) = some (tt_ob 6 [.ref (41 + 2 * k + 1), .int (if so' k = 9 then -1 else nI (sl' k)), .int q])) (e2 : h' (41 + 2 * k + 1) = some (tt_ia 80 g)) (e3 : so' k ≠ 9 → q = nI (so' k) ∧ ∀ i, i < 80 → g i = sc' k i) (eo : ∀ j, j < 4 → j ≠ k → so' j = so j ∧ sl' j = sl j ∧ sc' j = sc j) :
    cc_A (kn, dc, sz, wd, so', sl', sc', tr, ft) h' := by
  obtain ⟨⟨a0, a1, a2, a3, a4, a5, a6, a7⟩, hS⟩ := ha
  have e4 : ∀ i, i < 41 → h' i = h i := fun i hi => e i (by omega) (by omega)
  refine ⟨⟨by rw [e4 0 (by decide)]; exact a0, by rw [e4 1 (by decide)]; exact a1, by rw [e4 2 (by decide)]; exact a2, by rw [e4 3 (by decide)]; exact a3, fun d hd => ?_, by rw [e4 4 (by decide), e4 5 (by decide)]; exact a5, fun j hj => ?_, ?_⟩, ?_⟩
  · rw [e4 _ (by omega), e4 _ (by omega)]; exact a4 d hd
  · by_cases hjk : j = k
    · subst hjk; exact ⟨g, q, e1, e2, e3⟩
    · obtain ⟨o1, o2, o3⟩ := eo j hj hjk
      rw [e _ (by omega) (by omega), e _ (by omega) (by omega), o1, o2, o3]; exact a6 j hj
  · rw [e4 6 (by decide), e4 10 (by decide), e4 13 (by decide), e4 14 (by decide), e4 16 (by decide), e4 19 (by decide), e4 21 (by decide), e4 24 (by decide), e4 26 (by decide)]; exact a7
  · obtain ⟨s1, s2, s3, s4, s5⟩ := hS
    refine ⟨fun q hq => ?_, fun q hq => ?_, by rw [e4 11 (by decide)]; exact s3, by rw [e4 18 (by decide)]; exact s4, by rw [e4 23 (by decide)]; exact s5⟩
    · rw [e4 q.1 (by revert q; decide)]; exact s1 q hq
    · rw [e4 q.1 (by revert q; decide)]; exact s2 q hq
end SHU
theorem so_n9 {so : Nat → Nat} {k : Nat} (h9 : so k ≠ 9) (h3 : so k < 3) : ¬ (if so k = 9 then (-9 : Int32) else nI (so k)) = -9 := by
  rw [if_neg h9]
  exact fun z => absurd z.symm (pp_neg_ne (by decide) (by omega))
theorem ix80 (k i : Nat) : ((80 : Int32) * nI k) + nI i = nI (80 * k + i) := by rw [pp_lit 80, pk_mul, nI_add]
def cu_t (s : Nat) (v : Int32) : Int32 := if s = 0 then v.toInt8.toInt32 else if s = 1 then v.toInt16.toInt32 else v
theorem cu_c {h : tt_H} {b s L : Nat} {c : Nat → Int32} (hS : sh_S h b s L c) (h9 : s ≠ 9) (v : Int32) : s_X6_cut b v h = some (cu_t s v, h) := by
  obtain ⟨g, q, e1, e2, e3⟩ := hS
  obtain ⟨e4, -, h3, -⟩ := e3 h9
  unfold s_X6_cut cu_t
  rw [pp_fi e1 (k := 2) (v := q) rfl, pp_bind, pp_bind, e4]
  rcases (show s = 0 ∨ s = 1 ∨ s = 2 by omega) with rfl | rfl | rfl <;> rfl
theorem rf_c {h : tt_H} {b s L s' : Nat} {c : Nat → Int32} (hS : sh_S h b s L c) (hs' : s' < 3) : s_X8_readingFault b (nI s') h = some (if s = 9 then 1 else if s = s' then 0 else 2, h) := by
  have hb := fun x => sh_b (α := Int32 × tt_H) hS x
  unfold s_X8_readingFault
  simp only [hb, sh_no hS, pp_bind]
  by_cases h9 : s = 9
  · simp only [if_pos h9, pn_10, ↓reduceIte]
  · obtain ⟨g, q, -, -, e3⟩ := id hS
    have := (e3 h9).2.2.1
    simp only [if_neg h9, sh_so hS h9, pp_bind, ↓reduceIte]
    by_cases hss : s = s'
    · rw [if_pos (by rw [hss]), if_pos hss]
    · rw [if_neg (fun z => hss ((nI_eq (by omega) (by omega)).mp z)), if_neg hss]

/-! CRIES: the text, letter by letter: how many DAYS are begun, their sizes, their WORDS -/
abbrev pr_S : Type := Nat × (Nat → Nat) × (Nat → Nat → Nat)
def lw (x : Int32) : Nat := (x - 97).toNatClampNeg
abbrev lt_P (x : Int32) : Prop := ¬ x < 97 ∧ ¬ (105 : Int32) ≤ x
theorem lt_of {x : Int32} (h : lt_P x) : ∃ w, w < 8 ∧ x = nI (97 + w) ∧ lw x = w ∧ x - 97 = nI w := by
  obtain ⟨h1, h2⟩ := h
  rcases pp_rng 105 (by decide) x with ⟨k, hk, rfl⟩ | h3
  · have h4 : 97 ≤ k := by
      by_cases h5 : 97 ≤ k
      · exact h5
      · exact absurd (show nI k < 97 from nI_lt (a := k) (b := 97) (by omega) (by decide)) h1
    have e : nI k - 97 = nI (k - 97) := pk_sub (b := 97) h4
    refine ⟨k - 97, by omega, by congr 1; omega, ?_, e⟩
    unfold lw
    rw [e, nI_clamp (by omega)]
  · exfalso
    rcases h3 with h3 | h3
    · exact h1 (Int32.lt_trans h3 (by decide))
    · exact h2 h3
theorem lt_59 : ¬ lt_P 59 := fun h => h.1 (by decide)
theorem lt_c {x : Int32} {h : tt_H} : (lt_P x → s_X8_isLetter x h = some (1, h)) ∧ (¬ lt_P x → s_X8_isLetter x h = some (0, h)) := by
  unfold s_X8_isLetter lt_P
  by_cases h1 : x < 97
  · exact ⟨fun z => absurd h1 z.1, fun _ => if_pos h1⟩
  · by_cases h2 : (105 : Int32) ≤ x
    · exact ⟨fun z => absurd h2 z.2, fun _ => by rw [if_neg h1, if_pos h2]⟩
    · exact ⟨fun _ => by rw [if_neg h1, if_neg h2], fun z => absurd ⟨h1, h2⟩ z⟩
def pr_add (S : pr_S) (w : Nat) : pr_S := (S.1, (fun j => if j = S.1 - 1 then S.2.1 (S.1 - 1) + 1 else S.2.1 j), (fun j => if j = S.1 - 1 then ins_f (S.2.1 (S.1 - 1)) w (S.2.2 (S.1 - 1)) else S.2.2 j))
def pr_next (S : pr_S) : pr_S := (S.1 + 1, (fun j => if j = S.1 then 0 else S.2.1 j), S.2.2)
/-- what stops the text, or what it tells; by cases that say which -/
def pr_L (S : pr_S) : Nat := S.2.1 (S.1 - 1)
def pr_ok (c : Nat → Int32) : Nat → Nat → pr_S → pr_S → Prop
  | 0, _, S, S' => 0 < pr_L S ∧ S' = S
  | s + 1, p, S, S' => (lt_P (c p) ∧ pr_L S < 12 ∧ pr_ok c s (p + 1) (pr_add S (lw (c p))) S') ∨ (c p = 59 ∧ 0 < pr_L S ∧ S.1 < 6 ∧ pr_ok c s (p + 1) (pr_next S) S')
def pr_no (c : Nat → Int32) : Nat → Nat → pr_S → Nat → Prop
  | 0, p, S, q => pr_L S = 0 ∧ q = p
  | s + 1, p, S, q => (lt_P (c p) ∧ pr_L S < 12 ∧ pr_no c s (p + 1) (pr_add S (lw (c p))) q) ∨ (c p = 59 ∧ 0 < pr_L S ∧ S.1 < 6 ∧ pr_no c s (p + 1) (pr_next S) q) ∨ (¬ (lt_P (c p) ∧ pr_L S < 12) ∧ ¬ (c p = 59 ∧ 0 < pr_L S ∧ S.1 < 6) ∧ q = p)
theorem pr_or (c : Nat → Int32) : ∀ s p S, (∃ S', pr_ok c s p S S') ∨ ∃ q, pr_no c s p S q
  | 0, p, S => by
    by_cases h : 0 < pr_L S
    · exact Or.inl ⟨S, h, rfl⟩
    · exact Or.inr ⟨p, by omega, rfl⟩
  | s + 1, p, S => by
    by_cases h1 : lt_P (c p) ∧ pr_L S < 12
    · rcases pr_or c s (p + 1) (pr_add S (lw (c p))) with ⟨S', h⟩ | ⟨q, h⟩
      · exact Or.inl ⟨S', Or.inl ⟨h1.1, h1.2, h⟩⟩
      · exact Or.inr ⟨q, Or.inl ⟨h1.1, h1.2, h⟩⟩
    · by_cases h2 : c p = 59 ∧ 0 < pr_L S ∧ S.1 < 6
      · rcases pr_or c s (p + 1) (pr_next S) with ⟨S', h⟩ | ⟨q, h⟩
        · exact Or.inl ⟨S', Or.inr ⟨h2.1, h2.2.1, h2.2.2, h⟩⟩
        · exact Or.inr ⟨q, Or.inr (Or.inl ⟨h2.1, h2.2.1, h2.2.2, h⟩)⟩
      · exact Or.inr ⟨p, Or.inr (Or.inr ⟨h1, h2, rfl⟩)⟩
theorem pr_noP (c : Nat → Int32) : ∀ s p S q, pr_no c s p S q → q ≤ p + s
  | 0, p, S, q, h => by rw [h.2]; exact Nat.le_refl _
  | s + 1, p, S, q, h => by
    rcases h with ⟨_, _, h⟩ | ⟨_, _, _, h⟩ | ⟨_, _, h⟩
    · have := pr_noP c s (p + 1) _ q h; omega
    · have := pr_noP c s (p + 1) _ q h; omega
    · omega
/-- what is read so far is in order -/
def pr_W (S : pr_S) : Prop := 0 < S.1 ∧ S.1 ≤ 6 ∧ (∀ d, d + 1 < S.1 → 0 < S.2.1 d) ∧ ∀ d, d < S.1 → S.2.1 d ≤ 12 ∧ ∀ k, k < S.2.1 d → S.2.2 d k < 8
theorem pr_Wa {S : pr_S} (h : pr_W S) {w : Nat} (hw : w < 8) (hl : pr_L S < 12) : pr_W (pr_add S w) := by
  obtain ⟨h1, h2, h3, h4⟩ := h
  unfold pr_L at hl
  refine ⟨h1, h2, fun d hd => ?_, fun d hd => ?_⟩
  · show 0 < (if d = S.1 - 1 then S.2.1 (S.1 - 1) + 1 else S.2.1 d)
    split
    · omega
    · exact h3 d hd
  · by_cases hds : d = S.1 - 1
    · have e1 : (pr_add S w).2.1 d = S.2.1 (S.1 - 1) + 1 := if_pos hds
      have e2 : (pr_add S w).2.2 d = ins_f (S.2.1 (S.1 - 1)) w (S.2.2 (S.1 - 1)) := if_pos hds
      rw [e1, e2]
      refine ⟨by omega, fun k hk => ?_⟩
      unfold ins_f
      split
      · exact (h4 (S.1 - 1) (by omega)).2 k (by omega)
      · split
        · exact hw
        · omega
    · have e1 : (pr_add S w).2.1 d = S.2.1 d := if_neg hds
      have e2 : (pr_add S w).2.2 d = S.2.2 d := if_neg hds
      rw [e1, e2]
      exact h4 d hd
theorem pr_Wn {S : pr_S} (h : pr_W S) (hl : 0 < pr_L S) (h6 : S.1 < 6) : pr_W (pr_next S) := by
  obtain ⟨h1, h2, h3, h4⟩ := h
  unfold pr_L at hl
  refine ⟨Nat.succ_pos _, h6, fun d hd => ?_, fun d hd => ?_⟩
  · have hd2 : d < S.1 := by have : d + 1 < S.1 + 1 := hd; omega
    show 0 < (if d = S.1 then 0 else S.2.1 d)
    rw [if_neg (by omega)]
    by_cases hds : d = S.1 - 1
    · rw [hds]; exact hl
    · exact h3 d (by omega)
  · have hd2 : d < S.1 + 1 := hd
    by_cases hds : d = S.1
    · have e1 : (pr_next S).2.1 d = 0 := if_pos hds
      rw [e1]
      exact ⟨by omega, fun k hk => absurd hk (Nat.not_lt_zero k)⟩
    · have e1 : (pr_next S).2.1 d = S.2.1 d := if_neg hds
      rw [e1]
      exact h4 d (by omega)
theorem pr_Wk (c : Nat → Int32) : ∀ s p S S', pr_W S → pr_ok c s p S S' → pr_W S' ∧ 0 < pr_L S'
  | 0, _, S, S', hW, h => by rw [h.2]; exact ⟨hW, h.1⟩
  | s + 1, p, S, S', hW, h => by
    rcases h with ⟨h1, h2, h⟩ | ⟨h1, h2, h3, h⟩
    · obtain ⟨w, hw, -, e, -⟩ := lt_of h1
      exact pr_Wk c s (p + 1) _ S' (pr_Wa hW (by rw [e]; exact hw) h2) h
    · exact pr_Wk c s (p + 1) _ S' (pr_Wn hW h2 h3) h
theorem pr_V {kn : Nat → Nat} {so sl : Nat → Nat} {sc : Nat → Nat → Int32} {tr ft : Int32} {S : pr_S} (hW : pr_W S) (hl : 0 < pr_L S) (v0 : ∀ w, w < 8 → kn w < 3) (v3 : ∀ k, k < 4 → so k ≠ 9 → so k < 3 ∧ sl k ≤ 80) : pp_V (kn, S.1, S.2.1, S.2.2, so, sl, sc, tr, ft) := by
  obtain ⟨h1, h2, h3, h4⟩ := hW
  refine ⟨v0, h2, fun d hd => ⟨?_, (h4 d hd).1, (h4 d hd).2⟩, v3⟩
  by_cases hds : d = S.1 - 1
  · unfold pr_L at hl; rw [hds]; exact hl
  · exact h3 d (by omega)
/-! the class: the first fault -/

theorem pr_La (S : pr_S) (w : Nat) : pr_L (pr_add S w) = pr_L S + 1 := if_pos rfl
theorem pr_Ln (S : pr_S) : pr_L (pr_next S) = 0 := if_pos rfl
theorem pr_L12 {S : pr_S} (h : pr_W S) : pr_L S ≤ 12 := (h.2.2.2 (S.1 - 1) (by have := h.1; omega)).1
section FFC
variable {h : tt_H} {b s0 L i n : Nat} {c : Nat → Int32}
theorem ff_step (hS : sh_S h b s0 L c) (h9 : s0 ≠ 9) (hin : i + n ≤ L) (hL : L ≤ 80) {p l bg fu : Nat} (hp : p < n) (hl : l ≤ 12) (hb : bg ≤ 6) :
    s_X8_firstFaultOf_L8 (fu + 1) b (nI i) (nI n) (nI bg) (nI l) (nI p) h = (if lt_P (c (i + p)) ∧ l < 12 then s_X8_firstFaultOf_L8 fu b (nI i) (nI n) (nI bg) (nI (l + 1)) (nI (p + 1)) h else if c (i + p) = 59 ∧ 0 < l ∧ bg < 6 then s_X8_firstFaultOf_L8 fu b (nI i) (nI n) (nI (bg + 1)) (nI 0) (nI (p + 1)) h else some (nI p, h)) := by
  have j45 : s_X8_firstFaultOf_J45 (s_X8_firstFaultOf_J75 (s_X8_firstFaultOf_L8 fu)) b (nI i) (nI n) (nI bg) (nI l) (nI p) (c (i + p)) h = (if c (i + p) = 59 ∧ 0 < l ∧ bg < 6 then s_X8_firstFaultOf_L8 fu b (nI i) (nI n) (nI (bg + 1)) (nI 0) (nI (p + 1)) h else some (nI p, h)) := by
    unfold s_X8_firstFaultOf_J45 s_X8_firstFaultOf_J75
    by_cases h1 : c (i + p) = 59
    · rw [if_pos h1]
      by_cases h2 : 0 < l
      · rw [if_neg (nI_nle h2 (by omega))]
        by_cases h3 : bg < 6
        · rw [if_neg (show ¬ (6 : Int32) ≤ nI bg from nI_ge (a := bg) (b := 6) h3 (by decide)), if_pos ⟨h1, h2, h3⟩, nI_1, nI_1]
          rfl
        · rw [if_pos (show (6 : Int32) ≤ nI bg from nI_le (a := 6) (b := bg) (by omega) (by omega)), if_neg (fun z => h3 z.2.2)]
      · rw [if_pos (show nI l ≤ 0 from nI_le (a := l) (b := 0) (by omega) (by decide)), if_neg (fun z => h2 z.2.1)]
    · rw [if_neg h1, if_neg (fun z => h1 z.1)]
  rw [s_X8_firstFaultOf_L8, if_neg (nI_ge hp (by omega)), sh_b hS, nI_add, sh_at hS h9 (by omega), pp_bind]
  by_cases h1 : lt_P (c (i + p))
  · simp only [lt_c.1 h1, pp_bind, pn_10, ↓reduceIte]
    by_cases h2 : l < 12
    · rw [if_neg (show ¬ (12 : Int32) ≤ nI l from nI_ge (a := l) (b := 12) h2 (by decide)), if_pos ⟨h1, h2⟩, s_X8_firstFaultOf_J75, nI_1, nI_1]
    · rw [if_pos (show (12 : Int32) ≤ nI l from nI_le (a := 12) (b := l) (by omega) (by omega)), if_neg (fun z => h2 z.2)]
      exact j45
  · simp only [lt_c.2 h1, pp_bind, pn_00, ↓reduceIte]
    rw [if_neg (fun z => h1 z.1)]
    exact j45
theorem ff_end (l bg p fu : Nat) (hp : n ≤ p) (hp2 : p < 1000) (hl : l ≤ 12) : s_X8_firstFaultOf_L8 (fu + 1) b (nI i) (nI n) (nI bg) (nI l) (nI p) h = some (if l = 0 then nI n else -9, h) := by
  rw [s_X8_firstFaultOf_L8, if_pos (nI_le hp (by omega))]
  by_cases h0 : l = 0
  · rw [if_pos (by rw [h0]; rfl), if_pos h0]
  · rw [if_neg (nI_ne0 (by omega) (by omega)), if_neg h0]
theorem ff_c (hS : sh_S h b s0 L c) (h9 : s0 ≠ 9) (hin : i + n ≤ L) (hL : L ≤ 80) : ∀ (s p fu : Nat) (S : pr_S), pr_W S → p + s = n → s < fu →
    (∀ S', pr_ok (fun p => c (i + p)) s p S S' → s_X8_firstFaultOf_L8 fu b (nI i) (nI n) (nI S.1) (nI (pr_L S)) (nI p) h = some (-9, h)) ∧ (∀ q, pr_no (fun p => c (i + p)) s p S q → s_X8_firstFaultOf_L8 fu b (nI i) (nI n) (nI S.1) (nI (pr_L S)) (nI p) h = some (nI q, h)) := by
  intro s
  induction s with
  | zero =>
    intro p fu S hW hp hfu
    obtain ⟨fu, rfl⟩ : ∃ z, fu = z + 1 := ⟨fu - 1, by omega⟩
    have l12 := pr_L12 hW
    refine ⟨fun S' hk => ?_, fun q hk => ?_⟩
    · rw [ff_end _ _ _ _ (by omega) (by omega) l12, if_neg (by have := hk.1; omega)]
    · rw [ff_end _ _ _ _ (by omega) (by omega) l12, if_pos hk.1, hk.2, show n = p by omega]
  | succ s ih =>
    intro p fu S hW hp hfu
    obtain ⟨fu, rfl⟩ : ∃ z, fu = z + 1 := ⟨fu - 1, by omega⟩
    have l12 := pr_L12 hW
    have b6 := hW.2.1
    rw [ff_step hS h9 hin hL (show p < n by omega) l12 b6]
    refine ⟨fun S' hk => ?_, fun q hk => ?_⟩
    · rcases hk with ⟨h1, h2, hk⟩ | ⟨h1, h2, h3, hk⟩
      · obtain ⟨w, hw, -, e, -⟩ := lt_of h1
        have := (ih (p + 1) fu _ (pr_Wa hW (w := lw (c (i + p))) (by rw [e]; exact hw) h2) (by omega) (by omega)).1 S' hk
        rw [pr_La] at this
        rw [if_pos ⟨h1, h2⟩]
        exact this
      · have := (ih (p + 1) fu _ (pr_Wn hW h2 h3) (by omega) (by omega)).1 S' hk
        rw [pr_Ln] at this
        rw [if_neg (fun z => lt_59 (by have := z.1; rw [show c (i + p) = 59 from h1] at this; exact this)), if_pos ⟨h1, h2, h3⟩]
        exact this
    · rcases hk with ⟨h1, h2, hk⟩ | ⟨h1, h2, h3, hk⟩ | ⟨h1, h2, hk⟩
      · obtain ⟨w, hw, -, e, -⟩ := lt_of h1
        have := (ih (p + 1) fu _ (pr_Wa hW (w := lw (c (i + p))) (by rw [e]; exact hw) h2) (by omega) (by omega)).2 q hk
        rw [pr_La] at this
        rw [if_pos ⟨h1, h2⟩]
        exact this
      · have := (ih (p + 1) fu _ (pr_Wn hW h2 h3) (by omega) (by omega)).2 q hk
        rw [pr_Ln] at this
        rw [if_neg (fun z => lt_59 (by have := z.1; rw [show c (i + p) = 59 from h1] at this; exact this)), if_pos ⟨h1, h2, h3⟩]
        exact this
      · rw [if_neg h1, if_neg h2, hk]
end FFC
/-! the class: the text is taken -/
section TKC
variable {kn : Nat → Nat} {dc : Nat} {sz : Nat → Nat} {wd : Nat → Nat → Nat} {so sl : Nat → Nat} {sc : Nat → Nat → Int32} {tr ft : Int32} {h : tt_H}
theorem cry_raw {d : Nat} (e0 : h 0 = some (cc_ob dc tr ft)) (e1 : ∃ g : Nat → Option Nat, h 2 = some (tt_qa 3 6 g) ∧ (∀ d, d < 6 → g d = some (29 + 2 * d)) ∧ ∀ d, 6 ≤ d → g d = none) (hd : d < dc) (hdc : dc ≤ 6) : s_X8_lastCry 0 h = some (some (29 + 2 * (dc - 1)), h) := by
  have hin : ∀ d, d < dc → s_X8_cryOf 0 (nI d) h = some (some (29 + 2 * d), h) := fun d hd => by
    unfold s_X8_cryOf
    obtain ⟨g, e1, e2⟩ := e1
    rw [if_neg (nI_pos (by omega)), pp_fi e0 (k := 10) (v := nI dc) rfl, pp_bind, if_neg (nI_ge hd (by omega)), if_neg (show ¬ (6 : Int32) ≤ nI d from nI_ge (a := d) (b := 6) (by omega) (by decide)), pp_fr e0 (k := 1) (v := 2) rfl, pp_bind, pp_ql e1 (by omega) (by decide) (e2.1 d (by omega)), pp_bind]
  unfold s_X8_lastCry
  rw [pp_fi e0 (k := 10) (v := nI dc) rfl, pp_bind, pp_obj e0, pp_bind, pp_m1 (by omega), hin (dc - 1) (by omega), pp_bind]
theorem sh_of3 {k : Nat} (v3 : ∀ k, k < 4 → so k ≠ 9 → so k < 3 ∧ sl k ≤ 80) (ha : cc_I (kn, dc, sz, wd, so, sl, sc, tr, ft) h) (hk : k < 4) : sh_S h (41 + 2 * k) (so k) (sl k) (sc k) := by
  obtain ⟨-, -, -, -, -, -, a6, -⟩ := ha
  obtain ⟨g, q, e1, e2, e3⟩ := a6 k hk
  exact ⟨g, q, e1, e2, fun z => ⟨(e3 z).1, (e3 z).2, v3 k hk z⟩⟩
theorem cc_dc0 (ha : cc_A (kn, dc, sz, wd, so, sl, sc, tr, ft) h) : cc_A (kn, 0, sz, wd, so, sl, sc, tr, ft) (va_up h 0 (some (cc_ob 0 tr ft))) := by
  have e : ∀ i, i ≠ 0 → va_up h 0 (some (cc_ob 0 tr ft)) i = h i := fun i hi => va_up_ne _ _ hi
  obtain ⟨⟨a0, a1, a2, a3, a4, a5, a6, a7⟩, hS⟩ := ha
  refine ⟨⟨va_up_self _ _ _, by rw [e 1 (by decide)]; exact a1, by rw [e 2 (by decide)]; exact a2, by rw [e 3 (by decide)]; exact a3, fun d hd => ?_, by rw [e 4 (by decide), e 5 (by decide)]; exact a5, fun k hk => ?_, ?_⟩, ?_⟩
  · obtain ⟨g, z, c1, c2, -⟩ := a4 d hd
    exact ⟨g, z, by rw [e _ (by omega)]; exact c1, by rw [e _ (by omega)]; exact c2, fun q => absurd q (Nat.not_lt_zero d)⟩
  · rw [e _ (by omega), e _ (by omega)]; exact a6 k hk
  · rw [e 6 (by decide), e 10 (by decide), e 13 (by decide), e 14 (by decide), e 16 (by decide), e 19 (by decide), e 21 (by decide), e 24 (by decide), e 26 (by decide)]; exact a7
  · obtain ⟨s1, s2, s3, s4, s5⟩ := hS
    refine ⟨fun q hq => ?_, fun q hq => ?_, by rw [e 11 (by decide)]; exact s3, by rw [e 18 (by decide)]; exact s4, by rw [e 23 (by decide)]; exact s5⟩
    · rw [e q.1 (by revert q; decide)]; exact s1 q hq
    · rw [e q.1 (by revert q; decide)]; exact s2 q hq
theorem cl_begin (ha : cc_A (kn, dc, sz, wd, so, sl, sc, tr, ft) h) (h6 : dc < 6) : ∃ h1, s_X8_beginDay 0 h = some ((), h1) ∧ cc_A (kn, dc + 1, (fun j => if j = dc then 0 else sz j), wd, so, sl, sc, tr, ft) h1 ∧ ∀ i, 49 ≤ i → h1 i = h i := by
  obtain ⟨⟨a0, a1, a2, a3, a4, a5, a6, a7⟩, hS⟩ := ha
  obtain ⟨g0, z0, c1, c2, -⟩ := a4 dc h6
  have p1 : gg_put h 0 8 10 (.int (nI (dc + 1))) = some (va_up h 0 (some (cc_ob (dc + 1) tr ft))) := pp_put a0 _ (Nat.le_of_ble_eq_true rfl)
  have q0 : va_up h 0 (some (cc_ob (dc + 1) tr ft)) 0 = some (cc_ob (dc + 1) tr ft) := va_up_self _ _ _
  have ql := cry_raw (d := dc) q0 (by rw [va_up_ne _ _ (by decide)]; exact a2) (Nat.lt_succ_self dc) (by omega)
  rw [show dc + 1 - 1 = dc by omega] at ql
  have c1' : va_up h 0 (some (cc_ob (dc + 1) tr ft)) (29 + 2 * dc) = some (tt_ob 2 [.ref (29 + 2 * dc + 1), .int z0]) := by rw [va_up_ne _ _ (by omega)]; exact c1
  have p2 : gg_put (va_up h 0 (some (cc_ob (dc + 1) tr ft))) (29 + 2 * dc) 2 1 (.int 0) = some (va_up (va_up h 0 (some (cc_ob (dc + 1) tr ft))) (29 + 2 * dc) (some (tt_ob 2 [.ref (29 + 2 * dc + 1), .int 0]))) := pp_put c1' _ (Nat.le_of_ble_eq_true rfl)
  have e : ∀ i, i ≠ 0 → i ≠ 29 + 2 * dc → va_up (va_up h 0 (some (cc_ob (dc + 1) tr ft))) (29 + 2 * dc) (some (tt_ob 2 [.ref (29 + 2 * dc + 1), .int 0])) i = h i := fun i i1 i2 => by rw [va_up_ne _ _ i2, va_up_ne _ _ i1]
  refine ⟨va_up (va_up h 0 (some (cc_ob (dc + 1) tr ft))) (29 + 2 * dc) (some (tt_ob 2 [.ref (29 + 2 * dc + 1), .int 0])), ?_, ⟨⟨by rw [va_up_ne _ _ (by omega)]; exact q0, by rw [e 1 (by decide) (by omega)]; exact a1, by rw [e 2 (by decide) (by omega)]; exact a2, by rw [e 3 (by decide) (by omega)]; exact a3, fun d hd => ?_, by rw [e 4 (by decide) (by omega), e 5 (by decide) (by omega)]; exact a5, fun k hk => ?_, ?_⟩, ?_⟩, fun i hi => e i (by omega) (by omega)⟩
  · unfold s_X8_beginDay s_X2_clear
    simp only [pp_fi a0 (k := 10) (v := nI dc) rfl, show nI dc < 6 from nI_lt (a := dc) (b := 6) h6 (by decide), nI_1, p1, pp_obj q0, ql, gg_opt_some, pp_obj c1', p2, pp_bind, ↓reduceIte]
  · by_cases hdd : d = dc
    · subst hdd
      refine ⟨g0, 0, va_up_self _ _ _, by rw [e _ (by omega) (by omega)]; exact c2, fun _ => ?_⟩
      simp only [if_true]
      exact ⟨rfl, fun k hk => absurd hk (Nat.not_lt_zero k)⟩
    · obtain ⟨g, z, d1, d2, d3⟩ := a4 d hd
      refine ⟨g, z, by rw [e _ (by omega) (by omega)]; exact d1, by rw [e _ (by omega) (by omega)]; exact d2, fun q => ?_⟩
      simp only [if_neg hdd]
      exact d3 (by omega)
  · rw [e _ (by omega) (by omega), e _ (by omega) (by omega)]; exact a6 k hk
  · rw [e 6 (by decide) (by omega), e 10 (by decide) (by omega), e 13 (by decide) (by omega), e 14 (by decide) (by omega), e 16 (by decide) (by omega), e 19 (by decide) (by omega), e 21 (by decide) (by omega), e 24 (by decide) (by omega), e 26 (by decide) (by omega)]; exact a7
  · obtain ⟨s1, s2, s3, s4, s5⟩ := hS
    refine ⟨fun q hq => ?_, fun q hq => ?_, by rw [e 11 (by decide) (by omega)]; exact s3, by rw [e 18 (by decide) (by omega)]; exact s4, by rw [e 23 (by decide) (by omega)]; exact s5⟩
    · have : q.1 ≠ 0 ∧ q.1 < 29 := by revert q; decide
      rw [e q.1 this.1 (by omega)]; exact s1 q hq
    · have : q.1 ≠ 0 ∧ q.1 < 29 := by revert q; decide
      rw [e q.1 this.1 (by omega)]; exact s2 q hq
theorem tk_c (v3 : ∀ k, k < 4 → so k ≠ 9 → so k < 3 ∧ sl k ≤ 80) {k i n : Nat} (hk : k < 4) (h9 : so k ≠ 9) (hin : i + n ≤ sl k) : ∀ (s p fu : Nat) (S S' : pr_S) (h : tt_H), pr_W S → pr_ok (fun p => sc k (i + p)) s p S S' → cc_A (kn, S.1, S.2.1, S.2.2, so, sl, sc, tr, ft) h → p + s = n → s < fu → ∃ h1, s_X8_takeText_L12 fu 0 (41 + 2 * k) (nI i) (nI n) (nI p) h = some ((), h1) ∧ cc_A (kn, S'.1, S'.2.1, S'.2.2, so, sl, sc, tr, ft) h1 ∧ ∀ i, 49 ≤ i → h1 i = h i := by
  have hL := (v3 k hk h9).2
  intro s
  induction s with
  | zero =>
    intro p fu S S' h hW hok ha hp hfu
    obtain ⟨fu, rfl⟩ : ∃ z, fu = z + 1 := ⟨fu - 1, by omega⟩
    refine ⟨h, ?_, by rw [hok.2]; exact ha, fun _ _ => rfl⟩
    rw [s_X8_takeText_L12, if_pos (nI_le (by omega) (by omega))]
  | succ s ih =>
    intro p fu S S' h hW hok ha hp hfu
    obtain ⟨fu, rfl⟩ : ∃ z, fu = z + 1 := ⟨fu - 1, by omega⟩
    have hS := sh_of3 v3 ha.1 hk
    have hl := cry_raw (d := 0) ha.1.1 ha.1.2.2.1 hW.1 hW.2.1
    rw [s_X8_takeText_L12, if_neg (nI_ge (by omega) (by omega)), sh_b hS, nI_add, sh_at hS h9 (by omega), pp_bind]
    simp only [ca_b ha.1, hl, pp_bind]
    rcases hok with ⟨h1, h2, hok⟩ | ⟨h1, h2, h3, hok⟩
    · obtain ⟨w, hw, e1, e2, e3⟩ := lt_of h1
      have n59 : ¬ sc k (i + p) = 59 := fun z => lt_59 (by have := h1; simp only [] at this; rw [z] at this; exact this)
      have hWa := pr_Wa hW (w := lw (sc k (i + p))) (by rw [show lw (sc k (i + p)) = w from e2]; exact hw) h2
      rw [show lw ((fun p => sc k (i + p)) p) = w from e2] at hok
      rw [show lw (sc k (i + p)) = w from e2] at hWa
      obtain ⟨g, z, a1, a2, a3⟩ := ha.1.2.2.2.2.1 (S.1 - 1) (by have := hW.1; have := hW.2.1; omega)
      obtain ⟨rfl, a4⟩ := a3 (by have := hW.1; omega)
      have h2' : S.2.1 (S.1 - 1) < 12 := h2
      obtain ⟨g', f1, f2⟩ := ins_c (p := S.2.1 (S.1 - 1)) (x := nI w) a1 a2 h2' (Nat.le_refl _)
      have hA := cc_day ha (d := S.1 - 1) (n' := S.2.1 (S.1 - 1) + 1) (f' := ins_f (S.2.1 (S.1 - 1)) w (S.2.2 (S.1 - 1))) (g' := g') (by have := hW.1; have := hW.2.1; omega) (fun q hq => by
        rw [f2 q (by omega)]
        unfold ins_f
        split
        · exact a4 q (by omega)
        · split
          · rfl
          · omega)
      obtain ⟨h4, b1, b2, b3⟩ := ih (p + 1) fu (pr_add S w) S' _ hWa hok hA (by omega) (by omega)
      refine ⟨h4, ?_, b2, fun j hj => (b3 j hj).trans (by rw [va_up_ne _ _ (by have := hW.2.1; omega), va_up_ne _ _ (by have := hW.2.1; omega)])⟩
      rw [if_neg n59]
      have e3' : sc k (i + p) - 97 = nI w := e3
      have hsz : s_X2_size (29 + 2 * (S.1 - 1)) h = some (nI (S.2.1 (S.1 - 1)), h) := by
        unfold s_X2_size
        rw [pp_fi a1 (k := 1) (v := nI (S.2.1 (S.1 - 1))) rfl, pp_bind]
      simp only [gg_opt_some, lt_c.1 h1, pp_obj a1, hsz, e3', f1, s_X8_takeText_J76, nI_1, pp_bind, pn_10, ↓reduceIte]
      exact b1
    · have h1' : sc k (i + p) = 59 := h1
      obtain ⟨h3', d1, d2, d3⟩ := cl_begin ha h3
      obtain ⟨h4, b1, b2, b3⟩ := ih (p + 1) fu (pr_next S) S' h3' (pr_Wn hW h2 h3) hok d2 (by omega) (by omega)
      refine ⟨h4, ?_, b2, fun j hj => (b3 j hj).trans (d3 j hj)⟩
      rw [if_pos h1', d1, pp_bind, s_X8_takeText_J76, nI_1]
      exact b1
theorem cl_take (v3 : ∀ k, k < 4 → so k ≠ 9 → so k < 3 ∧ sl k ≤ 80) {k i n : Nat} (hk : k < 4) (h9 : so k ≠ 9) (hin : i + n ≤ sl k) {S' : pr_S} (ha : cc_A (kn, dc, sz, wd, so, sl, sc, tr, ft) h) (hok : pr_ok (fun p => sc k (i + p)) n 0 (pr_next (0, sz, wd)) S') : ∃ h1, s_X8_takeText 0 (41 + 2 * k) (nI i) (nI n) h = some ((), h1) ∧ cc_A (kn, S'.1, S'.2.1, S'.2.2, so, sl, sc, tr, ft) h1 ∧ ∀ i, 49 ≤ i → h1 i = h i := by
  have hL := (v3 k hk h9).2
  have p1 : gg_put h 0 8 10 (.int 0) = some (va_up h 0 (some (cc_ob 0 tr ft))) := pp_put ha.1.1 _ (Nat.le_of_ble_eq_true rfl)
  have h0 := cc_dc0 ha
  obtain ⟨h2, d1, d2, d3⟩ := cl_begin h0 (by decide)
  obtain ⟨h3, b1, b2, b3⟩ := tk_c v3 hk h9 hin n 0 1000 (pr_next (0, sz, wd)) S' h2 ⟨Nat.le_of_ble_eq_true rfl, Nat.le_of_ble_eq_true rfl, fun d hd => by have : d + 1 < 0 + 1 := hd; omega, fun d hd => by
    have hd2 : d < 0 + 1 := hd
    have e1 : (pr_next (0, sz, wd)).2.1 d = 0 := if_pos (show d = 0 by omega)
    rw [e1]
    exact ⟨by omega, fun q hq => absurd hq (Nat.not_lt_zero q)⟩⟩ hok d2 (by omega) (by omega)
  refine ⟨h3, ?_, b2, fun j hj => (b3 j hj).trans ((d3 j hj).trans (va_up_ne _ _ (by omega)))⟩
  unfold s_X8_takeText
  rw [p1, pp_bind, ca_b h0.1, d1, pp_bind]
  exact b1
end TKC

/-! WHAT IS SAID: the model's state (the set, denying, the latest), and the class's for one WORD w (said, denying, latest) -/
abbrev sy_S : Type := Nat × Bool × Nat
abbrev sy_T : Type := Bool × Bool × Bool
def sy_st (kn : Nat → Nat) (st : sy_S) (v : Nat) : sy_S := if kn v = 0 then ((if st.2.1 = true then st.1 &&& (255 - 2 ^ v) else st.1 ||| 2 ^ v), false, v) else ((if kn v = 2 ∧ st.2.2 ≠ 9 then st.1 &&& (255 - 2 ^ st.2.2) else st.1), !st.2.1, st.2.2)
def sy_af (kn : Nat → Nat) (w : Nat) (t : sy_T) (v : Nat) : sy_T := if kn v = 0 then (if v = w then (!t.2.1, false, true) else (t.1, false, false)) else ((if kn v = 2 ∧ t.2.2 = true then false else t.1), !t.2.1, t.2.2)
def sy_ab (w : Nat) (st : sy_S) : sy_T := (st.1.testBit w, st.2.1, decide (st.2.2 = w))
def sy_G (kn : Nat → Nat) (st : sy_S) : Prop := (∀ x, st.1.testBit x = true → x < 8 ∧ kn x = 0) ∧ (st.2.2 = 9 ∨ st.2.2 < 8)
theorem sy_255 : ∀ v, v < 8 → ∀ x, x < 8 → (255 - 2 ^ v).testBit x = decide (x ≠ v) := by decide
theorem sy_Gs {kn : Nat → Nat} {st : sy_S} (h : sy_G kn st) {v : Nat} (hv : v < 8) : sy_G kn (sy_st kn st v) := by
  obtain ⟨h1, h2⟩ := h
  have hand : ∀ m x, (st.1 &&& m).testBit x = true → x < 8 ∧ kn x = 0 := fun m x hx => by
    rw [Nat.testBit_and, Bool.and_eq_true] at hx
    exact h1 x hx.1
  unfold sy_st
  by_cases h0 : kn v = 0
  · rw [if_pos h0]
    refine ⟨fun x hx => ?_, Or.inr hv⟩
    by_cases hd : st.2.1 = true
    · simp only [if_pos hd] at hx; exact hand _ x hx
    · simp only [if_neg hd] at hx
      rw [Nat.testBit_or, Nat.testBit_two_pow, Bool.or_eq_true, decide_eq_true_eq] at hx
      rcases hx with hx | hx
      · exact h1 x hx
      · rw [← hx]; exact ⟨hv, h0⟩
  · rw [if_neg h0]
    refine ⟨fun x hx => ?_, h2⟩
    by_cases hd : kn v = 2 ∧ st.2.2 ≠ 9
    · simp only [if_pos hd] at hx; exact hand _ x hx
    · simp only [if_neg hd] at hx; exact h1 x hx
theorem sy_abs {kn : Nat → Nat} {st : sy_S} (h : sy_G kn st) {v w : Nat} (hv : v < 8) (hw : w < 8) : sy_ab w (sy_st kn st v) = sy_af kn w (sy_ab w st) v := by
  obtain ⟨S, D, L⟩ := st
  obtain ⟨h1, h2⟩ := h
  unfold sy_st sy_af sy_ab
  by_cases h0 : kn v = 0
  · rw [if_pos h0, if_pos h0]
    by_cases hvw : v = w
    · subst hvw
      rw [if_pos rfl]
      cases D with
      | true =>
        simp only [if_true, Nat.testBit_and, sy_255 v hv v hv]
        simp
      | false =>
        simp only [Nat.testBit_or, Nat.testBit_two_pow]
        simp
    · rw [if_neg hvw]
      cases D with
      | true =>
        simp only [if_true, Nat.testBit_and, sy_255 v hv w hw]
        simp [hvw, Ne.symm hvw]
      | false =>
        simp only [Nat.testBit_or, Nat.testBit_two_pow]
        simp [hvw]
  · rw [if_neg h0, if_neg h0]
    have key : (if kn v = 2 ∧ L ≠ 9 then S &&& (255 - 2 ^ L) else S).testBit w = (if kn v = 2 ∧ decide (L = w) = true then false else S.testBit w) := by
      by_cases hd : kn v = 2 ∧ L ≠ 9
      · have hL : L < 8 := h2.resolve_left hd.2
        rw [if_pos hd, Nat.testBit_and, sy_255 L hL w hw]
        by_cases hLw : L = w
        · rw [if_pos ⟨hd.1, decide_eq_true hLw⟩, show decide (w ≠ L) = false from decide_eq_false (fun z => z hLw.symm), Bool.and_false]
        · rw [if_neg (fun z => hLw (of_decide_eq_true z.2)), show decide (w ≠ L) = true from decide_eq_true (Ne.symm hLw), Bool.and_true]
      · rw [if_neg hd, if_neg]
        rintro ⟨z1, z2⟩
        exact hd ⟨z1, by have := of_decide_eq_true z2; omega⟩
    exact congrArg (fun b => (b, !D, decide (L = w))) key
def sy_in (kn : Nat → Nat) (o k : Nat) (st : sy_S) : sy_S := if o / 10 = k then sy_st kn st (o % 10) else st
def sa_in (kn : Nat → Nat) (w o k : Nat) (t : sy_T) : sy_T := if o / 10 = k then sy_af kn w t (o % 10) else t
def sy_W (kn : Nat → Nat) (one two : Nat) (f : Nat → Nat) : Nat → Nat → sy_S → sy_S
  | 0, k, st => sy_in kn two k (sy_in kn one k st)
  | s + 1, k, st => sy_W kn one two f s (k + 1) (sy_st kn (sy_in kn two k (sy_in kn one k st)) (f k))
def sa_W (kn : Nat → Nat) (w one two : Nat) (f : Nat → Nat) : Nat → Nat → sy_T → sy_T
  | 0, k, t => sa_in kn w two k (sa_in kn w one k t)
  | s + 1, k, t => sa_W kn w one two f s (k + 1) (sy_af kn w (sa_in kn w two k (sa_in kn w one k t)) (f k))
def sa_E (kn : Nat → Nat) (w : Nat) (f : Nat → Nat) : Nat → Nat → sy_T → sy_T
  | 0, _, t => t
  | s + 1, k, t => sa_E kn w f s (k + 1) (sy_af kn w t (f k))
section SY
variable {kn f : Nat → Nat} {one two w : Nat}
theorem sy_Gi {st : sy_S} (h : sy_G kn st) {o k : Nat} (ho : o % 10 < 8) : sy_G kn (sy_in kn o k st) := by
  unfold sy_in
  split
  · exact sy_Gs h ho
  · exact h
theorem sy_absi {st : sy_S} (h : sy_G kn st) {o k : Nat} (ho : o % 10 < 8) (hw : w < 8) : sy_ab w (sy_in kn o k st) = sa_in kn w o k (sy_ab w st) := by
  unfold sy_in sa_in
  split
  · exact sy_abs h ho hw
  · rfl
theorem sy_Wab (h1 : one % 10 < 8) (h2 : two % 10 < 8) (hw : w < 8) : ∀ s k st, sy_G kn st → (∀ j, k ≤ j → j < k + s → f j < 8) → sy_ab w (sy_W kn one two f s k st) = sa_W kn w one two f s k (sy_ab w st) ∧ sy_G kn (sy_W kn one two f s k st)
  | 0, k, st, hG, _ => ⟨by rw [sy_W, sa_W, sy_absi (sy_Gi hG h1) h2 hw, sy_absi hG h1 hw], sy_Gi (sy_Gi hG h1) h2⟩
  | s + 1, k, st, hG, hf => by
    have hG2 := sy_Gi (o := two) (k := k) (sy_Gi (o := one) (k := k) hG h1) h2
    have hfk := hf k (Nat.le_refl k) (by omega)
    have := sy_Wab h1 h2 hw s (k + 1) _ (sy_Gs hG2 hfk) (fun j a b => hf j (by omega) (by omega))
    rw [sy_W, sa_W]
    rw [sy_abs hG2 hfk hw, sy_absi (sy_Gi hG h1) h2 hw, sy_absi hG h1 hw] at this
    exact this
theorem sa_n {o k : Nat} {t : sy_T} (h : ¬ o / 10 = k) : sa_in kn w o k t = t := if_neg h
theorem sa_y {o k : Nat} {t : sy_T} (h : o / 10 = k) : sa_in kn w o k t = sy_af kn w t (o % 10) := if_pos h
theorem sa_WE : ∀ s k t, (∀ j, k ≤ j → j ≤ k + s → ¬ one / 10 = j ∧ ¬ two / 10 = j) → sa_W kn w one two f s k t = sa_E kn w f s k t
  | 0, k, t, h => by
    rw [sa_W, sa_E, sa_n (h k (Nat.le_refl k) (by omega)).1, sa_n (h k (Nat.le_refl k) (by omega)).2]
  | s + 1, k, t, h => by
    rw [sa_W, sa_E, sa_n (h k (Nat.le_refl k) (by omega)).1, sa_n (h k (Nat.le_refl k) (by omega)).2]
    exact sa_WE s (k + 1) _ (fun j hj hj2 => h j (by omega) (by omega))
theorem sa_W1 {s k : Nat} {t : sy_T} (h1 : one / 10 = k) (hk : k + s ≤ 12) : sa_W kn w one 1000 f s k t = sa_E kn w f s k (sy_af kn w t (one % 10)) := by
  cases s with
  | zero => rw [sa_W, sa_E, sa_y h1, sa_n (by omega)]
  | succ s =>
    rw [sa_W, sa_E, sa_y h1, sa_n (by omega)]
    exact sa_WE s (k + 1) _ (fun j hj hj2 => by omega)
theorem sa_Wd : ∀ s k t, one / 10 < k → k + s ≤ 12 → sa_W kn w one two f s k t = sa_W kn w two 1000 f s k t
  | 0, k, t, h, hk => by rw [sa_W, sa_W, sa_n (o := one) (by omega), sa_n (o := 1000) (by omega)]
  | s + 1, k, t, h, hk => by
    rw [sa_W, sa_W, sa_n (o := one) (by omega), sa_n (o := 1000) (by omega)]
    exact sa_Wd s (k + 1) _ (by omega) (by omega)
theorem sa_W2 {s k : Nat} {t : sy_T} (h1 : one / 10 = k) (hk : k + s ≤ 12) : sa_W kn w one two f s k t = sa_W kn w two 1000 f s k (sy_af kn w t (one % 10)) := by
  cases s with
  | zero => rw [sa_W, sa_W, sa_y h1, sa_n (o := 1000) (by omega)]
  | succ s =>
    rw [sa_W, sa_W, sa_y h1, sa_n (o := 1000) (by omega)]
    exact sa_Wd s (k + 1) _ (by omega) (by omega)
theorem sa_Wm {s k : Nat} {t : sy_T} (h1 : ¬ one / 10 = k) (h2 : ¬ two / 10 = k) : sa_W kn w one two f (s + 1) k t = sa_W kn w one two f s (k + 1) (sy_af kn w t (f k)) := by
  rw [sa_W, sa_n h1, sa_n h2]
end SY

/-! the first that is so -/
def sc_R (Q : Nat → Bool) : Nat → Nat → Option Nat
  | 0, _ => none
  | s + 1, o => if o % 10 < 8 ∧ Q o = true then some o else sc_R Q s (o + 1)
theorem sc_s {Q : Nat → Bool} {x : Nat} : ∀ a b o, sc_R Q a o = some x → sc_R Q (a + b) o = some x
  | 0, b, o, h => by cases h
  | a + 1, b, o, h => by
    rw [show a + 1 + b = a + b + 1 by omega]
    rw [sc_R] at h ⊢
    by_cases hc : o % 10 < 8 ∧ Q o = true
    · rw [if_pos hc] at h ⊢; exact h
    · rw [if_neg hc] at h ⊢; exact sc_s a b (o + 1) h
theorem sc_n {Q : Nat → Bool} : ∀ a b o, sc_R Q a o = none → sc_R Q (a + b) o = sc_R Q b (o + a)
  | 0, b, o, h => by rw [Nat.zero_add, Nat.add_zero]
  | a + 1, b, o, h => by
    rw [show a + 1 + b = a + b + 1 by omega]
    rw [sc_R] at h ⊢
    by_cases hc : o % 10 < 8 ∧ Q o = true
    · rw [if_pos hc] at h; cases h
    · rw [if_neg hc] at h ⊢; rw [sc_n a b (o + 1) h, show o + 1 + a = o + (a + 1) by omega]
theorem sc_10 {Q : Nat → Bool} {p b : Nat} : sc_R Q (2 + b) (10 * p + 8) = sc_R Q b (10 * (p + 1)) := by
  have e : sc_R Q 2 (10 * p + 8) = none := by
    rw [sc_R, if_neg (by omega), sc_R, if_neg (by omega), sc_R]
  rw [sc_n 2 b _ e, show 10 * p + 8 + 2 = 10 * (p + 1) by omega]
def sd_R (Q : Nat → Nat → Bool) (m : Nat) : Nat → Nat → Option (Nat × Nat)
  | 0, _ => none
  | s + 1, o => if o % 10 < 8 then (match sc_R (Q o) (m - 10 * (o / 10)) (10 * (o / 10)) with
    | some x => some (o, x)
    | none => sd_R Q m s (o + 1)) else sd_R Q m s (o + 1)
theorem sd_1 {Q : Nat → Nat → Bool} {m s o x : Nat} (h : o % 10 < 8) (hs : sc_R (Q o) (m - 10 * (o / 10)) (10 * (o / 10)) = some x) : sd_R Q m (s + 1) o = some (o, x) := by rw [sd_R, if_pos h, hs]
theorem sd_0 {Q : Nat → Nat → Bool} {m s o : Nat} (h : o % 10 < 8) (hs : sc_R (Q o) (m - 10 * (o / 10)) (10 * (o / 10)) = none) : sd_R Q m (s + 1) o = sd_R Q m s (o + 1) := by rw [sd_R, if_pos h, hs]
theorem sd_8 {Q : Nat → Nat → Bool} {m s o : Nat} (h : ¬ o % 10 < 8) : sd_R Q m (s + 1) o = sd_R Q m s (o + 1) := by rw [sd_R, if_neg h]
def dI (b : Bool) : Int32 := if b = true then 1 else 0
/-! the class -/
def ey (t : sy_T) : Nat := (if t.1 = true then 1 else 0) + (if t.2.1 = true then 2 else 0) + (if t.2.2 = true then 4 else 0)
theorem ey_lt (t : sy_T) : ey t < 8 := by
  unfold ey
  split <;> split <;> split <;> omega
theorem ey_b1 : ∀ a d l : Bool, (nI (ey (a, d, l)) &&& 1 = 0 ↔ a = false) ∧ nI (ey (a, d, l)) &&& 1 = nI (ey (a, false, false)) := by decide
theorem ey_b2 : ∀ a d l : Bool, nI (ey (a, d, l)) &&& 2 = 0 ↔ d = false := by decide
theorem ey_b4 : ∀ a d l : Bool, nI (ey (a, d, l)) &&& 4 = 0 ↔ l = false := by decide
theorem ey_x2 : ∀ a d l : Bool, nI (ey (a, d, l)) ^^^ 2 = nI (ey (a, !d, l)) ∧ (nI (ey (a, d, l)) &&& (-2)) ^^^ 2 = nI (ey (false, !d, l)) := by decide
theorem ey_o : ∀ s, s < 8 → ey (s.testBit 0, s.testBit 1, s.testBit 2) = s := by decide
theorem ey_of (s : Nat) (h : s < 8) : ∃ t : sy_T, ey t = s := ⟨_, ey_o s h⟩
section SYC
variable {kn : Nat → Nat} {dc : Nat} {sz : Nat → Nat} {wd : Nat → Nat → Nat} {so sl : Nat → Nat} {sc : Nat → Nat → Int32} {tr ft : Int32} {h : tt_H} {b n w : Nat} {f : Nat → Nat}
theorem af_c (hV : pp_V (kn, dc, sz, wd, so, sl, sc, tr, ft)) (ha : cc_I (kn, dc, sz, wd, so, sl, sc, tr, ft) h) (hw : w < 8) {v : Nat} (hv : v < 8) (t : sy_T) : s_X5_after (nI (ey t)) (nI v) 1 (nI w) h = some (nI (ey (sy_af kn w t v)), h) := by
  have h3 := kn_lt hV hv
  have e1 := ca_kind ha hv
  have el : gg_len h 1 = some (nI 8) := by obtain ⟨-, ⟨g, e, -⟩, -⟩ := ha; exact pp_lenI e
  obtain ⟨a, d, l⟩ := t
  unfold s_X5_after sy_af
  rw [if_neg (nI_pos (by omega)), el, pp_bind, if_pos (nI_lt hv (by decide)), e1, pp_bind]
  by_cases h0 : kn v = 0
  · rw [if_pos (by rw [h0]; rfl), if_pos h0]
    unfold s_X5_after_J29
    by_cases hvw : v = w
    · rw [if_pos hvw]
      cases d with
      | false => rw [if_pos ((ey_b2 a false l).mpr rfl), if_pos (by rw [hvw]), if_pos rfl]; rfl
      | true => rw [if_neg (fun z => by have := (ey_b2 a true l).mp z; cases this), if_pos (by rw [hvw]), if_neg (by decide)]; rfl
    · have hne : ¬ nI v = nI w := fun z => hvw ((nI_eq (by omega) (by omega)).mp z)
      rw [if_neg hvw, if_neg hne, if_neg hne, (ey_b1 a d l).2]
      split <;> rfl
  · rw [if_neg (nI_ne0 (by omega) (by omega)), if_neg h0, pp_bind]
    unfold s_X5_after_J68 s_X5_after_J69
    by_cases h2 : kn v = 2
    · rw [if_pos (by rw [h2]; rfl)]
      cases l with
      | false => rw [if_pos ((ey_b4 a d false).mpr rfl), if_pos rfl, (ey_x2 a d false).1, if_neg (fun z => by cases z.2)]
      | true => rw [if_neg (fun z => by have := (ey_b4 a d true).mp z; cases this), if_neg (by decide), (ey_x2 a d true).2, if_pos ⟨h2, rfl⟩]
    · rw [if_neg (show ¬ nI (kn v) = (2 : Int32) from fun z => h2 ((nI_eq (b := 2) (by omega) (by decide)).mp z)), if_pos rfl, (ey_x2 a d l).1, if_neg (fun z => h2 z.1)]
theorem af_9 (x0 : Int32) (xw : Int32) : s_X5_after x0 (-9) 1 xw h = some (x0, h) := by
  unfold s_X5_after
  rw [if_pos (by decide)]
theorem iS_c (hV : pp_V (kn, dc, sz, wd, so, sl, sc, tr, ft)) (ha : cc_I (kn, dc, sz, wd, so, sl, sc, tr, ft) h) (c1 : pp_cry h b n f) (hw : w < 8) : ∀ (s k fu : Nat) (t : sy_T), k + s = n → s < fu → s_X5_isSaid_L5 fu b 1 (nI w) (nI (ey t)) (nI k) h = some (dI (sa_E kn w f s k t).1, h) := by
  have hn := c1.le
  intro s
  induction s with
  | zero =>
    intro k fu t hk hfu
    obtain ⟨fu, rfl⟩ : ∃ z, fu = z + 1 := ⟨fu - 1, by omega⟩
    rw [s_X5_isSaid_L5]
    simp only [pp_cobj c1, pp_size c1, nI_le (show n ≤ k by omega) (show k < 2 ^ 31 by omega), pp_bind, ↓reduceIte, sa_E]
    obtain ⟨a, d, l⟩ := t
    cases a with
    | false => rw [if_pos ((ey_b1 false d l).1.mpr rfl)]; rfl
    | true => rw [if_neg (fun z => by have := (ey_b1 true d l).1.mp z; cases this)]; rfl
  | succ s ih =>
    intro k fu t hk hfu
    obtain ⟨fu, rfl⟩ : ∃ z, fu = z + 1 := ⟨fu - 1, by omega⟩
    rw [s_X5_isSaid_L5]
    simp only [pp_cobj c1, pp_size c1, nI_ge (show k < n by omega) (show n < 2 ^ 31 by omega), pp_at c1 (show k < 2 ^ 31 by omega), pp_w_in (show k < n by omega), af_c hV ha hw (c1.lt8 (show k < n by omega)), nI_1, pp_bind, ↓reduceIte, sa_E]
    exact ih (k + 1) fu _ (by omega) (by omega)
/-- the class's set -/
def sd_C (kn : Nat → Nat) (n : Nat) (f : Nat → Nat) : Nat → Nat → Nat → Nat
  | 0, _, C => C
  | s + 1, w, C => sd_C kn n f s (w + 1) (if kn w = 0 ∧ (sa_E kn w f n 0 (false, false, false)).1 = true then C ||| 2 ^ w else C)
theorem sd_bit (kn : Nat → Nat) (n : Nat) (f : Nat → Nat) (x : Nat) : ∀ s w C, (sd_C kn n f s w C).testBit x = true ↔ C.testBit x = true ∨ (w ≤ x ∧ x < w + s ∧ kn x = 0 ∧ (sa_E kn x f n 0 (false, false, false)).1 = true)
  | 0, w, C => by rw [sd_C]; exact ⟨Or.inl, fun z => z.elim id (fun q => by omega)⟩
  | s + 1, w, C => by
    rw [sd_C, sd_bit kn n f x s (w + 1)]
    by_cases hc : kn w = 0 ∧ (sa_E kn w f n 0 (false, false, false)).1 = true
    · rw [if_pos hc, Nat.testBit_or, Nat.testBit_two_pow, Bool.or_eq_true, decide_eq_true_eq]
      constructor
      · rintro ((h | h) | ⟨h1, h2, h3⟩)
        · exact Or.inl h
        · exact Or.inr ⟨by omega, by omega, by rw [← h]; exact hc⟩
        · exact Or.inr ⟨by omega, by omega, h3⟩
      · rintro (h | ⟨h1, h2, h3⟩)
        · exact Or.inl (Or.inl h)
        · by_cases hx : w = x
          · exact Or.inl (Or.inr hx)
          · exact Or.inr ⟨by omega, by omega, h3⟩
    · rw [if_neg hc]
      constructor
      · rintro (h | ⟨h1, h2, h3⟩)
        · exact Or.inl h
        · exact Or.inr ⟨by omega, by omega, h3⟩
      · rintro (h | ⟨h1, h2, h3⟩)
        · exact Or.inl h
        · by_cases hx : w = x
          · exact absurd (by rw [hx]; exact h3) hc
          · exact Or.inr ⟨by omega, by omega, h3⟩
theorem sd_c (hV : pp_V (kn, dc, sz, wd, so, sl, sc, tr, ft)) (ha : cc_I (kn, dc, sz, wd, so, sl, sc, tr, ft) h) (c1 : pp_cry h b n f) : ∀ (s w fu C : Nat), w + s = 8 → s < fu → s_X8_said_L17 fu 0 b (nI C) (nI w) h = some (nI (sd_C kn n f s w C), h) := by
  have hn := c1.le
  intro s
  induction s with
  | zero =>
    intro w fu C hw hfu
    obtain ⟨fu, rfl⟩ : ∃ z, fu = z + 1 := ⟨fu - 1, by omega⟩
    rw [s_X8_said_L17, if_pos (show (8 : Int32) ≤ nI w from nI_le (a := 8) (b := w) (by omega) (by omega))]
    rfl
  | succ s ih =>
    intro w fu C hw hfu
    obtain ⟨fu, rfl⟩ : ∃ z, fu = z + 1 := ⟨fu - 1, by omega⟩
    have hw8 : w < 8 := by omega
    have h3 := kn_lt hV hw8
    have e1 : s_X5_isSaid b 1 (nI w) h = some (dI (sa_E kn w f n 0 (false, false, false)).1, h) := iS_c hV ha c1 hw8 n 0 1000 (false, false, false) (by omega) (by omega)
    rw [s_X8_said_L17, if_neg (show ¬ (8 : Int32) ≤ nI w from nI_ge (a := w) (b := 8) hw8 (by decide)), sd_C]
    simp only [ca_0 ha, ca_kind ha hw8, e1, sh_w hw8, fa_or, s_X8_said_J54, nI_1, pp_bind]
    rw [← ih (w + 1) fu _ (by omega) (by omega)]
    by_cases h0 : kn w = 0
    · rw [if_pos (by rw [h0]; rfl)]
      cases hb : (sa_E kn w f n 0 (false, false, false)).1 with
      | false => rw [if_pos (show dI false = 0 from rfl), if_neg (fun z => by cases z.2)]
      | true => rw [if_neg (show ¬ dI true = 0 by decide), if_pos ⟨h0, rfl⟩]
    · rw [if_neg (nI_ne0 (by omega) (by omega)), if_neg (fun z => h0 z.1)]
end SYC
/-! the model -/
theorem sy_G0 (kn : Nat → Nat) : sy_G kn (0, false, 9) := by
  refine ⟨fun x hx => ?_, Or.inl rfl⟩
  rw [Nat.zero_testBit] at hx
  cases hx
def oI (o : Nat) : Int32 := if o = 1000 then -9 else nI o
def lI (L : Nat) : Int32 := if L = 9 then -9 else nI L
def sb_R (kn r : Nat → Nat) : Nat → sy_S
  | 0 => (0, false, 9)
  | n + 1 => sy_st kn (sb_R kn r n) (r n)
theorem sb_cong {kn r r' : Nat → Nat} : ∀ n, (∀ j, j < n → r j = r' j) → sb_R kn r n = sb_R kn r' n
  | 0, _ => rfl
  | n + 1, h => by rw [sb_R, sb_R, sb_cong n (fun j hj => h j (by omega)), h n (Nat.lt_succ_self n)]
section SYM
variable {kn : Nat → Nat} {dcn : Nat} {sz : Nat → Nat} {wd : Nat → Nat → Nat} {so sl : Nat → Nat} {sc : Nat → Nat → Int32} {trn ftn : Int32} {h0 h : tt_H} {ft tr dc at_ rd pm po pt : Int32} {d n : Nat} {f : Nat → Nat}
/-- the kinds in the model -/
def kk_I (kn : Nat → Nat) (h : tt_H) : Prop := ∃ g : Nat → Int32, h 53 = some (tt_ia 8 g) ∧ ∀ w, w < 8 → g w = nI (kn w)
theorem kk_g (hk : kk_I kn h) {w : Nat} (hw : w < 8) : gg_il h 53 (nI w) = some (nI (kn w)) := by
  obtain ⟨g, e1, e2⟩ := hk
  rw [pp_il e1 hw (by decide), e2 w hw]
/-- so many stand in the row -/
def i1 (o k : Nat) : Nat := if o / 10 < k then 1 else 0
theorem i1_s {o k : Nat} (h : ¬ o / 10 = k) : i1 o (k + 1) = i1 o k := by
  unfold i1
  by_cases z : o / 10 < k
  · rw [if_pos z, if_pos (by omega)]
  · rw [if_neg z, if_neg (by omega)]
end SYM
theorem sy_a0 {w : Nat} (hw : w < 8) : sy_ab w (0, false, 9) = (false, false, false) := by
  unfold sy_ab
  simp only [Nat.zero_testBit]
  rw [show decide (9 = w) = false from by simp; omega]
