
theorem pp_lenJ {h : tt_H} {b n : Nat} {f : Nat → Int64} (hb : h b = some (tt_ja n f)) : gg_len h b = some (nI n) := by unfold gg_len; rw [hb]; rfl
theorem pp_lenI {h : tt_H} {b n : Nat} {f : Nat → Int32} (hb : h b = some (tt_ia n f)) : gg_len h b = some (nI n) := by unfold gg_len; rw [hb]; rfl
/-- a row of longs is filled -/
theorem fl_J {h : tt_H} {b n : Nat} {y : Int64} (hn : n < 900) : ∀ (s k fu : Nat) (gc : Nat → Int64), k + s = n → s < fu → (∀ j, j < k → gc j = y) → ∃ g', s_J7_fill_d0a16_L6 fu b y (nI k) (nI n) (va_up h b (some (tt_ja n gc))) = some ((), va_up h b (some (tt_ja n g'))) ∧ ∀ j, j < n → g' j = y := by
  intro s
  induction s with
  | zero =>
    intro k fu gc hk hfu hg
    obtain ⟨fu, rfl⟩ : ∃ z, fu = z + 1 := ⟨fu - 1, by omega⟩
    refine ⟨gc, ?_, fun j hj => hg j (by omega)⟩
    rw [s_J7_fill_d0a16_L6, if_pos (nI_le (by omega) (by omega))]
  | succ s ih =>
    intro k fu gc hk hfu hg
    obtain ⟨fu, rfl⟩ : ∃ z, fu = z + 1 := ⟨fu - 1, by omega⟩
    obtain ⟨g', e1, e2⟩ := ih (k + 1) fu (vp_updL gc k y) (by omega) (by omega) (fun j hj => by
      by_cases hjk : j = k
      · rw [hjk, pk_uLs]
      · rw [pk_uLn hjk]; exact hg j (by omega))
    refine ⟨g', ?_, e2⟩
    rw [s_J7_fill_d0a16_L6, if_neg (nI_ge (by omega) (by omega)), pp_js (va_up_self _ _ _) (by omega) (by omega), pp_bind, bx_uu, nI_1]
    exact e1
theorem fl_JJ {h : tt_H} {b n : Nat} {g : Nat → Int64} {y : Int64} (hb : h b = some (tt_ja n g)) (hn : n < 900) : ∃ g', s_J7_fill_d0a16 b y h = some ((), va_up h b (some (tt_ja n g'))) ∧ ∀ j, j < n → g' j = y := by
  obtain ⟨g', e1, e2⟩ := fl_J (h := h) (b := b) (y := y) hn n 0 1000 g (by omega) (by omega) (fun j hj => absurd hj (Nat.not_lt_zero j))
  rw [pp_same hb] at e1
  refine ⟨g', ?_, e2⟩
  unfold s_J7_fill_d0a16
  rw [pp_lenJ hb, pp_bind]
  exact e1
/-! WAYS -/
def wy_N (f1 f2 : Nat → Nat) : Nat → Nat → Int64
  | 0, _ => 1
  | _ + 1, 0 => 0
  | i + 1, j + 1 => wy_N f1 f2 (i + 1) j + (if f1 i = f2 j then wy_N f1 f2 i j else 0)
theorem wy_s (f1 f2 : Nat → Nat) (i j : Nat) : wy_N f1 f2 (i + 1) (j + 1) = wy_N f1 f2 (i + 1) j + (if f1 i = f2 j then wy_N f1 f2 i j else 0) := rfl
theorem wy_0 (f1 f2 : Nat → Nat) : ∀ j, wy_N f1 f2 0 j = 1
  | 0 => rfl
  | _ + 1 => rfl
section WY
variable {h0 : tt_H} {b1 b2 d1 d2 n1 n2 : Nat} {f1 f2 : Nat → Nat}
theorem wy_c1 (c1 : pp_cry h0 b1 n1 f1) (c2 : pp_cry h0 b2 n2 f2) (hF : h0 6 = some (tt_ob 3 [.ref 7, .ref 8, .ref 9])) (k1 : b1 ≠ 9 ∧ b1 + 1 ≠ 9 ∧ b2 ≠ 9 ∧ b2 + 1 ≠ 9) (κ : Nat → Nat → Nat → Int32 → Int32 → tt_H → Option (Int64 × tt_H)) {p : Nat} (hp : p < n2) :
    ∀ (k fu : Nat) (gc : Nat → Int64), k ≤ n1 → k < fu → (∀ j, j ≤ k → gc j = wy_N f1 f2 j p) → (∀ j, k < j → j ≤ n1 → gc j = wy_N f1 f2 j (p + 1)) → ∃ g', s_X3_choices_L40 κ fu 6 b1 b2 (nI n1) (nI p) (nI k) (va_up h0 9 (some (tt_ja 13 gc))) = κ 6 b1 b2 (nI n1) (nI (p + 1)) (va_up h0 9 (some (tt_ja 13 g'))) ∧ ∀ j, j ≤ n1 → g' j = wy_N f1 f2 j (p + 1) := by
  have l1 := c1.le
  have l2 := c2.le
  intro k
  induction k with
  | zero =>
    intro fu gc hk hfu hg1 hg2
    obtain ⟨fu, rfl⟩ : ∃ z, fu = z + 1 := ⟨fu - 1, by omega⟩
    refine ⟨gc, ?_, fun j hj => ?_⟩
    · rw [s_X3_choices_L40, if_pos (by decide), nI_1]
    · by_cases hj0 : j = 0
      · subst hj0; rw [hg1 0 (Nat.le_refl 0), wy_0, wy_0]
      · exact hg2 j (by omega) hj
  | succ k ih =>
    intro fu gc hk hfu hg1 hg2
    obtain ⟨fu, rfl⟩ : ∃ z, fu = z + 1 := ⟨fu - 1, by omega⟩
    have c1' : ∀ g : Nat → Int64, pp_cry (va_up h0 9 (some (tt_ja 13 g))) b1 n1 f1 := fun g => c1.up _ k1.1 k1.2.1
    have c2' : ∀ g : Nat → Int64, pp_cry (va_up h0 9 (some (tt_ja 13 g))) b2 n2 f2 := fun g => c2.up _ k1.2.2.1 k1.2.2.2
    have hF' : ∀ g : Nat → Int64, gg_fr (va_up h0 9 (some (tt_ja 13 g))) 6 3 2 = some 9 := fun g => pp_fr (by rw [va_up_ne _ _ (by decide)]; exact hF) rfl
    have b1 := c1.lt8 (show k < n1 by omega)
    have b2 := c2.lt8 hp
    rw [s_X3_choices_L40, if_neg (nI_nle (by omega) (by omega))]
    simp only [nI_pred, pp_cobj (c1' gc), pp_cobj (c2' gc), pp_at (c1' gc) (show k < 2 ^ 31 by omega), pp_at (c2' gc) (show p < 2 ^ 31 by omega), pp_bind]
    by_cases hw : f1 k = f2 p
    · obtain ⟨g', e1, e2⟩ := ih fu (vp_updL gc (k + 1) (gc (k + 1) + gc k)) (by omega) (by omega) (fun j hj => by rw [pk_uLn (by omega)]; exact hg1 j (by omega)) (fun j hj hj2 => by
        by_cases hjk : j = k + 1
        · rw [hjk, pk_uLs, hg1 (k + 1) (Nat.le_refl _), hg1 k (by omega), wy_N, if_pos hw]
        · rw [pk_uLn hjk]; exact hg2 j (by omega) hj2)
      refine ⟨g', ?_, e2⟩
      rw [if_pos ((pp_w_eq (by omega) hp b1 b2).mpr hw)]
      simp only [hF', pp_jl (va_up_self h0 9 (some (tt_ja 13 gc))) (show k + 1 < 13 by omega) (by decide), pp_jl (va_up_self h0 9 (some (tt_ja 13 gc))) (show k < 13 by omega) (by decide), pp_js (va_up_self h0 9 (some (tt_ja 13 gc))) (show k + 1 < 13 by omega) (by decide), bx_uu, s_X3_choices_J81, pk_m1, pp_bind]
      exact e1
    · obtain ⟨g', e1, e2⟩ := ih fu gc (by omega) (by omega) (fun j hj => hg1 j (by omega)) (fun j hj hj2 => by
        by_cases hjk : j = k + 1
        · rw [hjk, hg1 (k + 1) (Nat.le_refl _), wy_N, if_neg hw, Int64.add_zero]
        · exact hg2 j (by omega) hj2)
      refine ⟨g', ?_, e2⟩
      rw [if_neg (fun z => hw ((pp_w_eq (by omega) hp b1 b2).mp z))]
      simp only [s_X3_choices_J81, pk_m1]
      exact e1
theorem wy_c2 (c1 : pp_cry h0 b1 n1 f1) (c2 : pp_cry h0 b2 n2 f2) (hF : h0 6 = some (tt_ob 3 [.ref 7, .ref 8, .ref 9])) (k1 : b1 ≠ 9 ∧ b1 + 1 ≠ 9 ∧ b2 ≠ 9 ∧ b2 + 1 ≠ 9) :
    ∀ (s p fu : Nat) (gc : Nat → Int64), p + s = n2 → s < fu → (∀ j, j ≤ n1 → gc j = wy_N f1 f2 j p) → ∃ g', s_X3_choices_L28 fu 6 b1 b2 (nI n1) (nI p) (va_up h0 9 (some (tt_ja 13 gc))) = some (wy_N f1 f2 n1 n2, va_up h0 9 (some (tt_ja 13 g'))) := by
  have l1 := c1.le
  have l2 := c2.le
  intro s
  induction s with
  | zero =>
    intro p fu gc hp hfu hg
    obtain ⟨fu, rfl⟩ : ∃ z, fu = z + 1 := ⟨fu - 1, by omega⟩
    obtain rfl : p = n2 := by omega
    have c2' : pp_cry (va_up h0 9 (some (tt_ja 13 gc))) b2 p f2 := c2.up _ k1.2.2.1 k1.2.2.2
    refine ⟨gc, ?_⟩
    rw [s_X3_choices_L28]
    simp only [pp_cobj c2', pp_size c2', nI_le (Nat.le_refl p) (show p < 2 ^ 31 by omega), pp_fr (show va_up h0 9 (some (tt_ja 13 gc)) 6 = some (tt_ob 3 [.ref 7, .ref 8, .ref 9]) by rw [va_up_ne _ _ (by decide)]; exact hF) (k := 2) (v := 9) rfl, pp_jl (va_up_self h0 9 (some (tt_ja 13 gc))) (show n1 < 13 by omega) (by decide), pp_bind, ↓reduceIte]
    rw [hg n1 (Nat.le_refl _)]
  | succ s ih =>
    intro p fu gc hp hfu hg
    obtain ⟨fu, rfl⟩ : ∃ z, fu = z + 1 := ⟨fu - 1, by omega⟩
    have c2' : pp_cry (va_up h0 9 (some (tt_ja 13 gc))) b2 n2 f2 := c2.up _ k1.2.2.1 k1.2.2.2
    obtain ⟨g1, e1, e2⟩ := wy_c1 c1 c2 hF k1 (s_X3_choices_L28 fu) (show p < n2 by omega) n1 1000 gc (Nat.le_refl _) (by omega) hg (fun j h1 h2 => by omega)
    obtain ⟨g2, e3⟩ := ih (p + 1) fu g1 (by omega) (by omega) e2
    refine ⟨g2, ?_⟩
    rw [s_X3_choices_L28]
    simp only [pp_cobj c2', pp_size c2', nI_ge (show p < n2 by omega) (show n2 < 2 ^ 31 by omega), pp_bind, ↓reduceIte]
    rw [e1, e3]
theorem wy_c (c1 : pp_cry h0 b1 n1 f1) (c2 : pp_cry h0 b2 n2 f2) (hF : h0 6 = some (tt_ob 3 [.ref 7, .ref 8, .ref 9])) (k1 : b1 ≠ 9 ∧ b1 + 1 ≠ 9 ∧ b2 ≠ 9 ∧ b2 + 1 ≠ 9) {g9 : Nat → Int64} (h9 : h0 9 = some (tt_ja 13 g9)) :
    ∃ g', s_X3_choices 6 b1 b2 h0 = some (wy_N f1 f2 n1 n2, va_up h0 9 (some (tt_ja 13 g'))) := by
  have l1 := c1.le
  obtain ⟨g1, e1, e2⟩ := fl_JJ (y := 0) h9 (by decide)
  obtain ⟨g2, e3⟩ := wy_c2 c1 c2 hF k1 n2 0 1000 (vp_updL g1 0 1) (by omega) (by have := c2.le; omega) (fun j hj => by
    cases j with
    | zero => rw [pk_uLs]; rfl
    | succ j => rw [pk_uLn (by omega), e2 _ (by omega)]; rfl)
  refine ⟨g2, ?_⟩
  unfold s_X3_choices
  simp only [pp_cobj c1, pp_size c1, pp_fr hF (k := 2) (v := 9) rfl, e1, pp_fr (show va_up h0 9 (some (tt_ja 13 g1)) 6 = some (tt_ob 3 [.ref 7, .ref 8, .ref 9]) by rw [va_up_ne _ _ (by decide)]; exact hF) (k := 2) (v := 9) rfl, pp_bind]
  rw [show (0 : Int32) = nI 0 from rfl, pp_js (va_up_self h0 9 (some (tt_ja 13 g1))) (show 0 < 13 by omega) (by decide), pp_bind, bx_uu, if_neg (show ¬ (12 : Int32) < nI n1 from nI_nlt (a := 12) (b := n1) l1 (by omega))]
  exact e3
theorem sp_m (i j : Nat) (h : tt_H) : s_X9_spot (nI i) (nI j) h = some (nI (13 * i + j), h) := by
  unfold s_X9_spot
  rw [pp_lit 13, pk_mul, nI_add]
theorem wy_m1 (c1 : pp_m h0 d1 n1 f1) (c2 : pp_m h0 d2 n2 f2) (κ : Nat → Int32 → Int32 → Int32 → Int32 → tt_H → Option (Int64 × tt_H)) {j : Nat} (hj : j ≤ n2) :
    ∀ (s i fu : Nat) (gc : Nat → Int64), i + s = n1 + 1 → s < fu → (∀ a c, a ≤ n1 → c < j → gc (13 * a + c) = wy_N f1 f2 a c) → (∀ a, a < i → gc (13 * a + j) = wy_N f1 f2 a j) → ∃ g', s_X9_ways_L44 κ fu 49 (nI d1) (nI d2) (nI n1) (nI j) (nI i) (va_up h0 61 (some (tt_ja 169 gc))) = κ 49 (nI d1) (nI d2) (nI n1) (nI (j + 1)) (va_up h0 61 (some (tt_ja 169 g'))) ∧ ∀ a c, a ≤ n1 → c < j + 1 → g' (13 * a + c) = wy_N f1 f2 a c := by
  have l1 := c1.le
  have l2 := c2.le
  intro s
  induction s with
  | zero =>
    intro i fu gc hi hfu hg1 hg2
    obtain ⟨fu, rfl⟩ : ∃ z, fu = z + 1 := ⟨fu - 1, by omega⟩
    refine ⟨gc, ?_, fun a c ha hc => ?_⟩
    · rw [s_X9_ways_L44, if_pos (nI_lt (by omega) (by omega)), nI_1]
    · by_cases hcj : c = j
      · subst hcj; exact hg2 a (by omega)
      · exact hg1 a c ha (by omega)
  | succ s ih =>
    intro i fu gc hi hfu hg1 hg2
    obtain ⟨fu, rfl⟩ : ∃ z, fu = z + 1 := ⟨fu - 1, by omega⟩
    have hmo : ∀ g : Nat → Int64, pp_mo (va_up h0 61 (some (tt_ja 169 g))) := fun g => c1.1.up _ (by decide)
    have c1' : ∀ g : Nat → Int64, pp_m (va_up h0 61 (some (tt_ja 169 g))) d1 n1 f1 := fun g => c1.up _ (by decide)
    have c2' : ∀ g : Nat → Int64, pp_m (va_up h0 61 (some (tt_ja 169 g))) d2 n2 f2 := fun g => c2.up _ (by decide)
    obtain ⟨g', e1, e2⟩ := ih (i + 1) fu (vp_updL gc (13 * i + j) (wy_N f1 f2 i j)) (by omega) (by omega) (fun a c ha hc => by rw [pk_uLn (by omega)]; exact hg1 a c ha hc) (fun a ha => by
      by_cases hai : a = i
      · rw [hai, pk_uLs]
      · rw [pk_uLn (by omega)]; exact hg2 a (by omega))
    refine ⟨g', ?_, e2⟩
    have hw : ∀ v : Int64, v = wy_N f1 f2 i j → s_X9_ways_J130 (s_X9_ways_L44 κ fu) 49 (nI d1) (nI d2) (nI n1) (nI j) (nI i) v (va_up h0 61 (some (tt_ja 169 gc))) = κ 49 (nI d1) (nI d2) (nI n1) (nI (j + 1)) (va_up h0 61 (some (tt_ja 169 g'))) := by
      rintro v rfl
      unfold s_X9_ways_J130
      simp only [mo_19 (hmo gc), sp_m, pp_js (va_up_self h0 61 (some (tt_ja 169 gc))) (show 13 * i + j < 169 by omega) (by decide), bx_uu, nI_1, pp_bind]
      exact e1
    rw [s_X9_ways_L44, if_neg (nI_nlt (by omega) (by omega))]
    cases i with
    | zero =>
      rw [if_pos (by rfl), s_X9_ways_J60, if_pos (by decide)]
      exact hw 1 (wy_0 f1 f2 j).symm
    | succ i =>
      have hne : ¬ nI (i + 1) = 0 := nI_ne0 (by omega) (by omega)
      rw [if_neg hne, s_X9_ways_J60, if_neg (nI_nle (by omega) (by omega))]
      cases j with
      | zero =>
        rw [if_pos (by decide)]
        exact hw 0 rfl
      | succ j =>
        have b1 := c1.lt8 (show i < n1 by omega)
        have b2 := c2.lt8 (show j < n2 by omega)
        rw [if_neg (nI_nle (by omega) (by omega))]
        simp only [mo_19 (hmo gc), (hmo gc).b, nI_pred, sp_m, pp_jl (va_up_self h0 61 (some (tt_ja 169 gc))) (show 13 * (i + 1) + j < 169 by omega) (by decide), pp_mw (c1' gc) (show i < n1 by omega), pp_mw (c2' gc) (show j < n2 by omega), pp_bind]
        by_cases hf : f1 i = f2 j
        · rw [if_pos (by rw [hf])]
          simp only [pp_jl (va_up_self h0 61 (some (tt_ja 169 gc))) (show 13 * i + j < 169 by omega) (by decide), s_X9_ways_J127, pp_bind]
          exact hw _ (by rw [hg1 (i + 1) j (by omega) (by omega), hg1 i j (by omega) (by omega), wy_s, if_pos hf])
        · rw [if_neg (fun z => hf ((nI_eq (by omega) (by omega)).mp z))]
          simp only [s_X9_ways_J127]
          exact hw _ (by rw [hg1 (i + 1) j (by omega) (by omega), wy_s, if_neg hf])
theorem wy_m2 (c1 : pp_m h0 d1 n1 f1) (c2 : pp_m h0 d2 n2 f2) :
    ∀ (s j fu : Nat) (gc : Nat → Int64), j + s = n2 + 1 → s < fu → (∀ a c, a ≤ n1 → c < j → gc (13 * a + c) = wy_N f1 f2 a c) → ∃ g', s_X9_ways_L30 fu 49 (nI d1) (nI d2) (nI n1) (nI j) (va_up h0 61 (some (tt_ja 169 gc))) = some (wy_N f1 f2 n1 n2, va_up h0 61 (some (tt_ja 169 g'))) := by
  have l1 := c1.le
  have l2 := c2.le
  intro s
  induction s with
  | zero =>
    intro j fu gc hj hfu hg
    obtain ⟨fu, rfl⟩ : ∃ z, fu = z + 1 := ⟨fu - 1, by omega⟩
    have hmo : pp_mo (va_up h0 61 (some (tt_ja 169 gc))) := c1.1.up _ (by decide)
    have c2' : pp_m (va_up h0 61 (some (tt_ja 169 gc))) d2 n2 f2 := c2.up _ (by decide)
    refine ⟨gc, ?_⟩
    rw [s_X9_ways_L30]
    simp only [mo_7 hmo, mo_19 hmo, pp_mlen c2', nI_lt (show n2 < j by omega) (show j < 2 ^ 31 by omega), sp_m, pp_jl (va_up_self h0 61 (some (tt_ja 169 gc))) (show 13 * n1 + n2 < 169 by omega) (by decide), pp_bind, ↓reduceIte]
    rw [hg n1 n2 (Nat.le_refl _) (by omega)]
  | succ s ih =>
    intro j fu gc hj hfu hg
    obtain ⟨fu, rfl⟩ : ∃ z, fu = z + 1 := ⟨fu - 1, by omega⟩
    have hmo : pp_mo (va_up h0 61 (some (tt_ja 169 gc))) := c1.1.up _ (by decide)
    have c2' : pp_m (va_up h0 61 (some (tt_ja 169 gc))) d2 n2 f2 := c2.up _ (by decide)
    obtain ⟨g1, e1, e2⟩ := wy_m1 c1 c2 (s_X9_ways_L30 fu) (show j ≤ n2 by omega) (n1 + 1) 0 1000 gc (by omega) (by omega) hg (fun a ha => absurd ha (Nat.not_lt_zero a))
    obtain ⟨g2, e3⟩ := ih (j + 1) fu g1 (by omega) (by omega) e2
    refine ⟨g2, ?_⟩
    rw [s_X9_ways_L30]
    simp only [mo_7 hmo, pp_mlen c2', nI_nlt (show j ≤ n2 by omega) (show n2 < 2 ^ 31 by omega), pp_bind, ↓reduceIte]
    exact e1.trans e3
end WY
theorem E_ways {h : tt_H} (hI : pp_Inv h) (x1 x2 : Int32) : pp_G (s_X8_ways 0 x1 x2) (s_X9_ways 49 x1 x2) h := by
  obtain ⟨⟨kn, dc, sz, wd, so, sl, sc, tr, ft⟩, hV, ha, hm⟩ := hI
  have hdc : dc ≤ 6 := hV.2.1
  rcases pp_rng dc (by omega) x1 with ⟨d1, hd1, rfl⟩ | h1
  · have c1 := ca_cry hV ha.1 hd1
    have l1 := c1.le
    rcases pp_rng dc (by omega) x2 with ⟨d2, hd2, rfl⟩ | h2
    · have c2 := ca_cry hV ha.1 hd2
      have l2 := c2.le
      refine pp_G.of (wy_N (wd d1) (wd d2) (sz d1) (sz d2)) ha hm hV ?_ (fun h hm => ?_)
      · obtain ⟨g9, e9⟩ := ha.2.2.1 (9, 13) (by decide)
        have hF : h 6 = some (tt_ob 3 [.ref 7, .ref 8, .ref 9]) := by obtain ⟨-, -, -, -, -, -, -, e, -⟩ := ha.1; exact e
        obtain ⟨g, e1⟩ := wy_c c1 c2 hF (by omega) e9
        refine ⟨_, ?_, ha.upJ (p := 9) (N := 13) (by decide) g, fun i hi => va_up_ne _ _ (by omega)⟩
        unfold s_X8_ways
        simp only [ca_b ha.1, ca_in hV ha.1 hd1, ca_in hV ha.1 hd2, gg_opt_some, ca_4 ha.1, ca_fit ha.1, e1, pp_bind]
      · obtain ⟨g61, e61⟩ := hm.2.2 (61, 169) (by decide)
        have m1 := ma_day hV hm.1 hd1
        obtain ⟨g, e1⟩ := wy_m2 m1 (ma_day hV hm.1 hd2) (sz d2 + 1) 0 1000 g61 (by omega) (by omega) (fun a c _ hc => absurd hc (Nat.not_lt_zero c))
        rw [pp_same e61] at e1
        refine ⟨_, ?_, hm.upJ (p := 61) (N := 169) (by decide) g, fun i hi => va_up_ne _ _ (by omega)⟩
        unfold s_X9_ways
        simp only [(ma_o hm.1).b, ma_in hV hm.1 hd1, ma_in hV hm.1 hd2, mo_7 (ma_o hm.1), pp_mlen m1, pp_bind, pn_10, ↓reduceIte]
        exact e1
    · refine pp_G.rd (-9223372036854775808) hV ha hm ?_ (fun h hm => ?_)
      · unfold s_X8_ways
        simp only [ca_b ha.1, ca_in hV ha.1 hd1, ca_out ha.1 h2, gg_opt_some, gg_opt_none, pp_bind]
      · unfold s_X9_ways
        simp only [(ma_o hm.1).b, ma_in hV hm.1 hd1, ma_out hm.1 h2, pp_bind, pn_10, pn_00, ↓reduceIte]
  · refine pp_G.rd (-9223372036854775808) hV ha hm ?_ (fun h hm => ?_)
    · unfold s_X8_ways
      rcases pp_rng dc (by omega) x2 with ⟨d2, hd2, rfl⟩ | h2
      · simp only [ca_b ha.1, ca_out ha.1 h1, ca_in hV ha.1 hd2, gg_opt_none, pp_bind]
      · simp only [ca_b ha.1, ca_out ha.1 h1, ca_out ha.1 h2, gg_opt_none, pp_bind]
    · unfold s_X9_ways
      simp only [(ma_o hm.1).b, ma_out hm.1 h1, pp_bind, pn_00, ↓reduceIte]

/-! BREATHS -/
def bi_R (g : Nat → Int32) : Nat → Nat → Int32 → Int32
  | 0, _, c => c
  | s + 1, q, c => bi_R g s (q + 1) (if g q = -9 then c else if c = -9 then g q + 1 else if c ≤ g q + 1 then c else g q + 1)
def br_T (kn f : Nat → Nat) (n b : Nat) : Nat → Nat → Int32
  | 0 => fun _ => 0
  | k + 1 => fun j => if j = k + 1 then (if k + 1 = n ∨ kn (f k) = 0 then bi_R (br_T kn f n b k) (k + 1 - (k + 1 - b)) (k + 1 - b) (-9) else -9) else br_T kn f n b k j
theorem bi_cong {g g' : Nat → Int32} : ∀ (s q : Nat) (c : Int32), (∀ j, q ≤ j → j < q + s → g j = g' j) → bi_R g s q c = bi_R g' s q c
  | 0, _, _, _ => rfl
  | s + 1, q, c, h => by
    rw [bi_R, bi_R, h q (Nat.le_refl q) (by omega), bi_cong s (q + 1) _ (fun j h1 h2 => h j (by omega) (by omega))]
theorem br_sub : ∀ k, k < 13 → ∀ b, b < 13 → (if 0 < nI k - nI b then nI k - nI b else 0) = nI (k - b) ∧ (0 ≤ nI k - nI b → nI k - nI b = nI (k - b)) ∧ (¬ 0 ≤ nI k - nI b → (0 : Int32) = nI (k - b)) := by decide
section BR
variable {kn : Nat → Nat} {dc : Nat} {sz : Nat → Nat} {wd : Nat → Nat → Nat} {so sl : Nat → Nat} {sc : Nat → Nat → Int32} {tr ft : Int32} {h0 : tt_H} {b1 d n b : Nat} {f : Nat → Nat}
theorem br_ci (ha : cc_A (kn, dc, sz, wd, so, sl, sc, tr, ft) h0) (κ : Nat → Nat → Int32 → Int32 → Int32 → tt_H → Option (Int32 × tt_H)) {k : Nat} (hk : k < 13) (xb xn : Int32) :
    ∀ (s q fu : Nat) (gc : Nat → Int32), q + s = k → s < fu → ∃ g', s_X8_fewestBreaths_L69 κ fu 0 b1 xb xn (nI k) (nI q) (va_up h0 28 (some (tt_ia 13 gc))) = κ 0 b1 xb xn (nI k) (va_up h0 28 (some (tt_ia 13 g'))) ∧ (∀ j, j ≠ k → g' j = gc j) ∧ g' k = bi_R gc s q (gc k) := by
  intro s
  induction s with
  | zero =>
    intro q fu gc hq hfu
    obtain ⟨fu, rfl⟩ : ∃ z, fu = z + 1 := ⟨fu - 1, by omega⟩
    refine ⟨gc, ?_, fun _ _ => rfl, rfl⟩
    rw [s_X8_fewestBreaths_L69, if_pos (nI_le (by omega) (by omega))]
  | succ s ih =>
    intro q fu gc hq hfu
    obtain ⟨fu, rfl⟩ : ∃ z, fu = z + 1 := ⟨fu - 1, by omega⟩
    have hA : ∀ g : Nat → Int32, cc_A (kn, dc, sz, wd, so, sl, sc, tr, ft) (va_up h0 28 (some (tt_ia 13 g))) := fun g => ha.upI (p := 28) (N := 13) (by decide) g
    have keep : ∀ c' : Int32, c' = (if gc q = -9 then gc k else if gc k = -9 then gc q + 1 else if gc k ≤ gc q + 1 then gc k else gc q + 1) → ∀ g1 : Nat → Int32, (∀ j, j ≠ k → g1 j = gc j) → g1 k = c' → ∃ g', s_X8_fewestBreaths_L69 κ fu 0 b1 xb xn (nI k) (nI (q + 1)) (va_up h0 28 (some (tt_ia 13 g1))) = κ 0 b1 xb xn (nI k) (va_up h0 28 (some (tt_ia 13 g'))) ∧ (∀ j, j ≠ k → g' j = gc j) ∧ g' k = bi_R gc (s + 1) q (gc k) := by
      intro c' hc' g1 hg1 hg2
      obtain ⟨g', e1, e2, e3⟩ := ih (q + 1) fu g1 (by omega) (by omega)
      refine ⟨g', e1, fun j hj => (e2 j hj).trans (hg1 j hj), ?_⟩
      rw [e3, hg2, bi_R, ← hc']
      exact bi_cong s (q + 1) c' (fun j h1 h2 => hg1 j (by omega))
    rw [s_X8_fewestBreaths_L69, if_neg (nI_ge (by omega) (by omega))]
    simp only [ca_9 (hA gc).1, pp_il (va_up_self h0 28 (some (tt_ia 13 gc))) (show q < 13 by omega) (by decide), pp_il (va_up_self h0 28 (some (tt_ia 13 gc))) hk (by decide), pp_bind]
    have wr : ∀ x : Int32, s_X8_fewestBreaths_J123 (s_X8_fewestBreaths_J132 (s_X8_fewestBreaths_L69 κ fu)) 0 b1 xb xn (nI k) (nI q) x (va_up h0 28 (some (tt_ia 13 gc))) = s_X8_fewestBreaths_L69 κ fu 0 b1 xb xn (nI k) (nI (q + 1)) (va_up h0 28 (some (tt_ia 13 (upd gc k x)))) := by
      intro x
      unfold s_X8_fewestBreaths_J123 s_X8_fewestBreaths_J132
      simp only [ca_9 (hA gc).1, pp_is (va_up_self h0 28 (some (tt_ia 13 gc))) hk (by decide), bx_uu, nI_1, pp_bind]
    by_cases h1 : gc q = -9
    · rw [if_pos h1, s_X8_fewestBreaths_J132, nI_1]
      exact keep _ rfl gc (fun _ _ => rfl) (by rw [if_pos h1])
    · rw [if_neg h1]
      by_cases h2 : gc k = -9
      · rw [if_pos h2, wr]
        exact keep _ rfl _ (fun j hj => pk_un hj) (by rw [pk_us, if_neg h1, if_pos h2])
      · rw [if_neg h2]
        by_cases h3 : gc k ≤ gc q + 1
        · rw [if_pos h3, s_X8_fewestBreaths_J132, nI_1]
          exact keep _ rfl gc (fun _ _ => rfl) (by rw [if_neg h1, if_neg h2, if_pos h3])
        · rw [if_neg h3, wr]
          exact keep _ rfl _ (fun j hj => pk_un hj) (by rw [pk_us, if_neg h1, if_neg h2, if_neg h3])
theorem br_co (hV : pp_V (kn, dc, sz, wd, so, sl, sc, tr, ft)) (ha : cc_A (kn, dc, sz, wd, so, sl, sc, tr, ft) h0) (c1 : pp_cry h0 b1 n f) (k1 : 29 ≤ b1) (hb : b < 13) :
    ∀ (s k fu : Nat) (gc : Nat → Int32), k + s = n → s < fu → (∀ j, j ≤ k → gc j = br_T kn f n b k j) → ∃ g', s_X8_fewestBreaths_L20 fu 0 b1 (nI b) (nI n) (nI (k + 1)) (va_up h0 28 (some (tt_ia 13 gc))) = some (br_T kn f n b n n, va_up h0 28 (some (tt_ia 13 g'))) := by
  have l1 := c1.le
  intro s
  induction s with
  | zero =>
    intro k fu gc hk hfu hg
    obtain ⟨fu, rfl⟩ : ∃ z, fu = z + 1 := ⟨fu - 1, by omega⟩
    obtain rfl : k = n := by omega
    have hA : cc_A (kn, dc, sz, wd, so, sl, sc, tr, ft) (va_up h0 28 (some (tt_ia 13 gc))) := ha.upI (p := 28) (N := 13) (by decide) gc
    refine ⟨gc, ?_⟩
    rw [s_X8_fewestBreaths_L20, if_pos (nI_lt (by omega) (by omega))]
    simp only [ca_9 hA.1, pp_il (va_up_self h0 28 (some (tt_ia 13 gc))) (show k < 13 by omega) (by decide), pp_bind]
    rw [hg k (Nat.le_refl k)]
  | succ s ih =>
    intro k fu gc hk hfu hg
    obtain ⟨fu, rfl⟩ : ∃ z, fu = z + 1 := ⟨fu - 1, by omega⟩
    have hA : ∀ g : Nat → Int32, cc_A (kn, dc, sz, wd, so, sl, sc, tr, ft) (va_up h0 28 (some (tt_ia 13 g))) := fun g => ha.upI (p := 28) (N := 13) (by decide) g
    have c1' : ∀ g : Nat → Int32, pp_cry (va_up h0 28 (some (tt_ia 13 g))) b1 n f := fun g => c1.up _ (by omega) (by omega)
    have b8 := c1.lt8 (show k < n by omega)
    have hk3 := kn_lt hV b8
    obtain ⟨g1, e1, e2, e3⟩ := br_ci (b1 := b1) ha (s_X8_fewestBreaths_J138 (s_X8_fewestBreaths_L20 fu)) (show k + 1 < 13 by omega) (nI b) (nI n) (k + 1 - (k + 1 - b)) (k + 1 - b) 1000 (upd gc (k + 1) (-9)) (by omega) (by omega)
    rw [pk_us] at e3
    have go : ∀ g2 : Nat → Int32, (∀ j, j ≠ k + 1 → g2 j = gc j) → g2 (k + 1) = br_T kn f n b (k + 1) (k + 1) → ∃ g', s_X8_fewestBreaths_J138 (s_X8_fewestBreaths_L20 fu) 0 b1 (nI b) (nI n) (nI (k + 1)) (va_up h0 28 (some (tt_ia 13 g2))) = some (br_T kn f n b n n, va_up h0 28 (some (tt_ia 13 g'))) := by
      intro g2 h1 h2
      rw [s_X8_fewestBreaths_J138, nI_1]
      refine ih (k + 1) fu g2 (by omega) (by omega) (fun j hj => ?_)
      by_cases hjk : j = k + 1
      · rw [hjk, h2]
      · rw [h1 j hjk, hg j (by omega)]
        show _ = (if j = k + 1 then _ else br_T kn f n b k j)
        rw [if_neg hjk]
    have hcell : (k + 1 = n ∨ kn (f k) = 0) → br_T kn f n b (k + 1) (k + 1) = g1 (k + 1) := fun hc => by
      show (if k + 1 = k + 1 then (if k + 1 = n ∨ kn (f k) = 0 then bi_R (br_T kn f n b k) (k + 1 - (k + 1 - b)) (k + 1 - b) (-9) else -9) else _) = _
      rw [if_pos rfl, if_pos hc, e3]
      exact bi_cong _ _ _ (fun j h1 h2 => by rw [pk_un (by omega), hg j (by omega)])
    have hJ : s_X8_fewestBreaths_J59 (s_X8_fewestBreaths_J138 (s_X8_fewestBreaths_L20 fu)) 0 b1 (nI b) (nI n) (nI (k + 1)) (va_up h0 28 (some (tt_ia 13 (upd gc (k + 1) (-9))))) = s_X8_fewestBreaths_J138 (s_X8_fewestBreaths_L20 fu) 0 b1 (nI b) (nI n) (nI (k + 1)) (va_up h0 28 (some (tt_ia 13 g1))) := by
      rw [s_X8_fewestBreaths_J59, (br_sub (k + 1) (by omega) b hb).1]
      exact e1
    rw [s_X8_fewestBreaths_L20, if_neg (nI_nlt (by omega) (by omega))]
    simp only [ca_9 (hA gc).1, pp_is (va_up_self h0 28 (some (tt_ia 13 gc))) (show k + 1 < 13 by omega) (by decide), bx_uu, pp_bind]
    by_cases hkn : k + 1 = n
    · rw [if_pos (nI_le (by omega) (by omega)), hJ]
      exact go g1 (fun j hj => by rw [e2 j hj, pk_un hj]) (hcell (Or.inl hkn)).symm
    · rw [if_neg (nI_ge (by omega) (by omega))]
      have hk1 : nI (k + 1) - 1 = nI k := nI_pred k
      simp only [hk1, pp_cobj (c1' _), pp_at (c1' _) (show k < 2 ^ 31 by omega), pp_w_in (show k < n by omega), ca_b (hA _).1, s_X8_isDenial, iw_in b8, ca_0 (hA _).1, ca_kind (hA _).1 b8, pp_bind, pn_10, ↓reduceIte]
      by_cases hz : kn (f k) = 0
      · have : nI (kn (f k)) < 1 := by rw [hz]; decide
        simp only [this, pp_bind, ↓reduceIte]
        rw [hJ]
        exact go g1 (fun j hj => by rw [e2 j hj, pk_un hj]) (hcell (Or.inr hz)).symm
      · have : ¬ nI (kn (f k)) < 1 := nI_nlt (b := 1) (by omega) (by omega)
        simp only [this, pp_bind, pn_10, ↓reduceIte]
        refine go _ (fun j hj => pk_un hj) ?_
        rw [pk_us]
        show _ = (if k + 1 = k + 1 then (if k + 1 = n ∨ kn (f k) = 0 then bi_R (br_T kn f n b k) (k + 1 - (k + 1 - b)) (k + 1 - b) (-9) else -9) else _)
        rw [if_pos rfl, if_neg (fun z => z.elim hkn hz)]
theorem br_mi (hm : mm_A (kn, dc, sz, wd, so, sl, sc, tr, ft) h0) (κ : Nat → Int32 → Int32 → Int32 → Int32 → tt_H → Option (Int32 × tt_H)) {k : Nat} (hk : k < 13) (xd xb xn : Int32) :
    ∀ (s q fu : Nat) (gc : Nat → Int32), q + s = k → s < fu → ∃ g', s_X9_breaths_L102 κ fu 49 xd xb xn (nI k) 1 (nI q) (va_up h0 67 (some (tt_ia 13 gc))) = κ 49 xd xb xn (nI (k + 1)) (va_up h0 67 (some (tt_ia 13 g'))) ∧ (∀ j, j ≠ k → g' j = gc j) ∧ g' k = bi_R gc s q (gc k) := by
  intro s
  induction s with
  | zero =>
    intro q fu gc hq hfu
    obtain ⟨fu, rfl⟩ : ∃ z, fu = z + 1 := ⟨fu - 1, by omega⟩
    refine ⟨gc, ?_, fun _ _ => rfl, rfl⟩
    rw [s_X9_breaths_L102, if_pos (nI_le (by omega) (by omega)), s_X9_breaths_J201, nI_1]
  | succ s ih =>
    intro q fu gc hq hfu
    obtain ⟨fu, rfl⟩ : ∃ z, fu = z + 1 := ⟨fu - 1, by omega⟩
    have hmo : ∀ g : Nat → Int32, pp_mo (va_up h0 67 (some (tt_ia 13 g))) := fun g => (ma_o hm.1).up _ (by decide)
    have keep : ∀ c' : Int32, c' = (if gc q = -9 then gc k else if gc k = -9 then gc q + 1 else if gc k ≤ gc q + 1 then gc k else gc q + 1) → ∃ g', s_X9_breaths_L102 κ fu 49 xd xb xn (nI k) 1 (nI (q + 1)) (va_up h0 67 (some (tt_ia 13 (upd gc k c')))) = κ 49 xd xb xn (nI (k + 1)) (va_up h0 67 (some (tt_ia 13 g'))) ∧ (∀ j, j ≠ k → g' j = gc j) ∧ g' k = bi_R gc (s + 1) q (gc k) := by
      intro c' hc'
      obtain ⟨g', e1, e2, e3⟩ := ih (q + 1) fu (upd gc k c') (by omega) (by omega)
      refine ⟨g', e1, fun j hj => (e2 j hj).trans (pk_un hj), ?_⟩
      rw [e3, pk_us, bi_R, ← hc']
      exact bi_cong s (q + 1) c' (fun j h1 h2 => pk_un (by omega))
    have w0 : s_X9_breaths_J161 (s_X9_breaths_J162 (s_X9_breaths_L102 κ fu)) 49 xd xb xn (nI k) 1 (nI q) (va_up h0 67 (some (tt_ia 13 gc))) = s_X9_breaths_L102 κ fu 49 xd xb xn (nI k) 1 (nI (q + 1)) (va_up h0 67 (some (tt_ia 13 (upd gc k (gc k))))) := by
      unfold s_X9_breaths_J161 s_X9_breaths_J162 s_X9_breaths_J194
      simp only [mo_25 (hmo gc), pp_il (va_up_self h0 67 (some (tt_ia 13 gc))) hk (by decide), pp_is (va_up_self h0 67 (some (tt_ia 13 gc))) hk (by decide), bx_uu, nI_1, pp_bind, pn_00, ↓reduceIte]
    have w1 : s_X9_breaths_J157 (s_X9_breaths_J162 (s_X9_breaths_L102 κ fu)) 49 xd xb xn (nI k) 1 (nI q) (va_up h0 67 (some (tt_ia 13 gc))) = s_X9_breaths_L102 κ fu 49 xd xb xn (nI k) 1 (nI (q + 1)) (va_up h0 67 (some (tt_ia 13 (upd gc k (gc q + 1))))) := by
      unfold s_X9_breaths_J157 s_X9_breaths_J162 s_X9_breaths_J194
      simp only [mo_25 (hmo gc), pp_il (va_up_self h0 67 (some (tt_ia 13 gc))) (show q < 13 by omega) (by decide), pp_is (va_up_self h0 67 (some (tt_ia 13 gc))) hk (by decide), bx_uu, nI_1, pp_bind, pn_10, ↓reduceIte]
    rw [s_X9_breaths_L102, if_neg (nI_ge (by omega) (by omega)), if_neg (by decide)]
    simp only [mo_25 (hmo gc), pp_il (va_up_self h0 67 (some (tt_ia 13 gc))) (show q < 13 by omega) (by decide), pp_il (va_up_self h0 67 (some (tt_ia 13 gc))) hk (by decide), pp_bind]
    by_cases h1 : gc q = -9
    · rw [if_pos h1, w0]
      exact keep _ (by rw [if_pos h1])
    · rw [if_neg h1]
      by_cases h2 : gc k = -9
      · rw [if_pos h2, w1]
        exact keep _ (by rw [if_neg h1, if_pos h2])
      · rw [if_neg h2]
        by_cases h3 : gc k ≤ gc q + 1
        · rw [if_pos h3, w0]
          exact keep _ (by rw [if_neg h1, if_neg h2, if_pos h3])
        · rw [if_neg h3, w1]
          exact keep _ (by rw [if_neg h1, if_neg h2, if_neg h3])
theorem br_m0 (κ : Nat → Int32 → Int32 → Int32 → Int32 → tt_H → Option (Int32 × tt_H)) (k : Nat) (xd xb xn xq : Int32) (h : tt_H) : s_X9_breaths_L102 κ 1000 49 xd xb xn (nI k) 0 xq h = κ 49 xd xb xn (nI (k + 1)) h := by
  rw [s_X9_breaths_L102, s_X9_breaths_J201, nI_1, if_pos rfl]
  split <;> rfl
theorem br_mo (hV : pp_V (kn, dc, sz, wd, so, sl, sc, tr, ft)) (hm : mm_A (kn, dc, sz, wd, so, sl, sc, tr, ft) h0) (c1 : pp_m h0 d n f) (hb : b < 13) :
    ∀ (s k fu : Nat) (gc : Nat → Int32), k + s = n → s < fu → (∀ j, j ≤ k → gc j = br_T kn f n b k j) → ∃ g', s_X9_breaths_L40 fu 49 (nI d) (nI b) (nI n) (nI (k + 1)) (va_up h0 67 (some (tt_ia 13 gc))) = some (br_T kn f n b n n, va_up h0 67 (some (tt_ia 13 g'))) := by
  have l1 := c1.le
  intro s
  induction s with
  | zero =>
    intro k fu gc hk hfu hg
    obtain ⟨fu, rfl⟩ : ∃ z, fu = z + 1 := ⟨fu - 1, by omega⟩
    obtain rfl : k = n := by omega
    have hmo : pp_mo (va_up h0 67 (some (tt_ia 13 gc))) := (ma_o hm.1).up _ (by decide)
    refine ⟨gc, ?_⟩
    rw [s_X9_breaths_L40, if_pos (nI_lt (by omega) (by omega))]
    simp only [mo_25 hmo, pp_il (va_up_self h0 67 (some (tt_ia 13 gc))) (show k < 13 by omega) (by decide), pp_bind]
    rw [hg k (Nat.le_refl k)]
  | succ s ih =>
    intro k fu gc hk hfu hg
    obtain ⟨fu, rfl⟩ : ∃ z, fu = z + 1 := ⟨fu - 1, by omega⟩
    have hA : ∀ g : Nat → Int32, mm_A (kn, dc, sz, wd, so, sl, sc, tr, ft) (va_up h0 67 (some (tt_ia 13 g))) := fun g => hm.upI (p := 67) (N := 13) (by decide) g
    have c1' : ∀ g : Nat → Int32, pp_m (va_up h0 67 (some (tt_ia 13 g))) d n f := fun g => c1.up _ (by decide)
    have b8 := c1.lt8 (show k < n by omega)
    have hk3 := kn_lt hV b8
    obtain ⟨g1, e1, e2, e3⟩ := br_mi hm (s_X9_breaths_L40 fu) (show k + 1 < 13 by omega) (nI d) (nI b) (nI n) (k + 1 - (k + 1 - b)) (k + 1 - b) 1000 (upd gc (k + 1) (-9)) (by omega) (by omega)
    rw [pk_us] at e3
    have go : ∀ g2 : Nat → Int32, (∀ j, j ≠ k + 1 → g2 j = gc j) → g2 (k + 1) = br_T kn f n b (k + 1) (k + 1) → ∃ g', s_X9_breaths_L40 fu 49 (nI d) (nI b) (nI n) (nI (k + 1 + 1)) (va_up h0 67 (some (tt_ia 13 g2))) = some (br_T kn f n b n n, va_up h0 67 (some (tt_ia 13 g'))) := by
      intro g2 h1 h2
      refine ih (k + 1) fu g2 (by omega) (by omega) (fun j hj => ?_)
      by_cases hjk : j = k + 1
      · rw [hjk, h2]
      · rw [h1 j hjk, hg j (by omega)]
        show _ = (if j = k + 1 then _ else br_T kn f n b k j)
        rw [if_neg hjk]
    have hcell : (k + 1 = n ∨ kn (f k) = 0) → br_T kn f n b (k + 1) (k + 1) = g1 (k + 1) := fun hc => by
      show (if k + 1 = k + 1 then (if k + 1 = n ∨ kn (f k) = 0 then bi_R (br_T kn f n b k) (k + 1 - (k + 1 - b)) (k + 1 - b) (-9) else -9) else _) = _
      rw [if_pos rfl, if_pos hc, e3]
      exact bi_cong _ _ _ (fun j h1 h2 => by rw [pk_un (by omega), hg j (by omega)])
    have hJ : ∀ may : Int32, ∀ h : tt_H, s_X9_breaths_J83 (s_X9_breaths_L40 fu) 49 (nI d) (nI b) (nI n) (nI (k + 1)) may h = s_X9_breaths_L102 (s_X9_breaths_L40 fu) 1000 49 (nI d) (nI b) (nI n) (nI (k + 1)) may (nI (k + 1 - b)) h := fun may h => by
      have hs := br_sub (k + 1) (by omega) b hb
      rw [s_X9_breaths_J83]
      by_cases h0 : 0 ≤ nI (k + 1) - nI b
      · rw [if_pos h0, s_X9_breaths_J100, hs.2.1 h0]
      · rw [if_neg h0, s_X9_breaths_J100, hs.2.2 h0]
    have hok : (k + 1 = n ∨ kn (f k) = 0) → ∃ g', s_X9_breaths_J78 (s_X9_breaths_J83 (s_X9_breaths_L40 fu)) 49 (nI d) (nI b) (nI n) (nI (k + 1)) (va_up h0 67 (some (tt_ia 13 (upd gc (k + 1) (-9))))) = some (br_T kn f n b n n, va_up h0 67 (some (tt_ia 13 g'))) := fun hc => by
      rw [s_X9_breaths_J78, hJ, e1]
      exact go g1 (fun j hj => by rw [e2 j hj, pk_un hj]) (hcell hc).symm
    rw [s_X9_breaths_L40, if_neg (nI_nlt (by omega) (by omega))]
    simp only [mo_25 (ma_o (hA gc).1), pp_is (va_up_self h0 67 (some (tt_ia 13 gc))) (show k + 1 < 13 by omega) (by decide), bx_uu, pp_bind]
    by_cases hkn : k + 1 = n
    · rw [if_pos (by rw [hkn])]
      exact hok (Or.inl hkn)
    · rw [if_neg (fun z => hkn ((nI_eq (by omega) (by omega)).mp z))]
      have hk1 : nI (k + 1) - 1 = nI k := nI_pred k
      simp only [hk1, mo_5 (ma_o (hA _).1), (ma_o (hA _).1).b, pp_mw (c1' _) (show k < n by omega), ma_kind (hA _).1 b8, pp_bind]
      by_cases hz : kn (f k) = 0
      · rw [if_pos (by rw [hz]; rfl)]
        exact hok (Or.inr hz)
      · rw [if_neg (nI_ne0 (by omega) (by omega)), hJ, br_m0]
        refine go _ (fun j hj => pk_un hj) ?_
        rw [pk_us]
        show _ = (if k + 1 = k + 1 then (if k + 1 = n ∨ kn (f k) = 0 then bi_R (br_T kn f n b k) (k + 1 - (k + 1 - b)) (k + 1 - b) (-9) else -9) else _)
        rw [if_pos rfl, if_neg (fun z => z.elim hkn hz)]
end BR
theorem E_breaths {h : tt_H} (hI : pp_Inv h) (x1 x2 : Int32) : pp_G (s_X8_breaths 0 x1 x2) (s_X9_breaths 49 x1 x2) h := by
  obtain ⟨⟨kn, dc, sz, wd, so, sl, sc, tr, ft⟩, hV, ha, hm⟩ := hI
  have hdc : dc ≤ 6 := hV.2.1
  rcases pp_rng dc (by omega) x1 with ⟨d1, hd1, rfl⟩ | h1
  · have c1 := ca_cry hV ha.1 hd1
    have l1 := c1.le
    by_cases hx : x2 < 1 ∨ 12 < x2
    · refine pp_G.rd (-2) hV ha hm ?_ (fun h hm => ?_)
      · unfold s_X8_breaths
        simp only [ca_b ha.1, ca_in hV ha.1 hd1, gg_opt_some, pp_bind]
        by_cases h1 : x2 < 1
        · rw [if_pos h1]
        · rw [if_neg h1, if_neg (Int32.not_le.mpr (hx.resolve_left h1))]
      · unfold s_X9_breaths
        simp only [(ma_o hm.1).b, ma_in hV hm.1 hd1, pi_inside, pp_bind, pn_10, ↓reduceIte]
        simp only [hx, pn_00, ↓reduceIte]
    · have h1 : ¬ x2 < 1 := fun z => hx (Or.inl z)
      have h2 : x2 ≤ 12 := Int32.not_lt.mp (fun z => hx (Or.inr z))
      obtain ⟨b, hb, rfl⟩ : ∃ b, b < 13 ∧ x2 = nI b := by
        rcases pp_rng 13 (by decide) x2 with ⟨b, hb, rfl⟩ | h3
        · exact ⟨b, hb, rfl⟩
        · exfalso
          rcases h3 with h3 | h3
          · exact h1 (Int32.lt_trans h3 (by decide))
          · exact absurd (Int32.le_trans h3 h2) (by decide)
      refine pp_G.of (br_T kn (wd d1) (sz d1) b (sz d1) (sz d1)) ha hm hV ?_ (fun h hm => ?_)
      · obtain ⟨g28, e28⟩ := ha.2.1 (28, 13) (by decide)
        have hA : cc_A (kn, dc, sz, wd, so, sl, sc, tr, ft) (va_up h 28 (some (tt_ia 13 (upd g28 0 0)))) := ha.upI (p := 28) (N := 13) (by decide) _
        have c1' : pp_cry (va_up h 28 (some (tt_ia 13 (upd g28 0 0)))) (29 + 2 * d1) (sz d1) (wd d1) := c1.up _ (by omega) (by omega)
        obtain ⟨g, e1⟩ := br_co hV ha c1 (by omega) hb (sz d1) 0 1000 (upd g28 0 0) (by omega) (by omega) (fun j hj => by rw [show j = 0 from Nat.le_zero.mp hj, pk_us]; rfl)
        refine ⟨_, ?_, ha.upI (p := 28) (N := 13) (by decide) g, fun i hi => va_up_ne _ _ (by omega)⟩
        unfold s_X8_breaths s_X8_fewestBreaths
        have e0 := pp_is e28 (show 0 < 13 by decide) (by decide) 0
        rw [show nI 0 = (0 : Int32) from rfl] at e0
        simp only [ca_b ha.1, ca_in hV ha.1 hd1, gg_opt_some, h1, h2, ca_9 ha.1, e0, pp_cobj c1', pp_size c1', pp_bind, ↓reduceIte]
        rw [if_neg (show ¬ (12 : Int32) < nI (sz d1) from nI_nlt (a := 12) (b := sz d1) l1 (by omega)), show (1 : Int32) = nI (0 + 1) from rfl, e1]
        rfl
      · obtain ⟨g67, e67⟩ := hm.2.1 (67, 13) (by decide)
        have m1 := ma_day hV hm.1 hd1
        obtain ⟨g, e1⟩ := br_mo hV hm m1 hb (sz d1) 0 1000 (upd g67 0 0) (by omega) (by omega) (fun j hj => by rw [show j = 0 from Nat.le_zero.mp hj, pk_us]; rfl)
        refine ⟨_, ?_, hm.upI (p := 67) (N := 13) (by decide) g, fun i hi => va_up_ne _ _ (by omega)⟩
        unfold s_X9_breaths
        have e0 := pp_is e67 (show 0 < 13 by decide) (by decide) 0
        rw [show nI 0 = (0 : Int32) from rfl] at e0
        simp only [(ma_o hm.1).b, ma_in hV hm.1 hd1, pi_inside, mo_7 (ma_o hm.1), mo_25 (ma_o hm.1), pp_mlen m1, e0, pp_bind, pn_10, ↓reduceIte]
        simp only [hx, pn_10, ↓reduceIte]
        exact e1
  · refine pp_G.rd (-1) hV ha hm ?_ (fun h hm => ?_)
    · unfold s_X8_breaths
      simp only [ca_b ha.1, ca_out ha.1 h1, gg_opt_none, pp_bind]
    · unfold s_X9_breaths
      simp only [(ma_o hm.1).b, ma_out hm.1 h1, pp_bind, pn_00, ↓reduceIte]
