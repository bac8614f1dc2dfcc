
/-! the model: the text is read -/
def rm_H (h0 h : tt_H) (ft tr dc pm po pt at_ rd : Int32) (g56 g57 : Nat → Int32) : Prop := h 49 = some (pp_mob ft tr dc at_ rd pm po pt) ∧ h 56 = some (tt_ia 6 g56) ∧ h 57 = some (tt_ia 84 g57) ∧ ∀ i, i ≠ 49 → i ≠ 56 → i ≠ 57 → h i = h0 i
section RM
variable {h0 h : tt_H} {ft tr dc pm po pt at_ rd : Int32} {g56 g57 : Nat → Int32}
theorem rm_o (hH : rm_H h0 h ft tr dc pm po pt at_ rd g56 g57) : pp_mo h := ⟨_, _, _, _, _, _, _, _, hH.1⟩
theorem rm_at (hH : rm_H h0 h ft tr dc pm po pt at_ rd g56 g57) : gg_fi h 49 9 9 = some at_ := pp_fi hH.1 rfl
theorem rm_rd (hH : rm_H h0 h ft tr dc pm po pt at_ rd g56 g57) : gg_fi h 49 9 10 = some rd := pp_fi hH.1 rfl
theorem rm_pat (hH : rm_H h0 h ft tr dc pm po pt at_ rd g56 g57) (x : Int32) : ∃ h1, gg_put h 49 9 9 (.int x) = some h1 ∧ rm_H h0 h1 ft tr dc pm po pt x rd g56 g57 := by
  refine ⟨_, pp_put hH.1 _ (Nat.le_of_ble_eq_true rfl), va_up_self _ _ _, by rw [va_up_ne _ _ (by decide)]; exact hH.2.1, by rw [va_up_ne _ _ (by decide)]; exact hH.2.2.1, fun i h1 h2 h3 => by rw [va_up_ne _ _ h1]; exact hH.2.2.2 i h1 h2 h3⟩
theorem rm_prd (hH : rm_H h0 h ft tr dc pm po pt at_ rd g56 g57) (x : Int32) : ∃ h1, gg_put h 49 9 10 (.int x) = some h1 ∧ rm_H h0 h1 ft tr dc pm po pt at_ x g56 g57 := by
  refine ⟨_, pp_put hH.1 _ (Nat.le_of_ble_eq_true rfl), va_up_self _ _ _, by rw [va_up_ne _ _ (by decide)]; exact hH.2.1, by rw [va_up_ne _ _ (by decide)]; exact hH.2.2.1, fun i h1 h2 h3 => by rw [va_up_ne _ _ h1]; exact hH.2.2.2 i h1 h2 h3⟩
theorem rm_w56 (hH : rm_H h0 h ft tr dc pm po pt at_ rd g56 g57) {k : Nat} (hk : k < 6) (x : Int32) : ∃ h1, gg_is h 56 (nI k) x = some h1 ∧ rm_H h0 h1 ft tr dc pm po pt at_ rd (upd g56 k x) g57 := by
  refine ⟨_, pp_is hH.2.1 hk (by decide) x, by rw [va_up_ne _ _ (by decide)]; exact hH.1, va_up_self _ _ _, by rw [va_up_ne _ _ (by decide)]; exact hH.2.2.1, fun i h1 h2 h3 => by rw [va_up_ne _ _ h2]; exact hH.2.2.2 i h1 h2 h3⟩
theorem rm_w57 (hH : rm_H h0 h ft tr dc pm po pt at_ rd g56 g57) {k : Nat} (hk : k < 84) (x : Int32) : ∃ h1, gg_is h 57 (nI k) x = some h1 ∧ rm_H h0 h1 ft tr dc pm po pt at_ rd g56 (upd g57 k x) := by
  refine ⟨_, pp_is hH.2.2.1 hk (by decide) x, by rw [va_up_ne _ _ (by decide)]; exact hH.1, by rw [va_up_ne _ _ (by decide)]; exact hH.2.1, va_up_self _ _ _, fun i h1 h2 h3 => by rw [va_up_ne _ _ h3]; exact hH.2.2.2 i h1 h2 h3⟩
end RM
/-- what is read of the DAYS ahead, and of the last one -/
def rm_A (S : pr_S) (g56 g57 : Nat → Int32) : Prop := (∀ d, d + 1 < S.1 → g56 d = nI (S.2.1 d)) ∧ ∀ d, d < S.1 → ∀ k, k < S.2.1 d → g57 (14 * d + k) = nI (S.2.2 d k)
def rm_D (S : pr_S) (g56 g57 : Nat → Int32) : Prop := (∀ d, d < S.1 → g56 d = nI (S.2.1 d)) ∧ ∀ d, d < S.1 → ∀ k, k < S.2.1 d → g57 (14 * d + k) = nI (S.2.2 d k)
theorem rm_Aa {S : pr_S} {g56 g57 : Nat → Int32} (hW : pr_W S) (hA : rm_A S g56 g57) {w : Nat} (hl : pr_L S < 12) : rm_A (pr_add S w) g56 (upd g57 (14 * (S.1 - 1) + pr_L S) (nI w)) := by
  have h1 := hW.1
  refine ⟨fun d hd => ?_, fun d hd k hk => ?_⟩
  · have hd2 : d + 1 < S.1 := hd
    have e1 : (pr_add S w).2.1 d = S.2.1 d := if_neg (by omega)
    rw [e1]; exact hA.1 d hd
  · have hd2 : d < S.1 := hd
    by_cases hds : d = S.1 - 1
    · have e1 : (pr_add S w).2.1 d = S.2.1 (S.1 - 1) + 1 := if_pos hds
      have e2 : (pr_add S w).2.2 d = ins_f (S.2.1 (S.1 - 1)) w (S.2.2 (S.1 - 1)) := if_pos hds
      rw [e1] at hk
      rw [e2]
      unfold ins_f pr_L
      by_cases hks : k = S.2.1 (S.1 - 1)
      · rw [if_neg (by omega), if_pos hks, hds, hks, pk_us]
      · rw [if_pos (by omega), pk_un (by rw [hds]; omega), hds]
        exact hA.2 (S.1 - 1) (by omega) k (by omega)
    · have e1 : (pr_add S w).2.1 d = S.2.1 d := if_neg hds
      have e2 : (pr_add S w).2.2 d = S.2.2 d := if_neg hds
      rw [e1] at hk
      rw [e2]
      have := (hW.2.2.2 d hd2).1
      rw [pk_un (by omega)]
      exact hA.2 d hd2 k hk
theorem rm_DA {S : pr_S} {g56 g57 : Nat → Int32} (hW : pr_W S) (hA : rm_A S g56 g57) : rm_D S (upd g56 (S.1 - 1) (nI (pr_L S))) g57 := by
  have h1 := hW.1
  refine ⟨fun d hd => ?_, hA.2⟩
  by_cases hds : d = S.1 - 1
  · rw [hds, pk_us]; rfl
  · rw [pk_un hds]; exact hA.1 d (by omega)
theorem rm_An {S : pr_S} {g56 g57 : Nat → Int32} (hD : rm_D S g56 g57) : rm_A (pr_next S) g56 g57 := by
  refine ⟨fun d hd => ?_, fun d hd k hk => ?_⟩
  · have hd2 : d + 1 < S.1 + 1 := hd
    have e1 : (pr_next S).2.1 d = S.2.1 d := if_neg (by omega)
    rw [e1]; exact hD.1 d (by omega)
  · have hd2 : d < S.1 + 1 := hd
    by_cases hds : d = S.1
    · have e1 : (pr_next S).2.1 d = 0 := if_pos hds
      rw [e1] at hk; exact absurd hk (Nat.not_lt_zero k)
    · have e1 : (pr_next S).2.1 d = S.2.1 d := if_neg hds
      rw [e1] at hk
      exact hD.2 d (by omega) k hk
section RMR
variable {h0 : tt_H} {ft tr dc pm po pt : Int32} {G : Nat → Int32} {A n : Nat} {c : Nat → Int32}
theorem rm_c (e52 : h0 52 = some (tt_ia 320 G)) (hAn : A + n ≤ 320) (hn : n ≤ 80) (hc : ∀ p, p < n → G (A + p) = c p) : ∀ (s p fu fu0 : Nat) (S : pr_S) (h : tt_H) (g56 g57 : Nat → Int32), pr_W S → rm_H h0 h ft tr dc pm po pt (nI (A + p)) (nI (S.1 - 1)) g56 g57 → rm_A S g56 g57 → p + s = n → s < fu → s < fu0 →
    (∀ S', pr_ok c s p S S' → ∃ h1 a g56' g57', s_X9_readCries_L64 (s_X9_readCries_L5 fu0) fu 49 (nI (A + n)) (nI (pr_L S)) h = some (1, h1) ∧ rm_H h0 h1 ft tr dc pm po pt a (nI S'.1) g56' g57' ∧ rm_D S' g56' g57') ∧
    (∀ q, pr_no c s p S q → ∃ h1 r g56' g57', s_X9_readCries_L64 (s_X9_readCries_L5 fu0) fu 49 (nI (A + n)) (nI (pr_L S)) h = some (0, h1) ∧ rm_H h0 h1 ft tr dc pm po pt (nI (A + q)) r g56' g57') := by
  intro s
  induction s with
  | zero =>
    intro p fu fu0 S h g56 g57 hW hH hA hp hfu hfu0
    obtain ⟨fu, rfl⟩ : ∃ z, fu = z + 1 := ⟨fu - 1, by omega⟩
    obtain ⟨fu0, rfl⟩ : ∃ z, fu0 = z + 1 := ⟨fu0 - 1, by omega⟩
    have l12 := pr_L12 hW
    have b1 := hW.1
    have b6 := hW.2.1
    have hmo := rm_o hH
    have top : s_X9_readCries_L64 (s_X9_readCries_L5 (fu0 + 1)) (fu + 1) 49 (nI (A + n)) (nI (pr_L S)) h = s_X9_readCries_J139 (s_X9_readCries_L5 (fu0 + 1)) 49 (nI (A + n)) (nI (pr_L S)) h := by
      rw [s_X9_readCries_L64]
      by_cases hl : pr_L S < 12
      · rw [if_neg (show ¬ (12 : Int32) ≤ nI (pr_L S) from nI_ge (a := pr_L S) (b := 12) hl (by decide)), rm_at hH, pp_bind, if_pos (nI_le (by omega) (by omega))]
      · rw [if_pos (show (12 : Int32) ≤ nI (pr_L S) from nI_le (a := 12) (b := pr_L S) (by omega) (by omega))]
    refine ⟨fun S' hk => ?_, fun q hk => ?_⟩
    · obtain ⟨hl, rfl⟩ := hk
      obtain ⟨h1, w1, H1⟩ := rm_w56 hH (show S'.1 - 1 < 6 by omega) (nI (pr_L S'))
      obtain ⟨h2, w2, H2⟩ := rm_prd H1 (nI S'.1)
      refine ⟨h2, _, _, _, ?_, H2, rm_DA hW hA⟩
      rw [top, s_X9_readCries_J139, if_neg (nI_ne0 hl (by omega))]
      simp only [mo_11 hmo, rm_rd hH, w1, rm_rd H1, nI_1, show S'.1 - 1 + 1 = S'.1 by omega, w2, pp_bind]
      rw [s_X9_readCries_L5, rm_rd H2, pp_bind, if_neg (nI_ne0 (by omega) (by omega)), rm_at H2, pp_bind, if_pos (nI_le (by omega) (by omega))]
    · refine ⟨h, _, g56, g57, ?_, by rw [hk.2]; exact hH⟩
      rw [top, s_X9_readCries_J139, if_pos (by rw [hk.1]; rfl)]
  | succ s ih =>
    intro p fu fu0 S h g56 g57 hW hH hA hp hfu hfu0
    obtain ⟨fu, rfl⟩ : ∃ z, fu = z + 1 := ⟨fu - 1, by omega⟩
    obtain ⟨fu0, rfl⟩ : ∃ z, fu0 = z + 1 := ⟨fu0 - 1, by omega⟩
    have l12 := pr_L12 hW
    have b1 := hW.1
    have b6 := hW.2.1
    have hmo := rm_o hH
    have e52' : ∀ {h : tt_H} {a r : Int32} {x y : Nat → Int32}, rm_H h0 h ft tr dc pm po pt a r x y → gg_il h 52 (nI (A + p)) = some (c p) := fun H => by
      rw [pp_il (by rw [H.2.2.2 52 (by decide) (by decide) (by decide)]; exact e52) (by omega) (by decide), hc p (by omega)]
    by_cases hlt : lt_P (c p) ∧ pr_L S < 12
    · obtain ⟨w, hw, e1, e2, e3⟩ := lt_of hlt.1
      obtain ⟨h1, w1, H1⟩ := rm_w57 hH (k := 14 * (S.1 - 1) + pr_L S) (by omega) (nI w)
      obtain ⟨h2, w2, H2⟩ := rm_pat H1 (nI (A + (p + 1)))
      have hi := ih (p + 1) fu (fu0 + 1) (pr_add S w) h2 _ _ (pr_Wa hW hw hlt.2) H2 (rm_Aa hW hA hlt.2) (by omega) (by omega) (by omega)
      have top : s_X9_readCries_L64 (s_X9_readCries_L5 (fu0 + 1)) (fu + 1) 49 (nI (A + n)) (nI (pr_L S)) h = s_X9_readCries_L64 (s_X9_readCries_L5 (fu0 + 1)) fu 49 (nI (A + n)) (nI (pr_L (pr_add S w))) h2 := by
        rw [s_X9_readCries_L64, if_neg (show ¬ (12 : Int32) ≤ nI (pr_L S) from nI_ge (a := pr_L S) (b := 12) hlt.2 (by decide)), rm_at hH, pp_bind, if_neg (nI_ge (by omega) (by omega))]
        simp only [mo_4 hmo, e52' hH, lt_m.1 hlt.1, mo_12 hmo, rm_rd hH, rm_at hH, e3, show ((14 : Int32) * nI (S.1 - 1)) + nI (pr_L S) = nI (14 * (S.1 - 1) + pr_L S) from by rw [pp_lit 14, pk_mul, nI_add], w1, rm_at H1, nI_1, show A + p + 1 = A + (p + 1) by omega, w2, pr_La, pp_bind, pn_10, ↓reduceIte]
      rw [top]
      refine ⟨fun S' hk => ?_, fun q hk => ?_⟩
      · rcases hk with ⟨_, _, hk⟩ | ⟨h59, _, _, _⟩
        · rw [e2] at hk; exact hi.1 S' hk
        · exact absurd hlt.1 (by rw [h59]; exact lt_59)
      · rcases hk with ⟨_, _, hk⟩ | ⟨h59, _, _, _⟩ | ⟨hn, _, _⟩
        · rw [e2] at hk; exact hi.2 q hk
        · exact absurd hlt.1 (by rw [h59]; exact lt_59)
        · exact absurd hlt hn
    · have top : s_X9_readCries_L64 (s_X9_readCries_L5 (fu0 + 1)) (fu + 1) 49 (nI (A + n)) (nI (pr_L S)) h = s_X9_readCries_J139 (s_X9_readCries_L5 (fu0 + 1)) 49 (nI (A + n)) (nI (pr_L S)) h := by
        rw [s_X9_readCries_L64]
        by_cases hl : pr_L S < 12
        · rw [if_neg (show ¬ (12 : Int32) ≤ nI (pr_L S) from nI_ge (a := pr_L S) (b := 12) hl (by decide)), rm_at hH, pp_bind, if_neg (nI_ge (by omega) (by omega))]
          simp only [mo_4 hmo, e52' hH, lt_m.2 (fun z => hlt ⟨z, hl⟩), pp_bind, pn_00, ↓reduceIte]
        · rw [if_pos (show (12 : Int32) ≤ nI (pr_L S) from nI_le (a := 12) (b := pr_L S) (by omega) (by omega))]
      by_cases hl0 : 0 < pr_L S
      · obtain ⟨h1, w1, H1⟩ := rm_w56 hH (show S.1 - 1 < 6 by omega) (nI (pr_L S))
        obtain ⟨h2, w2, H2⟩ := rm_prd H1 (nI S.1)
        have hmo2 := rm_o H2
        have j20 : s_X9_readCries_L64 (s_X9_readCries_L5 (fu0 + 1)) (fu + 1) 49 (nI (A + n)) (nI (pr_L S)) h = s_X9_readCries_J20 (s_X9_readCries_L5 fu0) 49 (nI (A + n)) h2 := by
          rw [top, s_X9_readCries_J139, if_neg (nI_ne0 hl0 (by omega))]
          simp only [mo_11 hmo, rm_rd hH, w1, rm_rd H1, nI_1, show S.1 - 1 + 1 = S.1 by omega, w2, pp_bind]
          rw [s_X9_readCries_L5, rm_rd H2, pp_bind, if_neg (nI_ne0 (by omega) (by omega)), rm_at H2, pp_bind, if_neg (nI_ge (by omega) (by omega))]
        rw [j20]
        by_cases h59 : c p = 59 ∧ 0 < pr_L S ∧ S.1 < 6
        · obtain ⟨h3, w3, H3⟩ := rm_pat H2 (nI (A + (p + 1)))
          have hi := ih (p + 1) 1000 fu0 (pr_next S) h3 _ _ (pr_Wn hW hl0 h59.2.2) H3 (rm_An (rm_DA hW hA)) (by omega) (by omega) (by omega)
          have go : s_X9_readCries_J20 (s_X9_readCries_L5 fu0) 49 (nI (A + n)) h2 = s_X9_readCries_L64 (s_X9_readCries_L5 fu0) 1000 49 (nI (A + n)) (nI (pr_L (pr_next S))) h3 := by
            rw [s_X9_readCries_J20, rm_rd H2, pp_bind, if_neg (nI_nle (by omega) (by omega)), pp_bind, if_neg (show ¬ nI S.1 = (6 : Int32) from fun z => absurd ((nI_eq (a := S.1) (b := 6) (by omega) (by decide)).mp z) (by omega)), mo_4 hmo2, pp_bind, rm_at H2, pp_bind, e52' H2, pp_bind, if_pos h59.1, pp_bind, nI_1, show A + p + 1 = A + (p + 1) by omega, w3, pp_bind, s_X9_readCries_J62, pr_Ln]
            rfl
          rw [go]
          refine ⟨fun S' hk => ?_, fun q hk => ?_⟩
          · rcases hk with ⟨a, b, _⟩ | ⟨_, _, _, hk⟩
            · exact absurd ⟨a, b⟩ hlt
            · exact hi.1 S' hk
          · rcases hk with ⟨a, b, _⟩ | ⟨_, _, _, hk⟩ | ⟨_, hn, _⟩
            · exact absurd ⟨a, b⟩ hlt
            · exact hi.2 q hk
            · exact absurd h59 hn
        · have go : s_X9_readCries_J20 (s_X9_readCries_L5 fu0) 49 (nI (A + n)) h2 = some (0, h2) := by
            rw [s_X9_readCries_J20, rm_rd H2, pp_bind, if_neg (nI_nle (by omega) (by omega)), pp_bind]
            by_cases h6 : S.1 = 6
            · rw [if_pos (by rw [h6]; rfl)]
            · rw [if_neg (show ¬ nI S.1 = (6 : Int32) from fun z => h6 ((nI_eq (a := S.1) (b := 6) (by omega) (by decide)).mp z)), mo_4 hmo2, pp_bind, rm_at H2, pp_bind, e52' H2, pp_bind, if_neg (fun z => h59 ⟨z, hl0, by omega⟩)]
          rw [go]
          refine ⟨fun S' hk => ?_, fun q hk => ?_⟩
          · rcases hk with ⟨a, b, _⟩ | ⟨a, b, d, _⟩
            · exact absurd ⟨a, b⟩ hlt
            · exact absurd ⟨a, b, d⟩ h59
          · rcases hk with ⟨a, b, _⟩ | ⟨a, b, d, _⟩ | ⟨_, _, hk⟩
            · exact absurd ⟨a, b⟩ hlt
            · exact absurd ⟨a, b, d⟩ h59
            · exact ⟨h2, _, _, _, rfl, by rw [hk]; exact H2⟩
      · have hl : pr_L S = 0 := by omega
        have go : s_X9_readCries_L64 (s_X9_readCries_L5 (fu0 + 1)) (fu + 1) 49 (nI (A + n)) (nI (pr_L S)) h = some (0, h) := by
          rw [top, s_X9_readCries_J139, if_pos (by rw [hl]; rfl)]
        rw [go]
        refine ⟨fun S' hk => ?_, fun q hk => ?_⟩
        · rcases hk with ⟨a, b, _⟩ | ⟨a, b, d, _⟩
          · exact absurd ⟨a, b⟩ hlt
          · omega
        · rcases hk with ⟨a, b, _⟩ | ⟨a, b, d, _⟩ | ⟨_, _, hk⟩
          · exact absurd ⟨a, b⟩ hlt
          · omega
          · exact ⟨h, _, _, _, rfl, by rw [hk]; exact hH⟩
end RMR
/-! the model: what is read is taken -/
def rt_H (h0 h : tt_H) (l54 w55 : Nat → Int32) : Prop := h 54 = some (tt_ia 6 l54) ∧ h 55 = some (tt_ia 84 w55) ∧ ∀ i, i ≠ 54 → i ≠ 55 → h i = h0 i
section RT
variable {h0 : tt_H} {ft tr at_ rd pm po pt : Int32} {S : pr_S} {g56 g57 : Nat → Int32}
theorem rt_o (e49 : h0 49 = some (pp_mob ft tr (nI S.1) at_ rd pm po pt)) {h : tt_H} {l54 w55 : Nat → Int32} (hH : rt_H h0 h l54 w55) : h 49 = some (pp_mob ft tr (nI S.1) at_ rd pm po pt) := by rw [hH.2.2 49 (by decide) (by decide)]; exact e49
theorem rt_1 (e49 : h0 49 = some (pp_mob ft tr (nI S.1) at_ rd pm po pt)) (e57 : h0 57 = some (tt_ia 84 g57)) (hW : pr_W S) (hD : rm_D S g56 g57) (κ : Nat → Int32 → tt_H → Option (Int32 × tt_H)) {d : Nat} (hd : d < S.1) :
    ∀ (s k fu : Nat) (h : tt_H) (l54 w55 : Nat → Int32), rt_H h0 h l54 w55 → l54 d = nI (S.2.1 d) → k + s = S.2.1 d → s < fu → (∀ x, x < d → ∀ k, k < S.2.1 x → w55 (14 * x + k) = nI (S.2.2 x k)) → (∀ j, j < k → w55 (14 * d + j) = nI (S.2.2 d j)) → ∃ h1 w', s_X9_cries_L121 κ fu 49 (nI d) (nI k) h = κ 49 (nI (d + 1)) h1 ∧ rt_H h0 h1 l54 w' ∧ ∀ x, x < d + 1 → ∀ k, k < S.2.1 x → w' (14 * x + k) = nI (S.2.2 x k) := by
  have h12 := (hW.2.2.2 d hd).1
  have hS6 := hW.2.1
  intro s
  induction s with
  | zero =>
    intro k fu h l54 w55 hH hl hk hfu hg1 hg2
    obtain ⟨fu, rfl⟩ : ∃ z, fu = z + 1 := ⟨fu - 1, by omega⟩
    have hmo : pp_mo h := ⟨_, _, _, _, _, _, _, _, rt_o e49 hH⟩
    refine ⟨h, w55, ?_, hH, fun x hx j hj => ?_⟩
    · rw [s_X9_cries_L121, mo_7 hmo, pp_bind, pp_il hH.1 (by omega) (by decide), pp_bind, hl, if_pos (nI_le (by omega) (by omega)), nI_1]
    · by_cases hxd : x = d
      · subst hxd; exact hg2 j (by omega)
      · exact hg1 x (by omega) j hj
  | succ s ih =>
    intro k fu h l54 w55 hH hl hk hfu hg1 hg2
    obtain ⟨fu, rfl⟩ : ∃ z, fu = z + 1 := ⟨fu - 1, by omega⟩
    have hmo : pp_mo h := ⟨_, _, _, _, _, _, _, _, rt_o e49 hH⟩
    have e57' : h 57 = some (tt_ia 84 g57) := by rw [hH.2.2 57 (by decide) (by decide)]; exact e57
    obtain ⟨h1, w', a1, a2, a3⟩ := ih (k + 1) fu (va_up h 55 (some (tt_ia 84 (upd w55 (14 * d + k) (g57 (14 * d + k)))))) l54 _ ⟨by rw [va_up_ne _ _ (by decide)]; exact hH.1, va_up_self _ _ _, fun i i1 i2 => by rw [va_up_ne _ _ i2]; exact hH.2.2 i i1 i2⟩ hl (by omega) (by omega) (fun x hx j hj => by
      have := (hW.2.2.2 x (by omega)).1
      rw [pk_un (by omega)]; exact hg1 x hx j hj) (fun j hj => by
      by_cases hjk : j = k
      · rw [hjk, pk_us]; exact hD.2 d hd k (by omega)
      · rw [pk_un (by omega)]; exact hg2 j (by omega))
    refine ⟨h1, w', ?_, a2, a3⟩
    have hix : ((14 : Int32) * nI d) + nI k = nI (14 * d + k) := by rw [pp_lit 14, pk_mul, nI_add]
    rw [s_X9_cries_L121, mo_7 hmo, pp_bind, pp_il hH.1 (by omega) (by decide), pp_bind, hl, if_neg (nI_ge (by omega) (by omega)), mo_8 hmo, pp_bind, mo_12 hmo, pp_bind, hix, pp_il e57' (by omega) (by decide), pp_bind, pp_is hH.2.1 (by omega) (by decide), pp_bind, nI_1]
    exact a1
theorem rt_2 (e49 : h0 49 = some (pp_mob ft tr (nI S.1) at_ rd pm po pt)) (e56 : h0 56 = some (tt_ia 6 g56)) (e57 : h0 57 = some (tt_ia 84 g57)) (hW : pr_W S) (hD : rm_D S g56 g57) :
    ∀ (s d fu : Nat) (h : tt_H) (l54 w55 : Nat → Int32), rt_H h0 h l54 w55 → d + s = S.1 → s < fu → (∀ x, x < d → l54 x = nI (S.2.1 x) ∧ ∀ k, k < S.2.1 x → w55 (14 * x + k) = nI (S.2.2 x k)) → ∃ h1 l' w', s_X9_cries_L95 fu 49 (nI d) h = some (nI S.1, h1) ∧ rt_H h0 h1 l' w' ∧ ∀ x, x < S.1 → l' x = nI (S.2.1 x) ∧ ∀ k, k < S.2.1 x → w' (14 * x + k) = nI (S.2.2 x k) := by
  have hS6 := hW.2.1
  intro s
  induction s with
  | zero =>
    intro d fu h l54 w55 hH hd hfu hg
    obtain ⟨fu, rfl⟩ : ∃ z, fu = z + 1 := ⟨fu - 1, by omega⟩
    refine ⟨h, l54, w55, ?_, hH, fun x hx => hg x (by omega)⟩
    rw [s_X9_cries_L95, pp_fi (rt_o e49 hH) (k := 6) (v := nI S.1) rfl, pp_bind, if_pos (nI_le (by omega) (by omega)), pp_bind]
  | succ s ih =>
    intro d fu h l54 w55 hH hd hfu hg
    obtain ⟨fu, rfl⟩ : ∃ z, fu = z + 1 := ⟨fu - 1, by omega⟩
    have hmo : pp_mo h := ⟨_, _, _, _, _, _, _, _, rt_o e49 hH⟩
    have e56' : h 56 = some (tt_ia 6 g56) := by rw [hH.2.2 56 (by decide) (by decide)]; exact e56
    have h12 := (hW.2.2.2 d (by omega)).1
    obtain ⟨h1, w1, a1, a2, a3⟩ := rt_1 e49 e57 hW hD (s_X9_cries_L95 fu) (show d < S.1 by omega) (S.2.1 d) 0 1000 (va_up h 54 (some (tt_ia 6 (upd l54 d (g56 d))))) (upd l54 d (g56 d)) w55 ⟨va_up_self _ _ _, by rw [va_up_ne _ _ (by decide)]; exact hH.2.1, fun i i1 i2 => by rw [va_up_ne _ _ i1]; exact hH.2.2 i i1 i2⟩ (by rw [pk_us]; exact hD.1 d (by omega)) (by omega) (by omega) (fun x hx => (hg x hx).2) (fun j hj => absurd hj (Nat.not_lt_zero j))
    obtain ⟨h2, l2, w2, a4, a5, a6⟩ := ih (d + 1) fu h1 _ w1 a2 (by omega) (by omega) (fun x hx => ⟨by
      by_cases hxd : x = d
      · rw [hxd, pk_us]; exact hD.1 d (by omega)
      · rw [pk_un hxd]; exact (hg x (by omega)).1, a3 x hx⟩)
    refine ⟨h2, l2, w2, ?_, a5, a6⟩
    rw [s_X9_cries_L95, pp_fi (rt_o e49 hH) (k := 6) (v := nI S.1) rfl, pp_bind, if_neg (nI_ge (by omega) (by omega)), mo_7 hmo, pp_bind, mo_11 hmo, pp_bind, pp_il e56' (by omega) (by decide), pp_bind, pp_is hH.1 (by omega) (by decide), pp_bind]
    exact a1.trans a4
end RT
section AGN
variable {kn : Nat → Nat} {dc : Nat} {sz : Nat → Nat} {wd : Nat → Nat → Nat} {so sl : Nat → Nat} {sc : Nat → Nat → Int32} {tr ft : Int32} {h : tt_H} {k s : Nat}
theorem ag_1 (hm : mm_I (kn, dc, sz, wd, so, sl, sc, tr, ft) h) (hk : k < 4) (x2 x3 x4 : Int32) (h9 : so k = 9) : s_X9_against 49 (nI k) x2 x3 x4 h = some (1, h) := by
  unfold s_X9_against s_X9_against_J23
  simp only [mo_2 (ma_o hm), ma_so hm hk, if_pos h9, pp_bind, ↓reduceIte]
theorem ag_2 (hm : mm_I (kn, dc, sz, wd, so, sl, sc, tr, ft) h) (hk : k < 4) (hs : s < 3) (x3 x4 : Int32) (h9 : so k ≠ 9) (h3 : so k < 3) (hss : so k ≠ s) : s_X9_against 49 (nI k) (nI s) x3 x4 h = some (2, h) := by
  have e1 : ¬ (if so k = 9 then (-9 : Int32) else nI (so k)) = nI s := by
    rw [if_neg h9]
    exact fun z => hss ((nI_eq (by omega) (by omega)).mp z)
  unfold s_X9_against
  simp only [mo_2 (ma_o hm), ma_so hm hk, so_n9 h9 h3, pp_bind, ↓reduceIte]
  rw [if_neg e1]
theorem ag_3 (hm : mm_I (kn, dc, sz, wd, so, sl, sc, tr, ft) h) (hk : k < 4) (x3 x4 : Int32) (h9 : so k ≠ 9) (h3 : so k < 3) (hL : sl k ≤ 80) (hss : so k = s) : s_X9_against 49 (nI k) (nI s) x3 x4 h = some (if x4 < 0 then 4 else 3, h) ∨ ∃ i n, x3 = nI i ∧ x4 = nI n ∧ i + n ≤ sl k ∧ s_X9_against 49 (nI k) (nI s) x3 x4 h = some (0, h) := by
  have e1 : (if so k = 9 then (-9 : Int32) else nI (so k)) = nI s := by rw [if_neg h9, hss]
  unfold s_X9_against s_X9_against_J23 s_X9_against_J70
  simp only [mo_2 (ma_o hm), mo_3 (ma_o hm), ma_so hm hk, ma_sl hm hk h9, so_n9 h9 h3, pp_bind, ↓reduceIte]
  rw [if_pos e1]
  by_cases h4 : x4 < 0
  · exact Or.inl (by rw [if_neg (Int32.not_le.mpr h4), if_pos h4])
  · rw [if_pos (Int32.not_lt.mp h4), if_neg h4]
    by_cases h5 : x3 < 0
    · exact Or.inl (by rw [if_pos h5])
    · obtain ⟨i, hi, rfl⟩ := nI_of h5
      obtain ⟨n, hn, rfl⟩ := nI_of h4
      rw [if_neg h5]
      by_cases h6 : sl k < i
      · exact Or.inl (by rw [if_pos (nI_lt h6 hi)])
      · rw [if_neg (nI_nlt (by omega) (by omega)), pk_sub (by omega)]
        by_cases h7 : n ≤ sl k - i
        · exact Or.inr ⟨i, n, rfl, rfl, by omega, by rw [if_pos (nI_le h7 (by omega))]⟩
        · exact Or.inl (by rw [if_neg (nI_ge (by omega) hn)])
end AGN
theorem E_cries {h : tt_H} (hI : pp_Inv h) (x1 x2 x3 x4 : Int32) : pp_G (s_X8_cries 0 x1 x2 x3 x4) (s_X9_cries 49 x1 x2 x3 x4) h := by
  obtain ⟨⟨kn, dc, sz, wd, so, sl, sc, tr, ft⟩, hV, ha, hm⟩ := hI
  obtain ⟨v0, v1, v2, v3⟩ := id hV
  rcases pp_rng 4 (by decide) x1 with ⟨k, hk, rfl⟩ | h1
  · rcases pp_rng 3 (by decide) x2 with ⟨s, hs, rfl⟩ | h2
    · by_cases h9 : so k = 9
      · refine pp_G.ft (-10 - 1) 1 hV ha hm (fun h ha => ?_) (fun h hm => ?_)
        · obtain ⟨h1, f1, f2, f3⟩ := cl_put ha 0
          obtain ⟨h2, g1, g2, g3⟩ := cl_fails f2 1
          have hr := rf_c (sh_of (ft := 0) hV f2.1 hk) hs
          rw [if_pos h9] at hr
          refine ⟨h2, ?_, g2, fun i hi => (g3 i hi).trans (f3 i hi)⟩
          unfold s_X8_cries
          simp only [f1, ca_b f2.1, sh_in f2.1 hk, gg_opt_some, is_in hs, hr, g1, pp_bind, pn_10, ↓reduceIte]
        · obtain ⟨h1, f1, f2, f3⟩ := ml_put hm 0
          obtain ⟨h2, g1, g2, g3⟩ := ml_fails f2 1
          refine ⟨h2, ?_, g2, fun i hi => (g3 i hi).trans (f3 i hi)⟩
          unfold s_X9_cries
          simp only [f1, js_in hk, jt_in hs, (ma_o f2.1).b, ag_1 f2.1 hk _ _ _ h9, g1, pp_bind, pn_10, ↓reduceIte]
      · obtain ⟨h3, hL⟩ := v3 k hk h9
        by_cases hss : so k = s
        · by_cases hall : ∃ i n, x3 = nI i ∧ x4 = nI n ∧ i + n ≤ sl k
          · obtain ⟨i, n, rfl, rfl, hin⟩ := hall
            have n0 : (0 : Int32) ≤ nI n := nI_pos' (by omega)
            have hWn : pr_W (pr_next (0, sz, wd)) := ⟨Nat.le_of_ble_eq_true rfl, Nat.le_of_ble_eq_true rfl, fun d hd => by have : d + 1 < 0 + 1 := hd; omega, fun d hd => by
              have hd2 : d < 0 + 1 := hd
              have e1 : (pr_next (0, sz, wd)).2.1 d = 0 := if_pos (show d = 0 by omega)
              rw [e1]
              exact ⟨by omega, fun q hq => absurd hq (Nat.not_lt_zero q)⟩⟩
            have cls : ∀ {h : tt_H}, cc_A (kn, dc, sz, wd, so, sl, sc, tr, 0) h → s_X8_readingFault (41 + 2 * k) (nI s) h = some (0, h) ∧ s_X6_hasCells (41 + 2 * k) (nI i) (nI n) h = some (1, h) := fun f2 => by
              have hS := sh_of (ft := 0) hV f2.1 hk
              have hr := rf_c hS hs
              rw [if_neg h9, if_pos hss] at hr
              have hc := sh_hc hS h9 (i := i) (n := n) (by omega) (by omega)
              rw [if_pos hin] at hc
              exact ⟨hr, hc⟩
            have mdl : ∀ {h : tt_H}, mm_A (kn, dc, sz, wd, so, sl, sc, tr, 0) h → s_X9_against 49 (nI k) (nI s) (nI i) (nI n) h = some (0, h) ∧ ∃ h1, gg_put h 49 9 9 (.int (nI (80 * k + i))) = some h1 ∧ ∃ h2, gg_put h1 49 9 10 (.int 0) = some h2 ∧ ∃ pm po pt G g56 g57, h 52 = some (tt_ia 320 G) ∧ (∀ p, p < n → G (80 * k + i + p) = sc k (i + p)) ∧ rm_H h h2 0 tr (nI dc) pm po pt (nI (80 * k + i + 0)) (nI ((pr_next (0, sz, wd)).1 - 1)) g56 g57 := fun {h} f2 => by
              obtain ⟨⟨at_, rd, pm, po, pt, e49⟩, -, -, ⟨G, e52, f52⟩, -⟩ := id f2.1
              obtain ⟨g56, e56⟩ := f2.2.1 (56, 6) (by decide)
              obtain ⟨g57, e57⟩ := f2.2.1 (57, 84) (by decide)
              have H0 : rm_H h h 0 tr (nI dc) pm po pt at_ rd g56 g57 := ⟨e49, e56, e57, fun _ _ _ _ => rfl⟩
              obtain ⟨h1, w1, H1⟩ := rm_pat H0 (nI (80 * k + i))
              obtain ⟨h2, w2, H2⟩ := rm_prd H1 0
              refine ⟨?_, h1, w1, h2, w2, pm, po, pt, G, g56, g57, e52, fun p hp => ?_, H2⟩
              · rcases ag_3 f2.1 hk (nI i) (nI n) h9 h3 hL hss with q | ⟨i', n', _, _, _, q⟩
                · exfalso
                  have n9 := so_n9 h9 h3
                  have e1 : (if so k = 9 then (-9 : Int32) else nI (so k)) = nI s := by rw [if_neg h9, hss]
                  unfold s_X9_against s_X9_against_J23 at q
                  simp only [mo_2 (ma_o f2.1), mo_3 (ma_o f2.1), ma_so f2.1 hk, ma_sl f2.1 hk h9, n9, pp_bind, ↓reduceIte] at q
                  rw [if_pos e1, if_pos n0, if_neg (nI_pos (by omega)), if_neg (nI_nlt (by omega) (by omega)), pk_sub (by omega), if_pos (nI_le (by omega) (by omega)), if_neg (nI_pos (by omega))] at q
                  simp at q
                · exact q
              · rw [← f52 k hk h9 (i + p) (by omega)]
                congr 1; omega
            rcases pr_or (fun p => sc k (i + p)) n 0 (pr_next (0, sz, wd)) with ⟨S', hok⟩ | ⟨q, hno⟩
            · obtain ⟨hW', hl'⟩ := pr_Wk _ n 0 _ S' hWn hok
              have hV' := pr_V (kn := kn) (tr := tr) (ft := 0) (sc := sc) hW' hl' v0 v3
              refine pp_G.of (P' := (kn, S'.1, S'.2.1, S'.2.2, so, sl, sc, tr, 0)) (nI S'.1) ha hm hV' ?_ (fun h hm => ?_)
              · obtain ⟨h1, f1, f2, f3⟩ := cl_put ha 0
                obtain ⟨c1, c2⟩ := cls f2
                have hS := sh_of (ft := 0) hV f2.1 hk
                have e1 := (ff_c hS h9 hin hL n 0 1000 (pr_next (0, sz, wd)) hWn (by omega) (by omega)).1 S' hok
                have e1' : s_X8_firstFaultOf (41 + 2 * k) (nI i) (nI n) h1 = some (-9, h1) := e1
                obtain ⟨h2, d1, d2, d3⟩ := cl_take v3 hk h9 hin f2 hok
                refine ⟨h2, ?_, d2, fun j hj => (d3 j hj).trans (f3 j (by omega))⟩
                unfold s_X8_cries
                simp only [f1, ca_b f2.1, sh_in f2.1 hk, gg_opt_some, is_in hs, c1, n0, sh_b hS, c2, e1', d1, ca_dc d2.1, pp_bind, pn_10, ↓reduceIte]
              · obtain ⟨h1, f1, f2, f3⟩ := ml_put hm 0
                obtain ⟨a0, h2, w1, h3', w2, pm, po, pt, G, g56, g57, e52, hc, H⟩ := mdl f2
                obtain ⟨h4, a, g56', g57', r1, H4, D4⟩ := (rm_c e52 (show 80 * k + i + n ≤ 320 by omega) (show n ≤ 80 by omega) hc n 0 1000 999 (pr_next (0, sz, wd)) h3' g56 g57 hWn H ⟨fun d hd => by have : d + 1 < 0 + 1 := hd; omega, fun d hd q hq => by
                  have hd2 : d < 0 + 1 := hd
                  have e1 : (pr_next (0, sz, wd)).2.1 d = 0 := if_pos (show d = 0 by omega)
                  rw [e1] at hq; exact absurd hq (Nat.not_lt_zero q)⟩ (by omega) (by omega) (by omega)).1 S' hok
                have hmo2 : pp_mo h2 := by
                  obtain ⟨⟨at_, rd, pm', po', pt', e49⟩, -⟩ := f2.1
                  have := pp_put e49 (.int (nI (80 * k + i))) (show 9 < _ from Nat.le_of_ble_eq_true rfl)
                  rw [this] at w1
                  injection w1 with w1
                  rw [← w1]
                  exact ⟨_, _, _, _, _, _, _, _, va_up_self _ _ _⟩
                have rr : s_X9_readCries 49 (nI (80 * k + i + n)) h2 = some (1, h4) := by
                  unfold s_X9_readCries
                  rw [w2, pp_bind, s_X9_readCries_L5, rm_rd H, pp_bind, if_pos (show nI ((pr_next (0, sz, wd)).1 - 1) = 0 from rfl), s_X9_readCries_J20, rm_rd H, pp_bind, if_pos (show nI ((pr_next (0, sz, wd)).1 - 1) ≤ 0 from (by decide : nI 0 ≤ 0)), s_X9_readCries_J62]
                  exact r1
                have p6 : gg_put h4 49 9 6 (.int (nI S'.1)) = some (va_up h4 49 (some (pp_mob 0 tr (nI S'.1) a (nI S'.1) pm po pt))) := pp_put H4.1 _ (Nat.le_of_ble_eq_true rfl)
                obtain ⟨-, -, -, -, -, ln, e54, wr, e55, -⟩ := id f2.1
                have k54 : va_up h4 49 (some (pp_mob 0 tr (nI S'.1) a (nI S'.1) pm po pt)) 54 = some (tt_ia 6 ln) := by rw [va_up_ne _ _ (by decide), H4.2.2.2 54 (by decide) (by decide) (by decide)]; exact e54
                have k55 : va_up h4 49 (some (pp_mob 0 tr (nI S'.1) a (nI S'.1) pm po pt)) 55 = some (tt_ia 84 wr) := by rw [va_up_ne _ _ (by decide), H4.2.2.2 55 (by decide) (by decide) (by decide)]; exact e55
                obtain ⟨h5, l', w', t1, t2, t3⟩ := rt_2 (h0 := va_up h4 49 (some (pp_mob 0 tr (nI S'.1) a (nI S'.1) pm po pt))) (va_up_self _ _ _) (by rw [va_up_ne _ _ (by decide)]; exact H4.2.1) (by rw [va_up_ne _ _ (by decide)]; exact H4.2.2.1) hW' D4 S'.1 0 1000 _ ln wr ⟨k54, k55, fun _ _ _ => rfl⟩ (by omega) (by have := hW'.2.1; omega) (fun x hx => absurd hx (Nat.not_lt_zero x))
                refine ⟨h5, ?_, ?_, fun j hj => ?_⟩
                · unfold s_X9_cries
                  simp only [f1, js_in hk, jt_in hs, (ma_o f2.1).b, a0, ix80, w1, hmo2.b, nI_add, rr, rm_rd H4, p6, pp_bind, pn_10, ↓reduceIte]
                  exact t1
                · refine ⟨?_, ?_⟩
                  · obtain ⟨-, q50, q51, q52, q53, -⟩ := f2.1
                    have e : ∀ j, j ≠ 49 → j ≠ 54 → j ≠ 55 → j ≠ 56 → j ≠ 57 → h5 j = h1 j := fun j j1 j2 j3 j4 j5 => by rw [t2.2.2 j j2 j3, va_up_ne _ _ j1, H4.2.2.2 j j1 j4 j5]
                    exact ⟨⟨a, nI S'.1, pm, po, pt, by rw [t2.2.2 49 (by decide) (by decide), va_up_self]⟩, by rw [e 50 (by decide) (by decide) (by decide) (by decide) (by decide)]; exact q50, by rw [e 51 (by decide) (by decide) (by decide) (by decide) (by decide)]; exact q51, by rw [e 52 (by decide) (by decide) (by decide) (by decide) (by decide)]; exact q52, by rw [e 53 (by decide) (by decide) (by decide) (by decide) (by decide)]; exact q53, l', t2.1, w', t2.2.1, t3⟩
                  · refine ⟨fun q hq => ?_, fun q hq => ?_⟩
                    · by_cases q56 : q.1 = 56
                      · have : q.2 = 6 := by revert q; decide
                        rw [q56, this, t2.2.2 56 (by decide) (by decide), va_up_ne _ _ (by decide)]; exact ⟨_, H4.2.1⟩
                      · by_cases q57 : q.1 = 57
                        · have : q.2 = 84 := by revert q; decide
                          rw [q57, this, t2.2.2 57 (by decide) (by decide), va_up_ne _ _ (by decide)]; exact ⟨_, H4.2.2.1⟩
                        · have : q.1 ≠ 49 ∧ q.1 ≠ 54 ∧ q.1 ≠ 55 := by revert q; decide
                          rw [t2.2.2 q.1 this.2.1 this.2.2, va_up_ne _ _ this.1, H4.2.2.2 q.1 this.1 q56 q57]; exact f2.2.1 q hq
                    · have : q.1 ≠ 49 ∧ q.1 ≠ 54 ∧ q.1 ≠ 55 ∧ q.1 ≠ 56 ∧ q.1 ≠ 57 := by revert q; decide
                      rw [t2.2.2 q.1 this.2.1 this.2.2.1, va_up_ne _ _ this.1, H4.2.2.2 q.1 this.1 this.2.2.2.1 this.2.2.2.2]; exact f2.2.2 q hq
                · rw [t2.2.2 j (by omega) (by omega), va_up_ne _ _ (by omega), H4.2.2.2 j (by omega) (by omega) (by omega)]
                  exact f3 j (by omega)
            · have hqn := pr_noP _ n 0 _ q hno
              refine pp_G.of (P' := (kn, dc, sz, wd, so, sl, sc, tr, 0)) (-100 - nI q) ha hm hV ?_ (fun h hm => ?_)
              · obtain ⟨h1, f1, f2, f3⟩ := cl_put ha 0
                obtain ⟨c1, c2⟩ := cls f2
                have hS := sh_of (ft := 0) hV f2.1 hk
                have e1 := (ff_c hS h9 hin hL n 0 1000 (pr_next (0, sz, wd)) hWn (by omega) (by omega)).2 q hno
                have e1' : s_X8_firstFaultOf (41 + 2 * k) (nI i) (nI n) h1 = some (nI q, h1) := e1
                have q9 : ¬ nI q = -9 := fun z => absurd z.symm (pp_neg_ne (by decide) (by omega))
                refine ⟨h1, ?_, f2, fun j hj => f3 j (by omega)⟩
                unfold s_X8_cries
                simp only [f1, ca_b f2.1, sh_in f2.1 hk, gg_opt_some, is_in hs, c1, n0, sh_b hS, c2, e1', q9, pp_bind, pn_10, ↓reduceIte]
              · obtain ⟨h1, f1, f2, f3⟩ := ml_put hm 0
                obtain ⟨a0, h2, w1, h3', w2, pm, po, pt, G, g56, g57, e52, hc, H⟩ := mdl f2
                obtain ⟨h4, a, g56', g57', r1, H4⟩ := (rm_c e52 (show 80 * k + i + n ≤ 320 by omega) (show n ≤ 80 by omega) hc n 0 1000 999 (pr_next (0, sz, wd)) h3' g56 g57 hWn H ⟨fun d hd => by have : d + 1 < 0 + 1 := hd; omega, fun d hd q hq => by
                  have hd2 : d < 0 + 1 := hd
                  have e1 : (pr_next (0, sz, wd)).2.1 d = 0 := if_pos (show d = 0 by omega)
                  rw [e1] at hq; exact absurd hq (Nat.not_lt_zero q)⟩ (by omega) (by omega) (by omega)).2 q hno
                have hmo2 : pp_mo h2 := by
                  obtain ⟨⟨at_, rd, pm', po', pt', e49⟩, -⟩ := f2.1
                  have := pp_put e49 (.int (nI (80 * k + i))) (show 9 < _ from Nat.le_of_ble_eq_true rfl)
                  rw [this] at w1
                  injection w1 with w1
                  rw [← w1]
                  exact ⟨_, _, _, _, _, _, _, _, va_up_self _ _ _⟩
                have rr : s_X9_readCries 49 (nI (80 * k + i + n)) h2 = some (0, h4) := by
                  unfold s_X9_readCries
                  rw [w2, pp_bind, s_X9_readCries_L5, rm_rd H, pp_bind, if_pos (show nI ((pr_next (0, sz, wd)).1 - 1) = 0 from rfl), s_X9_readCries_J20, rm_rd H, pp_bind, if_pos (show nI ((pr_next (0, sz, wd)).1 - 1) ≤ 0 from (by decide : nI 0 ≤ 0)), s_X9_readCries_J62]
                  exact r1
                refine ⟨h4, ?_, ?_, fun j hj => by rw [H4.2.2.2 j (by omega) (by omega) (by omega)]; exact f3 j (by omega)⟩
                · unfold s_X9_cries
                  simp only [f1, js_in hk, jt_in hs, (ma_o f2.1).b, a0, ix80, w1, hmo2.b, nI_add, rr, rm_at H4, pk_sub (show 80 * k + i ≤ 80 * k + i + q by omega), pp_bind, pn_10, pn_00, ↓reduceIte]
                  rw [show 80 * k + i + q - (80 * k + i) = q by omega]
                · refine ⟨?_, ?_⟩
                  · obtain ⟨-, q50, q51, q52, q53, ln, e54, wr, e55, e6⟩ := f2.1
                    have e : ∀ j, j ≠ 49 → j ≠ 56 → j ≠ 57 → h4 j = h1 j := H4.2.2.2
                    exact ⟨⟨_, _, pm, po, pt, H4.1⟩, by rw [e 50 (by decide) (by decide) (by decide)]; exact q50, by rw [e 51 (by decide) (by decide) (by decide)]; exact q51, by rw [e 52 (by decide) (by decide) (by decide)]; exact q52, by rw [e 53 (by decide) (by decide) (by decide)]; exact q53, ln, by rw [e 54 (by decide) (by decide) (by decide)]; exact e54, wr, by rw [e 55 (by decide) (by decide) (by decide)]; exact e55, e6⟩
                  · refine ⟨fun q hq => ?_, fun q hq => ?_⟩
                    · by_cases q56 : q.1 = 56
                      · have : q.2 = 6 := by revert q; decide
                        rw [q56, this]; exact ⟨_, H4.2.1⟩
                      · by_cases q57 : q.1 = 57
                        · have : q.2 = 84 := by revert q; decide
                          rw [q57, this]; exact ⟨_, H4.2.2.1⟩
                        · have : q.1 ≠ 49 := by revert q; decide
                          rw [H4.2.2.2 q.1 this q56 q57]; exact f2.2.1 q hq
                    · have : q.1 ≠ 49 ∧ q.1 ≠ 56 ∧ q.1 ≠ 57 := by revert q; decide
                      rw [H4.2.2.2 q.1 this.1 this.2.1 this.2.2]; exact f2.2.2 q hq
          · have cbad : ∀ {h : tt_H}, cc_A (kn, dc, sz, wd, so, sl, sc, tr, 0) h → (0 : Int32) ≤ x4 → s_X6_hasCells (41 + 2 * k) x3 x4 h = some (0, h) := fun f2 h4 => by
              have hS := sh_of (ft := 0) hV f2.1 hk
              by_cases h5 : x3 < 0
              · exact sh_hcN (Or.inl h5)
              · obtain ⟨i, hi, rfl⟩ := nI_of h5
                obtain ⟨n, hn, rfl⟩ := nI_of (Int32.not_lt.mpr h4)
                have hc := sh_hc hS h9 hi hn
                rw [if_neg (fun z => hall ⟨i, n, rfl, rfl, z⟩)] at hc
                exact hc
            have mbad : ∀ {h : tt_H}, mm_A (kn, dc, sz, wd, so, sl, sc, tr, 0) h → s_X9_against 49 (nI k) (nI s) x3 x4 h = some (if x4 < 0 then 4 else 3, h) := fun f2 => by
              rcases ag_3 f2.1 hk x3 x4 h9 h3 hL hss with q | ⟨i, n, e1, e2, e3, _⟩
              · exact q
              · exact absurd ⟨i, n, e1, e2, e3⟩ hall
            have rf : ∀ {h : tt_H}, cc_A (kn, dc, sz, wd, so, sl, sc, tr, 0) h → s_X8_readingFault (41 + 2 * k) (nI s) h = some (0, h) := fun f2 => by
              have hr := rf_c (sh_of (ft := 0) hV f2.1 hk) hs
              rw [if_neg h9, if_pos hss] at hr
              exact hr
            by_cases h4 : x4 < 0
            · have n4 : ¬ (0 : Int32) ≤ x4 := Int32.not_le.mpr h4
              refine pp_G.ft (-10 - 4) 4 hV ha hm (fun h ha => ?_) (fun h hm => ?_)
              · obtain ⟨h1, f1, f2, f3⟩ := cl_put ha 0
                obtain ⟨h2, g1, g2, g3⟩ := cl_fails f2 4
                refine ⟨h2, ?_, g2, fun i hi => (g3 i hi).trans (f3 i hi)⟩
                unfold s_X8_cries
                simp only [f1, ca_b f2.1, sh_in f2.1 hk, gg_opt_some, is_in hs, rf f2, n4, g1, pp_bind, pn_10, ↓reduceIte]
              · obtain ⟨h1, f1, f2, f3⟩ := ml_put hm 0
                obtain ⟨h2, g1, g2, g3⟩ := ml_fails f2 4
                have e := mbad f2
                rw [if_pos h4] at e
                refine ⟨h2, ?_, g2, fun i hi => (g3 i hi).trans (f3 i hi)⟩
                unfold s_X9_cries
                simp only [f1, js_in hk, jt_in hs, (ma_o f2.1).b, e, g1, pp_bind, pn_10, ↓reduceIte]
                rfl
            · have n4 : (0 : Int32) ≤ x4 := Int32.not_lt.mp h4
              refine pp_G.ft (-10 - 3) 3 hV ha hm (fun h ha => ?_) (fun h hm => ?_)
              · obtain ⟨h1, f1, f2, f3⟩ := cl_put ha 0
                obtain ⟨h2, g1, g2, g3⟩ := cl_fails f2 3
                have hS := sh_of (ft := 0) hV f2.1 hk
                refine ⟨h2, ?_, g2, fun i hi => (g3 i hi).trans (f3 i hi)⟩
                unfold s_X8_cries
                simp only [f1, ca_b f2.1, sh_in f2.1 hk, gg_opt_some, is_in hs, rf f2, n4, sh_b hS, cbad f2 n4, g1, pp_bind, pn_10, ↓reduceIte]
              · obtain ⟨h1, f1, f2, f3⟩ := ml_put hm 0
                obtain ⟨h2, g1, g2, g3⟩ := ml_fails f2 3
                have e := mbad f2
                rw [if_neg h4] at e
                refine ⟨h2, ?_, g2, fun i hi => (g3 i hi).trans (f3 i hi)⟩
                unfold s_X9_cries
                simp only [f1, js_in hk, jt_in hs, (ma_o f2.1).b, e, g1, pp_bind, pn_10, ↓reduceIte]
                rfl
        · refine pp_G.ft (-10 - 2) 2 hV ha hm (fun h ha => ?_) (fun h hm => ?_)
          · obtain ⟨h1, f1, f2, f3⟩ := cl_put ha 0
            obtain ⟨h2, g1, g2, g3⟩ := cl_fails f2 2
            have hr := rf_c (sh_of (ft := 0) hV f2.1 hk) hs
            rw [if_neg h9, if_neg hss] at hr
            refine ⟨h2, ?_, g2, fun i hi => (g3 i hi).trans (f3 i hi)⟩
            unfold s_X8_cries
            simp only [f1, ca_b f2.1, sh_in f2.1 hk, gg_opt_some, is_in hs, hr, g1, pp_bind, pn_10, ↓reduceIte]
            rfl
          · obtain ⟨h1, f1, f2, f3⟩ := ml_put hm 0
            obtain ⟨h2, g1, g2, g3⟩ := ml_fails f2 2
            refine ⟨h2, ?_, g2, fun i hi => (g3 i hi).trans (f3 i hi)⟩
            unfold s_X9_cries
            simp only [f1, js_in hk, jt_in hs, (ma_o f2.1).b, ag_2 f2.1 hk hs _ _ h9 h3 hss, g1, pp_bind, pn_10, ↓reduceIte]
            rfl
    · refine pp_G.ft (-2) 0 hV ha hm (fun h ha => ?_) (fun h hm => ?_)
      · obtain ⟨h4, f1, f2, f3⟩ := cl_put ha 0
        refine ⟨h4, ?_, f2, f3⟩
        unfold s_X8_cries
        simp only [f1, ca_b f2.1, sh_in f2.1 hk, gg_opt_some, is_out h2, pp_bind, pn_00, ↓reduceIte]
      · obtain ⟨h4, f1, f2, f3⟩ := ml_put hm 0
        refine ⟨h4, ?_, f2, f3⟩
        unfold s_X9_cries
        simp only [f1, js_in hk, jt_out h2, pp_bind, pn_10, pn_00, ↓reduceIte]
  · refine pp_G.ft (-1) 0 hV ha hm (fun h ha => ?_) (fun h hm => ?_)
    · obtain ⟨h2, f1, f2, f3⟩ := cl_put ha 0
      refine ⟨h2, ?_, f2, f3⟩
      unfold s_X8_cries
      simp only [f1, ca_b f2.1, sh_out h1, gg_opt_none, pp_bind]
    · obtain ⟨h2, f1, f2, f3⟩ := ml_put hm 0
      refine ⟨h2, ?_, f2, f3⟩
      unfold s_X9_cries
      simp only [f1, js_out h1, pp_bind, pn_00, ↓reduceIte]
