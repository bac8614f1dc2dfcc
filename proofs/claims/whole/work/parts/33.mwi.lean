/-! THE MODEL's isWithin -/
theorem gR_z (f1 f2 : Nat → Nat) : ∀ (t : Nat) (acc : Nat → Nat), gR f1 f2 t 0 = 0 ∧ gB f1 f2 t 0 acc = acc
  | 0, _ => ⟨rfl, rfl⟩
  | t + 1, acc => by
    have hc : ¬ (0 < 0 ∧ f1 (0 - 1) = f2 t) := fun z => absurd z.1 (Nat.lt_irrefl 0)
    rw [gR_s0 hc, gB_s0 hc]
    exact gR_z f1 f2 t acc
section MWI
variable {h0 : tt_H} {d1 d2 n1 n2 : Nat} {f1 f2 : Nat → Nat}
theorem mw_back (c1 : pp_m h0 d1 n1 f1) (c2 : pp_m h0 d2 n2 f2) :
    ∀ (t r fu : Nat) (g : Nat → Int32) (acc : Nat → Nat), t ≤ n2 → r ≤ n1 → t < fu → (∀ k, r ≤ k → k < n1 → g k = nI (acc k)) →
      ∃ g', s_X9_isWithin_L84 fu 49 (nI d1) (nI d2) (nI r + (-1)) (nI t + (-1)) (va_up h0 59 (some (tt_ia 12 g))) = some (1, va_up h0 59 (some (tt_ia 12 g'))) ∧ ∀ k, gR f1 f2 t r ≤ k → k < n1 → g' k = nI (gB f1 f2 t r acc k) := by
  intro t
  have l1 := c1.le
  have l2 := c2.le
  induction t with
  | zero =>
    intro r fu g acc _ _ hfu hg
    obtain ⟨fu, rfl⟩ : ∃ z, fu = z + 1 := ⟨fu - 1, by omega⟩
    refine ⟨g, ?_, hg⟩
    rw [s_X9_isWithin_L84, if_pos (show nI 0 + (-1) < 0 by decide)]
  | succ t ih =>
    intro r fu g acc ht hr hfu hg
    obtain ⟨fu, rfl⟩ : ∃ z, fu = z + 1 := ⟨fu - 1, by omega⟩
    have c1' : pp_m (va_up h0 59 (some (tt_ia 12 g))) d1 n1 f1 := c1.up _ (by decide)
    have c2' : pp_m (va_up h0 59 (some (tt_ia 12 g))) d2 n2 f2 := c2.up _ (by decide)
    rw [s_X9_isWithin_L84, pk_m1, if_neg (nI_pos (by omega))]
    by_cases hr0 : 0 < r
    · rw [pp_p1 hr0, if_neg (nI_pos (by omega)), c1'.1.b, pp_mw c2' (by omega), pp_bind]
      simp only []
      rw [c1'.1.b, pp_mw c1' (by omega), pp_bind]
      simp only []
      have b1 := c1.lt8 (show r - 1 < n1 by omega)
      have b2 := c2.lt8 (show t < n2 by omega)
      by_cases hw : f1 (r - 1) = f2 t
      · have hc : 0 < r ∧ f1 (r - 1) = f2 t := ⟨hr0, hw⟩
        rw [if_pos (by rw [hw]), mo_14 c1'.1, pp_bind, pp_is (va_up_self _ _ _) (by omega) (by decide), pp_bind, bx_uu, s_X9_isWithin_J120, gR_s1 hc, gB_s1 hc]
        refine ih (r - 1) fu _ _ (by omega) (by omega) (by omega) (fun k h1 h2 => ?_)
        by_cases hk : k = r - 1
        · subst hk; simp [upd]
        · simp only [upd, if_neg hk]; exact hg k (by omega) h2
      · have hc : ¬ (0 < r ∧ f1 (r - 1) = f2 t) := fun z => hw z.2
        rw [if_neg (fun z => hw ((nI_eq (by omega) (by omega)).mp z).symm), s_X9_isWithin_J120, gR_s0 hc, gB_s0 hc, ← pp_p1 hr0]
        exact ih r fu _ _ (by omega) hr (by omega) hg
    · have hr1 : r = 0 := by omega
      subst hr1
      refine ⟨g, ?_, ?_⟩
      · rw [if_pos (show nI 0 + (-1) < 0 by decide)]
      · rw [(gR_z f1 f2 (t + 1) acc).1, (gR_z f1 f2 (t + 1) acc).2]
        exact hg
theorem mw_J59 {h : tt_H} (c1 : pp_m h d1 n1 f1) (c2 : pp_m h d2 n2 f2) {k : Nat} (hk : k < 2 ^ 31) : s_X9_isWithin_J59 49 (nI d1) (nI d2) (nI k) h = if n1 ≤ k then s_X9_isWithin_L84 1000 49 (nI d1) (nI d2) (nI k + (-1)) (nI n2 + (-1)) h else some (0, h) := by
  have l1 := c1.le
  unfold s_X9_isWithin_J59
  rw [mo_7 c1.1, pp_bind, pp_mlen c1, pp_bind]
  by_cases hw : n1 ≤ k
  · rw [if_pos (nI_le hw hk), if_pos hw, pp_bind, pp_mlen c2, pp_bind, pp_sub1]
  · rw [if_neg (nI_ge (by omega) (by omega)), if_neg hw]
theorem mw_front (c1 : pp_m h0 d1 n1 f1) (c2 : pp_m h0 d2 n2 f2) :
    ∀ (s p fu : Nat) (g : Nat → Int32), p + s = n2 → s < fu → (∀ k, k < gK n1 f1 f2 p → g k = nI (gA n1 f1 f2 p k)) →
      ∃ g', s_X9_isWithin_L5 fu 49 (nI d1) (nI d2) (nI (gK n1 f1 f2 p)) (nI p) (va_up h0 58 (some (tt_ia 12 g))) = (if n1 ≤ gK n1 f1 f2 n2 then s_X9_isWithin_L84 1000 49 (nI d1) (nI d2) (nI n1 + (-1)) (nI n2 + (-1)) (va_up h0 58 (some (tt_ia 12 g'))) else some (0, va_up h0 58 (some (tt_ia 12 g')))) ∧ ∀ k, k < gK n1 f1 f2 n2 → g' k = nI (gA n1 f1 f2 n2 k) := by
  intro s
  have l1 := c1.le
  have l2 := c2.le
  induction s with
  | zero =>
    intro p fu g hp hfu hg
    obtain ⟨fu, rfl⟩ : ∃ z, fu = z + 1 := ⟨fu - 1, by omega⟩
    obtain rfl : p = n2 := by omega
    have c1' : pp_m (va_up h0 58 (some (tt_ia 12 g))) d1 n1 f1 := c1.up _ (by decide)
    have c2' : pp_m (va_up h0 58 (some (tt_ia 12 g))) d2 p f2 := c2.up _ (by decide)
    have hk := gK_le n1 f1 f2 p
    refine ⟨g, ?_, hg⟩
    rw [s_X9_isWithin_L5, mo_7 c1'.1, pp_bind, pp_mlen c2', pp_bind, if_pos (nI_le (Nat.le_refl p) (by omega)), mw_J59 c1' c2' (by omega)]
    by_cases hw : n1 ≤ gK n1 f1 f2 p
    · rw [if_pos hw, if_pos hw, show gK n1 f1 f2 p = n1 by omega]
    · rw [if_neg hw, if_neg hw]
  | succ s ih =>
    intro p fu g hp hfu hg
    obtain ⟨fu, rfl⟩ : ∃ z, fu = z + 1 := ⟨fu - 1, by omega⟩
    have c1' : pp_m (va_up h0 58 (some (tt_ia 12 g))) d1 n1 f1 := c1.up _ (by decide)
    have c2' : pp_m (va_up h0 58 (some (tt_ia 12 g))) d2 n2 f2 := c2.up _ (by decide)
    have hk := gK_le n1 f1 f2 p
    rw [s_X9_isWithin_L5, mo_7 c1'.1, pp_bind, pp_mlen c2', pp_bind, if_neg (nI_ge (by omega) (by omega)), pp_bind, pp_mlen c1', pp_bind]
    by_cases hk1 : gK n1 f1 f2 p < n1
    · rw [if_neg (nI_ge hk1 (by omega)), c1'.1.b, pp_mw c2' (by omega), pp_bind]
      simp only []
      rw [c1'.1.b, pp_mw c1' hk1, pp_bind]
      simp only []
      have b1 := c1.lt8 hk1
      have b2 := c2.lt8 (show p < n2 by omega)
      by_cases hw : f1 (gK n1 f1 f2 p) = f2 p
      · have hc : gK n1 f1 f2 p < n1 ∧ f1 (gK n1 f1 f2 p) = f2 p := ⟨hk1, hw⟩
        rw [if_pos (by rw [hw]), mo_13 c1'.1, pp_bind, pp_is (va_up_self _ _ _) (by omega) (by decide), pp_bind, bx_uu, s_X9_isWithin_J53, nI_1, nI_1, ← gK_s1 hc]
        refine ih (p + 1) fu _ (by omega) (by omega) (fun k hk => ?_)
        rw [gK_s1 hc] at hk
        rw [gA_s1 hc]
        by_cases hkk : k = gK n1 f1 f2 p
        · simp [upd, hkk]
        · simp only [upd, if_neg hkk]; exact hg k (by omega)
      · have hc : ¬ (gK n1 f1 f2 p < n1 ∧ f1 (gK n1 f1 f2 p) = f2 p) := fun z => hw z.2
        rw [if_neg (fun z => hw ((nI_eq (by omega) (by omega)).mp z).symm), s_X9_isWithin_J53, nI_1, ← gK_s0 hc]
        exact ih (p + 1) fu _ (by omega) (by omega) (by rw [gK_s0 hc, gA_s0 hc]; exact hg)
    · have hkn : gK n1 f1 f2 p = n1 := by omega
      obtain ⟨e1, e2⟩ := gK_full hkn (s + 1)
      rw [show p + (s + 1) = n2 from hp] at e1 e2
      refine ⟨g, ?_, fun k hk => by rw [e2]; exact hg k (by omega)⟩
      rw [if_pos (nI_le (by omega) (by omega)), mw_J59 c1' c2' (by omega), hkn, if_pos (Nat.le_refl n1), e1, if_pos (Nat.le_refl n1)]
theorem mw_within {g58 g59 : Nat → Int32} (c1 : pp_m h0 d1 n1 f1) (c2 : pp_m h0 d2 n2 f2) (h58 : h0 58 = some (tt_ia 12 g58)) (h59 : h0 59 = some (tt_ia 12 g59)) :
    ∃ g l, s_X9_isWithin 49 (nI d1) (nI d2) h0 = some (if gK n1 f1 f2 n2 = n1 then 1 else 0, va_up (va_up h0 58 (some (tt_ia 12 g))) 59 (some (tt_ia 12 l))) ∧ (gK n1 f1 f2 n2 = n1 → ∀ k, k < n1 → g k = nI (gA n1 f1 f2 n2 k) ∧ l k = nI (gB f1 f2 n2 n1 (fun _ => 0) k)) := by
  have l1 := c1.le
  have l2 := c2.le
  obtain ⟨g, e1, e2⟩ := mw_front c1 c2 n2 0 1000 g58 (by omega) (by omega) (fun k hk => absurd hk (Nat.not_lt_zero k))
  rw [pp_same h58] at e1
  have hle := gK_le n1 f1 f2 n2
  by_cases hw : gK n1 f1 f2 n2 = n1
  · rw [if_pos (by omega)] at e1
    obtain ⟨l, e3, e4⟩ := mw_back (h0 := va_up h0 58 (some (tt_ia 12 g))) (c1.up _ (by decide)) (c2.up _ (by decide)) n2 n1 1000 g59 (fun _ => 0) (Nat.le_refl _) (Nat.le_refl _) (by omega) (fun k h1 h2 => by omega)
    rw [pp_same (by rw [va_up_ne _ _ (by decide)]; exact h59)] at e3
    refine ⟨g, l, ?_, fun _ k hk => ⟨e2 k (by omega), e4 k (by rw [gR_within hw]; exact Nat.zero_le k) hk⟩⟩
    rw [if_pos hw]
    show s_X9_isWithin_L5 1000 49 (nI d1) (nI d2) (nI (gK n1 f1 f2 0)) (nI 0) h0 = _
    rw [e1, e3]
  · rw [if_neg (by omega)] at e1
    refine ⟨g, g59, ?_, fun z => absurd z hw⟩
    rw [if_neg hw, pp_same (by rw [va_up_ne _ _ (by decide)]; exact h59)]
    show s_X9_isWithin_L5 1000 49 (nI d1) (nI d2) (nI (gK n1 f1 f2 0)) (nI 0) h0 = _
    rw [e1]
end MWI
