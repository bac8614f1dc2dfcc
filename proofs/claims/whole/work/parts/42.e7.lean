
/-! MAY BE: the first way's places are the least, the last one's the greatest -/
theorem gA_stuck (n1 : Nat) (f1 f2 : Nat → Nat) : ∀ p q, q < p → gK n1 f1 f2 p < n1 → f1 (gK n1 f1 f2 p) = f2 q → 0 < gK n1 f1 f2 p ∧ q ≤ gA n1 f1 f2 p (gK n1 f1 f2 p - 1)
  | 0, q, hq, _, _ => absurd hq (Nat.not_lt_zero q)
  | p + 1, q, hq, hk, hf => by
    by_cases hc : gK n1 f1 f2 p < n1 ∧ f1 (gK n1 f1 f2 p) = f2 p
    · rw [gK_s1 hc, gA_s1 hc]
      refine ⟨Nat.succ_pos _, ?_⟩
      rw [show gK n1 f1 f2 p + 1 - 1 = gK n1 f1 f2 p by omega]
      simp only [if_true]
      omega
    · rw [gK_s0 hc] at hk hf ⊢
      rw [gA_s0 hc]
      by_cases hqp : q = p
      · exact absurd ⟨hk, hf.trans (by rw [hqp])⟩ hc
      · exact gA_stuck n1 f1 f2 p q (by omega) hk hf
theorem gA_least (n1 : Nat) (f1 f2 : Nat → Nat) : ∀ p k q, k < gK n1 f1 f2 p → q < p → f1 k = f2 q → (k = 0 ∨ gA n1 f1 f2 p (k - 1) < q) → gA n1 f1 f2 p k ≤ q
  | 0, k, q, _, hq, _, _ => absurd hq (Nat.not_lt_zero q)
  | p + 1, k, q, hk, hq, hf, hc2 => by
    by_cases hc : gK n1 f1 f2 p < n1 ∧ f1 (gK n1 f1 f2 p) = f2 p
    · rw [gK_s1 hc] at hk
      rw [gA_s1 hc] at hc2 ⊢
      by_cases hkk : k = gK n1 f1 f2 p
      · simp only [if_pos hkk]
        by_cases hqp : q = p
        · omega
        · have hs := gA_stuck n1 f1 f2 p q (by omega) hc.1 (by rw [← hkk]; exact hf)
          rcases hc2 with h0 | h0
          · omega
          · have h1 : (if k - 1 = gK n1 f1 f2 p then p else gA n1 f1 f2 p (k - 1)) < q := h0
            rw [if_neg (show ¬ k - 1 = gK n1 f1 f2 p by omega), hkk] at h1
            omega
      · simp only [if_neg hkk]
        by_cases hqp : q = p
        · have := ((gA_ok n1 f1 f2 p).1 k (by omega)).1; omega
        · refine gA_least n1 f1 f2 p k q (by omega) (by omega) hf ?_
          rcases hc2 with h0 | h0
          · exact Or.inl h0
          · have h1 : (if k - 1 = gK n1 f1 f2 p then p else gA n1 f1 f2 p (k - 1)) < q := h0
            rw [if_neg (show ¬ k - 1 = gK n1 f1 f2 p by omega)] at h1
            exact Or.inr h1
    · rw [gK_s0 hc] at hk
      rw [gA_s0 hc] at hc2 ⊢
      by_cases hqp : q = p
      · have := ((gA_ok n1 f1 f2 p).1 k hk).1; omega
      · exact gA_least n1 f1 f2 p k q hk (by omega) hf hc2
theorem gB_out (f1 f2 : Nat → Nat) : ∀ t r acc k, r ≤ k → gB f1 f2 t r acc k = acc k
  | 0, _, _, _, _ => rfl
  | t + 1, r, acc, k, hk => by
    by_cases hc : 0 < r ∧ f1 (r - 1) = f2 t
    · rw [gB_s1 hc, gB_out f1 f2 t (r - 1) _ k (by omega)]
      simp only [if_neg (show ¬ k = r - 1 by omega)]
    · rw [gB_s0 hc, gB_out f1 f2 t r acc k hk]
theorem gB_ok (f1 f2 : Nat → Nat) : ∀ t r acc k, gR f1 f2 t r ≤ k → k < r → gB f1 f2 t r acc k < t ∧ f1 k = f2 (gB f1 f2 t r acc k)
  | 0, r, acc, k, h1, h2 => absurd h2 (by have : gR f1 f2 0 r = r := rfl
                                          omega)
  | t + 1, r, acc, k, h1, h2 => by
    by_cases hc : 0 < r ∧ f1 (r - 1) = f2 t
    · rw [gR_s1 hc] at h1
      rw [gB_s1 hc]
      by_cases hk : k = r - 1
      · rw [gB_out f1 f2 t (r - 1) _ k (by omega)]
        simp only [if_pos hk]
        exact ⟨Nat.lt_succ_self t, by rw [hk]; exact hc.2⟩
      · have := gB_ok f1 f2 t (r - 1) (fun j => if j = r - 1 then t else acc j) k h1 (by omega)
        exact ⟨by omega, this.2⟩
    · rw [gR_s0 hc] at h1
      rw [gB_s0 hc]
      have := gB_ok f1 f2 t r acc k h1 h2
      exact ⟨by omega, this.2⟩
theorem gB_mono (f1 f2 : Nat → Nat) : ∀ t r acc k, gR f1 f2 t r ≤ k → k + 1 < r → gB f1 f2 t r acc k < gB f1 f2 t r acc (k + 1)
  | 0, r, acc, k, h1, h2 => absurd h2 (by have : gR f1 f2 0 r = r := rfl
                                          omega)
  | t + 1, r, acc, k, h1, h2 => by
    by_cases hc : 0 < r ∧ f1 (r - 1) = f2 t
    · rw [gR_s1 hc] at h1
      rw [gB_s1 hc]
      by_cases hk : k + 1 = r - 1
      · rw [gB_out f1 f2 t (r - 1) _ (k + 1) (by omega)]
        simp only [if_pos hk]
        exact (gB_ok f1 f2 t (r - 1) (fun j => if j = r - 1 then t else acc j) k h1 (by omega)).1
      · exact gB_mono f1 f2 t (r - 1) _ k h1 (by omega)
    · rw [gR_s0 hc] at h1
      rw [gB_s0 hc]
      exact gB_mono f1 f2 t r acc k h1 h2
theorem gB_most (f1 f2 : Nat → Nat) : ∀ t r acc k q, gR f1 f2 t r ≤ k → k < r → q < t → f1 k = f2 q → (k + 1 = r ∨ q < gB f1 f2 t r acc (k + 1)) → q ≤ gB f1 f2 t r acc k
  | 0, r, acc, k, q, h1, h2, h3, _, _ => absurd h3 (Nat.not_lt_zero q)
  | t + 1, r, acc, k, q, h1, h2, h3, h4, h5 => by
    by_cases hc : 0 < r ∧ f1 (r - 1) = f2 t
    · rw [gR_s1 hc] at h1
      rw [gB_s1 hc] at h5 ⊢
      by_cases hk : k = r - 1
      · rw [gB_out f1 f2 t (r - 1) _ k (by omega)]
        simp only [if_pos hk]
        omega
      · by_cases hk2 : k + 1 = r - 1
        · have h6 := h5.resolve_left (by omega)
          rw [gB_out f1 f2 t (r - 1) _ (k + 1) (by omega)] at h6
          simp only [if_pos hk2] at h6
          exact gB_most f1 f2 t (r - 1) _ k q h1 (by omega) (by omega) h4 (Or.inl hk2)
        · have h6 := h5.resolve_left (by omega)
          have h7 := (gB_ok f1 f2 t (r - 1) (fun j => if j = r - 1 then t else acc j) (k + 1) (by omega) (by omega)).1
          exact gB_most f1 f2 t (r - 1) _ k q h1 (by omega) (by omega) h4 (Or.inr h6)
    · rw [gR_s0 hc] at h1
      rw [gB_s0 hc] at h5 ⊢
      by_cases hq : q = t
      · exfalso
        by_cases hk : k + 1 = r
        · exact hc ⟨by omega, by rw [show r - 1 = k by omega, h4, hq]⟩
        · have h6 := h5.resolve_left hk
          have h7 := (gB_ok f1 f2 t r acc (k + 1) (by omega) (by omega)).1
          omega
      · exact gB_most f1 f2 t r acc k q h1 h2 (by omega) h4 h5
section MB
variable {n1 n2 : Nat} {f1 f2 : Nat → Nat}
abbrev mb_A (n1 n2 : Nat) (f1 f2 : Nat → Nat) : Nat → Nat := gA n1 f1 f2 n2
abbrev mb_B (n1 n2 : Nat) (f1 f2 : Nat → Nat) : Nat → Nat := gB f1 f2 n2 n1 (fun _ => 0)
theorem mb_left (hw : gK n1 f1 f2 n2 = n1) {k p : Nat} (hk : k < n1) (hp : p < n2) (hf : f1 k = f2 p) : mb_A n1 n2 f1 f2 k ≤ p ↔ (k = 0 ∨ mb_A n1 n2 f1 f2 (k - 1) < p) := by
  constructor
  · intro z
    by_cases h0 : k = 0
    · exact Or.inl h0
    · have := (gA_ok n1 f1 f2 n2).2 (k - 1) (by omega)
      rw [show k - 1 + 1 = k by omega] at this
      exact Or.inr (Nat.lt_of_lt_of_le this z)
  · exact gA_least n1 f1 f2 n2 k p (by omega) hp hf
theorem mb_right (hw : gK n1 f1 f2 n2 = n1) {k p : Nat} (hk : k < n1) (hp : p < n2) (hf : f1 k = f2 p) : p ≤ mb_B n1 n2 f1 f2 k ↔ (k + 1 = n1 ∨ p < mb_B n1 n2 f1 f2 (k + 1)) := by
  have hr := gR_within hw
  constructor
  · intro z
    by_cases h0 : k + 1 = n1
    · exact Or.inl h0
    · exact Or.inr (Nat.lt_of_le_of_lt z (gB_mono f1 f2 n2 n1 _ k (by omega) (by omega)))
  · exact gB_most f1 f2 n2 n1 _ k p (by omega) hk hp hf
/-- whether a WORD of the inner one can stand at p, from its k-th on -/
def ms_R (n1 n2 : Nat) (f1 f2 : Nat → Nat) (p : Nat) : Nat → Nat → Int32
  | 0, _ => 0
  | s + 1, k => if f1 k = f2 p ∧ mb_A n1 n2 f1 f2 k ≤ p ∧ p ≤ mb_B n1 n2 f1 f2 k then 1 else ms_R n1 n2 f1 f2 p s (k + 1)
theorem mb_A_lt (hw : gK n1 f1 f2 n2 = n1) {k : Nat} (hk : k < n1) : mb_A n1 n2 f1 f2 k < n2 := ((gA_ok n1 f1 f2 n2).1 k (by omega)).1
theorem mb_B_lt (hw : gK n1 f1 f2 n2 = n1) {k : Nat} (hk : k < n1) : mb_B n1 n2 f1 f2 k < n2 := (gB_ok f1 f2 n2 n1 _ k (by rw [gR_within hw]; exact Nat.zero_le k) hk).1
end MB
section MBW
variable {kn : Nat → Nat} {dc : Nat} {sz : Nat → Nat} {wd : Nat → Nat → Nat} {so sl : Nat → Nat} {sc : Nat → Nat → Int32} {tr ft : Int32} {h : tt_H} {b1 b2 d1 d2 n1 n2 p : Nat} {f1 f2 : Nat → Nat} {g l : Nat → Int32}
theorem cs_c (hI : cc_I (kn, dc, sz, wd, so, sl, sc, tr, ft) h) (c1 : pp_cry h b1 n1 f1) (c2 : pp_cry h b2 n2 f2) (hw : gK n1 f1 f2 n2 = n1) (hp : p < n2) (h7 : h 7 = some (tt_ia 12 g)) (h8 : h 8 = some (tt_ia 12 l)) (hg : ∀ k, k < n1 → g k = nI (mb_A n1 n2 f1 f2 k) ∧ l k = nI (mb_B n1 n2 f1 f2 k)) :
    ∀ (s k fu : Nat), k + s = n1 → s < fu → s_X3_canStand_L14 fu 6 b1 b2 (nI p) (nI k) h = some (ms_R n1 n2 f1 f2 p s k, h) := by
  have l1 := c1.le
  have l2 := c2.le
  intro s
  induction s with
  | zero =>
    intro k fu hk hfu
    obtain ⟨fu, rfl⟩ : ∃ z, fu = z + 1 := ⟨fu - 1, by omega⟩
    rw [s_X3_canStand_L14]
    simp only [pp_cobj c1, pp_size c1, nI_le (show n1 ≤ k by omega) (show k < 2 ^ 31 by omega), pp_bind, ↓reduceIte]
    rfl
  | succ s ih =>
    intro k fu hk hfu
    obtain ⟨fu, rfl⟩ : ∃ z, fu = z + 1 := ⟨fu - 1, by omega⟩
    have b1 := c1.lt8 (show k < n1 by omega)
    have b2 := c2.lt8 hp
    have a1 := mb_A_lt hw (show k < n1 by omega)
    have a2 := mb_B_lt hw (show k < n1 by omega)
    rw [s_X3_canStand_L14, ms_R]
    simp only [pp_cobj c1, pp_cobj c2, pp_size c1, nI_ge (show k < n1 by omega) (show n1 < 2 ^ 31 by omega), pp_at c1 (show k < 2 ^ 31 by omega), pp_at c2 (show p < 2 ^ 31 by omega), ca_fit hI, cl_first hI h7 (show k < 12 by omega), cl_lastp hI h8 (show k < 12 by omega), (hg k (by omega)).1, (hg k (by omega)).2, s_X3_canStand_J59, nI_1, pp_bind, ↓reduceIte]
    rw [ih (k + 1) fu (by omega) (by omega)]
    by_cases hf : f1 k = f2 p
    · rw [if_pos ((pp_w_eq (by omega) hp b1 b2).mpr hf)]
      by_cases h1 : mb_A n1 n2 f1 f2 k ≤ p
      · rw [if_neg (nI_nlt h1 (by omega))]
        by_cases h2 : p ≤ mb_B n1 n2 f1 f2 k
        · rw [if_neg (nI_nlt h2 (by omega)), if_pos ⟨hf, h1, h2⟩]
        · rw [if_pos (nI_lt (by omega) (by omega)), if_neg (fun z => h2 z.2.2)]
      · rw [if_pos (nI_lt (by omega) (by omega)), if_neg (fun z => h1 z.2.1)]
    · rw [if_neg (fun z => hf ((pp_w_eq (by omega) hp b1 b2).mp z)), if_neg (fun z => hf z.1)]
theorem cs_m (c1 : pp_m h d1 n1 f1) (c2 : pp_m h d2 n2 f2) (hw : gK n1 f1 f2 n2 = n1) (hp : p < n2) (h7 : h 58 = some (tt_ia 12 g)) (h8 : h 59 = some (tt_ia 12 l)) (hg : ∀ k, k < n1 → g k = nI (mb_A n1 n2 f1 f2 k) ∧ l k = nI (mb_B n1 n2 f1 f2 k)) :
    ∀ (s k fu : Nat), k + s = n1 → s < fu → s_X9_mayStand_L14 fu 49 (nI d1) (nI d2) (nI p) (nI k) h = some (ms_R n1 n2 f1 f2 p s k, h) := by
  have l1 := c1.le
  have l2 := c2.le
  intro s
  induction s with
  | zero =>
    intro k fu hk hfu
    obtain ⟨fu, rfl⟩ : ∃ z, fu = z + 1 := ⟨fu - 1, by omega⟩
    rw [s_X9_mayStand_L14]
    simp only [mo_7 c1.1, pp_mlen c1, nI_le (show n1 ≤ k by omega) (show k < 2 ^ 31 by omega), pp_bind, ↓reduceIte]
    rfl
  | succ s ih =>
    intro k fu hk hfu
    obtain ⟨fu, rfl⟩ : ∃ z, fu = z + 1 := ⟨fu - 1, by omega⟩
    have b1 := c1.lt8 (show k < n1 by omega)
    have b2 := c2.lt8 hp
    have nx : s_X9_mayStand_J111 (s_X9_mayStand_L14 fu) 49 (nI d1) (nI d2) (nI p) (nI k) h = some (ms_R n1 n2 f1 f2 p s (k + 1), h) := by
      rw [s_X9_mayStand_J111, nI_1, ih (k + 1) fu (by omega) (by omega)]
    have j81 : ∀ x y : Int32, s_X9_mayStand_J81 (s_X9_mayStand_L14 fu) 49 (nI d1) (nI d2) (nI p) (nI k) x y h = if f1 k = f2 p ∧ ¬ x = 0 ∧ ¬ y = 0 then some (1, h) else some (ms_R n1 n2 f1 f2 p s (k + 1), h) := by
      intro x y
      unfold s_X9_mayStand_J81
      simp only [c1.1.b, pp_mw c1 (show k < n1 by omega), pp_mw c2 hp, pp_bind]
      rw [nx]
      by_cases hf : f1 k = f2 p
      · rw [if_pos (by rw [hf])]
        by_cases hx : x = 0
        · rw [if_pos hx, if_neg (fun z => z.2.1 hx)]
        · rw [if_neg hx]
          by_cases hy : y = 0
          · rw [if_pos hy, if_neg (fun z => z.2.2 hy)]
          · rw [if_neg hy, if_pos ⟨hf, hx, hy⟩]
      · rw [if_neg (fun z => hf ((nI_eq (by omega) (by omega)).mp z)), if_neg (fun z => hf z.1)]
    have j48 : ∀ x : Int32, s_X9_mayStand_J48 (s_X9_mayStand_L14 fu) 49 (nI d1) (nI d2) (nI p) (nI k) x h = if f1 k = f2 p ∧ ¬ x = 0 ∧ (k + 1 = n1 ∨ p < mb_B n1 n2 f1 f2 (k + 1)) then some (1, h) else some (ms_R n1 n2 f1 f2 p s (k + 1), h) := by
      intro x
      unfold s_X9_mayStand_J48
      simp only [mo_7 c1.1, pp_mlen c1, pp_m1 (show 0 < n1 by omega), s_X9_mayStand_J76, mo_14 c1.1, nI_1, pp_bind]
      by_cases h1 : k + 1 = n1
      · rw [if_pos (show nI k = nI (n1 - 1) by rw [show n1 - 1 = k by omega]), j81 x 1]
        by_cases hx : f1 k = f2 p ∧ ¬ x = 0
        · rw [if_pos ⟨hx.1, hx.2, by decide⟩, if_pos ⟨hx.1, hx.2, Or.inl h1⟩]
        · rw [if_neg (fun z => hx ⟨z.1, z.2.1⟩), if_neg (fun z => hx ⟨z.1, z.2.1⟩)]
      · have a2 := mb_B_lt hw (show k + 1 < n1 by omega)
        rw [if_neg (fun z => absurd ((nI_eq (by omega) (by omega)).mp z) (by omega)), pp_il h8 (by omega) (by decide), pp_bind, (hg (k + 1) (by omega)).2]
        by_cases h2 : p < mb_B n1 n2 f1 f2 (k + 1)
        · rw [if_neg (nI_ge h2 (by omega)), j81 x 1]
          by_cases hx : f1 k = f2 p ∧ ¬ x = 0
          · rw [if_pos ⟨hx.1, hx.2, by decide⟩, if_pos ⟨hx.1, hx.2, Or.inr h2⟩]
          · rw [if_neg (fun z => hx ⟨z.1, z.2.1⟩), if_neg (fun z => hx ⟨z.1, z.2.1⟩)]
        · rw [if_pos (nI_le (by omega) (by omega)), j81 x 0, if_neg (fun z => z.2.2 rfl), if_neg (fun z => z.2.2.elim h1 h2)]
    have fin : ∀ x : Int32, (¬ x = 0 ↔ (k = 0 ∨ mb_A n1 n2 f1 f2 (k - 1) < p)) → (if f1 k = f2 p ∧ ¬ x = 0 ∧ (k + 1 = n1 ∨ p < mb_B n1 n2 f1 f2 (k + 1)) then some ((1 : Int32), h) else some (ms_R n1 n2 f1 f2 p s (k + 1), h)) = some (if f1 k = f2 p ∧ mb_A n1 n2 f1 f2 k ≤ p ∧ p ≤ mb_B n1 n2 f1 f2 k then 1 else ms_R n1 n2 f1 f2 p s (k + 1), h) := by
      intro x hx
      by_cases hf : f1 k = f2 p
      · have e1 := mb_left hw (show k < n1 by omega) hp hf
        have e2 := mb_right hw (show k < n1 by omega) hp hf
        by_cases hc : mb_A n1 n2 f1 f2 k ≤ p ∧ p ≤ mb_B n1 n2 f1 f2 k
        · rw [if_pos ⟨hf, hx.mpr (e1.mp hc.1), e2.mp hc.2⟩, if_pos ⟨hf, hc⟩]
        · rw [if_neg (fun z => hc ⟨e1.mpr (hx.mp z.2.1), e2.mpr z.2.2⟩), if_neg (fun z => hc z.2)]
      · rw [if_neg (fun z => hf z.1), if_neg (fun z => hf z.1)]
    rw [s_X9_mayStand_L14, ms_R]
    simp only [mo_7 c1.1, pp_mlen c1, nI_ge (show k < n1 by omega) (show n1 < 2 ^ 31 by omega), s_X9_mayStand_J43, mo_13 c1.1, pp_bind, ↓reduceIte]
    by_cases hk0 : k = 0
    · rw [if_pos (by rw [hk0]; rfl), j48 1]
      exact fin 1 ⟨fun _ => Or.inl hk0, fun _ => by decide⟩
    · have a1 := mb_A_lt hw (show k - 1 < n1 by omega)
      rw [if_neg (nI_ne0 (by omega) (by omega)), pp_m1 (by omega), pp_il h7 (by omega) (by decide), pp_bind, (hg (k - 1) (by omega)).1]
      by_cases h1 : mb_A n1 n2 f1 f2 (k - 1) < p
      · rw [if_neg (nI_ge h1 (by omega)), j48 1]
        exact fin 1 ⟨fun _ => Or.inr h1, fun _ => by decide⟩
      · rw [if_pos (nI_le (by omega) (by omega)), j48 0]
        exact fin 0 ⟨fun z => absurd rfl z, fun z => z.elim (fun q => absurd q hk0) (fun q => absurd q h1)⟩
def ms_W (n1 n2 : Nat) (f1 f2 : Nat → Nat) (p : Nat) : Int32 := if gK n1 f1 f2 n2 = n1 then ms_R n1 n2 f1 f2 p n1 0 else 0
theorem cl_stand (ha : cc_A (kn, dc, sz, wd, so, sl, sc, tr, ft) h) (c1 : pp_cry h b1 n1 f1) (c2 : pp_cry h b2 n2 f2) (k1 : 29 ≤ b1) (k2 : 29 ≤ b2) (hp : p < n2) :
    ∃ h1, s_X3_canStand 6 b1 b2 (nI p) h = some (ms_W n1 n2 f1 f2 p, h1) ∧ cc_A (kn, dc, sz, wd, so, sl, sc, tr, ft) h1 ∧ ∀ i, i ≠ 7 → i ≠ 8 → h1 i = h i := by
  obtain ⟨h1, g, l, e1, e2, e3, e7, e8, e9⟩ := cl_make ha c1 c2 (Or.inl k1) (Or.inl k2)
  refine ⟨h1, ?_, e2, e3⟩
  have l1 := c1.le
  have c1' : pp_cry h1 b1 n1 f1 := by obtain ⟨g, a1, a2, a3⟩ := c1; exact ⟨g, by rw [e3 _ (by omega) (by omega)]; exact a1, by rw [e3 _ (by omega) (by omega)]; exact a2, a3⟩
  have c2' : pp_cry h1 b2 n2 f2 := by obtain ⟨g, a1, a2, a3⟩ := c2; exact ⟨g, by rw [e3 _ (by omega) (by omega)]; exact a1, by rw [e3 _ (by omega) (by omega)]; exact a2, a3⟩
  unfold s_X3_canStand ms_W
  unfold pw_b at e1
  by_cases hw : gK n1 f1 f2 n2 = n1
  · rw [if_pos hw] at e1 ⊢
    simp only [ca_fit ha.1, e1, pp_bind, pn_10, ↓reduceIte]
    exact cs_c e2.1 c1' c2' hw hp e7 e8 (e9 hw) n1 0 1000 (by omega) (by omega)
  · rw [if_neg hw] at e1 ⊢
    simp only [ca_fit ha.1, e1, pp_bind, pn_00, ↓reduceIte]
theorem ml_stand (hV : pp_V (kn, dc, sz, wd, so, sl, sc, tr, ft)) (hm : mm_A (kn, dc, sz, wd, so, sl, sc, tr, ft) h) (hd1 : d1 < dc) (hd2 : d2 < dc) (hp : p < sz d2) :
    ∃ h1, s_X9_mayStand 49 (nI d1) (nI d2) (nI p) h = some (ms_W (sz d1) (sz d2) (wd d1) (wd d2) p, h1) ∧ mm_A (kn, dc, sz, wd, so, sl, sc, tr, ft) h1 ∧ ∀ i, i ≠ 58 → i ≠ 59 → h1 i = h i := by
  obtain ⟨h1, g, l, e1, e2, e3, e7, e8, e9⟩ := ml_within hV hm hd1 hd2
  refine ⟨h1, ?_, e2, e3⟩
  have c1 := ma_day hV e2.1 hd1
  have c2 := ma_day hV e2.1 hd2
  have l1 := c1.le
  unfold s_X9_mayStand ms_W
  unfold pw_b at e1
  by_cases hw : gK (sz d1) (wd d1) (wd d2) (sz d2) = sz d1
  · rw [if_pos hw] at e1 ⊢
    simp only [(ma_o hm.1).b, e1, pp_bind, pn_10, ↓reduceIte]
    exact cs_m c1 c2 hw hp e7 e8 (e9 hw) (sz d1) 0 1000 (by omega) (by omega)
  · rw [if_neg hw] at e1 ⊢
    simp only [(ma_o hm.1).b, e1, pp_bind, pn_00, ↓reduceIte]
def mb_R (W : Nat → Int32) : Nat → Nat → Int32 → Int32
  | 0, _, a => a
  | s + 1, d, a => mb_R W s (d + 1) (if W d = 0 then a else a ||| (1 : Int32) <<< (nI d &&& 31))
theorem mb_c (hV : pp_V (kn, dc, sz, wd, so, sl, sc, tr, ft)) (hd : 0 < dc) (hp : p < sz (dc - 1)) : ∀ (s d fu : Nat) (h : tt_H) (a : Int32), cc_A (kn, dc, sz, wd, so, sl, sc, tr, ft) h → d + s = dc → s < fu → ∃ h1, s_X8_mayBe_L24 fu 0 (nI p) (29 + 2 * (dc - 1)) a (nI d) h = some (mb_R (fun d => ms_W (sz d) (sz (dc - 1)) (wd d) (wd (dc - 1)) p) s d a, h1) ∧ cc_A (kn, dc, sz, wd, so, sl, sc, tr, ft) h1 ∧ ∀ i, 49 ≤ i → h1 i = h i := by
  have hdc : dc ≤ 6 := hV.2.1
  intro s
  induction s with
  | zero =>
    intro d fu h a ha hs hfu
    obtain ⟨fu, rfl⟩ : ∃ z, fu = z + 1 := ⟨fu - 1, by omega⟩
    refine ⟨h, ?_, ha, fun _ _ => rfl⟩
    rw [s_X8_mayBe_L24]
    simp only [ca_dc ha.1, nI_le (show dc ≤ d by omega) (show d < 2 ^ 31 by omega), pp_bind, ↓reduceIte]
    rfl
  | succ s ih =>
    intro d fu h a ha hs hfu
    obtain ⟨fu, rfl⟩ : ∃ z, fu = z + 1 := ⟨fu - 1, by omega⟩
    obtain ⟨h3, e1, e2, e3⟩ := cl_stand ha (ca_cry hV ha.1 (show d < dc by omega)) (ca_cry hV ha.1 (show dc - 1 < dc by omega)) (by omega) (by omega) hp
    obtain ⟨h5, f1, f2, f3⟩ := ih (d + 1) fu h3 (if ms_W (sz d) (sz (dc - 1)) (wd d) (wd (dc - 1)) p = 0 then a else a ||| (1 : Int32) <<< (nI d &&& 31)) e2 (by omega) (by omega)
    refine ⟨h5, ?_, f2, fun i hi => (f3 i hi).trans (e3 i (by omega) (by omega))⟩
    rw [s_X8_mayBe_L24, mb_R]
    simp only [ca_dc ha.1, nI_ge (show d < dc by omega) (show dc < 2 ^ 31 by omega), ca_b ha.1, ca_in hV ha.1 (show d < dc by omega), gg_opt_some, ca_4 ha.1, ca_fit ha.1, e1, s_X8_mayBe_J67, nI_1, pp_bind, ↓reduceIte]
    rw [← f1]
    by_cases hw : ms_W (sz d) (sz (dc - 1)) (wd d) (wd (dc - 1)) p = 0
    · rw [if_pos hw, if_pos hw]
    · rw [if_neg hw, if_neg hw]
theorem mb_m (hV : pp_V (kn, dc, sz, wd, so, sl, sc, tr, ft)) (hd : 0 < dc) (hp : p < sz (dc - 1)) : ∀ (s d fu : Nat) (h : tt_H) (a : Int32), mm_A (kn, dc, sz, wd, so, sl, sc, tr, ft) h → d + s = dc → s < fu → ∃ h1, s_X9_mayBe_L34 fu 49 (nI p) a (nI d) h = some (mb_R (fun d => ms_W (sz d) (sz (dc - 1)) (wd d) (wd (dc - 1)) p) s d a, h1) ∧ mm_A (kn, dc, sz, wd, so, sl, sc, tr, ft) h1 ∧ ∀ i, i < 49 → h1 i = h i := by
  have hdc : dc ≤ 6 := hV.2.1
  intro s
  induction s with
  | zero =>
    intro d fu h a hm hs hfu
    obtain ⟨fu, rfl⟩ : ∃ z, fu = z + 1 := ⟨fu - 1, by omega⟩
    refine ⟨h, ?_, hm, fun _ _ => rfl⟩
    rw [s_X9_mayBe_L34]
    simp only [ma_dc hm.1, nI_le (show dc ≤ d by omega) (show d < 2 ^ 31 by omega), pp_bind, ↓reduceIte]
    rfl
  | succ s ih =>
    intro d fu h a hm hs hfu
    obtain ⟨fu, rfl⟩ : ∃ z, fu = z + 1 := ⟨fu - 1, by omega⟩
    obtain ⟨h3, e1, e2, e3⟩ := ml_stand hV hm (show d < dc by omega) (show dc - 1 < dc by omega) hp
    obtain ⟨h5, f1, f2, f3⟩ := ih (d + 1) fu h3 (if ms_W (sz d) (sz (dc - 1)) (wd d) (wd (dc - 1)) p = 0 then a else a ||| (1 : Int32) <<< (nI d &&& 31)) e2 (by omega) (by omega)
    refine ⟨h5, ?_, f2, fun i hi => (f3 i hi).trans (e3 i (by omega) (by omega))⟩
    rw [s_X9_mayBe_L34, mb_R]
    simp only [ma_dc hm.1, nI_ge (show d < dc by omega) (show dc < 2 ^ 31 by omega), (ma_o hm.1).b, pp_m1 hd, e1, s_X9_mayBe_J65, nI_1, pp_bind, ↓reduceIte]
    rw [← f1]
    by_cases hw : ms_W (sz d) (sz (dc - 1)) (wd d) (wd (dc - 1)) p = 0
    · rw [if_pos hw, if_pos hw, Int32.or_zero]
    · rw [if_neg hw, if_neg hw]
end MBW
theorem E_mayBe {h : tt_H} (hI : pp_Inv h) (x1 : Int32) : pp_G (s_X8_mayBe 0 x1) (s_X9_mayBe 49 x1) h := by
  obtain ⟨⟨kn, dc, sz, wd, so, sl, sc, tr, ft⟩, hV, ha, hm⟩ := hI
  have hdc : dc ≤ 6 := hV.2.1
  by_cases hz : dc = 0
  · refine pp_G.rd (-1) hV ha hm ?_ (fun h hm => ?_)
    · unfold s_X8_mayBe
      simp only [ca_b ha.1, ca_last0 ha.1 hz, gg_opt_none, pp_bind]
    · unfold s_X9_mayBe
      simp only [ma_dc hm.1, pp_bind]
      rw [if_pos (by rw [hz]; rfl)]
  · have hd : dc - 1 < dc := by omega
    have hz2 : ¬ nI dc = 0 := nI_ne0 (by omega) (by omega)
    have hl := ca_last hV ha.1 (show 0 < dc by omega)
    have c1 := ca_cry hV ha.1 hd
    have l1 := c1.le
    rcases pp_rng (sz (dc - 1)) (by omega) x1 with ⟨p, hp, rfl⟩ | h3
    · refine pp_G.of (mb_R (fun d => ms_W (sz d) (sz (dc - 1)) (wd d) (wd (dc - 1)) p) dc 0 0) ha hm hV ?_ (fun h hm => ?_)
      · obtain ⟨h1, e1, e2, e3⟩ := mb_c hV (show 0 < dc by omega) hp dc 0 1000 h 0 ha (by omega) (by omega)
        refine ⟨h1, ?_, e2, e3⟩
        unfold s_X8_mayBe
        simp only [ca_b ha.1, hl, gg_opt_some, pp_cobj c1, pp_has c1 (show p < 2 ^ 31 by omega), hp, pp_bind, pn_10, ↓reduceIte]
        exact e1
      · obtain ⟨h1, e1, e2, e3⟩ := mb_m hV (show 0 < dc by omega) hp dc 0 1000 h 0 hm (by omega) (by omega)
        refine ⟨h1, ?_, e2, e3⟩
        unfold s_X9_mayBe
        simp only [ma_dc hm.1, hz2, mo_7 (ma_o hm.1), pp_m1 (show 0 < dc by omega), pp_mlen (ma_day hV hm.1 hd), pi_ins_in hp (show sz (dc - 1) < 2 ^ 31 by omega), pp_bind, pn_10, ↓reduceIte]
        exact e1
    · refine pp_G.rd (-1) hV ha hm ?_ (fun h hm => ?_)
      · unfold s_X8_mayBe
        simp only [ca_b ha.1, hl, gg_opt_some, pp_cobj c1, pp_hasO c1 h3, pp_bind, pn_00, ↓reduceIte]
      · unfold s_X9_mayBe
        simp only [ma_dc hm.1, hz2, mo_7 (ma_o hm.1), pp_m1 (show 0 < dc by omega), pp_mlen (ma_day hV hm.1 hd), pi_ins_out h3 (show sz (dc - 1) < 2 ^ 31 by omega), pp_bind, pn_00, ↓reduceIte]
