/-! WITHIN: the greedy match from the front (how many are matched ahead of place p; where) and from the end -/
def gK (n1 : Nat) (f1 f2 : Nat → Nat) : Nat → Nat
  | 0 => 0
  | p + 1 => if gK n1 f1 f2 p < n1 ∧ f1 (gK n1 f1 f2 p) = f2 p then gK n1 f1 f2 p + 1 else gK n1 f1 f2 p
def gA (n1 : Nat) (f1 f2 : Nat → Nat) : Nat → Nat → Nat
  | 0 => fun _ => 0
  | p + 1 => if gK n1 f1 f2 p < n1 ∧ f1 (gK n1 f1 f2 p) = f2 p then (fun k => if k = gK n1 f1 f2 p then p else gA n1 f1 f2 p k) else gA n1 f1 f2 p
def gR (f1 f2 : Nat → Nat) : Nat → Nat → Nat
  | 0, r => r
  | t + 1, r => if 0 < r ∧ f1 (r - 1) = f2 t then gR f1 f2 t (r - 1) else gR f1 f2 t r
def gB (f1 f2 : Nat → Nat) : Nat → Nat → (Nat → Nat) → Nat → Nat
  | 0, _, acc => acc
  | t + 1, r, acc => if 0 < r ∧ f1 (r - 1) = f2 t then gB f1 f2 t (r - 1) (fun k => if k = r - 1 then t else acc k) else gB f1 f2 t r acc
section GST
variable {n1 : Nat} {f1 f2 : Nat → Nat} {p r t : Nat} {acc : Nat → Nat}
theorem gK_s1 (hc : gK n1 f1 f2 p < n1 ∧ f1 (gK n1 f1 f2 p) = f2 p) : gK n1 f1 f2 (p + 1) = gK n1 f1 f2 p + 1 := by rw [gK, if_pos hc]
theorem gK_s0 (hc : ¬ (gK n1 f1 f2 p < n1 ∧ f1 (gK n1 f1 f2 p) = f2 p)) : gK n1 f1 f2 (p + 1) = gK n1 f1 f2 p := by rw [gK, if_neg hc]
theorem gA_s1 (hc : gK n1 f1 f2 p < n1 ∧ f1 (gK n1 f1 f2 p) = f2 p) : gA n1 f1 f2 (p + 1) = (fun k => if k = gK n1 f1 f2 p then p else gA n1 f1 f2 p k) := by rw [gA, if_pos hc]
theorem gA_s0 (hc : ¬ (gK n1 f1 f2 p < n1 ∧ f1 (gK n1 f1 f2 p) = f2 p)) : gA n1 f1 f2 (p + 1) = gA n1 f1 f2 p := by rw [gA, if_neg hc]
theorem gR_s1 (hc : 0 < r ∧ f1 (r - 1) = f2 t) : gR f1 f2 (t + 1) r = gR f1 f2 t (r - 1) := by rw [gR, if_pos hc]
theorem gR_s0 (hc : ¬ (0 < r ∧ f1 (r - 1) = f2 t)) : gR f1 f2 (t + 1) r = gR f1 f2 t r := by rw [gR, if_neg hc]
theorem gB_s1 (hc : 0 < r ∧ f1 (r - 1) = f2 t) : gB f1 f2 (t + 1) r acc = gB f1 f2 t (r - 1) (fun k => if k = r - 1 then t else acc k) := by rw [gB, if_pos hc]
theorem gB_s0 (hc : ¬ (0 < r ∧ f1 (r - 1) = f2 t)) : gB f1 f2 (t + 1) r acc = gB f1 f2 t r acc := by rw [gB, if_neg hc]
end GST
theorem gK_le (n1 : Nat) (f1 f2 : Nat → Nat) : ∀ p, gK n1 f1 f2 p ≤ n1
  | 0 => Nat.zero_le _
  | p + 1 => by
    have h := gK_le n1 f1 f2 p
    unfold gK
    split
    · omega
    · exact h
theorem gK_full {n1 : Nat} {f1 f2 : Nat → Nat} {p : Nat} (h : gK n1 f1 f2 p = n1) : ∀ q, gK n1 f1 f2 (p + q) = n1 ∧ gA n1 f1 f2 (p + q) = gA n1 f1 f2 p
  | 0 => ⟨h, rfl⟩
  | q + 1 => by
    obtain ⟨h1, h2⟩ := gK_full h q
    have hc : ¬ (gK n1 f1 f2 (p + q) < n1 ∧ f1 (gK n1 f1 f2 (p + q)) = f2 (p + q)) := by omega
    rw [show p + (q + 1) = (p + q) + 1 from rfl, gK_s0 hc, gA_s0 hc]
    exact ⟨h1, h2⟩
/-- what is matched stands in order, at like WORDS -/
theorem gA_ok (n1 : Nat) (f1 f2 : Nat → Nat) : ∀ p, (∀ k, k < gK n1 f1 f2 p → gA n1 f1 f2 p k < p ∧ f1 k = f2 (gA n1 f1 f2 p k)) ∧ (∀ k, k + 1 < gK n1 f1 f2 p → gA n1 f1 f2 p k < gA n1 f1 f2 p (k + 1))
  | 0 => ⟨fun k hk => absurd hk (Nat.not_lt_zero k), fun k hk => absurd hk (Nat.not_lt_zero _)⟩
  | p + 1 => by
    obtain ⟨h1, h2⟩ := gA_ok n1 f1 f2 p
    by_cases hc : gK n1 f1 f2 p < n1 ∧ f1 (gK n1 f1 f2 p) = f2 p
    · have e1 := gK_s1 hc
      have e2 := gA_s1 hc
      rw [e1, e2]
      refine ⟨fun k hk => ?_, fun k hk => ?_⟩
      · by_cases hk2 : k = gK n1 f1 f2 p
        · simp only [if_pos hk2]; rw [hk2]; exact ⟨Nat.lt_succ_self p, hc.2⟩
        · simp only [if_neg hk2]
          have := h1 k (by omega)
          exact ⟨by omega, this.2⟩
      · have a1 : ¬ k = gK n1 f1 f2 p := by omega
        simp only [if_neg a1]
        by_cases hk2 : k + 1 = gK n1 f1 f2 p
        · simp only [if_pos hk2]; exact (h1 k (by omega)).1
        · simp only [if_neg hk2]; exact h2 k (by omega)
    · have e1 := gK_s0 hc
      have e2 := gA_s0 hc
      rw [e1, e2]
      exact ⟨fun k hk => ⟨Nat.lt_succ_of_lt (h1 k hk).1, (h1 k hk).2⟩, h2⟩
/-- what is WITHIN is matched from the end, too -/
theorem gR_zero {f1 f2 m : Nat → Nat} : ∀ (t r : Nat), (∀ k, k < r → m k < t ∧ f1 k = f2 (m k)) → (∀ k, k + 1 < r → m k < m (k + 1)) → gR f1 f2 t r = 0
  | 0, r, h1, _ => by
    cases r with
    | zero => rfl
    | succ r => exact absurd (h1 r (Nat.lt_succ_self r)).1 (Nat.not_lt_zero _)
  | t + 1, r, h1, h2 => by
    unfold gR
    by_cases hc : 0 < r ∧ f1 (r - 1) = f2 t
    · rw [if_pos hc]
      refine gR_zero t (r - 1) (fun k hk => ⟨?_, (h1 k (by omega)).2⟩) (fun k hk => h2 k (by omega))
      have mono : ∀ d k, k + d + 1 < r + 0 → m k < m (k + d + 1) := by
        intro d
        induction d with
        | zero => intro k hk; exact h2 k (by omega)
        | succ d ih => intro k hk; exact Nat.lt_trans (ih k (by omega)) (h2 (k + d + 1) (by omega))
      have a := mono (r - 1 - k - 1) k (by omega)
      have b := (h1 (r - 1) (by omega)).1
      rw [show k + (r - 1 - k - 1) + 1 = r - 1 by omega] at a
      omega
    · rw [if_neg hc]
      refine gR_zero t r (fun k hk => ⟨?_, (h1 k hk).2⟩) h2
      have a := h1 k hk
      by_cases hkt : m k = t
      · exfalso
        by_cases hkr : k = r - 1
        · subst hkr; exact hc ⟨by omega, by rw [← hkt]; exact a.2⟩
        · have mono : ∀ d k, k + d + 1 < r + 0 → m k < m (k + d + 1) := by
            intro d
            induction d with
            | zero => intro k hk; exact h2 k (by omega)
            | succ d ih => intro k hk; exact Nat.lt_trans (ih k (by omega)) (h2 (k + d + 1) (by omega))
          have a2 := mono (r - 1 - k - 1) k (by omega)
          have b := (h1 (r - 1) (by omega)).1
          rw [show k + (r - 1 - k - 1) + 1 = r - 1 by omega] at a2
          omega
      · omega
theorem gR_within {n1 n2 : Nat} {f1 f2 : Nat → Nat} (h : gK n1 f1 f2 n2 = n1) : gR f1 f2 n2 n1 = 0 := by
  obtain ⟨h1, h2⟩ := gA_ok n1 f1 f2 n2
  rw [h] at h1 h2
  exact gR_zero n2 n1 h1 h2
section FIT
variable {h0 : tt_H} {b1 b2 n1 n2 : Nat} {f1 f2 : Nat → Nat}
theorem fit_back (c1 : pp_cry h0 b1 n1 f1) (c2 : pp_cry h0 b2 n2 f2) (hF : h0 6 = some (tt_ob 3 [.ref 7, .ref 8, .ref 9])) (k1 : b1 ≠ 8 ∧ b1 + 1 ≠ 8 ∧ b2 ≠ 8 ∧ b2 + 1 ≠ 8) :
    ∀ (t r fu : Nat) (g : Nat → Int32) (acc : Nat → Nat), t ≤ n2 → r ≤ n1 → t < fu → (∀ k, r ≤ k → k < n1 → g k = nI (acc k)) →
      ∃ g', s_X3_make_L78 fu 6 b1 b2 (nI r + (-1)) (nI t + (-1)) (va_up h0 8 (some (tt_ia 12 g))) = some (1, va_up h0 8 (some (tt_ia 12 g'))) ∧ ∀ k, gR f1 f2 t r ≤ k → k < n1 → g' k = nI (gB f1 f2 t r acc k) := by
  intro t
  have l1 := c1.le
  have l2 := c2.le
  induction t with
  | zero =>
    intro r fu g acc _ _ hfu hg
    obtain ⟨fu, rfl⟩ : ∃ z, fu = z + 1 := ⟨fu - 1, by omega⟩
    refine ⟨g, ?_, hg⟩
    rw [s_X3_make_L78, if_pos (show nI 0 + (-1) < 0 by decide)]
  | succ t ih =>
    intro r fu g acc ht hr hfu hg
    obtain ⟨fu, rfl⟩ : ∃ z, fu = z + 1 := ⟨fu - 1, by omega⟩
    have c1' : pp_cry (va_up h0 8 (some (tt_ia 12 g))) b1 n1 f1 := c1.up _ k1.1 k1.2.1
    have c2' : pp_cry (va_up h0 8 (some (tt_ia 12 g))) b2 n2 f2 := c2.up _ k1.2.2.1 k1.2.2.2
    rw [s_X3_make_L78, pk_m1, if_neg (nI_pos (by omega)), pp_cobj c1', pp_bind]
    by_cases hr0 : 0 < r
    · rw [pp_p1 hr0, pp_has c1' (by omega), pp_bind, if_pos (show r - 1 < n1 by omega)]
      simp only []
      rw [if_neg (by decide), pp_cobj c1', pp_bind, pp_at c1' (by omega), pp_bind]
      simp only []
      rw [pp_cobj c2', pp_bind, pp_at c2' (by omega), pp_bind]
      simp only []
      by_cases hw : f1 (r - 1) = f2 t
      · have hc : 0 < r ∧ f1 (r - 1) = f2 t := ⟨hr0, hw⟩
        rw [if_pos ((pp_w_eq (by omega) (by omega) (c1.lt8 (by omega)) (c2.lt8 (by omega))).mpr hw), pp_fr (v := 8) (by rw [va_up_ne _ _ (by decide)]; exact hF) rfl, pp_bind, pp_is (va_up_self _ _ _) (by omega) (by decide), pp_bind, bx_uu, s_X3_make_J116, gR_s1 hc, gB_s1 hc]
        refine ih (r - 1) fu _ _ (by omega) (by omega) (by omega) (fun k h1 h2 => ?_)
        by_cases hk : k = r - 1
        · subst hk; simp [upd]
        · simp only [upd, if_neg hk]; exact hg k (by omega) h2
      · have hc : ¬ (0 < r ∧ f1 (r - 1) = f2 t) := fun z => hw z.2
        rw [if_neg (fun z => hw ((pp_w_eq (by omega) (by omega) (c1.lt8 (by omega)) (c2.lt8 (by omega))).mp z)), s_X3_make_J116, gR_s0 hc, gB_s0 hc, ← pp_p1 hr0]
        exact ih r fu _ _ (by omega) hr (by omega) hg
    · have hc : ¬ (0 < r ∧ f1 (r - 1) = f2 t) := fun z => hr0 z.1
      have hr1 : r = 0 := by omega
      subst hr1
      rw [pp_hasN c1' (show nI 0 + (-1) < 0 by decide), pp_bind, if_pos rfl, s_X3_make_J116, gR_s0 hc, gB_s0 hc]
      exact ih 0 fu _ _ (by omega) hr (by omega) hg
end FIT
