/-! THE PURE SIDE: the shallow programs over the toy heap. Numbers first: every int that counts is nI of a number. -/
theorem pp_lit (n : Nat) : (OfNat.ofNat n : Int32) = nI n := rfl
theorem pp_obj {h : tt_H} {b ci : Nat} {fs : List Value} (hb : h b = some (.inr (ci, fs))) : gg_obj h b ci = some fs := by simp [gg_obj, hb]
theorem pp_fi {h : tt_H} {b ci k : Nat} {fs : List Value} {v : Int32} (hb : h b = some (.inr (ci, fs))) (hk : fs[k]? = some (.int v)) : gg_fi h b ci k = some v := by
  unfold gg_fi; rw [pp_obj hb]; show gg_vi fs[k]? = _; rw [hk]; rfl
theorem pp_fr {h : tt_H} {b ci k : Nat} {fs : List Value} {v : Nat} (hb : h b = some (.inr (ci, fs))) (hk : fs[k]? = some (.ref v)) : gg_fr h b ci k = some v := by
  unfold gg_fr; rw [pp_obj hb]; show gg_vr fs[k]? = _; rw [hk]; rfl
theorem pp_put {h : tt_H} {b ci k : Nat} {fs : List Value} (hb : h b = some (.inr (ci, fs))) (v : Value) (hk : k < fs.length) : gg_put h b ci k v = some (va_up h b (some (.inr (ci, fs.set k v)))) := by
  unfold gg_put; rw [pp_obj hb]; show (if k < fs.length then _ else _) = _; rw [if_pos hk]
theorem pp_ix {α : Type} {k n : Nat} (hk : k < n) (hn : n < 2 ^ 31) (x : α) : gg_ix (nI k) n x = some x := by
  unfold gg_ix; rw [if_neg (nI_in hk hn)]
theorem pp_ia {h : tt_H} {b n : Nat} {f : Nat → Int32} (hb : h b = some (tt_ia n f)) : gg_ia h b = some (n, f) := by unfold gg_ia; rw [hb]; rfl
theorem pp_za {h : tt_H} {b n : Nat} {f : Nat → Int32} (hb : h b = some (tt_za n f)) : gg_za h b = some (n, f) := by unfold gg_za; rw [hb]; rfl
theorem pp_ja {h : tt_H} {b n : Nat} {f : Nat → Int64} (hb : h b = some (tt_ja n f)) : gg_ja h b = some (n, f) := by unfold gg_ja; rw [hb]; rfl
theorem pp_qa {h : tt_H} {t b n : Nat} {f : Nat → Option Nat} (hb : h b = some (tt_qa t n f)) : gg_qa t h b = some (n, f) := by unfold gg_qa; rw [hb]; simp
theorem pp_il {h : tt_H} {b n k : Nat} {f : Nat → Int32} (hb : h b = some (tt_ia n f)) (hk : k < n) (hn : n < 2 ^ 31) : gg_il h b (nI k) = some (f k) := by
  unfold gg_il; rw [pp_ia hb]; show gg_ix (nI k) n (f (nI k).toNatClampNeg) = _; rw [pp_ix hk hn, nI_clamp (by omega)]
theorem pp_zl {h : tt_H} {b n k : Nat} {f : Nat → Int32} (hb : h b = some (tt_za n f)) (hk : k < n) (hn : n < 2 ^ 31) : gg_zl h b (nI k) = some (f k) := by
  unfold gg_zl; rw [pp_za hb]; show gg_ix (nI k) n (f (nI k).toNatClampNeg) = _; rw [pp_ix hk hn, nI_clamp (by omega)]
theorem pp_jl {h : tt_H} {b n k : Nat} {f : Nat → Int64} (hb : h b = some (tt_ja n f)) (hk : k < n) (hn : n < 2 ^ 31) : gg_jl h b (nI k) = some (f k) := by
  unfold gg_jl; rw [pp_ja hb]; show gg_ix (nI k) n (f (nI k).toNatClampNeg) = _; rw [pp_ix hk hn, nI_clamp (by omega)]
theorem pp_ql {h : tt_H} {t b n k v : Nat} {f : Nat → Option Nat} (hb : h b = some (tt_qa t n f)) (hk : k < n) (hn : n < 2 ^ 31) (hv : f k = some v) : gg_ql t h b (nI k) = some v := by
  unfold gg_ql; rw [pp_qa hb]; show (gg_ix (nI k) n (f (nI k).toNatClampNeg)).bind id = _; rw [pp_ix hk hn, nI_clamp (by omega), hv]; rfl
theorem pp_is {h : tt_H} {b n k : Nat} {f : Nat → Int32} (hb : h b = some (tt_ia n f)) (hk : k < n) (hn : n < 2 ^ 31) (x : Int32) : gg_is h b (nI k) x = some (va_up h b (some (tt_ia n (upd f k x)))) := by
  unfold gg_is; rw [pp_ia hb]; show gg_ix (nI k) n (va_up h b (some (tt_ia n (upd f (nI k).toNatClampNeg x)))) = _; rw [pp_ix hk hn, nI_clamp (by omega)]
theorem pp_zs {h : tt_H} {b n k : Nat} {f : Nat → Int32} (hb : h b = some (tt_za n f)) (hk : k < n) (hn : n < 2 ^ 31) (x : Int32) : gg_zs h b (nI k) x = some (va_up h b (some (tt_za n (upd f k (vp_nar .boolean x))))) := by
  unfold gg_zs; rw [pp_za hb]; show gg_ix (nI k) n (va_up h b (some (tt_za n (upd f (nI k).toNatClampNeg (vp_nar .boolean x))))) = _; rw [pp_ix hk hn, nI_clamp (by omega)]
theorem pp_js {h : tt_H} {b n k : Nat} {f : Nat → Int64} (hb : h b = some (tt_ja n f)) (hk : k < n) (hn : n < 2 ^ 31) (x : Int64) : gg_js h b (nI k) x = some (va_up h b (some (tt_ja n (vp_updL f k x)))) := by
  unfold gg_js; rw [pp_ja hb]; show gg_ix (nI k) n (va_up h b (some (tt_ja n (vp_updL f (nI k).toNatClampNeg x)))) = _; rw [pp_ix hk hn, nI_clamp (by omega)]
theorem pp_bind {α β : Type} (a : α) (f : α → Option β) : (some a).bind f = f a := rfl
theorem pp_m1 {k : Nat} (h : 0 < k) : nI k - 1 = nI (k - 1) := by
  obtain ⟨j, rfl⟩ : ∃ j, k = j + 1 := ⟨k - 1, by omega⟩
  exact nI_pred j
theorem pp_p1 {k : Nat} (h : 0 < k) : nI k + (-1) = nI (k - 1) := by
  obtain ⟨j, rfl⟩ : ∃ j, k = j + 1 := ⟨k - 1, by omega⟩
  exact pk_m1 j
theorem pp_neg1 : (-1 : Int32) < 0 := by decide
/-- an int: below 0, or a number -/
theorem pp_int (x : Int32) : x < 0 ∨ ∃ k : Nat, k < 2 ^ 31 ∧ x = nI k := by
  by_cases h : x < 0
  · exact Or.inl h
  · exact Or.inr (nI_of h)
theorem pp_nneg {k : Nat} (h : k < 2 ^ 31) : ¬ nI k < 0 := nI_pos h
theorem pp_neg_lt {x : Int32} {n : Nat} (hx : x < 0) (hn : n < 2 ^ 31) : ¬ nI n ≤ x := fun h => by
  have h1 := Int32.lt_iff_toInt_lt.mp hx
  have h2 := Int32.le_iff_toInt_le.mp h
  rw [nI_toInt hn] at h2
  have h3 : (0 : Int32).toInt = 0 := rfl
  omega
theorem pp_neg_ne {x : Int32} {n : Nat} (hx : x < 0) (hn : n < 2 ^ 31) : x ≠ nI n := fun h => by
  rw [h] at hx; exact nI_pos hn hx
/-! A CRY of the class: n WORDS f; its object at place b, its row at b + 1 -/
def pp_cry (h : tt_H) (b n : Nat) (f : Nat → Nat) : Prop := ∃ g : Nat → Int32, h b = some (tt_ob 2 [.ref (b + 1), .int (nI n)]) ∧ h (b + 1) = some (tt_ia 12 g) ∧ n ≤ 12 ∧ ∀ k, k < n → g k = nI (f k) ∧ f k < 8
def pp_w (n : Nat) (f : Nat → Nat) (k : Nat) : Int32 := if k < n then nI (f k) else -9
theorem pp_cry.up {h : tt_H} {b n : Nat} {f : Nat → Nat} (hc : pp_cry h b n f) {p : Nat} (e : Option tt_E) (h1 : b ≠ p) (h2 : b + 1 ≠ p) : pp_cry (va_up h p e) b n f := by
  obtain ⟨g, e1, e2, e3⟩ := hc
  exact ⟨g, by rw [va_up_ne _ _ h1]; exact e1, by rw [va_up_ne _ _ h2]; exact e2, e3⟩
section CRY
variable {h : tt_H} {b n : Nat} {f : Nat → Nat}
theorem pp_cry.le (hc : pp_cry h b n f) : n ≤ 12 := hc.choose_spec.2.2.1
theorem pp_cry.lt8 (hc : pp_cry h b n f) {k : Nat} (hk : k < n) : f k < 8 := (hc.choose_spec.2.2.2 k hk).2
theorem pp_cobj (hc : pp_cry h b n f) : gg_obj h b 2 = some [.ref (b + 1), .int (nI n)] := pp_obj hc.choose_spec.1
theorem pp_size (hc : pp_cry h b n f) : s_X2_size b h = some (nI n, h) := by
  unfold s_X2_size
  rw [pp_fi hc.choose_spec.1 (v := nI n) rfl]; rfl
theorem pp_has (hc : pp_cry h b n f) {k : Nat} (hk : k < 2 ^ 31) : s_X2_has b (nI k) h = some (if k < n then 1 else 0, h) := by
  have hn := hc.le
  unfold s_X2_has
  rw [if_neg (nI_pos hk), pp_fi hc.choose_spec.1 (v := nI n) rfl, pp_bind]
  by_cases hkn : k < n
  · rw [if_neg (nI_ge hkn (by omega)), if_pos hkn]
  · rw [if_pos (nI_le (by omega) hk), if_neg hkn]
theorem pp_hasN (hc : pp_cry h b n f) {x : Int32} (hx : x < 0) : s_X2_has b x h = some (0, h) := by
  unfold s_X2_has
  rw [if_pos hx]
theorem pp_at (hc : pp_cry h b n f) {k : Nat} (hk : k < 2 ^ 31) : s_X2_at b (nI k) h = some (pp_w n f k, h) := by
  have hn := hc.le
  unfold s_X2_at pp_w
  rw [pp_cobj hc, pp_bind, pp_has hc hk, pp_bind]
  by_cases hkn : k < n
  · obtain ⟨g, e1, e2, e3, e4⟩ := hc
    simp only [if_pos hkn]
    rw [if_neg (by decide), pp_fr e1 (v := b + 1) rfl, pp_bind, pp_il e2 (by omega) (by decide), pp_bind, (e4 k hkn).1]
  · simp only [if_neg hkn]
    rw [if_pos trivial]
theorem pp_atN (hc : pp_cry h b n f) {x : Int32} (hx : x < 0) : s_X2_at b x h = some (-9, h) := by
  unfold s_X2_at
  rw [pp_cobj hc, pp_bind, pp_hasN hc hx, pp_bind, if_pos rfl]
end CRY
theorem pp_w_in {n k : Nat} {f : Nat → Nat} (h : k < n) : pp_w n f k = nI (f k) := if_pos h
theorem pp_w_eq {n n' k k' : Nat} {f f' : Nat → Nat} (h : k < n) (h' : k' < n') (hf : f k < 8) (hf' : f' k' < 8) : pp_w n f k = pp_w n' f' k' ↔ f k = f' k' := by
  rw [pp_w_in h, pp_w_in h']
  exact nI_eq (by omega) (by omega)
/-! WITHIN: the greedy match from the front (how many are matched ahead of place p; where) and from the end -/
def gK (n1 : Nat) (f1 f2 : Nat → Nat) : Nat → Nat
  | 0 => 0
  | p + 1 => if gK n1 f1 f2 p < n1 ∧ f1 (gK n1 f1 f2 p) = f2 p then gK n1 f1 f2 p + 1 else gK n1 f1 f2 p
def gA (n1 : Nat) (f1 f2 : Nat → Nat) : Nat → Nat → Nat
  | 0 => fun _ => 0
  | p + 1 => if gK n1 f1 f2 p < n1 ∧ f1 (gK n1 f1 f2 p) = f2 p then (fun k => if k = gK n1 f1 f2 p then p else gA n1 f1 f2 p k) else gA n1 f1 f2 p
def gR (f1 f2 : Nat → Nat) : Nat → Nat → Nat
  | 0, r => r
  | t + 1, r => if 0 < r ∧ f1 (r - 1) = f2 t then gR f1 f2 t (r - 1) else gR f1 f2 t r
def gB (f1 f2 : Nat → Nat) : Nat → Nat → (Nat → Nat) → Nat → Nat
  | 0, _, acc => acc
  | t + 1, r, acc => if 0 < r ∧ f1 (r - 1) = f2 t then gB f1 f2 t (r - 1) (fun k => if k = r - 1 then t else acc k) else gB f1 f2 t r acc
section GST
variable {n1 : Nat} {f1 f2 : Nat → Nat} {p r t : Nat} {acc : Nat → Nat}
theorem gK_s1 (hc : gK n1 f1 f2 p < n1 ∧ f1 (gK n1 f1 f2 p) = f2 p) : gK n1 f1 f2 (p + 1) = gK n1 f1 f2 p + 1 := by rw [gK, if_pos hc]
theorem gK_s0 (hc : ¬ (gK n1 f1 f2 p < n1 ∧ f1 (gK n1 f1 f2 p) = f2 p)) : gK n1 f1 f2 (p + 1) = gK n1 f1 f2 p := by rw [gK, if_neg hc]
theorem gA_s1 (hc : gK n1 f1 f2 p < n1 ∧ f1 (gK n1 f1 f2 p) = f2 p) : gA n1 f1 f2 (p + 1) = (fun k => if k = gK n1 f1 f2 p then p else gA n1 f1 f2 p k) := by rw [gA, if_pos hc]
theorem gA_s0 (hc : ¬ (gK n1 f1 f2 p < n1 ∧ f1 (gK n1 f1 f2 p) = f2 p)) : gA n1 f1 f2 (p + 1) = gA n1 f1 f2 p := by rw [gA, if_neg hc]
theorem gR_s1 (hc : 0 < r ∧ f1 (r - 1) = f2 t) : gR f1 f2 (t + 1) r = gR f1 f2 t (r - 1) := by rw [gR, if_pos hc]
theorem gR_s0 (hc : ¬ (0 < r ∧ f1 (r - 1) = f2 t)) : gR f1 f2 (t + 1) r = gR f1 f2 t r := by rw [gR, if_neg hc]
theorem gB_s1 (hc : 0 < r ∧ f1 (r - 1) = f2 t) : gB f1 f2 (t + 1) r acc = gB f1 f2 t (r - 1) (fun k => if k = r - 1 then t else acc k) := by rw [gB, if_pos hc]
theorem gB_s0 (hc : ¬ (0 < r ∧ f1 (r - 1) = f2 t)) : gB f1 f2 (t + 1) r acc = gB f1 f2 t r acc := by rw [gB, if_neg hc]
end GST
theorem gK_le (n1 : Nat) (f1 f2 : Nat → Nat) : ∀ p, gK n1 f1 f2 p ≤ n1
  | 0 => Nat.zero_le _
  | p + 1 => by
    have h := gK_le n1 f1 f2 p
    unfold gK
    split
    · omega
    · exact h
theorem gK_full {n1 : Nat} {f1 f2 : Nat → Nat} {p : Nat} (h : gK n1 f1 f2 p = n1) : ∀ q, gK n1 f1 f2 (p + q) = n1 ∧ gA n1 f1 f2 (p + q) = gA n1 f1 f2 p
  | 0 => ⟨h, rfl⟩
  | q + 1 => by
    obtain ⟨h1, h2⟩ := gK_full h q
    have hc : ¬ (gK n1 f1 f2 (p + q) < n1 ∧ f1 (gK n1 f1 f2 (p + q)) = f2 (p + q)) := by omega
    rw [show p + (q + 1) = (p + q) + 1 from rfl, gK_s0 hc, gA_s0 hc]
    exact ⟨h1, h2⟩
/-- what is matched stands in order, at like WORDS -/
theorem gA_ok (n1 : Nat) (f1 f2 : Nat → Nat) : ∀ p, (∀ k, k < gK n1 f1 f2 p → gA n1 f1 f2 p k < p ∧ f1 k = f2 (gA n1 f1 f2 p k)) ∧ (∀ k, k + 1 < gK n1 f1 f2 p → gA n1 f1 f2 p k < gA n1 f1 f2 p (k + 1))
  | 0 => ⟨fun k hk => absurd hk (Nat.not_lt_zero k), fun k hk => absurd hk (Nat.not_lt_zero _)⟩
  | p + 1 => by
    obtain ⟨h1, h2⟩ := gA_ok n1 f1 f2 p
    by_cases hc : gK n1 f1 f2 p < n1 ∧ f1 (gK n1 f1 f2 p) = f2 p
    · have e1 := gK_s1 hc
      have e2 := gA_s1 hc
      rw [e1, e2]
      refine ⟨fun k hk => ?_, fun k hk => ?_⟩
      · by_cases hk2 : k = gK n1 f1 f2 p
        · simp only [if_pos hk2]; rw [hk2]; exact ⟨Nat.lt_succ_self p, hc.2⟩
        · simp only [if_neg hk2]
          have := h1 k (by omega)
          exact ⟨by omega, this.2⟩
      · have a1 : ¬ k = gK n1 f1 f2 p := by omega
        simp only [if_neg a1]
        by_cases hk2 : k + 1 = gK n1 f1 f2 p
        · simp only [if_pos hk2]; exact (h1 k (by omega)).1
        · simp only [if_neg hk2]; exact h2 k (by omega)
    · have e1 := gK_s0 hc
      have e2 := gA_s0 hc
      rw [e1, e2]
      exact ⟨fun k hk => ⟨Nat.lt_succ_of_lt (h1 k hk).1, (h1 k hk).2⟩, h2⟩
/-- what is WITHIN is matched from the end, too -/
theorem gR_zero {f1 f2 m : Nat → Nat} : ∀ (t r : Nat), (∀ k, k < r → m k < t ∧ f1 k = f2 (m k)) → (∀ k, k + 1 < r → m k < m (k + 1)) → gR f1 f2 t r = 0
  | 0, r, h1, _ => by
    cases r with
    | zero => rfl
    | succ r => exact absurd (h1 r (Nat.lt_succ_self r)).1 (Nat.not_lt_zero _)
  | t + 1, r, h1, h2 => by
    unfold gR
    by_cases hc : 0 < r ∧ f1 (r - 1) = f2 t
    · rw [if_pos hc]
      refine gR_zero t (r - 1) (fun k hk => ⟨?_, (h1 k (by omega)).2⟩) (fun k hk => h2 k (by omega))
      have mono : ∀ d k, k + d + 1 < r + 0 → m k < m (k + d + 1) := by
        intro d
        induction d with
        | zero => intro k hk; exact h2 k (by omega)
        | succ d ih => intro k hk; exact Nat.lt_trans (ih k (by omega)) (h2 (k + d + 1) (by omega))
      have a := mono (r - 1 - k - 1) k (by omega)
      have b := (h1 (r - 1) (by omega)).1
      rw [show k + (r - 1 - k - 1) + 1 = r - 1 by omega] at a
      omega
    · rw [if_neg hc]
      refine gR_zero t r (fun k hk => ⟨?_, (h1 k hk).2⟩) h2
      have a := h1 k hk
      by_cases hkt : m k = t
      · exfalso
        by_cases hkr : k = r - 1
        · subst hkr; exact hc ⟨by omega, by rw [← hkt]; exact a.2⟩
        · have mono : ∀ d k, k + d + 1 < r + 0 → m k < m (k + d + 1) := by
            intro d
            induction d with
            | zero => intro k hk; exact h2 k (by omega)
            | succ d ih => intro k hk; exact Nat.lt_trans (ih k (by omega)) (h2 (k + d + 1) (by omega))
          have a2 := mono (r - 1 - k - 1) k (by omega)
          have b := (h1 (r - 1) (by omega)).1
          rw [show k + (r - 1 - k - 1) + 1 = r - 1 by omega] at a2
          omega
      · omega
theorem gR_within {n1 n2 : Nat} {f1 f2 : Nat → Nat} (h : gK n1 f1 f2 n2 = n1) : gR f1 f2 n2 n1 = 0 := by
  obtain ⟨h1, h2⟩ := gA_ok n1 f1 f2 n2
  rw [h] at h1 h2
  exact gR_zero n2 n1 h1 h2
section FIT
variable {h0 : tt_H} {b1 b2 n1 n2 : Nat} {f1 f2 : Nat → Nat}
theorem fit_back (c1 : pp_cry h0 b1 n1 f1) (c2 : pp_cry h0 b2 n2 f2) (hF : h0 6 = some (tt_ob 3 [.ref 7, .ref 8, .ref 9])) (k1 : b1 ≠ 8 ∧ b1 + 1 ≠ 8 ∧ b2 ≠ 8 ∧ b2 + 1 ≠ 8) :
    ∀ (t r fu : Nat) (g : Nat → Int32) (acc : Nat → Nat), t ≤ n2 → r ≤ n1 → t < fu → (∀ k, r ≤ k → k < n1 → g k = nI (acc k)) →
      ∃ g', s_X3_make_L78 fu 6 b1 b2 (nI r + (-1)) (nI t + (-1)) (va_up h0 8 (some (tt_ia 12 g))) = some (1, va_up h0 8 (some (tt_ia 12 g'))) ∧ ∀ k, gR f1 f2 t r ≤ k → k < n1 → g' k = nI (gB f1 f2 t r acc k) := by
  intro t
  have l1 := c1.le
  have l2 := c2.le
  induction t with
  | zero =>
    intro r fu g acc _ _ hfu hg
    obtain ⟨fu, rfl⟩ : ∃ z, fu = z + 1 := ⟨fu - 1, by omega⟩
    refine ⟨g, ?_, hg⟩
    rw [s_X3_make_L78, if_pos (show nI 0 + (-1) < 0 by decide)]
  | succ t ih =>
    intro r fu g acc ht hr hfu hg
    obtain ⟨fu, rfl⟩ : ∃ z, fu = z + 1 := ⟨fu - 1, by omega⟩
    have c1' : pp_cry (va_up h0 8 (some (tt_ia 12 g))) b1 n1 f1 := c1.up _ k1.1 k1.2.1
    have c2' : pp_cry (va_up h0 8 (some (tt_ia 12 g))) b2 n2 f2 := c2.up _ k1.2.2.1 k1.2.2.2
    rw [s_X3_make_L78, pk_m1, if_neg (nI_pos (by omega)), pp_cobj c1', pp_bind]
    by_cases hr0 : 0 < r
    · rw [pp_p1 hr0, pp_has c1' (by omega), pp_bind, if_pos (show r - 1 < n1 by omega)]
      simp only []
      rw [if_neg (by decide), pp_cobj c1', pp_bind, pp_at c1' (by omega), pp_bind]
      simp only []
      rw [pp_cobj c2', pp_bind, pp_at c2' (by omega), pp_bind]
      simp only []
      by_cases hw : f1 (r - 1) = f2 t
      · have hc : 0 < r ∧ f1 (r - 1) = f2 t := ⟨hr0, hw⟩
        rw [if_pos ((pp_w_eq (by omega) (by omega) (c1.lt8 (by omega)) (c2.lt8 (by omega))).mpr hw), pp_fr (v := 8) (by rw [va_up_ne _ _ (by decide)]; exact hF) rfl, pp_bind, pp_is (va_up_self _ _ _) (by omega) (by decide), pp_bind, bx_uu, s_X3_make_J116, gR_s1 hc, gB_s1 hc]
        refine ih (r - 1) fu _ _ (by omega) (by omega) (by omega) (fun k h1 h2 => ?_)
        by_cases hk : k = r - 1
        · subst hk; simp [upd]
        · simp only [upd, if_neg hk]; exact hg k (by omega) h2
      · have hc : ¬ (0 < r ∧ f1 (r - 1) = f2 t) := fun z => hw z.2
        rw [if_neg (fun z => hw ((pp_w_eq (by omega) (by omega) (c1.lt8 (by omega)) (c2.lt8 (by omega))).mp z)), s_X3_make_J116, gR_s0 hc, gB_s0 hc, ← pp_p1 hr0]
        exact ih r fu _ _ (by omega) hr (by omega) hg
    · have hc : ¬ (0 < r ∧ f1 (r - 1) = f2 t) := fun z => hr0 z.1
      have hr1 : r = 0 := by omega
      subst hr1
      rw [pp_hasN c1' (show nI 0 + (-1) < 0 by decide), pp_bind, if_pos rfl, s_X3_make_J116, gR_s0 hc, gB_s0 hc]
      exact ih 0 fu _ _ (by omega) hr (by omega) hg
end FIT
theorem pp_same {h : tt_H} {p : Nat} {e : tt_E} (hp : h p = some e) : va_up h p (some e) = h := by
  funext j
  by_cases hj : j = p
  · subst hj; rw [va_up_self, hp]
  · rw [va_up_ne _ _ hj]
theorem pp_comm {h : tt_H} {p q : Nat} (e e' : Option tt_E) (hpq : p ≠ q) : va_up (va_up h p e) q e' = va_up (va_up h q e') p e := by
  funext j
  by_cases h1 : j = p
  · subst h1; rw [va_up_ne _ _ hpq, va_up_self, va_up_self]
  · by_cases h2 : j = q
    · subst h2; rw [va_up_self, va_up_ne _ _ h1, va_up_self]
    · rw [va_up_ne _ _ h2, va_up_ne _ _ h1, va_up_ne _ _ h1, va_up_ne _ _ h2]
theorem pp_sub1 (x : Int32) : x - 1 = x + (-1) := Int32.sub_eq_add_neg x 1
section FIT2
variable {h0 : tt_H} {b1 b2 n1 n2 : Nat} {f1 f2 : Nat → Nat}
theorem fit_front (c1 : pp_cry h0 b1 n1 f1) (c2 : pp_cry h0 b2 n2 f2) (hF : h0 6 = some (tt_ob 3 [.ref 7, .ref 8, .ref 9])) (k1 : b1 ≠ 7 ∧ b1 + 1 ≠ 7 ∧ b2 ≠ 7 ∧ b2 + 1 ≠ 7) :
    ∀ (s p fu : Nat) (g : Nat → Int32), p + s = n2 → s < fu → (∀ k, k < gK n1 f1 f2 p → g k = nI (gA n1 f1 f2 p k)) →
      ∃ g', s_X3_make_L5 fu 6 b1 b2 (nI (gK n1 f1 f2 p)) (nI p) (va_up h0 7 (some (tt_ia 12 g))) = (if n1 ≤ gK n1 f1 f2 n2 then s_X3_make_L78 1000 6 b1 b2 (nI n1 + (-1)) (nI n2 + (-1)) (va_up h0 7 (some (tt_ia 12 g'))) else some (0, va_up h0 7 (some (tt_ia 12 g')))) ∧ ∀ k, k < gK n1 f1 f2 n2 → g' k = nI (gA n1 f1 f2 n2 k) := by
  intro s
  have l1 := c1.le
  have l2 := c2.le
  induction s with
  | zero =>
    intro p fu g hp hfu hg
    obtain ⟨fu, rfl⟩ : ∃ z, fu = z + 1 := ⟨fu - 1, by omega⟩
    obtain rfl : p = n2 := by omega
    have c1' : pp_cry (va_up h0 7 (some (tt_ia 12 g))) b1 n1 f1 := c1.up _ k1.1 k1.2.1
    have c2' : pp_cry (va_up h0 7 (some (tt_ia 12 g))) b2 p f2 := c2.up _ k1.2.2.1 k1.2.2.2
    have hk := gK_le n1 f1 f2 p
    refine ⟨g, ?_, hg⟩
    rw [s_X3_make_L5, pp_cobj c2', pp_bind, pp_size c2', pp_bind]
    simp only []
    rw [if_pos (nI_le (Nat.le_refl p) (by omega)), pp_cobj c1', pp_bind, pp_size c1', pp_bind]
    simp only []
    by_cases hw : n1 ≤ gK n1 f1 f2 p
    · rw [if_pos (nI_le hw (by omega)), if_pos hw, pp_cobj c1', pp_bind, pp_size c1', pp_bind]
      simp only []
      rw [pp_cobj c2', pp_bind, pp_size c2', pp_bind]
      simp only [pp_sub1]
    · rw [if_neg (nI_ge (by omega) (by omega)), if_neg hw]
  | succ s ih =>
    intro p fu g hp hfu hg
    obtain ⟨fu, rfl⟩ : ∃ z, fu = z + 1 := ⟨fu - 1, by omega⟩
    have c1' : pp_cry (va_up h0 7 (some (tt_ia 12 g))) b1 n1 f1 := c1.up _ k1.1 k1.2.1
    have c2' : pp_cry (va_up h0 7 (some (tt_ia 12 g))) b2 n2 f2 := c2.up _ k1.2.2.1 k1.2.2.2
    have hk := gK_le n1 f1 f2 p
    rw [s_X3_make_L5, pp_cobj c2', pp_bind, pp_size c2', pp_bind]
    simp only []
    rw [if_neg (nI_ge (by omega) (by omega)), pp_cobj c1', pp_bind, pp_has c1' (by omega), pp_bind]
    simp only []
    by_cases hk1 : gK n1 f1 f2 p < n1
    · rw [if_pos hk1, if_neg (by decide), pp_cobj c1', pp_bind, pp_at c1' (by omega), pp_bind]
      simp only []
      rw [pp_cobj c2', pp_bind, pp_at c2' (by omega), pp_bind]
      simp only []
      by_cases hw : f1 (gK n1 f1 f2 p) = f2 p
      · have hc : gK n1 f1 f2 p < n1 ∧ f1 (gK n1 f1 f2 p) = f2 p := ⟨hk1, hw⟩
        rw [if_pos ((pp_w_eq hk1 (by omega) (c1.lt8 hk1) (c2.lt8 (by omega))).mpr hw), pp_fr (v := 7) (by rw [va_up_ne _ _ (by decide)]; exact hF) rfl, pp_bind, pp_is (va_up_self _ _ _) (by omega) (by decide), pp_bind, bx_uu, s_X3_make_J47, nI_1, nI_1, ← gK_s1 hc]
        refine ih (p + 1) fu _ (by omega) (by omega) (fun k hk => ?_)
        rw [gK_s1 hc] at hk
        rw [gA_s1 hc]
        by_cases hkk : k = gK n1 f1 f2 p
        · simp [upd, hkk]
        · simp only [upd, if_neg hkk]; exact hg k (by omega)
      · have hc : ¬ (gK n1 f1 f2 p < n1 ∧ f1 (gK n1 f1 f2 p) = f2 p) := fun z => hw z.2
        rw [if_neg (fun z => hw ((pp_w_eq hk1 (by omega) (c1.lt8 hk1) (c2.lt8 (by omega))).mp z)), s_X3_make_J47, nI_1, ← gK_s0 hc]
        exact ih (p + 1) fu _ (by omega) (by omega) (by rw [gK_s0 hc, gA_s0 hc]; exact hg)
    · have hc : ¬ (gK n1 f1 f2 p < n1 ∧ f1 (gK n1 f1 f2 p) = f2 p) := fun z => hk1 z.1
      rw [if_neg hk1, if_pos rfl, s_X3_make_J47, nI_1, ← gK_s0 hc]
      exact ih (p + 1) fu _ (by omega) (by omega) (by rw [gK_s0 hc, gA_s0 hc]; exact hg)
theorem pp_make {g7 g8 : Nat → Int32} (c1 : pp_cry h0 b1 n1 f1) (c2 : pp_cry h0 b2 n2 f2) (hF : h0 6 = some (tt_ob 3 [.ref 7, .ref 8, .ref 9])) (h7 : h0 7 = some (tt_ia 12 g7)) (h8 : h0 8 = some (tt_ia 12 g8)) (k1 : b1 ≠ 7 ∧ b1 + 1 ≠ 7 ∧ b2 ≠ 7 ∧ b2 + 1 ≠ 7) (k2 : b1 ≠ 8 ∧ b1 + 1 ≠ 8 ∧ b2 ≠ 8 ∧ b2 + 1 ≠ 8) :
    ∃ g l, s_X3_make 6 b1 b2 h0 = some (if gK n1 f1 f2 n2 = n1 then 1 else 0, va_up (va_up h0 7 (some (tt_ia 12 g))) 8 (some (tt_ia 12 l))) ∧ (gK n1 f1 f2 n2 = n1 → ∀ k, k < n1 → g k = nI (gA n1 f1 f2 n2 k) ∧ l k = nI (gB f1 f2 n2 n1 (fun _ => 0) k)) := by
  have l1 := c1.le
  have l2 := c2.le
  obtain ⟨g, e1, e2⟩ := fit_front c1 c2 hF k1 n2 0 1000 g7 (by omega) (by omega) (fun k hk => absurd hk (Nat.not_lt_zero k))
  rw [pp_same h7] at e1
  have hle := gK_le n1 f1 f2 n2
  by_cases hw : gK n1 f1 f2 n2 = n1
  · rw [if_pos (by omega)] at e1
    obtain ⟨l, e3, e4⟩ := fit_back (h0 := va_up h0 7 (some (tt_ia 12 g))) (c1.up _ k1.1 k1.2.1) (c2.up _ k1.2.2.1 k1.2.2.2) (by rw [va_up_ne _ _ (by decide)]; exact hF) k2 n2 n1 1000 g8 (fun _ => 0) (Nat.le_refl _) (Nat.le_refl _) (by omega) (fun k h1 h2 => by omega)
    rw [pp_same (by rw [va_up_ne _ _ (by decide)]; exact h8)] at e3
    refine ⟨g, l, ?_, fun _ k hk => ⟨e2 k (by omega), e4 k (by rw [gR_within hw]; exact Nat.zero_le k) hk⟩⟩
    rw [if_pos hw]
    show s_X3_make_L5 1000 6 b1 b2 (nI (gK n1 f1 f2 0)) (nI 0) h0 = _
    rw [e1, e3]
  · rw [if_neg (by omega)] at e1
    refine ⟨g, g8, ?_, fun z => absurd z hw⟩
    rw [if_neg hw, pp_same (by rw [va_up_ne _ _ (by decide)]; exact h8)]
    show s_X3_make_L5 1000 6 b1 b2 (nI (gK n1 f1 f2 0)) (nI 0) h0 = _
    rw [e1]
end FIT2
/-! THE STATE, as numbers: kinds kn, how many days dc, sizes sz, words wd, sorts so (9: nothing), lengths sl, cells sc, trace tr, fault ft -/
abbrev pp_P : Type := (Nat → Nat) × Nat × (Nat → Nat) × (Nat → Nat → Nat) × (Nat → Nat) × (Nat → Nat) × (Nat → Nat → Int32) × Int32 × Int32
def pp_V (P : pp_P) : Prop := match P with
  | (kn, dc, sz, wd, so, sl, _, _, _) => (∀ w, w < 8 → kn w < 3) ∧ dc ≤ 6 ∧ (∀ d, d < dc → 0 < sz d ∧ sz d ≤ 12 ∧ ∀ k, k < sz d → wd d k < 8) ∧ ∀ k, k < 4 → so k ≠ 9 → so k < 3 ∧ sl k ≤ 80
def cc_ob (dc : Nat) (tr ft : Int32) : tt_E := tt_ob 8 [.ref 1, .ref 2, .ref 3, .ref 4, .ref 6, .ref 10, .ref 13, .ref 18, .ref 23, .ref 28, .int (nI dc), .int tr, .int ft]
/-- the class's cells that hold the state -/
def cc_main (i : Nat) : Prop := i ≤ 6 ∨ i = 10 ∨ i = 13 ∨ i = 14 ∨ i = 16 ∨ i = 19 ∨ i = 21 ∨ i = 24 ∨ i = 26 ∨ (29 ≤ i ∧ i ≤ 48)
def cc_I (P : pp_P) (h : tt_H) : Prop := match P with
  | (kn, dc, sz, wd, so, sl, sc, tr, ft) =>
    h 0 = some (cc_ob dc tr ft) ∧
    (∃ g : Nat → Int32, h 1 = some (tt_ia 8 g) ∧ ∀ w, w < 8 → g w = nI (kn w)) ∧
    (∃ g : Nat → Option Nat, h 2 = some (tt_qa 3 6 g) ∧ (∀ d, d < 6 → g d = some (29 + 2 * d)) ∧ ∀ d, 6 ≤ d → g d = none) ∧
    (∃ g : Nat → Option Nat, h 3 = some (tt_qa 4 4 g) ∧ (∀ k, k < 4 → g k = some (41 + 2 * k)) ∧ ∀ k, 4 ≤ k → g k = none) ∧
    (∀ d, d < 6 → ∃ (g : Nat → Int32) (z : Int32), h (29 + 2 * d) = some (tt_ob 2 [.ref (29 + 2 * d + 1), .int z]) ∧ h (29 + 2 * d + 1) = some (tt_ia 12 g) ∧ (d < dc → z = nI (sz d) ∧ ∀ k, k < sz d → g k = nI (wd d k))) ∧
    (∃ g : Nat → Int32, h 4 = some (tt_ob 2 [.ref 5, .int 0]) ∧ h 5 = some (tt_ia 12 g)) ∧
    (∀ k, k < 4 → ∃ (g : Nat → Int32) (q : Int32), h (41 + 2 * k) = some (tt_ob 6 [.ref (41 + 2 * k + 1), .int (if so k = 9 then -1 else nI (sl k)), .int q]) ∧ h (41 + 2 * k + 1) = some (tt_ia 80 g) ∧ (so k ≠ 9 → q = nI (so k) ∧ ∀ i, i < 80 → g i = sc k i)) ∧
    h 6 = some (tt_ob 3 [.ref 7, .ref 8, .ref 9]) ∧ h 10 = some (tt_ob 5 [.ref 11, .ref 12]) ∧ h 13 = some (tt_ob 7 [.ref 14, .ref 16]) ∧
    h 14 = some (tt_ob 4 [.ref 15]) ∧ h 16 = some (tt_ob 4 [.ref 17]) ∧ h 19 = some (tt_ob 4 [.ref 20]) ∧ h 21 = some (tt_ob 4 [.ref 22]) ∧ h 24 = some (tt_ob 4 [.ref 25]) ∧ h 26 = some (tt_ob 4 [.ref 27])
def cc_sI : List (Nat × Nat) := [(7, 12), (8, 12), (12, 2), (28, 13)]
def cc_sJ : List (Nat × Nat) := [(9, 13), (15, 169), (17, 169), (20, 169), (22, 169), (25, 169), (27, 169)]
/-- the cells that no call reads before it has written them -/
def cc_S (h : tt_H) : Prop := (∀ q ∈ cc_sI, ∃ g, h q.1 = some (tt_ia q.2 g)) ∧ (∀ q ∈ cc_sJ, ∃ g, h q.1 = some (tt_ja q.2 g)) ∧ (∃ g, h 11 = some (tt_za 104 g)) ∧
  (∃ x y, h 18 = some (tt_ob 1 [.ref x, .ref y]) ∧ ((x = 19 ∧ y = 21) ∨ (x = 21 ∧ y = 19))) ∧ (∃ x y, h 23 = some (tt_ob 0 [.ref x, .ref y]) ∧ ((x = 24 ∧ y = 26) ∨ (x = 26 ∧ y = 24)))
def cc_A (P : pp_P) (h : tt_H) : Prop := cc_I P h ∧ cc_S h
theorem cc_I.congr {P : pp_P} {h h' : tt_H} (hi : cc_I P h) (e : ∀ i, cc_main i → h' i = h i) : cc_I P h' := by
  obtain ⟨kn, dc, sz, wd, so, sl, sc, tr, ft⟩ := P
  obtain ⟨a0, ⟨g1, a1, b1⟩, ⟨g2, a2, b2⟩, ⟨g3, a3, b3⟩, a4, ⟨g5, a5, a5'⟩, a6, a7⟩ := hi
  refine ⟨by rw [e 0 (by unfold cc_main; omega)]; exact a0, ⟨g1, by rw [e 1 (by unfold cc_main; omega)]; exact a1, b1⟩, ⟨g2, by rw [e 2 (by unfold cc_main; omega)]; exact a2, b2⟩, ⟨g3, by rw [e 3 (by unfold cc_main; omega)]; exact a3, b3⟩, fun d hd => ?_, ⟨g5, by rw [e 4 (by unfold cc_main; omega)]; exact a5, by rw [e 5 (by unfold cc_main; omega)]; exact a5'⟩, fun k hk => ?_, ?_⟩
  · obtain ⟨g, z, c1, c2, c3⟩ := a4 d hd
    exact ⟨g, z, by rw [e _ (by unfold cc_main; omega)]; exact c1, by rw [e _ (by unfold cc_main; omega)]; exact c2, c3⟩
  · obtain ⟨g, q, c1, c2, c3⟩ := a6 k hk
    exact ⟨g, q, by rw [e _ (by unfold cc_main; omega)]; exact c1, by rw [e _ (by unfold cc_main; omega)]; exact c2, c3⟩
  · rw [e 6 (by unfold cc_main; omega), e 10 (by unfold cc_main; omega), e 13 (by unfold cc_main; omega), e 14 (by unfold cc_main; omega), e 16 (by unfold cc_main; omega), e 19 (by unfold cc_main; omega), e 21 (by unfold cc_main; omega), e 24 (by unfold cc_main; omega), e 26 (by unfold cc_main; omega)]
    exact a7
theorem cc_S.congr {h h' : tt_H} (hs : cc_S h) (e : ∀ i, i < 49 → h' i = h i) : cc_S h' := by
  obtain ⟨a1, a2, a3, a4, a5⟩ := hs
  refine ⟨fun q hq => ?_, fun q hq => ?_, by rw [e 11 (by decide)]; exact a3, by rw [e 18 (by decide)]; exact a4, by rw [e 23 (by decide)]; exact a5⟩
  · have : q.1 < 49 := by revert q; decide
    rw [e q.1 this]; exact a1 q hq
  · have : q.1 < 49 := by revert q; decide
    rw [e q.1 this]; exact a2 q hq
theorem cc_A.congr {P : pp_P} {h h' : tt_H} (ha : cc_A P h) (e : ∀ i, i < 49 → h' i = h i) : cc_A P h' := ⟨ha.1.congr (fun i hi => e i (by unfold cc_main at hi; omega)), ha.2.congr e⟩
theorem cc_A.upI {P : pp_P} {h : tt_H} (ha : cc_A P h) {p N : Nat} (hp : (p, N) ∈ cc_sI) (g : Nat → Int32) : cc_A P (va_up h p (some (tt_ia N g))) := by
  have hm : ¬ cc_main p ∧ p ≠ 11 ∧ p ≠ 18 ∧ p ≠ 23 := by
    simp only [cc_sI, List.mem_cons, Prod.mk.injEq, List.not_mem_nil, or_false] at hp
    unfold cc_main; omega
  refine ⟨ha.1.congr (fun i hi => va_up_ne _ _ (fun z => hm.1 (z ▸ hi))), ?_⟩
  obtain ⟨a1, a2, a3, a4, a5⟩ := ha.2
  refine ⟨fun q hq => ?_, fun q hq => ?_, by rw [va_up_ne _ _ (Ne.symm hm.2.1)]; exact a3, by rw [va_up_ne _ _ (Ne.symm hm.2.2.1)]; exact a4, by rw [va_up_ne _ _ (Ne.symm hm.2.2.2)]; exact a5⟩
  · by_cases hqp : q.1 = p
    · have hN : q.2 = N := by
        simp only [cc_sI, List.mem_cons, Prod.mk.injEq, List.not_mem_nil, or_false] at hp
        simp only [cc_sI, List.mem_cons, List.not_mem_nil, or_false] at hq
        rcases hq with rfl | rfl | rfl | rfl <;> simp only at hqp ⊢ <;> omega
      exact ⟨g, by rw [hqp, va_up_self, hN]⟩
    · rw [va_up_ne _ _ hqp]; exact a1 q hq
  · have hqp : q.1 ≠ p := by
      simp only [cc_sI, List.mem_cons, Prod.mk.injEq, List.not_mem_nil, or_false] at hp
      simp only [cc_sJ, List.mem_cons, List.not_mem_nil, or_false] at hq
      rcases hq with rfl | rfl | rfl | rfl | rfl | rfl | rfl <;> simp only <;> omega
    rw [va_up_ne _ _ hqp]; exact a2 q hq
theorem cc_A.upJ {P : pp_P} {h : tt_H} (ha : cc_A P h) {p N : Nat} (hp : (p, N) ∈ cc_sJ) (g : Nat → Int64) : cc_A P (va_up h p (some (tt_ja N g))) := by
  have hm : ¬ cc_main p ∧ p ≠ 11 ∧ p ≠ 18 ∧ p ≠ 23 := by
    simp only [cc_sJ, List.mem_cons, Prod.mk.injEq, List.not_mem_nil, or_false] at hp
    unfold cc_main; omega
  refine ⟨ha.1.congr (fun i hi => va_up_ne _ _ (fun z => hm.1 (z ▸ hi))), ?_⟩
  obtain ⟨a1, a2, a3, a4, a5⟩ := ha.2
  refine ⟨fun q hq => ?_, fun q hq => ?_, by rw [va_up_ne _ _ (Ne.symm hm.2.1)]; exact a3, by rw [va_up_ne _ _ (Ne.symm hm.2.2.1)]; exact a4, by rw [va_up_ne _ _ (Ne.symm hm.2.2.2)]; exact a5⟩
  · have hqp : q.1 ≠ p := by
      simp only [cc_sJ, List.mem_cons, Prod.mk.injEq, List.not_mem_nil, or_false] at hp
      simp only [cc_sI, List.mem_cons, List.not_mem_nil, or_false] at hq
      rcases hq with rfl | rfl | rfl | rfl <;> simp only <;> omega
    rw [va_up_ne _ _ hqp]; exact a1 q hq
  · by_cases hqp : q.1 = p
    · have hN : q.2 = N := by
        simp only [cc_sJ, List.mem_cons, Prod.mk.injEq, List.not_mem_nil, or_false] at hp
        simp only [cc_sJ, List.mem_cons, List.not_mem_nil, or_false] at hq
        rcases hq with rfl | rfl | rfl | rfl | rfl | rfl | rfl <;> simp only at hqp ⊢ <;> omega
      exact ⟨g, by rw [hqp, va_up_self, hN]⟩
    · rw [va_up_ne _ _ hqp]; exact a2 q hq
theorem cc_A.upZ {P : pp_P} {h : tt_H} (ha : cc_A P h) (g : Nat → Int32) : cc_A P (va_up h 11 (some (tt_za 104 g))) := by
  refine ⟨ha.1.congr (fun i hi => va_up_ne _ _ (fun z => by unfold cc_main at hi; omega)), ?_⟩
  obtain ⟨a1, a2, a3, a4, a5⟩ := ha.2
  refine ⟨fun q hq => ?_, fun q hq => ?_, ⟨g, va_up_self _ _ _⟩, by rw [va_up_ne _ _ (by decide)]; exact a4, by rw [va_up_ne _ _ (by decide)]; exact a5⟩
  · have : q.1 ≠ 11 := by revert q; decide
    rw [va_up_ne _ _ this]; exact a1 q hq
  · have : q.1 ≠ 11 := by revert q; decide
    rw [va_up_ne _ _ this]; exact a2 q hq
/-! WHAT THE STATE GIVES: reads of the class and of the model -/
theorem pp_rng (n : Nat) (hn : n < 2 ^ 31) (x : Int32) : (∃ k, k < n ∧ x = nI k) ∨ (x < 0 ∨ nI n ≤ x) := by
  rcases pk_ix x hn with h | h | ⟨j, h1, h2⟩
  · exact Or.inr (Or.inl h)
  · exact Or.inr (Or.inr h)
  · exact Or.inl ⟨j, h1, h2⟩
section ACC
variable {kn : Nat → Nat} {dc : Nat} {sz : Nat → Nat} {wd : Nat → Nat → Nat} {so sl : Nat → Nat} {sc : Nat → Nat → Int32} {tr ft : Int32} {h : tt_H}

theorem ca_b {α : Type} (ha : cc_I (kn, dc, sz, wd, so, sl, sc, tr, ft) h) (x : Option α) : ((gg_obj h 0 8).bind fun _ => x) = x := by
  rw [pp_obj ha.1]; rfl

theorem ca_0 (ha : cc_I (kn, dc, sz, wd, so, sl, sc, tr, ft) h) : gg_fr h 0 8 0 = some 1 := pp_fr ha.1 rfl

theorem ca_1 (ha : cc_I (kn, dc, sz, wd, so, sl, sc, tr, ft) h) : gg_fr h 0 8 1 = some 2 := pp_fr ha.1 rfl

theorem ca_2 (ha : cc_I (kn, dc, sz, wd, so, sl, sc, tr, ft) h) : gg_fr h 0 8 2 = some 3 := pp_fr ha.1 rfl

theorem ca_3 (ha : cc_I (kn, dc, sz, wd, so, sl, sc, tr, ft) h) : gg_fr h 0 8 3 = some 4 := pp_fr ha.1 rfl

theorem ca_4 (ha : cc_I (kn, dc, sz, wd, so, sl, sc, tr, ft) h) : gg_fr h 0 8 4 = some 6 := pp_fr ha.1 rfl

theorem ca_5 (ha : cc_I (kn, dc, sz, wd, so, sl, sc, tr, ft) h) : gg_fr h 0 8 5 = some 10 := pp_fr ha.1 rfl

theorem ca_6 (ha : cc_I (kn, dc, sz, wd, so, sl, sc, tr, ft) h) : gg_fr h 0 8 6 = some 13 := pp_fr ha.1 rfl

theorem ca_7 (ha : cc_I (kn, dc, sz, wd, so, sl, sc, tr, ft) h) : gg_fr h 0 8 7 = some 18 := pp_fr ha.1 rfl

theorem ca_8 (ha : cc_I (kn, dc, sz, wd, so, sl, sc, tr, ft) h) : gg_fr h 0 8 8 = some 23 := pp_fr ha.1 rfl

theorem ca_9 (ha : cc_I (kn, dc, sz, wd, so, sl, sc, tr, ft) h) : gg_fr h 0 8 9 = some 28 := pp_fr ha.1 rfl

theorem ca_dc (ha : cc_I (kn, dc, sz, wd, so, sl, sc, tr, ft) h) : gg_fi h 0 8 10 = some (nI dc) := pp_fi ha.1 rfl
theorem ca_tr (ha : cc_I (kn, dc, sz, wd, so, sl, sc, tr, ft) h) : gg_fi h 0 8 11 = some tr := pp_fi ha.1 rfl
theorem ca_ft (ha : cc_I (kn, dc, sz, wd, so, sl, sc, tr, ft) h) : gg_fi h 0 8 12 = some ft := pp_fi ha.1 rfl
theorem ca_kind (ha : cc_I (kn, dc, sz, wd, so, sl, sc, tr, ft) h) {w : Nat} (hw : w < 8) : gg_il h 1 (nI w) = some (nI (kn w)) := by
  obtain ⟨-, ⟨g, e1, e2⟩, -⟩ := ha
  rw [pp_il e1 hw (by decide), e2 w hw]
theorem ca_cry (hV : pp_V (kn, dc, sz, wd, so, sl, sc, tr, ft)) (ha : cc_I (kn, dc, sz, wd, so, sl, sc, tr, ft) h) {d : Nat} (hd : d < dc) : pp_cry h (29 + 2 * d) (sz d) (wd d) := by
  obtain ⟨-, v1, v2, -⟩ := hV
  obtain ⟨-, -, -, -, a4, -⟩ := ha
  obtain ⟨g, z, e1, e2, e3⟩ := a4 d (by omega)
  obtain ⟨w1, w2, w3⟩ := v2 d hd
  obtain ⟨rfl, e4⟩ := e3 hd
  exact ⟨g, e1, e2, w2, fun k hk => ⟨e4 k hk, w3 k hk⟩⟩
theorem ca_none (ha : cc_I (kn, dc, sz, wd, so, sl, sc, tr, ft) h) : pp_cry h 4 0 (fun _ => 0) := by
  obtain ⟨-, -, -, -, -, ⟨g, e1, e2⟩, -⟩ := ha
  exact ⟨g, e1, e2, by decide, fun k hk => absurd hk (Nat.not_lt_zero k)⟩
theorem ca_in (hV : pp_V (kn, dc, sz, wd, so, sl, sc, tr, ft)) (ha : cc_I (kn, dc, sz, wd, so, sl, sc, tr, ft) h) {d : Nat} (hd : d < dc) : s_X8_cryOf 0 (nI d) h = some (some (29 + 2 * d), h) := by
  obtain ⟨-, v1, -⟩ := hV
  unfold s_X8_cryOf
  rw [if_neg (nI_pos (by omega)), ca_dc ha, pp_bind, if_neg (nI_ge hd (by omega)), if_neg (show ¬ (6 : Int32) ≤ nI d from nI_ge (a := d) (b := 6) (by omega) (by decide)), ca_1 ha, pp_bind]
  obtain ⟨-, -, ⟨g, e1, e2⟩, -⟩ := ha
  rw [pp_ql e1 (by omega) (by decide) (e2.1 d (by omega)), pp_bind]
theorem ca_out (ha : cc_I (kn, dc, sz, wd, so, sl, sc, tr, ft) h) {x : Int32} (hx : x < 0 ∨ nI dc ≤ x) : s_X8_cryOf 0 x h = some (none, h) := by
  unfold s_X8_cryOf
  by_cases h0 : x < 0
  · rw [if_pos h0]
  · rw [if_neg h0, ca_dc ha, pp_bind, if_pos (hx.resolve_left h0)]
theorem ca_last (hV : pp_V (kn, dc, sz, wd, so, sl, sc, tr, ft)) (ha : cc_I (kn, dc, sz, wd, so, sl, sc, tr, ft) h) (hd : 0 < dc) : s_X8_lastCry 0 h = some (some (29 + 2 * (dc - 1)), h) := by
  unfold s_X8_lastCry
  rw [ca_dc ha, pp_bind, ca_b ha, pp_m1 hd, ca_in hV ha (by omega), pp_bind]
theorem ca_last0 (ha : cc_I (kn, dc, sz, wd, so, sl, sc, tr, ft) h) (hd : dc = 0) : s_X8_lastCry 0 h = some (none, h) := by
  unfold s_X8_lastCry
  rw [ca_dc ha, pp_bind, ca_b ha, hd, ca_out ha (Or.inl (by decide)), pp_bind]
theorem ca_putft (ha : cc_I (kn, dc, sz, wd, so, sl, sc, tr, ft) h) (x : Int32) : gg_put h 0 8 12 (.int x) = some (va_up h 0 (some (cc_ob dc tr x))) := pp_put ha.1 _ (Nat.le_of_ble_eq_true rfl)
theorem ca_puttr (ha : cc_I (kn, dc, sz, wd, so, sl, sc, tr, ft) h) (x : Int32) : gg_put h 0 8 11 (.int x) = some (va_up h 0 (some (cc_ob dc x ft))) := pp_put ha.1 _ (Nat.le_of_ble_eq_true rfl)
theorem ca_up0 {P' : pp_P} (ha : cc_A (kn, dc, sz, wd, so, sl, sc, tr, ft) h) (tr' ft' : Int32) : cc_A (kn, dc, sz, wd, so, sl, sc, tr', ft') (va_up h 0 (some (cc_ob dc tr' ft'))) := by
  obtain ⟨⟨a0, a1, a2, a3, a4, a5, a6, a7⟩, hS⟩ := ha
  have e : ∀ i, i ≠ 0 → va_up h 0 (some (cc_ob dc tr' ft')) i = h i := fun i hi => va_up_ne _ _ hi
  refine ⟨⟨va_up_self _ _ _, by rw [e 1 (by decide)]; exact a1, by rw [e 2 (by decide)]; exact a2, by rw [e 3 (by decide)]; exact a3, fun d hd => ?_, by rw [e 4 (by decide), e 5 (by decide)]; exact a5, fun k hk => ?_, ?_⟩, ?_⟩
  · rw [e _ (by omega), e _ (by omega)]; exact a4 d hd
  · rw [e _ (by omega), e _ (by omega)]; exact a6 k hk
  · rw [e 6 (by decide), e 10 (by decide), e 13 (by decide), e 14 (by decide), e 16 (by decide), e 19 (by decide), e 21 (by decide), e 24 (by decide), e 26 (by decide)]; exact a7
  · obtain ⟨s1, s2, s3, s4, s5⟩ := hS
    refine ⟨fun q hq => ?_, fun q hq => ?_, by rw [e 11 (by decide)]; exact s3, by rw [e 18 (by decide)]; exact s4, by rw [e 23 (by decide)]; exact s5⟩
    · rw [e q.1 (by revert q; decide)]; exact s1 q hq
    · rw [e q.1 (by revert q; decide)]; exact s2 q hq
theorem ca_up1 (ha : cc_A (kn, dc, sz, wd, so, sl, sc, tr, ft) h) {g : Nat → Int32} (he : h 1 = some (tt_ia 8 g)) {w k : Nat} (hw : w < 8) : cc_A (fun j => if j = w then k else kn j, dc, sz, wd, so, sl, sc, tr, ft) (va_up h 1 (some (tt_ia 8 (upd g w (nI k))))) := by
  obtain ⟨⟨a0, ⟨g1, a1, b1⟩, a2, a3, a4, a5, a6, a7⟩, hS⟩ := ha
  obtain rfl : g = g1 := by rw [he] at a1; simp at a1; exact a1
  have e : ∀ i, i ≠ 1 → va_up h 1 (some (tt_ia 8 (upd g w (nI k)))) i = h i := fun i hi => va_up_ne _ _ hi
  refine ⟨⟨by rw [e 0 (by decide)]; exact a0, ⟨_, va_up_self _ _ _, fun j hj => ?_⟩, by rw [e 2 (by decide)]; exact a2, by rw [e 3 (by decide)]; exact a3, fun d hd => ?_, by rw [e 4 (by decide), e 5 (by decide)]; exact a5, fun k hk => ?_, ?_⟩, ?_⟩
  · by_cases hjw : j = w
    · simp [upd, hjw]
    · simp only [upd, if_neg hjw]; exact b1 j hj
  · rw [e _ (by omega), e _ (by omega)]; exact a4 d hd
  · rw [e _ (by omega), e _ (by omega)]; exact a6 k hk
  · rw [e 6 (by decide), e 10 (by decide), e 13 (by decide), e 14 (by decide), e 16 (by decide), e 19 (by decide), e 21 (by decide), e 24 (by decide), e 26 (by decide)]; exact a7
  · obtain ⟨s1, s2, s3, s4, s5⟩ := hS
    refine ⟨fun q hq => ?_, fun q hq => ?_, by rw [e 11 (by decide)]; exact s3, by rw [e 18 (by decide)]; exact s4, by rw [e 23 (by decide)]; exact s5⟩
    · rw [e q.1 (by revert q; decide)]; exact s1 q hq
    · rw [e q.1 (by revert q; decide)]; exact s2 q hq
end ACC
/-! THE CALLS, first of all the plain ones -/
theorem pn_10 : ((1 : Int32) = 0) = False := by decide
theorem pn_00 : ((0 : Int32) = 0) = True := by decide
section W8
variable {h : tt_H}
theorem iw_in {w : Nat} (hw : w < 8) : s_X8_isWord (nI w) h = some (1, h) := by
  unfold s_X8_isWord
  rw [if_neg (nI_pos (by omega)), if_neg (show ¬ (8 : Int32) ≤ nI w from nI_ge (a := w) (b := 8) hw (by decide))]
theorem iw_out {x : Int32} (hx : x < 0 ∨ nI 8 ≤ x) : s_X8_isWord x h = some (0, h) := by
  unfold s_X8_isWord
  by_cases h0 : x < 0
  · rw [if_pos h0]
  · rw [if_neg h0, if_pos (show (8 : Int32) ≤ x from hx.resolve_left h0)]
theorem ik_in {w : Nat} (hw : w < 3) : s_X8_isKind (nI w) h = some (1, h) := by
  unfold s_X8_isKind
  rw [if_neg (nI_pos (by omega)), if_neg (show ¬ (3 : Int32) ≤ nI w from nI_ge (a := w) (b := 3) hw (by decide))]
theorem ik_out {x : Int32} (hx : x < 0 ∨ nI 3 ≤ x) : s_X8_isKind x h = some (0, h) := by
  unfold s_X8_isKind
  by_cases h0 : x < 0
  · rw [if_pos h0]
  · rw [if_neg h0, if_pos (show (3 : Int32) ≤ x from hx.resolve_left h0)]
theorem is_in {w : Nat} (hw : w < 3) : s_X8_isSort (nI w) h = some (1, h) := by
  unfold s_X8_isSort
  rw [if_neg (nI_pos (by omega)), if_neg (show ¬ (3 : Int32) ≤ nI w from nI_ge (a := w) (b := 3) hw (by decide))]
theorem is_out {x : Int32} (hx : x < 0 ∨ nI 3 ≤ x) : s_X8_isSort x h = some (0, h) := by
  unfold s_X8_isSort
  by_cases h0 : x < 0
  · rw [if_pos h0]
  · rw [if_neg h0, if_pos (show (3 : Int32) ≤ x from hx.resolve_left h0)]
theorem if_in {w : Nat} (hw : w < 2) : s_X8_isFirstOrSecond (nI w) h = some (1, h) := by
  unfold s_X8_isFirstOrSecond
  rcases (show w = 0 ∨ w = 1 by omega) with rfl | rfl
  · rfl
  · rfl
theorem if_out {x : Int32} (hx : x < 0 ∨ nI 2 ≤ x) : s_X8_isFirstOrSecond x h = some (0, h) := by
  unfold s_X8_isFirstOrSecond
  rw [if_neg, if_neg]
  · rintro rfl; revert hx; decide
  · rintro rfl; revert hx; decide
end W8
/-! WITHIN of two DAYS, with what it leaves -/
section WI
variable {kn : Nat → Nat} {dc : Nat} {sz : Nat → Nat} {wd : Nat → Nat → Nat} {so sl : Nat → Nat} {sc : Nat → Nat → Int32} {tr ft : Int32} {h : tt_H}
def pw_b (n1 n2 : Nat) (f1 f2 : Nat → Nat) : Int32 := if gK n1 f1 f2 n2 = n1 then 1 else 0
theorem cl_make (ha : cc_A (kn, dc, sz, wd, so, sl, sc, tr, ft) h) {b1 b2 n1 n2 : Nat} {f1 f2 : Nat → Nat} (c1 : pp_cry h b1 n1 f1) (c2 : pp_cry h b2 n2 f2) (k1 : 29 ≤ b1 ∨ b1 = 4) (k2 : 29 ≤ b2 ∨ b2 = 4) :
    ∃ h1 g l, s_X3_make 6 b1 b2 h = some (pw_b n1 n2 f1 f2, h1) ∧ cc_A (kn, dc, sz, wd, so, sl, sc, tr, ft) h1 ∧ (∀ i, i ≠ 7 → i ≠ 8 → h1 i = h i) ∧ h1 7 = some (tt_ia 12 g) ∧ h1 8 = some (tt_ia 12 l) ∧ (gK n1 f1 f2 n2 = n1 → ∀ k, k < n1 → g k = nI (gA n1 f1 f2 n2 k) ∧ l k = nI (gB f1 f2 n2 n1 (fun _ => 0) k)) := by
  obtain ⟨g7, e7⟩ := ha.2.1 (7, 12) (by decide)
  obtain ⟨g8, e8⟩ := ha.2.1 (8, 12) (by decide)
  have hF : h 6 = some (tt_ob 3 [.ref 7, .ref 8, .ref 9]) := by obtain ⟨-, -, -, -, -, -, -, e, -⟩ := ha.1; exact e
  obtain ⟨g, l, e1, e2⟩ := pp_make c1 c2 hF e7 e8 (by omega) (by omega)
  refine ⟨_, g, l, e1, (ha.upI (p := 7) (N := 12) (by decide) g).upI (p := 8) (N := 12) (by decide) l, fun i h1 h2 => ?_, ?_, va_up_self _ _ _, e2⟩
  · rw [va_up_ne _ _ h2, va_up_ne _ _ h1]
  · rw [va_up_ne _ _ (by decide), va_up_self]
theorem ca_fit (ha : cc_I (kn, dc, sz, wd, so, sl, sc, tr, ft) h) {α : Type} (x : Option α) : ((gg_obj h 6 3).bind fun _ => x) = x := by
  obtain ⟨-, -, -, -, -, -, -, e, -⟩ := ha
  rw [pp_obj e]; rfl
end WI
