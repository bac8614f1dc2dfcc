section ST
variable {kn : Nat → Nat} {dc : Nat} {sz : Nat → Nat} {wd : Nat → Nat → Nat} {so sl : Nat → Nat} {sc : Nat → Nat → Int32} {tr ft : Int32} {h : tt_H}
theorem cl_fails (ha : cc_A (kn, dc, sz, wd, so, sl, sc, tr, ft) h) (x : Int32) : ∃ h1, s_X8_fails 0 x h = some (-10 - x, h1) ∧ cc_A (kn, dc, sz, wd, so, sl, sc, tr, x) h1 ∧ ∀ i, i ≠ 0 → h1 i = h i := by
  refine ⟨_, ?_, ca_up0 (P' := (kn, dc, sz, wd, so, sl, sc, tr, ft)) ha tr x, fun i hi => va_up_ne _ _ hi⟩
  unfold s_X8_fails
  simp only [ca_putft ha.1, pp_bind]
theorem cl_put (ha : cc_A (kn, dc, sz, wd, so, sl, sc, tr, ft) h) (x : Int32) : ∃ h1, gg_put h 0 8 12 (.int x) = some h1 ∧ cc_A (kn, dc, sz, wd, so, sl, sc, tr, x) h1 ∧ ∀ i, i ≠ 0 → h1 i = h i :=
  ⟨_, ca_putft ha.1 x, ca_up0 (P' := (kn, dc, sz, wd, so, sl, sc, tr, ft)) ha tr x, fun i hi => va_up_ne _ _ hi⟩
theorem kn_lt (hV : pp_V (kn, dc, sz, wd, so, sl, sc, tr, ft)) {w : Nat} (hw : w < 8) : kn w < 3 := hV.1 w hw
end ST
/-- LEFT OUT -/
def lo_R (W : Nat → Int32) : Nat → Nat → Int32
  | 0, _ => -9
  | s + 1, d => if W d = 0 then nI d else lo_R W s (d + 1)
section LO
variable {kn : Nat → Nat} {dc : Nat} {sz : Nat → Nat} {wd : Nat → Nat → Nat} {so sl : Nat → Nat} {sc : Nat → Nat → Int32} {tr ft : Int32}
def lo_W (sz : Nat → Nat) (wd : Nat → Nat → Nat) (d : Nat) : Int32 := pw_b (sz (d - 1)) (sz d) (wd (d - 1)) (wd d)
theorem lo_c (hV : pp_V (kn, dc, sz, wd, so, sl, sc, tr, ft)) : ∀ (s d fu : Nat) (h : tt_H), cc_A (kn, dc, sz, wd, so, sl, sc, tr, ft) h → dc - d = s → 1 ≤ d → d < 100 → s < fu → ∃ h1, s_X8_leftOut_L2 fu 0 (nI d) h = some (lo_R (lo_W sz wd) s d, h1) ∧ cc_A (kn, dc, sz, wd, so, sl, sc, tr, ft) h1 ∧ ∀ i, 49 ≤ i → h1 i = h i := by
  have hdc : dc ≤ 6 := hV.2.1
  intro s
  induction s with
  | zero =>
    intro d fu h ha hs h1 h2 hfu
    obtain ⟨fu, rfl⟩ : ∃ z, fu = z + 1 := ⟨fu - 1, by omega⟩
    refine ⟨h, ?_, ha, fun _ _ => rfl⟩
    rw [s_X8_leftOut_L2]
    simp only [ca_dc ha.1, nI_le (show dc ≤ d by omega) (show d < 2 ^ 31 by omega), pp_bind, ↓reduceIte]
    rfl
  | succ s ih =>
    intro d fu h ha hs h1 h2 hfu
    obtain ⟨fu, rfl⟩ : ∃ z, fu = z + 1 := ⟨fu - 1, by omega⟩
    obtain ⟨h3, g, l, e1, e2, e3, -⟩ := cl_make ha (ca_cry hV ha.1 (show d - 1 < dc by omega)) (ca_cry hV ha.1 (show d < dc by omega)) (by omega) (by omega)
    have hb : ∀ (c : Int32), pw_b (sz (d - 1)) (sz d) (wd (d - 1)) (wd d) = c → s_X8_leftOut_L2 (fu + 1) 0 (nI d) h = if c = 0 then some (nI d, h3) else s_X8_leftOut_L2 fu 0 (nI (d + 1)) h3 := by
      intro c hc
      rw [hc] at e1
      rw [s_X8_leftOut_L2]
      simp only [ca_dc ha.1, nI_ge (show d < dc by omega) (show dc < 2 ^ 31 by omega), ca_b ha.1, pp_m1 (show 0 < d by omega), ca_in hV ha.1 (show d - 1 < dc by omega), ca_in hV ha.1 (show d < dc by omega), gg_opt_some, ca_4 ha.1, ca_fit ha.1, e1, s_X8_leftOut_J46, nI_1, pp_bind, ↓reduceIte]
    have e4 := hb (lo_W sz wd d) rfl
    by_cases hw : lo_W sz wd d = 0
    · refine ⟨h3, ?_, e2, fun i hi => e3 i (by omega) (by omega)⟩
      rw [e4, if_pos hw, lo_R, if_pos hw]
    · obtain ⟨h5, f1, f2, f3⟩ := ih (d + 1) fu h3 e2 (by omega) (by omega) (by omega) (by omega)
      refine ⟨h5, ?_, f2, fun i hi => (f3 i hi).trans (e3 i (by omega) (by omega))⟩
      rw [e4, if_neg hw, lo_R, if_neg hw, f1]
end LO
theorem pp_hasO {h : tt_H} {b n : Nat} {f : Nat → Nat} (hc : pp_cry h b n f) {x : Int32} (hx : x < 0 ∨ nI n ≤ x) : s_X2_has b x h = some (0, h) := by
  have hn := hc.le
  by_cases h0 : x < 0
  · exact pp_hasN hc h0
  · obtain ⟨k, hk, rfl⟩ := nI_of h0
    have h1 : n ≤ k := (nI_leI (by omega) hk).mp (hx.resolve_left h0)
    rw [pp_has hc hk, if_neg (by omega)]
section PL
variable {kn : Nat → Nat} {dc : Nat} {sz : Nat → Nat} {wd : Nat → Nat → Nat} {so sl : Nat → Nat} {sc : Nat → Nat → Int32} {tr ft : Int32} {h : tt_H}
theorem cl_first (ha : cc_I (kn, dc, sz, wd, so, sl, sc, tr, ft) h) {g : Nat → Int32} (e : h 7 = some (tt_ia 12 g)) {k : Nat} (hk : k < 12) : s_X3_first 6 (nI k) h = some (g k, h) := by
  have hF : h 6 = some (tt_ob 3 [.ref 7, .ref 8, .ref 9]) := by obtain ⟨-, -, -, -, -, -, -, e, -⟩ := ha; exact e
  unfold s_X3_first
  rw [if_neg (nI_pos (by omega)), if_neg (show ¬ (12 : Int32) ≤ nI k from nI_ge (a := k) (b := 12) hk (by decide)), pp_fr hF (v := 7) rfl, pp_bind, pp_il e hk (by decide), pp_bind]
theorem cl_lastp (ha : cc_I (kn, dc, sz, wd, so, sl, sc, tr, ft) h) {g : Nat → Int32} (e : h 8 = some (tt_ia 12 g)) {k : Nat} (hk : k < 12) : s_X3_last 6 (nI k) h = some (g k, h) := by
  have hF : h 6 = some (tt_ob 3 [.ref 7, .ref 8, .ref 9]) := by obtain ⟨-, -, -, -, -, -, -, e, -⟩ := ha; exact e
  unfold s_X3_last
  rw [if_neg (nI_pos (by omega)), if_neg (show ¬ (12 : Int32) ≤ nI k from nI_ge (a := k) (b := 12) hk (by decide)), pp_fr hF (v := 8) rfl, pp_bind, pp_il e hk (by decide), pp_bind]
end PL
/-- whether a WORD is among the first s from k on -/
def hw_R (f : Nat → Nat) (w : Nat) : Nat → Nat → Int32
  | 0, _ => 0
  | s + 1, k => if f k = w then 1 else hw_R f w s (k + 1)
/-- in how many DAYS' CRIES -/
def tc_N (F : Nat → Int32) : Nat → Nat → Nat
  | 0, _ => 0
  | s + 1, d => (if F d = 0 then 0 else 1) + tc_N F s (d + 1)
theorem tc_le (F : Nat → Int32) : ∀ s d, tc_N F s d ≤ s
  | 0, _ => Nat.le_refl 0
  | s + 1, d => by
    have := tc_le F s (d + 1)
    unfold tc_N
    split <;> omega
section TC
variable {kn : Nat → Nat} {dc : Nat} {sz : Nat → Nat} {wd : Nat → Nat → Nat} {so sl : Nat → Nat} {sc : Nat → Nat → Int32} {tr ft : Int32} {h : tt_H} {w : Nat}
def tc_F (sz : Nat → Nat) (wd : Nat → Nat → Nat) (w d : Nat) : Int32 := hw_R (wd d) w (sz d) 0
end TC
/-! TELL -/
/-! ADD: a WORD is put into a row -/
def ins_f {α : Type} (p : Nat) (x : α) (g : Nat → α) (k : Nat) : α := if k < p then g k else if k = p then x else g (k - 1)
theorem ins_ob {h : tt_H} {b n p : Nat} {x : Int32} (hb : h b = some (tt_ob 2 [.ref (b + 1), .int (nI n)])) (hn : n < 12) (hp : p ≤ n) :
    ∀ (s k fu : Nat) (g gc : Nat → Int32), p + s = k → s < fu → k ≤ n → (∀ j, j ≤ k → gc j = g j) → (∀ j, k < j → j ≤ n → gc j = g (j - 1)) →
      ∃ g', s_X2_insert_L25 fu b (nI p) x (nI k) (va_up h (b + 1) (some (tt_ia 12 gc))) = some ((), va_up (va_up h (b + 1) (some (tt_ia 12 g'))) b (some (tt_ob 2 [.ref (b + 1), .int (nI (n + 1))]))) ∧ ∀ j, j ≤ n → g' j = ins_f p x g j := by
  intro s
  induction s with
  | zero =>
    intro k fu g gc hk hfu hkn h1 h2
    obtain ⟨fu, rfl⟩ : ∃ z, fu = z + 1 := ⟨fu - 1, by omega⟩
    obtain rfl : p = k := by omega
    have hb' : ∀ g : Nat → Int32, va_up h (b + 1) (some (tt_ia 12 g)) b = some (tt_ob 2 [.ref (b + 1), .int (nI n)]) := fun g => by rw [va_up_ne _ _ (by omega)]; exact hb
    refine ⟨upd gc p x, ?_, fun j hj => ?_⟩
    · rw [s_X2_insert_L25, if_pos (nI_le (Nat.le_refl p) (by omega)), pp_fr (hb' gc) (v := b + 1) rfl, pp_bind, pp_is (va_up_self _ _ _) (by omega) (by decide), pp_bind, bx_uu, pp_fi (hb' _) (v := nI n) rfl, pp_bind, pp_put (hb' _) _ (Nat.le_of_ble_eq_true rfl), pp_bind, nI_1]
      rfl
    · unfold ins_f
      by_cases hj1 : j < p
      · rw [if_pos hj1, pk_un (by omega)]; exact h1 j (by omega)
      · rw [if_neg hj1]
        by_cases hj2 : j = p
        · rw [if_pos hj2, hj2, pk_us]
        · rw [if_neg hj2, pk_un hj2]; exact h2 j (by omega) hj
  | succ s ih =>
    intro k fu g gc hk hfu hkn h1 h2
    obtain ⟨fu, rfl⟩ : ∃ z, fu = z + 1 := ⟨fu - 1, by omega⟩
    have hb' : ∀ g : Nat → Int32, va_up h (b + 1) (some (tt_ia 12 g)) b = some (tt_ob 2 [.ref (b + 1), .int (nI n)]) := fun g => by rw [va_up_ne _ _ (by omega)]; exact hb
    obtain ⟨g', e1, e2⟩ := ih (k - 1) fu g (upd gc k (gc (k - 1))) (by omega) (by omega) (by omega) (fun j hj => by rw [pk_un (by omega)]; exact h1 j (by omega)) (fun j hj hj2 => by
      by_cases hjk : j = k
      · rw [hjk, pk_us]; exact h1 (k - 1) (by omega)
      · rw [pk_un hjk]; exact h2 j (by omega) hj2)
    refine ⟨g', ?_, e2⟩
    rw [s_X2_insert_L25, if_neg (nI_ge (by omega) (by omega)), pp_fr (hb' gc) (v := b + 1) rfl, pp_bind, pp_bind, pp_m1 (by omega), pp_il (va_up_self _ _ _) (by omega) (by decide), pp_bind, pp_is (va_up_self _ _ _) (by omega) (by decide), pp_bind, bx_uu, pp_p1 (by omega)]
    exact e1
theorem ins_c {h : tt_H} {b n p : Nat} {x : Int32} {g : Nat → Int32} (hb : h b = some (tt_ob 2 [.ref (b + 1), .int (nI n)])) (hg : h (b + 1) = some (tt_ia 12 g)) (hn : n < 12) (hp : p ≤ n) :
    ∃ g', s_X2_insert b (nI p) x h = some ((), va_up (va_up h (b + 1) (some (tt_ia 12 g'))) b (some (tt_ob 2 [.ref (b + 1), .int (nI (n + 1))]))) ∧ ∀ j, j ≤ n → g' j = ins_f p x g j := by
  obtain ⟨g', e1, e2⟩ := ins_ob (x := x) hb hn hp (n - p) n 1000 g g (by omega) (by omega) (Nat.le_refl _) (fun _ _ => rfl) (fun j h1 h2 => by omega)
  rw [pp_same hg] at e1
  refine ⟨g', ?_, e2⟩
  unfold s_X2_insert s_X2_isFull
  simp only [pp_obj hb, pp_fi hb (k := 1) (v := nI n) rfl, show nI n < 12 from nI_lt (a := n) (b := 12) hn (by decide), nI_pos (show p < 2 ^ 31 by omega), nI_le hp (show n < 2 ^ 31 by omega), pp_bind, pn_00, ↓reduceIte]
  exact e1
section DAY
variable {kn : Nat → Nat} {dc : Nat} {sz : Nat → Nat} {wd : Nat → Nat → Nat} {so sl : Nat → Nat} {sc : Nat → Nat → Int32} {tr ft : Int32} {h : tt_H}
/-- one of the class's rows of WORDS is another one -/
theorem cc_day (ha : cc_A (kn, dc, sz, wd, so, sl, sc, tr, ft) h) {d n' : Nat} {f' : Nat → Nat} {g' : Nat → Int32} (hd : d < 6) (hg : ∀ k, k < n' → g' k = nI (f' k)) :
    cc_A (kn, dc, fun j => if j = d then n' else sz j, fun j => if j = d then f' else wd j, so, sl, sc, tr, ft) (va_up (va_up h (29 + 2 * d + 1) (some (tt_ia 12 g'))) (29 + 2 * d) (some (tt_ob 2 [.ref (29 + 2 * d + 1), .int (nI n')]))) := by
  obtain ⟨⟨a0, a1, a2, a3, a4, a5, a6, a7⟩, hS⟩ := ha
  have e : ∀ i, i ≠ 29 + 2 * d → i ≠ 29 + 2 * d + 1 → va_up (va_up h (29 + 2 * d + 1) (some (tt_ia 12 g'))) (29 + 2 * d) (some (tt_ob 2 [.ref (29 + 2 * d + 1), .int (nI n')])) i = h i := fun i h1 h2 => by rw [va_up_ne _ _ h1, va_up_ne _ _ h2]
  have e2 : ∀ i, i < 29 → va_up (va_up h (29 + 2 * d + 1) (some (tt_ia 12 g'))) (29 + 2 * d) (some (tt_ob 2 [.ref (29 + 2 * d + 1), .int (nI n')])) i = h i := fun i h1 => e i (by omega) (by omega)
  refine ⟨⟨by rw [e2 0 (by decide)]; exact a0, by rw [e2 1 (by decide)]; exact a1, by rw [e2 2 (by decide)]; exact a2, by rw [e2 3 (by decide)]; exact a3, fun j hj => ?_, by rw [e2 4 (by decide), e2 5 (by decide)]; exact a5, fun k hk => ?_, ?_⟩, ?_⟩
  · by_cases hjd : j = d
    · subst hjd
      refine ⟨g', nI n', va_up_self _ _ _, by rw [va_up_ne _ _ (by omega), va_up_self], fun _ => ?_⟩
      simp only [if_true]
      exact ⟨trivial, hg⟩
    · obtain ⟨g, z, c1, c2, c3⟩ := a4 j hj
      refine ⟨g, z, by rw [e _ (by omega) (by omega)]; exact c1, by rw [e _ (by omega) (by omega)]; exact c2, ?_⟩
      simp only [if_neg hjd]
      exact c3
  · rw [e _ (by omega) (by omega), e _ (by omega) (by omega)]; exact a6 k hk
  · rw [e2 6 (by decide), e2 10 (by decide), e2 13 (by decide), e2 14 (by decide), e2 16 (by decide), e2 19 (by decide), e2 21 (by decide), e2 24 (by decide), e2 26 (by decide)]; exact a7
  · obtain ⟨s1, s2, s3, s4, s5⟩ := hS
    refine ⟨fun q hq => ?_, fun q hq => ?_, by rw [e2 11 (by decide)]; exact s3, by rw [e2 18 (by decide)]; exact s4, by rw [e2 23 (by decide)]; exact s5⟩
    · rw [e2 q.1 (by revert q; decide)]; exact s1 q hq
    · rw [e2 q.1 (by revert q; decide)]; exact s2 q hq
end DAY
theorem fa_and (a b : Nat) : nI a &&& nI b = nI (a &&& b) := by
  apply Int32.toBitVec_inj.1
  show BitVec.ofNat 32 a &&& BitVec.ofNat 32 b = BitVec.ofNat 32 (a &&& b)
  apply BitVec.eq_of_getLsbD_eq
  intro i hi
  simp [hi]
theorem fa_or (a b : Nat) : nI a ||| nI b = nI (a ||| b) := by
  apply Int32.toBitVec_inj.1
  show BitVec.ofNat 32 a ||| BitVec.ofNat 32 b = BitVec.ofNat 32 (a ||| b)
  apply BitVec.eq_of_getLsbD_eq
  intro i hi
  simp [hi]
/-- one bit, by 'and' with a power of two -/
theorem fa_bit {n j : Nat} (hj : j < 31) : nI n &&& nI (2 ^ j) = 0 ↔ n.testBit j = false := by
  have h2 : (2 : Nat) ^ j < 2 ^ 31 := Nat.pow_lt_pow_right (by decide) hj
  have hle : n &&& 2 ^ j ≤ 2 ^ j := Nat.and_le_right
  have e : n &&& 2 ^ j = 0 ↔ n.testBit j = false := by
    constructor
    · intro h
      have h1 : (n &&& 2 ^ j).testBit j = false := by rw [h]; simp
      rw [Nat.testBit_and] at h1
      first | simpa using h1 | simpa [Nat.testBit_two_pow_self] using h1 | simpa [Nat.testBit_two_pow] using h1
    · intro h
      apply Nat.eq_of_testBit_eq
      intro i
      rw [Nat.testBit_and]
      by_cases hi : j = i
      · subst hi; simp [h]
      · first | (simp [Nat.testBit_two_pow, hi]; done) | (simp [Nat.testBit_two_pow_of_ne hi]; done)
  rw [fa_and]
  constructor
  · intro h
    apply e.mp
    rcases Nat.eq_zero_or_pos (n &&& 2 ^ j) with z | z
    · exact z
    · exact absurd h (nI_ne0 z (Nat.lt_of_le_of_lt hle h2))
  · intro h
    rw [e.mpr h]; exact nI_0
/-- a remainder by a power of two of a number that isn't negative, as Java divides -/

theorem sh_w {w : Nat} (hw : w < 8) : (1 : Int32) <<< (nI w &&& 31) = nI (2 ^ w) := by
  rcases (show w = 0 ∨ w = 1 ∨ w = 2 ∨ w = 3 ∨ w = 4 ∨ w = 5 ∨ w = 6 ∨ w = 7 by omega) with rfl | rfl | rfl | rfl | rfl | rfl | rfl | rfl <;> decide
theorem hw_0 {f : Nat → Nat} {w : Nat} : ∀ s k, hw_R f w s k = 0 ↔ ∀ j, j < s → f (k + j) ≠ w
  | 0, k => ⟨fun _ j hj => absurd hj (Nat.not_lt_zero j), fun _ => rfl⟩
  | s + 1, k => by
    rw [hw_R]
    by_cases hf : f k = w
    · rw [if_pos hf]
      exact ⟨fun z => absurd z (by decide), fun z => absurd hf (z 0 (Nat.succ_pos s))⟩
    · rw [if_neg hf, hw_0 s (k + 1)]
      constructor
      · intro z j hj
        cases j with
        | zero => exact hf
        | succ j => rw [show k + (j + 1) = k + 1 + j by omega]; exact z j (by omega)
      · intro z j hj
        rw [show k + 1 + j = k + (j + 1) by omega]
        exact z (j + 1) (by omega)
/-! TWICE -/
def tw_S (f : Nat → Nat) : Nat → Nat
  | 0 => 0
  | k + 1 => tw_S f k ||| 2 ^ f k
theorem tw_bit (f : Nat → Nat) (w : Nat) : ∀ k, (tw_S f k).testBit w = true ↔ ∃ j, j < k ∧ f j = w
  | 0 => by
    rw [tw_S, Nat.zero_testBit]
    exact ⟨fun z => (by cases z), fun ⟨j, hj, _⟩ => absurd hj (Nat.not_lt_zero j)⟩
  | k + 1 => by
    rw [tw_S, Nat.testBit_or, Nat.testBit_two_pow, Bool.or_eq_true, decide_eq_true_eq, tw_bit f w k]
    constructor
    · rintro (⟨j, h1, h2⟩ | h1)
      · exact ⟨j, by omega, h2⟩
      · exact ⟨k, Nat.lt_succ_self k, h1⟩
    · rintro ⟨j, h1, h2⟩
      by_cases hj : j = k
      · exact Or.inr (by rw [← hj]; exact h2)
      · exact Or.inl ⟨j, by omega, h2⟩
theorem tw_hw (f : Nat → Nat) (w k : Nat) : (tw_S f k).testBit w = false ↔ hw_R f w k 0 = 0 := by
  rw [hw_0]
  constructor
  · intro z j hj he
    rw [Nat.zero_add] at he
    have := (tw_bit f w k).mpr ⟨j, hj, he⟩
    rw [z] at this; cases this
  · intro z
    cases hb : (tw_S f k).testBit w with
    | false => rfl
    | true =>
      obtain ⟨j, hj, he⟩ := (tw_bit f w k).mp hb
      exact absurd he (by have := z j hj; rw [Nat.zero_add] at this; exact this)
def tw_R (f : Nat → Nat) : Nat → Nat → Nat → Nat
  | 0, _, a => a
  | s + 1, k, a => tw_R f s (k + 1) (if hw_R f (f k) k 0 = 0 then a else a + 1)
/-! ONCE -/
theorem pp_wv {a n k : Nat} {f : Nat → Nat} (ha : a < 8) (hf : k < n → f k < 8) : nI a = pp_w n f k ↔ k < n ∧ a = f k := by
  unfold pp_w
  by_cases hk : k < n
  · rw [if_pos hk, nI_eq (by omega) (by have := hf hk; omega)]
    exact ⟨fun z => ⟨hk, z⟩, fun z => z.2⟩
  · rw [if_neg hk]
    refine ⟨fun z => absurd z.symm (pp_neg_ne (by decide) (by omega)), fun z => absurd z.1 hk⟩
def ak_R (n1 n2 : Nat) (f1 f2 : Nat → Nat) (i j : Nat) : Nat → Nat → Nat
  | 0, l => l
  | s + 1, l => if i + l < n1 ∧ j + l < n2 ∧ f1 (i + l) = f2 (j + l) then ak_R n1 n2 f1 f2 i j s (l + 1) else l
theorem ak_le (n1 n2 : Nat) (f1 f2 : Nat → Nat) (i j : Nat) : ∀ s l, ak_R n1 n2 f1 f2 i j s l ≤ l + s
  | 0, l => Nat.le_refl l
  | s + 1, l => by
    rw [ak_R]
    split
    · have := ak_le n1 n2 f1 f2 i j s (l + 1); omega
    · omega
def lp_R (A : Nat → Nat) : Nat → Nat → Nat → Nat
  | 0, _, m => m
  | s + 1, p, m => lp_R A s (p + 1) (if m < A p then A p else m)
theorem lp_ge (A : Nat → Nat) : ∀ s p m, m ≤ lp_R A s p m
  | 0, _, m => Nat.le_refl m
  | s + 1, p, m => by
    have := lp_ge A s (p + 1) (if m < A p then A p else m)
    rw [lp_R]
    split at this <;> rename_i hc
    · rw [if_pos hc]; omega
    · rw [if_neg hc]; exact this
theorem lp_le {A : Nat → Nat} {B : Nat} (hA : ∀ p, A p ≤ B) : ∀ s p m, m ≤ B → lp_R A s p m ≤ B
  | 0, _, m, h => h
  | s + 1, p, m, h => by
    rw [lp_R]
    exact lp_le hA s (p + 1) _ (by split; exact hA p; exact h)
def on_R (L : Nat → Nat) : Nat → Nat → Nat → Int32 → Nat × Int32
  | 0, _, m, x => (m, x)
  | s + 1, i, m, x => if L i ≤ m then on_R L s (i + 1) m x else on_R L s (i + 1) (L i) (nI i)
def io_R (A : Nat → Nat) (i : Nat) : Nat → Nat → Nat → Int32 → Nat × Int32
  | 0, _, m, x => (m, x)
  | s + 1, p, m, x => if A p ≤ m then io_R A i s (p + 1) m x else io_R A i s (p + 1) (A p) (nI i)
theorem io_lp (A : Nat → Nat) (i : Nat) : ∀ s p m x c, c ≤ m → io_R A i s p m x = if lp_R A s p c ≤ m then (m, x) else (lp_R A s p c, nI i)
  | 0, p, m, x, c, h => by rw [io_R, lp_R, if_pos h]
  | s + 1, p, m, x, c, h => by
    rw [io_R, lp_R]
    by_cases ha : A p ≤ m
    · rw [if_pos ha, io_lp A i s (p + 1) m x (if c < A p then A p else c) (by split <;> omega)]
    · rw [if_neg ha, if_pos (show c < A p by omega), io_lp A i s (p + 1) (A p) (nI i) (A p) (Nat.le_refl _)]
      have := lp_ge A s (p + 1) (A p)
      rw [if_neg (show ¬ lp_R A s (p + 1) (A p) ≤ m by omega)]
      by_cases h2 : lp_R A s (p + 1) (A p) ≤ A p
      · rw [if_pos h2, show lp_R A s (p + 1) (A p) = A p by omega]
      · rw [if_neg h2]
section ON
variable {h : tt_H} {b1 b2 d1 d2 n1 n2 : Nat} {f1 f2 : Nat → Nat}
def ak_A (n1 n2 : Nat) (f1 f2 : Nat → Nat) (i j : Nat) : Nat := ak_R n1 n2 f1 f2 i j 12 0
theorem ak_A_le (n1 n2 : Nat) (f1 f2 : Nat → Nat) (i j : Nat) : ak_A n1 n2 f1 f2 i j ≤ 12 := by have := ak_le n1 n2 f1 f2 i j 12 0; unfold ak_A; omega
def on_L (n1 n2 : Nat) (f1 f2 : Nat → Nat) (i : Nat) : Nat := lp_R (ak_A n1 n2 f1 f2 i) n2 0 0
theorem on_L_le (n1 n2 : Nat) (f1 f2 : Nat → Nat) (i : Nat) : on_L n1 n2 f1 f2 i ≤ 12 := lp_le (fun p => ak_A_le n1 n2 f1 f2 i p) n2 0 0 (by decide)
end ON

theorem pp_lenJ {h : tt_H} {b n : Nat} {f : Nat → Int64} (hb : h b = some (tt_ja n f)) : gg_len h b = some (nI n) := by unfold gg_len; rw [hb]; rfl
theorem pp_lenI {h : tt_H} {b n : Nat} {f : Nat → Int32} (hb : h b = some (tt_ia n f)) : gg_len h b = some (nI n) := by unfold gg_len; rw [hb]; rfl
/-- a row of longs is filled -/
theorem fl_J {h : tt_H} {b n : Nat} {y : Int64} (hn : n < 900) : ∀ (s k fu : Nat) (gc : Nat → Int64), k + s = n → s < fu → (∀ j, j < k → gc j = y) → ∃ g', s_J7_fill_d0a16_L6 fu b y (nI k) (nI n) (va_up h b (some (tt_ja n gc))) = some ((), va_up h b (some (tt_ja n g'))) ∧ ∀ j, j < n → g' j = y := by
  intro s
  induction s with
  | zero =>
    intro k fu gc hk hfu hg
    obtain ⟨fu, rfl⟩ : ∃ z, fu = z + 1 := ⟨fu - 1, by omega⟩
    refine ⟨gc, ?_, fun j hj => hg j (by omega)⟩
    rw [s_J7_fill_d0a16_L6, if_pos (nI_le (by omega) (by omega))]
  | succ s ih =>
    intro k fu gc hk hfu hg
    obtain ⟨fu, rfl⟩ : ∃ z, fu = z + 1 := ⟨fu - 1, by omega⟩
    obtain ⟨g', e1, e2⟩ := ih (k + 1) fu (vp_updL gc k y) (by omega) (by omega) (fun j hj => by
      by_cases hjk : j = k
      · rw [hjk, pk_uLs]
      · rw [pk_uLn hjk]; exact hg j (by omega))
    refine ⟨g', ?_, e2⟩
    rw [s_J7_fill_d0a16_L6, if_neg (nI_ge (by omega) (by omega)), pp_js (va_up_self _ _ _) (by omega) (by omega), pp_bind, bx_uu, nI_1]
    exact e1
theorem fl_JJ {h : tt_H} {b n : Nat} {g : Nat → Int64} {y : Int64} (hb : h b = some (tt_ja n g)) (hn : n < 900) : ∃ g', s_J7_fill_d0a16 b y h = some ((), va_up h b (some (tt_ja n g'))) ∧ ∀ j, j < n → g' j = y := by
  obtain ⟨g', e1, e2⟩ := fl_J (h := h) (b := b) (y := y) hn n 0 1000 g (by omega) (by omega) (fun j hj => absurd hj (Nat.not_lt_zero j))
  rw [pp_same hb] at e1
  refine ⟨g', ?_, e2⟩
  unfold s_J7_fill_d0a16
  rw [pp_lenJ hb, pp_bind]
  exact e1
/-! WAYS -/
def wy_N (f1 f2 : Nat → Nat) : Nat → Nat → Int64
  | 0, _ => 1
  | _ + 1, 0 => 0
  | i + 1, j + 1 => wy_N f1 f2 (i + 1) j + (if f1 i = f2 j then wy_N f1 f2 i j else 0)
theorem wy_s (f1 f2 : Nat → Nat) (i j : Nat) : wy_N f1 f2 (i + 1) (j + 1) = wy_N f1 f2 (i + 1) j + (if f1 i = f2 j then wy_N f1 f2 i j else 0) := rfl
theorem wy_0 (f1 f2 : Nat → Nat) : ∀ j, wy_N f1 f2 0 j = 1
  | 0 => rfl
  | _ + 1 => rfl
section WY
variable {h0 : tt_H} {b1 b2 d1 d2 n1 n2 : Nat} {f1 f2 : Nat → Nat}
theorem wy_c1 (c1 : pp_cry h0 b1 n1 f1) (c2 : pp_cry h0 b2 n2 f2) (hF : h0 6 = some (tt_ob 3 [.ref 7, .ref 8, .ref 9])) (k1 : b1 ≠ 9 ∧ b1 + 1 ≠ 9 ∧ b2 ≠ 9 ∧ b2 + 1 ≠ 9) (κ : Nat → Nat → Nat → Int32 → Int32 → tt_H → Option (Int64 × tt_H)) {p : Nat} (hp : p < n2) :
    ∀ (k fu : Nat) (gc : Nat → Int64), k ≤ n1 → k < fu → (∀ j, j ≤ k → gc j = wy_N f1 f2 j p) → (∀ j, k < j → j ≤ n1 → gc j = wy_N f1 f2 j (p + 1)) → ∃ g', s_X3_choices_L40 κ fu 6 b1 b2 (nI n1) (nI p) (nI k) (va_up h0 9 (some (tt_ja 13 gc))) = κ 6 b1 b2 (nI n1) (nI (p + 1)) (va_up h0 9 (some (tt_ja 13 g'))) ∧ ∀ j, j ≤ n1 → g' j = wy_N f1 f2 j (p + 1) := by
  have l1 := c1.le
  have l2 := c2.le
  intro k
  induction k with
  | zero =>
    intro fu gc hk hfu hg1 hg2
    obtain ⟨fu, rfl⟩ : ∃ z, fu = z + 1 := ⟨fu - 1, by omega⟩
    refine ⟨gc, ?_, fun j hj => ?_⟩
    · rw [s_X3_choices_L40, if_pos (by decide), nI_1]
    · by_cases hj0 : j = 0
      · subst hj0; rw [hg1 0 (Nat.le_refl 0), wy_0, wy_0]
      · exact hg2 j (by omega) hj
  | succ k ih =>
    intro fu gc hk hfu hg1 hg2
    obtain ⟨fu, rfl⟩ : ∃ z, fu = z + 1 := ⟨fu - 1, by omega⟩
    have c1' : ∀ g : Nat → Int64, pp_cry (va_up h0 9 (some (tt_ja 13 g))) b1 n1 f1 := fun g => c1.up _ k1.1 k1.2.1
    have c2' : ∀ g : Nat → Int64, pp_cry (va_up h0 9 (some (tt_ja 13 g))) b2 n2 f2 := fun g => c2.up _ k1.2.2.1 k1.2.2.2
    have hF' : ∀ g : Nat → Int64, gg_fr (va_up h0 9 (some (tt_ja 13 g))) 6 3 2 = some 9 := fun g => pp_fr (by rw [va_up_ne _ _ (by decide)]; exact hF) rfl
    have b1 := c1.lt8 (show k < n1 by omega)
    have b2 := c2.lt8 hp
    rw [s_X3_choices_L40, if_neg (nI_nle (by omega) (by omega))]
    simp only [nI_pred, pp_cobj (c1' gc), pp_cobj (c2' gc), pp_at (c1' gc) (show k < 2 ^ 31 by omega), pp_at (c2' gc) (show p < 2 ^ 31 by omega), pp_bind]
    by_cases hw : f1 k = f2 p
    · obtain ⟨g', e1, e2⟩ := ih fu (vp_updL gc (k + 1) (gc (k + 1) + gc k)) (by omega) (by omega) (fun j hj => by rw [pk_uLn (by omega)]; exact hg1 j (by omega)) (fun j hj hj2 => by
        by_cases hjk : j = k + 1
        · rw [hjk, pk_uLs, hg1 (k + 1) (Nat.le_refl _), hg1 k (by omega), wy_N, if_pos hw]
        · rw [pk_uLn hjk]; exact hg2 j (by omega) hj2)
      refine ⟨g', ?_, e2⟩
      rw [if_pos ((pp_w_eq (by omega) hp b1 b2).mpr hw)]
      simp only [hF', pp_jl (va_up_self h0 9 (some (tt_ja 13 gc))) (show k + 1 < 13 by omega) (by decide), pp_jl (va_up_self h0 9 (some (tt_ja 13 gc))) (show k < 13 by omega) (by decide), pp_js (va_up_self h0 9 (some (tt_ja 13 gc))) (show k + 1 < 13 by omega) (by decide), bx_uu, s_X3_choices_J81, pk_m1, pp_bind]
      exact e1
    · obtain ⟨g', e1, e2⟩ := ih fu gc (by omega) (by omega) (fun j hj => hg1 j (by omega)) (fun j hj hj2 => by
        by_cases hjk : j = k + 1
        · rw [hjk, hg1 (k + 1) (Nat.le_refl _), wy_N, if_neg hw, Int64.add_zero]
        · exact hg2 j (by omega) hj2)
      refine ⟨g', ?_, e2⟩
      rw [if_neg (fun z => hw ((pp_w_eq (by omega) hp b1 b2).mp z))]
      simp only [s_X3_choices_J81, pk_m1]
      exact e1
theorem wy_c2 (c1 : pp_cry h0 b1 n1 f1) (c2 : pp_cry h0 b2 n2 f2) (hF : h0 6 = some (tt_ob 3 [.ref 7, .ref 8, .ref 9])) (k1 : b1 ≠ 9 ∧ b1 + 1 ≠ 9 ∧ b2 ≠ 9 ∧ b2 + 1 ≠ 9) :
    ∀ (s p fu : Nat) (gc : Nat → Int64), p + s = n2 → s < fu → (∀ j, j ≤ n1 → gc j = wy_N f1 f2 j p) → ∃ g', s_X3_choices_L28 fu 6 b1 b2 (nI n1) (nI p) (va_up h0 9 (some (tt_ja 13 gc))) = some (wy_N f1 f2 n1 n2, va_up h0 9 (some (tt_ja 13 g'))) := by
  have l1 := c1.le
  have l2 := c2.le
  intro s
  induction s with
  | zero =>
    intro p fu gc hp hfu hg
    obtain ⟨fu, rfl⟩ : ∃ z, fu = z + 1 := ⟨fu - 1, by omega⟩
    obtain rfl : p = n2 := by omega
    have c2' : pp_cry (va_up h0 9 (some (tt_ja 13 gc))) b2 p f2 := c2.up _ k1.2.2.1 k1.2.2.2
    refine ⟨gc, ?_⟩
    rw [s_X3_choices_L28]
    simp only [pp_cobj c2', pp_size c2', nI_le (Nat.le_refl p) (show p < 2 ^ 31 by omega), pp_fr (show va_up h0 9 (some (tt_ja 13 gc)) 6 = some (tt_ob 3 [.ref 7, .ref 8, .ref 9]) by rw [va_up_ne _ _ (by decide)]; exact hF) (k := 2) (v := 9) rfl, pp_jl (va_up_self h0 9 (some (tt_ja 13 gc))) (show n1 < 13 by omega) (by decide), pp_bind, ↓reduceIte]
    rw [hg n1 (Nat.le_refl _)]
  | succ s ih =>
    intro p fu gc hp hfu hg
    obtain ⟨fu, rfl⟩ : ∃ z, fu = z + 1 := ⟨fu - 1, by omega⟩
    have c2' : pp_cry (va_up h0 9 (some (tt_ja 13 gc))) b2 n2 f2 := c2.up _ k1.2.2.1 k1.2.2.2
    obtain ⟨g1, e1, e2⟩ := wy_c1 c1 c2 hF k1 (s_X3_choices_L28 fu) (show p < n2 by omega) n1 1000 gc (Nat.le_refl _) (by omega) hg (fun j h1 h2 => by omega)
    obtain ⟨g2, e3⟩ := ih (p + 1) fu g1 (by omega) (by omega) e2
    refine ⟨g2, ?_⟩
    rw [s_X3_choices_L28]
    simp only [pp_cobj c2', pp_size c2', nI_ge (show p < n2 by omega) (show n2 < 2 ^ 31 by omega), pp_bind, ↓reduceIte]
    rw [e1, e3]
theorem wy_c (c1 : pp_cry h0 b1 n1 f1) (c2 : pp_cry h0 b2 n2 f2) (hF : h0 6 = some (tt_ob 3 [.ref 7, .ref 8, .ref 9])) (k1 : b1 ≠ 9 ∧ b1 + 1 ≠ 9 ∧ b2 ≠ 9 ∧ b2 + 1 ≠ 9) {g9 : Nat → Int64} (h9 : h0 9 = some (tt_ja 13 g9)) :
    ∃ g', s_X3_choices 6 b1 b2 h0 = some (wy_N f1 f2 n1 n2, va_up h0 9 (some (tt_ja 13 g'))) := by
  have l1 := c1.le
  obtain ⟨g1, e1, e2⟩ := fl_JJ (y := 0) h9 (by decide)
  obtain ⟨g2, e3⟩ := wy_c2 c1 c2 hF k1 n2 0 1000 (vp_updL g1 0 1) (by omega) (by have := c2.le; omega) (fun j hj => by
    cases j with
    | zero => rw [pk_uLs]; rfl
    | succ j => rw [pk_uLn (by omega), e2 _ (by omega)]; rfl)
  refine ⟨g2, ?_⟩
  unfold s_X3_choices
  simp only [pp_cobj c1, pp_size c1, pp_fr hF (k := 2) (v := 9) rfl, e1, pp_fr (show va_up h0 9 (some (tt_ja 13 g1)) 6 = some (tt_ob 3 [.ref 7, .ref 8, .ref 9]) by rw [va_up_ne _ _ (by decide)]; exact hF) (k := 2) (v := 9) rfl, pp_bind]
  rw [show (0 : Int32) = nI 0 from rfl, pp_js (va_up_self h0 9 (some (tt_ja 13 g1))) (show 0 < 13 by omega) (by decide), pp_bind, bx_uu, if_neg (show ¬ (12 : Int32) < nI n1 from nI_nlt (a := 12) (b := n1) l1 (by omega))]
  exact e3
end WY
/-! BREATHS -/
def bi_R (g : Nat → Int32) : Nat → Nat → Int32 → Int32
  | 0, _, c => c
  | s + 1, q, c => bi_R g s (q + 1) (if g q = -9 then c else if c = -9 then g q + 1 else if c ≤ g q + 1 then c else g q + 1)
def br_T (kn f : Nat → Nat) (n b : Nat) : Nat → Nat → Int32
  | 0 => fun _ => 0
  | k + 1 => fun j => if j = k + 1 then (if k + 1 = n ∨ kn (f k) = 0 then bi_R (br_T kn f n b k) (k + 1 - (k + 1 - b)) (k + 1 - b) (-9) else -9) else br_T kn f n b k j
theorem bi_cong {g g' : Nat → Int32} : ∀ (s q : Nat) (c : Int32), (∀ j, q ≤ j → j < q + s → g j = g' j) → bi_R g s q c = bi_R g' s q c
  | 0, _, _, _ => rfl
  | s + 1, q, c, h => by
    rw [bi_R, bi_R, h q (Nat.le_refl q) (by omega), bi_cong s (q + 1) _ (fun j h1 h2 => h j (by omega) (by omega))]
theorem br_sub : ∀ k, k < 13 → ∀ b, b < 13 → (if 0 < nI k - nI b then nI k - nI b else 0) = nI (k - b) ∧ (0 ≤ nI k - nI b → nI k - nI b = nI (k - b)) ∧ (¬ 0 ≤ nI k - nI b → (0 : Int32) = nI (k - b)) := by decide
section BR
variable {kn : Nat → Nat} {dc : Nat} {sz : Nat → Nat} {wd : Nat → Nat → Nat} {so sl : Nat → Nat} {sc : Nat → Nat → Int32} {tr ft : Int32} {h0 : tt_H} {b1 d n b : Nat} {f : Nat → Nat}
end BR

/-! MAY BE: the first way's places are the least, the last one's the greatest -/
theorem gA_stuck (n1 : Nat) (f1 f2 : Nat → Nat) : ∀ p q, q < p → gK n1 f1 f2 p < n1 → f1 (gK n1 f1 f2 p) = f2 q → 0 < gK n1 f1 f2 p ∧ q ≤ gA n1 f1 f2 p (gK n1 f1 f2 p - 1)
  | 0, q, hq, _, _ => absurd hq (Nat.not_lt_zero q)
  | p + 1, q, hq, hk, hf => by
    by_cases hc : gK n1 f1 f2 p < n1 ∧ f1 (gK n1 f1 f2 p) = f2 p
    · rw [gK_s1 hc, gA_s1 hc]
      refine ⟨Nat.succ_pos _, ?_⟩
      rw [show gK n1 f1 f2 p + 1 - 1 = gK n1 f1 f2 p by omega]
      simp only [if_true]
      omega
    · rw [gK_s0 hc] at hk hf ⊢
      rw [gA_s0 hc]
      by_cases hqp : q = p
      · exact absurd ⟨hk, hf.trans (by rw [hqp])⟩ hc
      · exact gA_stuck n1 f1 f2 p q (by omega) hk hf
theorem gA_least (n1 : Nat) (f1 f2 : Nat → Nat) : ∀ p k q, k < gK n1 f1 f2 p → q < p → f1 k = f2 q → (k = 0 ∨ gA n1 f1 f2 p (k - 1) < q) → gA n1 f1 f2 p k ≤ q
  | 0, k, q, _, hq, _, _ => absurd hq (Nat.not_lt_zero q)
  | p + 1, k, q, hk, hq, hf, hc2 => by
    by_cases hc : gK n1 f1 f2 p < n1 ∧ f1 (gK n1 f1 f2 p) = f2 p
    · rw [gK_s1 hc] at hk
      rw [gA_s1 hc] at hc2 ⊢
      by_cases hkk : k = gK n1 f1 f2 p
      · simp only [if_pos hkk]
        by_cases hqp : q = p
        · omega
        · have hs := gA_stuck n1 f1 f2 p q (by omega) hc.1 (by rw [← hkk]; exact hf)
          rcases hc2 with h0 | h0
          · omega
          · have h1 : (if k - 1 = gK n1 f1 f2 p then p else gA n1 f1 f2 p (k - 1)) < q := h0
            rw [if_neg (show ¬ k - 1 = gK n1 f1 f2 p by omega), hkk] at h1
            omega
      · simp only [if_neg hkk]
        by_cases hqp : q = p
        · have := ((gA_ok n1 f1 f2 p).1 k (by omega)).1; omega
        · refine gA_least n1 f1 f2 p k q (by omega) (by omega) hf ?_
          rcases hc2 with h0 | h0
          · exact Or.inl h0
          · have h1 : (if k - 1 = gK n1 f1 f2 p then p else gA n1 f1 f2 p (k - 1)) < q := h0
            rw [if_neg (show ¬ k - 1 = gK n1 f1 f2 p by omega)] at h1
            exact Or.inr h1
    · rw [gK_s0 hc] at hk
      rw [gA_s0 hc] at hc2 ⊢
      by_cases hqp : q = p
      · have := ((gA_ok n1 f1 f2 p).1 k hk).1; omega
      · exact gA_least n1 f1 f2 p k q hk (by omega) hf hc2
theorem gB_out (f1 f2 : Nat → Nat) : ∀ t r acc k, r ≤ k → gB f1 f2 t r acc k = acc k
  | 0, _, _, _, _ => rfl
  | t + 1, r, acc, k, hk => by
    by_cases hc : 0 < r ∧ f1 (r - 1) = f2 t
    · rw [gB_s1 hc, gB_out f1 f2 t (r - 1) _ k (by omega)]
      simp only [if_neg (show ¬ k = r - 1 by omega)]
    · rw [gB_s0 hc, gB_out f1 f2 t r acc k hk]
theorem gB_ok (f1 f2 : Nat → Nat) : ∀ t r acc k, gR f1 f2 t r ≤ k → k < r → gB f1 f2 t r acc k < t ∧ f1 k = f2 (gB f1 f2 t r acc k)
  | 0, r, acc, k, h1, h2 => absurd h2 (by have : gR f1 f2 0 r = r := rfl
                                          omega)
  | t + 1, r, acc, k, h1, h2 => by
    by_cases hc : 0 < r ∧ f1 (r - 1) = f2 t
    · rw [gR_s1 hc] at h1
      rw [gB_s1 hc]
      by_cases hk : k = r - 1
      · rw [gB_out f1 f2 t (r - 1) _ k (by omega)]
        simp only [if_pos hk]
        exact ⟨Nat.lt_succ_self t, by rw [hk]; exact hc.2⟩
      · have := gB_ok f1 f2 t (r - 1) (fun j => if j = r - 1 then t else acc j) k h1 (by omega)
        exact ⟨by omega, this.2⟩
    · rw [gR_s0 hc] at h1
      rw [gB_s0 hc]
      have := gB_ok f1 f2 t r acc k h1 h2
      exact ⟨by omega, this.2⟩
theorem gB_mono (f1 f2 : Nat → Nat) : ∀ t r acc k, gR f1 f2 t r ≤ k → k + 1 < r → gB f1 f2 t r acc k < gB f1 f2 t r acc (k + 1)
  | 0, r, acc, k, h1, h2 => absurd h2 (by have : gR f1 f2 0 r = r := rfl
                                          omega)
  | t + 1, r, acc, k, h1, h2 => by
    by_cases hc : 0 < r ∧ f1 (r - 1) = f2 t
    · rw [gR_s1 hc] at h1
      rw [gB_s1 hc]
      by_cases hk : k + 1 = r - 1
      · rw [gB_out f1 f2 t (r - 1) _ (k + 1) (by omega)]
        simp only [if_pos hk]
        exact (gB_ok f1 f2 t (r - 1) (fun j => if j = r - 1 then t else acc j) k h1 (by omega)).1
      · exact gB_mono f1 f2 t (r - 1) _ k h1 (by omega)
    · rw [gR_s0 hc] at h1
      rw [gB_s0 hc]
      exact gB_mono f1 f2 t r acc k h1 h2
theorem gB_most (f1 f2 : Nat → Nat) : ∀ t r acc k q, gR f1 f2 t r ≤ k → k < r → q < t → f1 k = f2 q → (k + 1 = r ∨ q < gB f1 f2 t r acc (k + 1)) → q ≤ gB f1 f2 t r acc k
  | 0, r, acc, k, q, h1, h2, h3, _, _ => absurd h3 (Nat.not_lt_zero q)
  | t + 1, r, acc, k, q, h1, h2, h3, h4, h5 => by
    by_cases hc : 0 < r ∧ f1 (r - 1) = f2 t
    · rw [gR_s1 hc] at h1
      rw [gB_s1 hc] at h5 ⊢
      by_cases hk : k = r - 1
      · rw [gB_out f1 f2 t (r - 1) _ k (by omega)]
        simp only [if_pos hk]
        omega
      · by_cases hk2 : k + 1 = r - 1
        · have h6 := h5.resolve_left (by omega)
          rw [gB_out f1 f2 t (r - 1) _ (k + 1) (by omega)] at h6
          simp only [if_pos hk2] at h6
          exact gB_most f1 f2 t (r - 1) _ k q h1 (by omega) (by omega) h4 (Or.inl hk2)
        · have h6 := h5.resolve_left (by omega)
          have h7 := (gB_ok f1 f2 t (r - 1) (fun j => if j = r - 1 then t else acc j) (k + 1) (by omega) (by omega)).1
          exact gB_most f1 f2 t (r - 1) _ k q h1 (by omega) (by omega) h4 (Or.inr h6)
    · rw [gR_s0 hc] at h1
      rw [gB_s0 hc] at h5 ⊢
      by_cases hq : q = t
      · exfalso
        by_cases hk : k + 1 = r
        · exact hc ⟨by omega, by rw [show r - 1 = k by omega, h4, hq]⟩
        · have h6 := h5.resolve_left hk
          have h7 := (gB_ok f1 f2 t r acc (k + 1) (by omega) (by omega)).1
          omega
      · exact gB_most f1 f2 t r acc k q h1 h2 (by omega) h4 h5
section MB
variable {n1 n2 : Nat} {f1 f2 : Nat → Nat}
abbrev mb_A (n1 n2 : Nat) (f1 f2 : Nat → Nat) : Nat → Nat := gA n1 f1 f2 n2
abbrev mb_B (n1 n2 : Nat) (f1 f2 : Nat → Nat) : Nat → Nat := gB f1 f2 n2 n1 (fun _ => 0)
theorem mb_left (hw : gK n1 f1 f2 n2 = n1) {k p : Nat} (hk : k < n1) (hp : p < n2) (hf : f1 k = f2 p) : mb_A n1 n2 f1 f2 k ≤ p ↔ (k = 0 ∨ mb_A n1 n2 f1 f2 (k - 1) < p) := by
  constructor
  · intro z
    by_cases h0 : k = 0
    · exact Or.inl h0
    · have := (gA_ok n1 f1 f2 n2).2 (k - 1) (by omega)
      rw [show k - 1 + 1 = k by omega] at this
      exact Or.inr (Nat.lt_of_lt_of_le this z)
  · exact gA_least n1 f1 f2 n2 k p (by omega) hp hf
theorem mb_right (hw : gK n1 f1 f2 n2 = n1) {k p : Nat} (hk : k < n1) (hp : p < n2) (hf : f1 k = f2 p) : p ≤ mb_B n1 n2 f1 f2 k ↔ (k + 1 = n1 ∨ p < mb_B n1 n2 f1 f2 (k + 1)) := by
  have hr := gR_within hw
  constructor
  · intro z
    by_cases h0 : k + 1 = n1
    · exact Or.inl h0
    · exact Or.inr (Nat.lt_of_le_of_lt z (gB_mono f1 f2 n2 n1 _ k (by omega) (by omega)))
  · exact gB_most f1 f2 n2 n1 _ k p (by omega) hk hp hf
/-- whether a WORD of the inner one can stand at p, from its k-th on -/
def ms_R (n1 n2 : Nat) (f1 f2 : Nat → Nat) (p : Nat) : Nat → Nat → Int32
  | 0, _ => 0
  | s + 1, k => if f1 k = f2 p ∧ mb_A n1 n2 f1 f2 k ≤ p ∧ p ≤ mb_B n1 n2 f1 f2 k then 1 else ms_R n1 n2 f1 f2 p s (k + 1)
theorem mb_A_lt (hw : gK n1 f1 f2 n2 = n1) {k : Nat} (hk : k < n1) : mb_A n1 n2 f1 f2 k < n2 := ((gA_ok n1 f1 f2 n2).1 k (by omega)).1
theorem mb_B_lt (hw : gK n1 f1 f2 n2 = n1) {k : Nat} (hk : k < n1) : mb_B n1 n2 f1 f2 k < n2 := (gB_ok f1 f2 n2 n1 _ k (by rw [gR_within hw]; exact Nat.zero_le k) hk).1
end MB
section MBW
variable {kn : Nat → Nat} {dc : Nat} {sz : Nat → Nat} {wd : Nat → Nat → Nat} {so sl : Nat → Nat} {sc : Nat → Nat → Int32} {tr ft : Int32} {h : tt_H} {b1 b2 d1 d2 n1 n2 p : Nat} {f1 f2 : Nat → Nat} {g l : Nat → Int32}
theorem cs_c (hI : cc_I (kn, dc, sz, wd, so, sl, sc, tr, ft) h) (c1 : pp_cry h b1 n1 f1) (c2 : pp_cry h b2 n2 f2) (hw : gK n1 f1 f2 n2 = n1) (hp : p < n2) (h7 : h 7 = some (tt_ia 12 g)) (h8 : h 8 = some (tt_ia 12 l)) (hg : ∀ k, k < n1 → g k = nI (mb_A n1 n2 f1 f2 k) ∧ l k = nI (mb_B n1 n2 f1 f2 k)) :
    ∀ (s k fu : Nat), k + s = n1 → s < fu → s_X3_canStand_L14 fu 6 b1 b2 (nI p) (nI k) h = some (ms_R n1 n2 f1 f2 p s k, h) := by
  have l1 := c1.le
  have l2 := c2.le
  intro s
  induction s with
  | zero =>
    intro k fu hk hfu
    obtain ⟨fu, rfl⟩ : ∃ z, fu = z + 1 := ⟨fu - 1, by omega⟩
    rw [s_X3_canStand_L14]
    simp only [pp_cobj c1, pp_size c1, nI_le (show n1 ≤ k by omega) (show k < 2 ^ 31 by omega), pp_bind, ↓reduceIte]
    rfl
  | succ s ih =>
    intro k fu hk hfu
    obtain ⟨fu, rfl⟩ : ∃ z, fu = z + 1 := ⟨fu - 1, by omega⟩
    have b1 := c1.lt8 (show k < n1 by omega)
    have b2 := c2.lt8 hp
    have a1 := mb_A_lt hw (show k < n1 by omega)
    have a2 := mb_B_lt hw (show k < n1 by omega)
    rw [s_X3_canStand_L14, ms_R]
    simp only [pp_cobj c1, pp_cobj c2, pp_size c1, nI_ge (show k < n1 by omega) (show n1 < 2 ^ 31 by omega), pp_at c1 (show k < 2 ^ 31 by omega), pp_at c2 (show p < 2 ^ 31 by omega), ca_fit hI, cl_first hI h7 (show k < 12 by omega), cl_lastp hI h8 (show k < 12 by omega), (hg k (by omega)).1, (hg k (by omega)).2, s_X3_canStand_J59, nI_1, pp_bind, ↓reduceIte]
    rw [ih (k + 1) fu (by omega) (by omega)]
    by_cases hf : f1 k = f2 p
    · rw [if_pos ((pp_w_eq (by omega) hp b1 b2).mpr hf)]
      by_cases h1 : mb_A n1 n2 f1 f2 k ≤ p
      · rw [if_neg (nI_nlt h1 (by omega))]
        by_cases h2 : p ≤ mb_B n1 n2 f1 f2 k
        · rw [if_neg (nI_nlt h2 (by omega)), if_pos ⟨hf, h1, h2⟩]
        · rw [if_pos (nI_lt (by omega) (by omega)), if_neg (fun z => h2 z.2.2)]
      · rw [if_pos (nI_lt (by omega) (by omega)), if_neg (fun z => h1 z.2.1)]
    · rw [if_neg (fun z => hf ((pp_w_eq (by omega) hp b1 b2).mp z)), if_neg (fun z => hf z.1)]
def ms_W (n1 n2 : Nat) (f1 f2 : Nat → Nat) (p : Nat) : Int32 := if gK n1 f1 f2 n2 = n1 then ms_R n1 n2 f1 f2 p n1 0 else 0
theorem cl_stand (ha : cc_A (kn, dc, sz, wd, so, sl, sc, tr, ft) h) (c1 : pp_cry h b1 n1 f1) (c2 : pp_cry h b2 n2 f2) (k1 : 29 ≤ b1) (k2 : 29 ≤ b2) (hp : p < n2) :
    ∃ h1, s_X3_canStand 6 b1 b2 (nI p) h = some (ms_W n1 n2 f1 f2 p, h1) ∧ cc_A (kn, dc, sz, wd, so, sl, sc, tr, ft) h1 ∧ ∀ i, i ≠ 7 → i ≠ 8 → h1 i = h i := by
  obtain ⟨h1, g, l, e1, e2, e3, e7, e8, e9⟩ := cl_make ha c1 c2 (Or.inl k1) (Or.inl k2)
  refine ⟨h1, ?_, e2, e3⟩
  have l1 := c1.le
  have c1' : pp_cry h1 b1 n1 f1 := by obtain ⟨g, a1, a2, a3⟩ := c1; exact ⟨g, by rw [e3 _ (by omega) (by omega)]; exact a1, by rw [e3 _ (by omega) (by omega)]; exact a2, a3⟩
  have c2' : pp_cry h1 b2 n2 f2 := by obtain ⟨g, a1, a2, a3⟩ := c2; exact ⟨g, by rw [e3 _ (by omega) (by omega)]; exact a1, by rw [e3 _ (by omega) (by omega)]; exact a2, a3⟩
  unfold s_X3_canStand ms_W
  unfold pw_b at e1
  by_cases hw : gK n1 f1 f2 n2 = n1
  · rw [if_pos hw] at e1 ⊢
    simp only [ca_fit ha.1, e1, pp_bind, pn_10, ↓reduceIte]
    exact cs_c e2.1 c1' c2' hw hp e7 e8 (e9 hw) n1 0 1000 (by omega) (by omega)
  · rw [if_neg hw] at e1 ⊢
    simp only [ca_fit ha.1, e1, pp_bind, pn_00, ↓reduceIte]
def mb_R (W : Nat → Int32) : Nat → Nat → Int32 → Int32
  | 0, _, a => a
  | s + 1, d, a => mb_R W s (d + 1) (if W d = 0 then a else a ||| (1 : Int32) <<< (nI d &&& 31))
theorem mb_c (hV : pp_V (kn, dc, sz, wd, so, sl, sc, tr, ft)) (hd : 0 < dc) (hp : p < sz (dc - 1)) : ∀ (s d fu : Nat) (h : tt_H) (a : Int32), cc_A (kn, dc, sz, wd, so, sl, sc, tr, ft) h → d + s = dc → s < fu → ∃ h1, s_X8_mayBe_L24 fu 0 (nI p) (29 + 2 * (dc - 1)) a (nI d) h = some (mb_R (fun d => ms_W (sz d) (sz (dc - 1)) (wd d) (wd (dc - 1)) p) s d a, h1) ∧ cc_A (kn, dc, sz, wd, so, sl, sc, tr, ft) h1 ∧ ∀ i, 49 ≤ i → h1 i = h i := by
  have hdc : dc ≤ 6 := hV.2.1
  intro s
  induction s with
  | zero =>
    intro d fu h a ha hs hfu
    obtain ⟨fu, rfl⟩ : ∃ z, fu = z + 1 := ⟨fu - 1, by omega⟩
    refine ⟨h, ?_, ha, fun _ _ => rfl⟩
    rw [s_X8_mayBe_L24]
    simp only [ca_dc ha.1, nI_le (show dc ≤ d by omega) (show d < 2 ^ 31 by omega), pp_bind, ↓reduceIte]
    rfl
  | succ s ih =>
    intro d fu h a ha hs hfu
    obtain ⟨fu, rfl⟩ : ∃ z, fu = z + 1 := ⟨fu - 1, by omega⟩
    obtain ⟨h3, e1, e2, e3⟩ := cl_stand ha (ca_cry hV ha.1 (show d < dc by omega)) (ca_cry hV ha.1 (show dc - 1 < dc by omega)) (by omega) (by omega) hp
    obtain ⟨h5, f1, f2, f3⟩ := ih (d + 1) fu h3 (if ms_W (sz d) (sz (dc - 1)) (wd d) (wd (dc - 1)) p = 0 then a else a ||| (1 : Int32) <<< (nI d &&& 31)) e2 (by omega) (by omega)
    refine ⟨h5, ?_, f2, fun i hi => (f3 i hi).trans (e3 i (by omega) (by omega))⟩
    rw [s_X8_mayBe_L24, mb_R]
    simp only [ca_dc ha.1, nI_ge (show d < dc by omega) (show dc < 2 ^ 31 by omega), ca_b ha.1, ca_in hV ha.1 (show d < dc by omega), gg_opt_some, ca_4 ha.1, ca_fit ha.1, e1, s_X8_mayBe_J67, nI_1, pp_bind, ↓reduceIte]
    rw [← f1]
    by_cases hw : ms_W (sz d) (sz (dc - 1)) (wd d) (wd (dc - 1)) p = 0
    · rw [if_pos hw, if_pos hw]
    · rw [if_neg hw, if_neg hw]
end MBW
