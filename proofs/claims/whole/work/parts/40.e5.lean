theorem fa_and (a b : Nat) : nI a &&& nI b = nI (a &&& b) := by
  apply Int32.toBitVec_inj.1
  show BitVec.ofNat 32 a &&& BitVec.ofNat 32 b = BitVec.ofNat 32 (a &&& b)
  apply BitVec.eq_of_getLsbD_eq
  intro i hi
  simp [hi]
theorem fa_or (a b : Nat) : nI a ||| nI b = nI (a ||| b) := by
  apply Int32.toBitVec_inj.1
  show BitVec.ofNat 32 a ||| BitVec.ofNat 32 b = BitVec.ofNat 32 (a ||| b)
  apply BitVec.eq_of_getLsbD_eq
  intro i hi
  simp [hi]
/-- one bit, by 'and' with a power of two -/
theorem fa_bit {n j : Nat} (hj : j < 31) : nI n &&& nI (2 ^ j) = 0 ↔ n.testBit j = false := by
  have h2 : (2 : Nat) ^ j < 2 ^ 31 := Nat.pow_lt_pow_right (by decide) hj
  have hle : n &&& 2 ^ j ≤ 2 ^ j := Nat.and_le_right
  have e : n &&& 2 ^ j = 0 ↔ n.testBit j = false := by
    constructor
    · intro h
      have h1 : (n &&& 2 ^ j).testBit j = false := by rw [h]; simp
      rw [Nat.testBit_and] at h1
      first | simpa using h1 | simpa [Nat.testBit_two_pow_self] using h1 | simpa [Nat.testBit_two_pow] using h1
    · intro h
      apply Nat.eq_of_testBit_eq
      intro i
      rw [Nat.testBit_and]
      by_cases hi : j = i
      · subst hi; simp [h]
      · first | (simp [Nat.testBit_two_pow, hi]; done) | (simp [Nat.testBit_two_pow_of_ne hi]; done)
  rw [fa_and]
  constructor
  · intro h
    apply e.mp
    rcases Nat.eq_zero_or_pos (n &&& 2 ^ j) with z | z
    · exact z
    · exact absurd h (nI_ne0 z (Nat.lt_of_le_of_lt hle h2))
  · intro h
    rw [e.mpr h]; exact nI_0
/-- a remainder by a power of two of a number that isn't negative, as Java divides -/

theorem sh_w {w : Nat} (hw : w < 8) : (1 : Int32) <<< (nI w &&& 31) = nI (2 ^ w) := by
  rcases (show w = 0 ∨ w = 1 ∨ w = 2 ∨ w = 3 ∨ w = 4 ∨ w = 5 ∨ w = 6 ∨ w = 7 by omega) with rfl | rfl | rfl | rfl | rfl | rfl | rfl | rfl <;> decide
theorem hw_0 {f : Nat → Nat} {w : Nat} : ∀ s k, hw_R f w s k = 0 ↔ ∀ j, j < s → f (k + j) ≠ w
  | 0, k => ⟨fun _ j hj => absurd hj (Nat.not_lt_zero j), fun _ => rfl⟩
  | s + 1, k => by
    rw [hw_R]
    by_cases hf : f k = w
    · rw [if_pos hf]
      exact ⟨fun z => absurd z (by decide), fun z => absurd hf (z 0 (Nat.succ_pos s))⟩
    · rw [if_neg hf, hw_0 s (k + 1)]
      constructor
      · intro z j hj
        cases j with
        | zero => exact hf
        | succ j => rw [show k + (j + 1) = k + 1 + j by omega]; exact z j (by omega)
      · intro z j hj
        rw [show k + 1 + j = k + (j + 1) by omega]
        exact z (j + 1) (by omega)
/-! TWICE -/
def tw_S (f : Nat → Nat) : Nat → Nat
  | 0 => 0
  | k + 1 => tw_S f k ||| 2 ^ f k
theorem tw_bit (f : Nat → Nat) (w : Nat) : ∀ k, (tw_S f k).testBit w = true ↔ ∃ j, j < k ∧ f j = w
  | 0 => by
    rw [tw_S, Nat.zero_testBit]
    exact ⟨fun z => (by cases z), fun ⟨j, hj, _⟩ => absurd hj (Nat.not_lt_zero j)⟩
  | k + 1 => by
    rw [tw_S, Nat.testBit_or, Nat.testBit_two_pow, Bool.or_eq_true, decide_eq_true_eq, tw_bit f w k]
    constructor
    · rintro (⟨j, h1, h2⟩ | h1)
      · exact ⟨j, by omega, h2⟩
      · exact ⟨k, Nat.lt_succ_self k, h1⟩
    · rintro ⟨j, h1, h2⟩
      by_cases hj : j = k
      · exact Or.inr (by rw [← hj]; exact h2)
      · exact Or.inl ⟨j, by omega, h2⟩
theorem tw_hw (f : Nat → Nat) (w k : Nat) : (tw_S f k).testBit w = false ↔ hw_R f w k 0 = 0 := by
  rw [hw_0]
  constructor
  · intro z j hj he
    rw [Nat.zero_add] at he
    have := (tw_bit f w k).mpr ⟨j, hj, he⟩
    rw [z] at this; cases this
  · intro z
    cases hb : (tw_S f k).testBit w with
    | false => rfl
    | true =>
      obtain ⟨j, hj, he⟩ := (tw_bit f w k).mp hb
      exact absurd he (by have := z j hj; rw [Nat.zero_add] at this; exact this)
def tw_R (f : Nat → Nat) : Nat → Nat → Nat → Nat
  | 0, _, a => a
  | s + 1, k, a => tw_R f s (k + 1) (if hw_R f (f k) k 0 = 0 then a else a + 1)
section TW
variable {h : tt_H} {b d n : Nat} {f : Nat → Nat}
theorem tw_c (hc : pp_cry h b n f) : ∀ (s k a fu : Nat), k + s = n → s < fu → a + s < 1000 → s_X8_twice_L20 fu b (nI (tw_S f k)) (nI a) (nI k) h = some (nI (tw_R f s k a), h) := by
  have hn := hc.le
  intro s
  induction s with
  | zero =>
    intro k a fu hk hfu _
    obtain ⟨fu, rfl⟩ : ∃ z, fu = z + 1 := ⟨fu - 1, by omega⟩
    rw [s_X8_twice_L20]
    simp only [pp_cobj hc, pp_size hc, nI_le (show n ≤ k by omega) (show k < 2 ^ 31 by omega), pp_bind, ↓reduceIte]
    rfl
  | succ s ih =>
    intro k a fu hk hfu hA
    obtain ⟨fu, rfl⟩ : ∃ z, fu = z + 1 := ⟨fu - 1, by omega⟩
    have h8 := hc.lt8 (show k < n by omega)
    rw [s_X8_twice_L20, tw_R]
    simp only [pp_cobj hc, pp_size hc, nI_ge (show k < n by omega) (show n < 2 ^ 31 by omega), pp_at hc (show k < 2 ^ 31 by omega), pp_w_in (show k < n by omega), sh_w h8, s_X8_twice_J49, fa_or, nI_1, pp_bind, ↓reduceIte]
    rw [show tw_S f k ||| 2 ^ f k = tw_S f (k + 1) from rfl]
    by_cases hb : hw_R f (f k) k 0 = 0
    · rw [if_pos ((fa_bit (by omega)).mpr ((tw_hw f (f k) k).mpr hb)), if_pos hb, ih (k + 1) a fu (by omega) (by omega) (by omega)]
    · rw [if_neg (fun z => hb ((tw_hw f (f k) k).mp ((fa_bit (by omega)).mp z))), if_neg hb, ih (k + 1) (a + 1) fu (by omega) (by omega) (by omega)]
theorem tw_m (hc : pp_m h d n f) : ∀ (s k a fu : Nat), k + s = n → s < fu → a + s < 1000 → s_X9_twice_L14 fu 49 (nI d) (nI a) (nI k) h = some (nI (tw_R f s k a), h) := by
  have hn := hc.le
  intro s
  induction s with
  | zero =>
    intro k a fu hk hfu _
    obtain ⟨fu, rfl⟩ : ∃ z, fu = z + 1 := ⟨fu - 1, by omega⟩
    rw [s_X9_twice_L14]
    simp only [mo_7 hc.1, pp_mlen hc, nI_le (show n ≤ k by omega) (show k < 2 ^ 31 by omega), pp_bind, ↓reduceIte]
    rfl
  | succ s ih =>
    intro k a fu hk hfu hA
    obtain ⟨fu, rfl⟩ : ∃ z, fu = z + 1 := ⟨fu - 1, by omega⟩
    have h8 := hc.lt8 (show k < n by omega)
    rw [s_X9_twice_L14, tw_R]
    simp only [mo_7 hc.1, pp_mlen hc, nI_ge (show k < n by omega) (show n < 2 ^ 31 by omega), hc.1.b, pp_mw hc (show k < n by omega), pp_isIn hc h8 (show k ≤ n by omega), s_X9_twice_J45, nI_1, pp_bind, ↓reduceIte]
    by_cases hb : hw_R f (f k) k 0 = 0
    · rw [if_pos hb, if_pos hb, Int32.add_zero, ih (k + 1) a fu (by omega) (by omega) (by omega)]
    · rw [if_neg hb, if_neg hb, ih (k + 1) (a + 1) fu (by omega) (by omega) (by omega)]
end TW
theorem E_twice {h : tt_H} (hI : pp_Inv h) (x1 : Int32) : pp_G (s_X8_twice 0 x1) (s_X9_twice 49 x1) h := by
  obtain ⟨⟨kn, dc, sz, wd, so, sl, sc, tr, ft⟩, hV, ha, hm⟩ := hI
  have hdc : dc ≤ 6 := hV.2.1
  rcases pp_rng dc (by omega) x1 with ⟨d1, hd1, rfl⟩ | h1
  · have c1 := ca_cry hV ha.1 hd1
    have l1 := c1.le
    refine pp_G.rd (nI (tw_R (wd d1) (sz d1) 0 0)) hV ha hm ?_ (fun h hm => ?_)
    · have e := tw_c c1 (sz d1) 0 0 1000 (by omega) (by omega) (by omega)
      unfold s_X8_twice
      simp only [ca_b ha.1, ca_in hV ha.1 hd1, gg_opt_some, pp_bind]
      exact e
    · have e := tw_m (ma_day hV hm.1 hd1) (sz d1) 0 0 1000 (by omega) (by omega) (by omega)
      unfold s_X9_twice
      simp only [(ma_o hm.1).b, ma_in hV hm.1 hd1, pp_bind, pn_10, ↓reduceIte]
      exact e
  · refine pp_G.rd (-1) hV ha hm ?_ (fun h hm => ?_)
    · unfold s_X8_twice
      simp only [ca_b ha.1, ca_out ha.1 h1, gg_opt_none, pp_bind]
    · unfold s_X9_twice
      simp only [(ma_o hm.1).b, ma_out hm.1 h1, pp_bind, pn_00, ↓reduceIte]

/-! ONCE -/
theorem pp_wv {a n k : Nat} {f : Nat → Nat} (ha : a < 8) (hf : k < n → f k < 8) : nI a = pp_w n f k ↔ k < n ∧ a = f k := by
  unfold pp_w
  by_cases hk : k < n
  · rw [if_pos hk, nI_eq (by omega) (by have := hf hk; omega)]
    exact ⟨fun z => ⟨hk, z⟩, fun z => z.2⟩
  · rw [if_neg hk]
    refine ⟨fun z => absurd z.symm (pp_neg_ne (by decide) (by omega)), fun z => absurd z.1 hk⟩
def ak_R (n1 n2 : Nat) (f1 f2 : Nat → Nat) (i j : Nat) : Nat → Nat → Nat
  | 0, l => l
  | s + 1, l => if i + l < n1 ∧ j + l < n2 ∧ f1 (i + l) = f2 (j + l) then ak_R n1 n2 f1 f2 i j s (l + 1) else l
theorem ak_le (n1 n2 : Nat) (f1 f2 : Nat → Nat) (i j : Nat) : ∀ s l, ak_R n1 n2 f1 f2 i j s l ≤ l + s
  | 0, l => Nat.le_refl l
  | s + 1, l => by
    rw [ak_R]
    split
    · have := ak_le n1 n2 f1 f2 i j s (l + 1); omega
    · omega
def lp_R (A : Nat → Nat) : Nat → Nat → Nat → Nat
  | 0, _, m => m
  | s + 1, p, m => lp_R A s (p + 1) (if m < A p then A p else m)
theorem lp_ge (A : Nat → Nat) : ∀ s p m, m ≤ lp_R A s p m
  | 0, _, m => Nat.le_refl m
  | s + 1, p, m => by
    have := lp_ge A s (p + 1) (if m < A p then A p else m)
    rw [lp_R]
    split at this <;> rename_i hc
    · rw [if_pos hc]; omega
    · rw [if_neg hc]; exact this
theorem lp_le {A : Nat → Nat} {B : Nat} (hA : ∀ p, A p ≤ B) : ∀ s p m, m ≤ B → lp_R A s p m ≤ B
  | 0, _, m, h => h
  | s + 1, p, m, h => by
    rw [lp_R]
    exact lp_le hA s (p + 1) _ (by split; exact hA p; exact h)
def on_R (L : Nat → Nat) : Nat → Nat → Nat → Int32 → Nat × Int32
  | 0, _, m, x => (m, x)
  | s + 1, i, m, x => if L i ≤ m then on_R L s (i + 1) m x else on_R L s (i + 1) (L i) (nI i)
def io_R (A : Nat → Nat) (i : Nat) : Nat → Nat → Nat → Int32 → Nat × Int32
  | 0, _, m, x => (m, x)
  | s + 1, p, m, x => if A p ≤ m then io_R A i s (p + 1) m x else io_R A i s (p + 1) (A p) (nI i)
theorem io_lp (A : Nat → Nat) (i : Nat) : ∀ s p m x c, c ≤ m → io_R A i s p m x = if lp_R A s p c ≤ m then (m, x) else (lp_R A s p c, nI i)
  | 0, p, m, x, c, h => by rw [io_R, lp_R, if_pos h]
  | s + 1, p, m, x, c, h => by
    rw [io_R, lp_R]
    by_cases ha : A p ≤ m
    · rw [if_pos ha, io_lp A i s (p + 1) m x (if c < A p then A p else c) (by split <;> omega)]
    · rw [if_neg ha, if_pos (show c < A p by omega), io_lp A i s (p + 1) (A p) (nI i) (A p) (Nat.le_refl _)]
      have := lp_ge A s (p + 1) (A p)
      rw [if_neg (show ¬ lp_R A s (p + 1) (A p) ≤ m by omega)]
      by_cases h2 : lp_R A s (p + 1) (A p) ≤ A p
      · rw [if_pos h2, show lp_R A s (p + 1) (A p) = A p by omega]
      · rw [if_neg h2]
section ON
variable {h : tt_H} {b1 b2 d1 d2 n1 n2 : Nat} {f1 f2 : Nat → Nat}
theorem lk_c (c1 : pp_cry h b1 n1 f1) (c2 : pp_cry h b2 n2 f2) {i j : Nat} (hi : i < 100) (hj : j < 100) : ∀ (s l fu : Nat), l + s = 12 → s < fu → s_X8_likeOnEnd_L3 fu b1 (nI i) b2 (nI j) (nI l) h = some (nI (ak_R n1 n2 f1 f2 i j s l), h) := by
  have l1 := c1.le
  have l2 := c2.le
  intro s
  induction s with
  | zero =>
    intro l fu hl hfu
    obtain ⟨fu, rfl⟩ : ∃ z, fu = z + 1 := ⟨fu - 1, by omega⟩
    obtain rfl : l = 12 := by omega
    rw [s_X8_likeOnEnd_L3, if_pos (by decide)]
    rfl
  | succ s ih =>
    intro l fu hl hfu
    obtain ⟨fu, rfl⟩ : ∃ z, fu = z + 1 := ⟨fu - 1, by omega⟩
    rw [s_X8_likeOnEnd_L3, ak_R, if_neg (show ¬ (12 : Int32) ≤ nI l from nI_ge (a := l) (b := 12) (by omega) (by decide))]
    simp only [nI_add, pp_cobj c1, pp_cobj c2, pp_has c1 (show i + l < 2 ^ 31 by omega), pp_at c1 (show i + l < 2 ^ 31 by omega), pp_at c2 (show j + l < 2 ^ 31 by omega), nI_1, pp_bind]
    by_cases h1 : i + l < n1
    · rw [if_pos h1, if_neg (by decide), pp_w_in h1]
      by_cases h2 : j + l < n2 ∧ f1 (i + l) = f2 (j + l)
      · rw [if_pos ((pp_wv (c1.lt8 h1) (fun z => c2.lt8 z)).mpr h2), if_pos ⟨h1, h2⟩, ih (l + 1) fu (by omega) (by omega)]
      · rw [if_neg (fun z => h2 ((pp_wv (c1.lt8 h1) (fun z => c2.lt8 z)).mp z)), if_neg (fun z => h2 z.2)]
    · rw [if_neg h1, if_pos rfl, if_neg (fun z => h1 z.1)]
theorem lk_m (c1 : pp_m h d1 n1 f1) (c2 : pp_m h d2 n2 f2) {i j : Nat} (hi : i < 100) (hj : j < 100) : ∀ (s l fu : Nat), l + s = 12 → s < fu → s_X9_alikeFrom_L3 fu 49 (nI d1) (nI i) (nI d2) (nI j) (nI l) h = some (nI (ak_R n1 n2 f1 f2 i j s l), h) := by
  have l1 := c1.le
  have l2 := c2.le
  intro s
  induction s with
  | zero =>
    intro l fu hl hfu
    obtain ⟨fu, rfl⟩ : ∃ z, fu = z + 1 := ⟨fu - 1, by omega⟩
    obtain rfl : l = 12 := by omega
    rw [s_X9_alikeFrom_L3]
    simp only [nI_add, mo_7 c1.1, pp_mlen c1, nI_le (show n1 ≤ i + 12 by omega) (show i + 12 < 2 ^ 31 by omega), pp_bind, ↓reduceIte]
    rfl
  | succ s ih =>
    intro l fu hl hfu
    obtain ⟨fu, rfl⟩ : ∃ z, fu = z + 1 := ⟨fu - 1, by omega⟩
    rw [s_X9_alikeFrom_L3, ak_R]
    simp only [nI_add, mo_7 c1.1, pp_mlen c1, pp_mlen c2, nI_1, pp_bind]
    by_cases h1 : i + l < n1
    · rw [if_neg (nI_ge h1 (by omega))]
      by_cases h2 : j + l < n2
      · rw [if_neg (nI_ge h2 (by omega))]
        simp only [c1.1.b, pp_mw c1 h1, pp_mw c2 h2, pp_bind]
        by_cases h3 : f1 (i + l) = f2 (j + l)
        · rw [if_pos (by rw [h3]), if_pos ⟨h1, h2, h3⟩, ih (l + 1) fu (by omega) (by omega)]
        · have b1 := c1.lt8 h1
          have b2 := c2.lt8 h2
          rw [if_neg (fun z => h3 ((nI_eq (by omega) (by omega)).mp z)), if_neg (fun z => h3 z.2.2)]
      · rw [if_pos (nI_le (by omega) (by omega)), if_neg (fun z => h2 z.2.1)]
    · rw [if_pos (nI_le (by omega) (by omega)), if_neg (fun z => h1 z.1)]
def ak_A (n1 n2 : Nat) (f1 f2 : Nat → Nat) (i j : Nat) : Nat := ak_R n1 n2 f1 f2 i j 12 0
theorem ak_A_le (n1 n2 : Nat) (f1 f2 : Nat → Nat) (i j : Nat) : ak_A n1 n2 f1 f2 i j ≤ 12 := by have := ak_le n1 n2 f1 f2 i j 12 0; unfold ak_A; omega
theorem lp_c (c1 : pp_cry h b1 n1 f1) (c2 : pp_cry h b2 n2 f2) {i : Nat} (hi : i < 100) : ∀ (s p m fu : Nat), p + s = n2 → s < fu → m ≤ 12 → s_X8_longestPartAt_L5 fu b1 (nI i) b2 (nI m) (nI p) h = some (nI (lp_R (ak_A n1 n2 f1 f2 i) s p m), h) := by
  have l2 := c2.le
  intro s
  induction s with
  | zero =>
    intro p m fu hp hfu hm
    obtain ⟨fu, rfl⟩ : ∃ z, fu = z + 1 := ⟨fu - 1, by omega⟩
    rw [s_X8_longestPartAt_L5]
    simp only [pp_cobj c2, pp_size c2, nI_le (show n2 ≤ p by omega) (show p < 2 ^ 31 by omega), pp_bind, ↓reduceIte]
    rfl
  | succ s ih =>
    intro p m fu hp hfu hm
    obtain ⟨fu, rfl⟩ : ∃ z, fu = z + 1 := ⟨fu - 1, by omega⟩
    have e := lk_c c1 c2 hi (show p < 100 by omega) 12 0 1000 (by omega) (by omega)
    have hA := ak_A_le n1 n2 f1 f2 i p
    have e2 : s_X8_likeOnEnd b1 (nI i) b2 (nI p) h = some (nI (ak_A n1 n2 f1 f2 i p), h) := e
    rw [s_X8_longestPartAt_L5, lp_R]
    simp only [pp_cobj c2, pp_size c2, nI_ge (show p < n2 by omega) (show n2 < 2 ^ 31 by omega), e2, nI_1, pp_bind, ↓reduceIte]
    by_cases hc : m < ak_A n1 n2 f1 f2 i p
    · rw [if_pos (nI_lt hc (by omega)), if_pos hc, ih (p + 1) _ fu (by omega) (by omega) hA]
    · rw [if_neg (nI_nlt (by omega) (by omega)), if_neg hc, ih (p + 1) _ fu (by omega) (by omega) hm]
def on_L (n1 n2 : Nat) (f1 f2 : Nat → Nat) (i : Nat) : Nat := lp_R (ak_A n1 n2 f1 f2 i) n2 0 0
theorem on_L_le (n1 n2 : Nat) (f1 f2 : Nat → Nat) (i : Nat) : on_L n1 n2 f1 f2 i ≤ 12 := lp_le (fun p => ak_A_le n1 n2 f1 f2 i p) n2 0 0 (by decide)
theorem on_c (c1 : pp_cry h b1 n1 f1) (c2 : pp_cry h b2 n2 f2) (x3 : Int32) : ∀ (s i m fu : Nat) (x : Int32), i + s = n1 → s < fu → m ≤ 12 → s_X8_once_L46 fu x3 b1 b2 (nI m) x (nI i) h = some (if x3 = 0 then nI (on_R (on_L n1 n2 f1 f2) s i m x).1 else (on_R (on_L n1 n2 f1 f2) s i m x).2, h) := by
  have l1 := c1.le
  have l2 := c2.le
  intro s
  induction s with
  | zero =>
    intro i m fu x hi hfu hm
    obtain ⟨fu, rfl⟩ : ∃ z, fu = z + 1 := ⟨fu - 1, by omega⟩
    rw [s_X8_once_L46]
    simp only [pp_cobj c1, pp_size c1, nI_le (show n1 ≤ i by omega) (show i < 2 ^ 31 by omega), pp_bind, ↓reduceIte, on_R]
    by_cases h3 : x3 = 0
    · rw [if_pos h3, if_pos h3]
    · rw [if_neg h3, if_neg h3]
  | succ s ih =>
    intro i m fu x hi hfu hm
    obtain ⟨fu, rfl⟩ : ∃ z, fu = z + 1 := ⟨fu - 1, by omega⟩
    have hL := on_L_le n1 n2 f1 f2 i
    have e : s_X8_longestPartAt b1 (nI i) b2 h = some (nI (on_L n1 n2 f1 f2 i), h) := lp_c c1 c2 (show i < 100 by omega) n2 0 0 1000 (by omega) (by omega) (by omega)
    rw [s_X8_once_L46, on_R]
    simp only [pp_cobj c1, pp_size c1, nI_ge (show i < n1 by omega) (show n1 < 2 ^ 31 by omega), e, s_X8_once_J82, nI_1, pp_bind, ↓reduceIte]
    by_cases hc : on_L n1 n2 f1 f2 i ≤ m
    · rw [if_pos (nI_le hc (by omega)), if_pos hc, ih (i + 1) m fu x (by omega) (by omega) hm]
    · rw [if_neg (nI_ge (by omega) (by omega)), if_neg hc, ih (i + 1) _ fu _ (by omega) (by omega) hL]
theorem io_m (c1 : pp_m h d1 n1 f1) (c2 : pp_m h d2 n2 f2) (x3 : Int32) {i : Nat} (hi : i < 100) (κ : Nat → Int32 → Int32 → Int32 → Int32 → Int32 → Int32 → tt_H → Option (Int32 × tt_H)) : ∀ (s p m fu : Nat) (x : Int32), p + s = n2 → s < fu → m ≤ 12 → s_X9_once_L54 κ fu 49 (nI d1) (nI d2) x3 (nI m) x (nI i) (nI p) h = κ 49 (nI d1) (nI d2) x3 (nI (io_R (ak_A n1 n2 f1 f2 i) i s p m x).1) (io_R (ak_A n1 n2 f1 f2 i) i s p m x).2 (nI (i + 1)) h := by
  have l2 := c2.le
  intro s
  induction s with
  | zero =>
    intro p m fu x hp hfu hm
    obtain ⟨fu, rfl⟩ : ∃ z, fu = z + 1 := ⟨fu - 1, by omega⟩
    rw [s_X9_once_L54]
    simp only [mo_7 c1.1, pp_mlen c2, nI_le (show n2 ≤ p by omega) (show p < 2 ^ 31 by omega), nI_1, pp_bind, ↓reduceIte, io_R]
  | succ s ih =>
    intro p m fu x hp hfu hm
    obtain ⟨fu, rfl⟩ : ∃ z, fu = z + 1 := ⟨fu - 1, by omega⟩
    have hA := ak_A_le n1 n2 f1 f2 i p
    have e2 : s_X9_alikeFrom 49 (nI d1) (nI i) (nI d2) (nI p) h = some (nI (ak_A n1 n2 f1 f2 i p), h) := lk_m c1 c2 hi (show p < 100 by omega) 12 0 1000 (by omega) (by omega)
    rw [s_X9_once_L54, io_R]
    simp only [mo_7 c1.1, pp_mlen c2, nI_ge (show p < n2 by omega) (show n2 < 2 ^ 31 by omega), c1.1.b, e2, s_X9_once_J92, nI_1, pp_bind, ↓reduceIte]
    by_cases hc : ak_A n1 n2 f1 f2 i p ≤ m
    · rw [if_pos (nI_le hc (by omega)), if_pos hc, ih (p + 1) m fu x (by omega) (by omega) hm]
    · rw [if_neg (nI_ge (by omega) (by omega)), if_neg hc, ih (p + 1) _ fu _ (by omega) (by omega) hA]
theorem on_m (c1 : pp_m h d1 n1 f1) (c2 : pp_m h d2 n2 f2) (x3 : Int32) : ∀ (s i m fu : Nat) (x : Int32), i + s = n1 → s < fu → m ≤ 12 → s_X9_once_L40 fu 49 (nI d1) (nI d2) x3 (nI m) x (nI i) h = some (if x3 = 0 then nI (on_R (on_L n1 n2 f1 f2) s i m x).1 else (on_R (on_L n1 n2 f1 f2) s i m x).2, h) := by
  have l1 := c1.le
  have l2 := c2.le
  intro s
  induction s with
  | zero =>
    intro i m fu x hi hfu hm
    obtain ⟨fu, rfl⟩ : ∃ z, fu = z + 1 := ⟨fu - 1, by omega⟩
    rw [s_X9_once_L40]
    simp only [mo_7 c1.1, pp_mlen c1, nI_le (show n1 ≤ i by omega) (show i < 2 ^ 31 by omega), pp_bind, ↓reduceIte, on_R]
    by_cases h3 : x3 = 0
    · rw [if_pos h3, if_pos h3]
    · rw [if_neg h3, if_neg h3]
  | succ s ih =>
    intro i m fu x hi hfu hm
    obtain ⟨fu, rfl⟩ : ∃ z, fu = z + 1 := ⟨fu - 1, by omega⟩
    have hL := on_L_le n1 n2 f1 f2 i
    have e := io_m c1 c2 x3 (show i < 100 by omega) (s_X9_once_L40 fu) n2 0 m 1000 x (by omega) (by omega) hm
    rw [io_lp _ _ _ _ _ _ 0 (Nat.zero_le m)] at e
    rw [s_X9_once_L40, on_R]
    simp only [mo_7 c1.1, pp_mlen c1, nI_ge (show i < n1 by omega) (show n1 < 2 ^ 31 by omega), pp_bind, ↓reduceIte]
    refine e.trans ?_
    show s_X9_once_L40 fu 49 (nI d1) (nI d2) x3 (nI (if on_L n1 n2 f1 f2 i ≤ m then (m, x) else (on_L n1 n2 f1 f2 i, nI i)).1) (if on_L n1 n2 f1 f2 i ≤ m then (m, x) else (on_L n1 n2 f1 f2 i, nI i)).2 (nI (i + 1)) h = _
    by_cases hc : on_L n1 n2 f1 f2 i ≤ m
    · rw [if_pos hc, if_pos hc, ih (i + 1) m fu x (by omega) (by omega) hm]
    · rw [if_neg hc, if_neg hc, ih (i + 1) _ fu _ (by omega) (by omega) hL]
end ON
theorem E_once {h : tt_H} (hI : pp_Inv h) (x1 x2 x3 : Int32) : pp_G (s_X8_once 0 x1 x2 x3) (s_X9_once 49 x1 x2 x3) h := by
  obtain ⟨⟨kn, dc, sz, wd, so, sl, sc, tr, ft⟩, hV, ha, hm⟩ := hI
  have hdc : dc ≤ 6 := hV.2.1
  rcases pp_rng dc (by omega) x1 with ⟨d1, hd1, rfl⟩ | h1
  · have c1 := ca_cry hV ha.1 hd1
    have l1 := c1.le
    rcases pp_rng dc (by omega) x2 with ⟨d2, hd2, rfl⟩ | h2
    · have c2 := ca_cry hV ha.1 hd2
      have l2 := c2.le
      rcases pp_rng 2 (by decide) x3 with ⟨q, hq, rfl⟩ | h3
      · refine pp_G.rd (if nI q = 0 then nI (on_R (on_L (sz d1) (sz d2) (wd d1) (wd d2)) (sz d1) 0 0 (-9)).1 else (on_R (on_L (sz d1) (sz d2) (wd d1) (wd d2)) (sz d1) 0 0 (-9)).2) hV ha hm ?_ (fun h hm => ?_)
        · have e := on_c c1 c2 (nI q) (sz d1) 0 0 1000 (-9) (by omega) (by omega) (by omega)
          unfold s_X8_once
          simp only [ca_b ha.1, ca_in hV ha.1 hd1, ca_in hV ha.1 hd2, gg_opt_some, if_in hq, pp_bind, pn_10, ↓reduceIte]
          exact e
        · have e := on_m (ma_day hV hm.1 hd1) (ma_day hV hm.1 hd2) (nI q) (sz d1) 0 0 1000 (-9) (by omega) (by omega) (by omega)
          unfold s_X9_once
          simp only [(ma_o hm.1).b, ma_in hV hm.1 hd1, ma_in hV hm.1 hd2, j1_in hq, pp_bind, pn_10, ↓reduceIte]
          exact e
      · refine pp_G.rd (-2) hV ha hm ?_ (fun h hm => ?_)
        · unfold s_X8_once
          simp only [ca_b ha.1, ca_in hV ha.1 hd1, ca_in hV ha.1 hd2, gg_opt_some, if_out h3, pp_bind, pn_10, pn_00, ↓reduceIte]
        · unfold s_X9_once
          simp only [(ma_o hm.1).b, ma_in hV hm.1 hd1, ma_in hV hm.1 hd2, j1_out h3, pp_bind, pn_10, pn_00, ↓reduceIte]
    · refine pp_G.rd (-1) hV ha hm ?_ (fun h hm => ?_)
      · unfold s_X8_once
        simp only [ca_b ha.1, ca_in hV ha.1 hd1, ca_out ha.1 h2, gg_opt_some, gg_opt_none, pp_bind]
      · unfold s_X9_once
        simp only [(ma_o hm.1).b, ma_in hV hm.1 hd1, ma_out hm.1 h2, pp_bind, pn_10, pn_00, ↓reduceIte]
  · refine pp_G.rd (-1) hV ha hm ?_ (fun h hm => ?_)
    · unfold s_X8_once
      rcases pp_rng dc (by omega) x2 with ⟨d2, hd2, rfl⟩ | h2
      · simp only [ca_b ha.1, ca_out ha.1 h1, ca_in hV ha.1 hd2, gg_opt_none, pp_bind]
      · simp only [ca_b ha.1, ca_out ha.1 h1, ca_out ha.1 h2, gg_opt_none, pp_bind]
    · unfold s_X9_once
      simp only [(ma_o hm.1).b, ma_out hm.1 h1, pp_bind, pn_00, ↓reduceIte]
