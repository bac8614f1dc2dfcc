/-! ALL CHOICES OF PLACES: a set s of places (bits); how many of it are ahead of a place; what it chooses, as a number; whether that is the inner CRY -/
def ps (s : Nat) : Nat → Nat
  | 0 => 0
  | q + 1 => if s.testBit q = true then ps s q + 1 else ps s q
def pv (f : Nat → Nat) (s : Nat) : Nat → Nat
  | 0 => 0
  | q + 1 => if s.testBit q = true then pv f s q + f q * 8 ^ ps s q else pv f s q
def mt (f1 f2 : Nat → Nat) (s : Nat) : Nat → Nat → Bool
  | 0, n1 => decide (n1 = 0)
  | q + 1, n1 => if s.testBit q = true then (decide (0 < n1 ∧ f1 (n1 - 1) = f2 q) && mt f1 f2 s q (n1 - 1)) else mt f1 f2 s q n1
theorem ps_1 {s q : Nat} (h : s.testBit q = true) : ps s (q + 1) = ps s q + 1 := by rw [ps, if_pos h]
theorem ps_0 {s q : Nat} (h : ¬ s.testBit q = true) : ps s (q + 1) = ps s q := by rw [ps, if_neg h]
theorem ps_le (s : Nat) : ∀ q, ps s q ≤ q
  | 0 => Nat.le_refl 0
  | q + 1 => by
    have := ps_le s q
    rw [ps]; split <;> omega
theorem ps_mono (s : Nat) {p : Nat} : ∀ d, ps s p ≤ ps s (p + d)
  | 0 => Nat.le_refl _
  | d + 1 => by
    have := ps_mono s (p := p) d
    rw [show p + (d + 1) = (p + d) + 1 from rfl, ps]; split <;> omega
theorem ps_cong {s s' : Nat} : ∀ q, (∀ i, i < q → s.testBit i = s'.testBit i) → ps s q = ps s' q
  | 0, _ => rfl
  | q + 1, h => by rw [ps, ps, ps_cong q (fun i hi => h i (by omega)), h q (Nat.lt_succ_self q)]
theorem mt_cong {f1 f2 : Nat → Nat} {s s' : Nat} : ∀ q n, (∀ i, i < q → s.testBit i = s'.testBit i) → mt f1 f2 s q n = mt f1 f2 s' q n
  | 0, _, _ => rfl
  | q + 1, n, h => by rw [mt, mt, mt_cong q (n - 1) (fun i hi => h i (by omega)), mt_cong q n (fun i hi => h i (by omega)), h q (Nat.lt_succ_self q)]
theorem pv_lt {f : Nat → Nat} {s : Nat} : ∀ q, (∀ i, i < q → f i < 8) → pv f s q < 8 ^ ps s q
  | 0, _ => Nat.one_pos
  | q + 1, h => by
    have h1 := pv_lt (f := f) (s := s) q (fun i hi => h i (by omega))
    have h2 := h q (Nat.lt_succ_self q)
    by_cases hb : s.testBit q = true
    · rw [pv, if_pos hb, ps_1 hb, Nat.pow_succ]
      have h3 : f q * 8 ^ ps s q ≤ 7 * 8 ^ ps s q := Nat.mul_le_mul_right _ (by omega)
      omega
    · rw [pv, if_neg hb, ps_0 hb]; exact h1
theorem pw_split {a b c d p : Nat} (ha : a < p) (hb : b < p) : a + c * p = b + d * p ↔ a = b ∧ c = d := by
  constructor
  · intro h
    have h1 : (a + c * p) % p = (b + d * p) % p := by rw [h]
    rw [Nat.add_mul_mod_self_right, Nat.add_mul_mod_self_right, Nat.mod_eq_of_lt ha, Nat.mod_eq_of_lt hb] at h1
    refine ⟨h1, ?_⟩
    have h2 : c * p = d * p := by omega
    exact Nat.eq_of_mul_eq_mul_right (by omega) h2
  · rintro ⟨rfl, rfl⟩; rfl
/-- the law's own look at a set is this one -/
theorem mt_iff {f1 f2 : Nat → Nat} {s : Nat} : ∀ n2 n1, (∀ k, k < n1 → f1 k < 8) → (∀ q, q < n2 → f2 q < 8) → ((ps s n2 = n1 ∧ pv f2 s n2 = cN f1 n1) ↔ mt f1 f2 s n2 n1 = true)
  | 0, n1, _, _ => by
    rw [mt, decide_eq_true_iff, ps, pv]
    constructor
    · exact fun h => h.1.symm
    · rintro rfl; exact ⟨rfl, rfl⟩
  | q + 1, n1, h1, h2 => by
    by_cases hb : s.testBit q = true
    · rw [mt, if_pos hb, ps_1 hb, pv, if_pos hb, Bool.and_eq_true, decide_eq_true_iff]
      cases n1 with
      | zero =>
        constructor
        · exact fun h => absurd h.1 (by omega)
        · exact fun h => absurd h.1.1 (Nat.lt_irrefl 0)
      | succ m =>
        rw [Nat.add_sub_cancel, ← mt_iff q m (fun k hk => h1 k (by omega)) (fun i hi => h2 i (by omega)), cN]
        have a1 := pv_lt (f := f2) (s := s) q (fun i hi => h2 i (by omega))
        have a2 := cN_lt m (fun k hk => h1 k (by omega))
        constructor
        · rintro ⟨e1, e2⟩
          have e1' : ps s q = m := by omega
          rw [e1'] at e2 a1
          obtain ⟨e3, e4⟩ := (pw_split a1 a2).mp e2
          exact ⟨⟨Nat.succ_pos m, e4.symm⟩, e1', e3⟩
        · rintro ⟨⟨_, e1⟩, e2, e3⟩
          exact ⟨by omega, by rw [e2, e3, e1]⟩
    · rw [mt, if_neg hb, ps_0 hb, pv, if_neg hb]
      exact mt_iff q n1 h1 (fun i hi => h2 i (by omega))
/-! how many -/
def cnt (P : Nat → Bool) : Nat → Nat
  | 0 => 0
  | m + 1 => if P m = true then cnt P m + 1 else cnt P m
theorem cnt_le (P : Nat → Bool) : ∀ m, cnt P m ≤ m
  | 0 => Nat.le_refl 0
  | m + 1 => by
    have := cnt_le P m
    rw [cnt]; split <;> omega
theorem cnt_cong {P Q : Nat → Bool} : ∀ m, (∀ s, s < m → P s = Q s) → cnt P m = cnt Q m
  | 0, _ => rfl
  | m + 1, h => by rw [cnt, cnt, cnt_cong m (fun s hs => h s (by omega)), h m (Nat.lt_succ_self m)]
theorem cnt_add (P : Nat → Bool) (a : Nat) : ∀ b, cnt P (a + b) = cnt P a + cnt (fun s => P (a + s)) b
  | 0 => rfl
  | b + 1 => by
    rw [show a + (b + 1) = (a + b) + 1 from rfl, cnt, cnt, cnt_add P a b]
    split <;> omega
theorem cnt_none {P : Nat → Bool} : ∀ m, (∀ s, s < m → P s = false) → cnt P m = 0
  | 0, _ => rfl
  | m + 1, h => by rw [cnt, h m (Nat.lt_succ_self m), if_neg (by decide), cnt_none m (fun s hs => h s (by omega))]
theorem cnt_some {P : Nat → Bool} : ∀ m, cnt P m ≠ 0 → ∃ s, s < m ∧ P s = true
  | 0, h => absurd rfl h
  | m + 1, h => by
    by_cases hp : P m = true
    · exact ⟨m, Nat.lt_succ_self m, hp⟩
    · rw [cnt, if_neg hp] at h
      obtain ⟨s, h1, h2⟩ := cnt_some m h
      exact ⟨s, by omega, h2⟩
theorem cnt_pos {P : Nat → Bool} : ∀ m s, s < m → P s = true → 0 < cnt P m
  | 0, s, h, _ => absurd h (Nat.not_lt_zero s)
  | m + 1, s, h, hp => by
    rw [cnt]
    by_cases hs : s = m
    · subst hs; rw [if_pos hp]; exact Nat.succ_pos _
    · have := cnt_pos m s (by omega) hp
      split <;> omega
theorem tb_hi {s q : Nat} (h : s < 2 ^ q) : ¬ s.testBit q = true := by rw [Nat.testBit_lt_two_pow h]; decide
theorem tb_self {s q : Nat} (h : s < 2 ^ q) : (2 ^ q + s).testBit q = true := by rw [Nat.testBit_two_pow_add_eq, Nat.testBit_lt_two_pow h]; rfl
theorem tb_low {s q i : Nat} (h : i < q) : (2 ^ q + s).testBit i = s.testBit i := Nat.testBit_two_pow_add_gt h s
/-- WAYS, as the class counts them, are how many sets choose the inner CRY -/
theorem cnt_wy (f1 f2 : Nat → Nat) : ∀ n2 n1, wy_N f1 f2 n1 n2 = lN (cnt (fun s => mt f1 f2 s n2 n1) (2 ^ n2))
  | 0, n1 => by
    cases n1 with
    | zero => rfl
    | succ m => rfl
  | q + 1, n1 => by
    have e0 : cnt (fun s => mt f1 f2 s (q + 1) n1) (2 ^ q) = cnt (fun s => mt f1 f2 s q n1) (2 ^ q) := cnt_cong _ (fun s hs => by
      show mt f1 f2 s (q + 1) n1 = _
      rw [mt, if_neg (tb_hi hs)])
    have e1 : cnt (fun s => mt f1 f2 (2 ^ q + s) (q + 1) n1) (2 ^ q) = if 0 < n1 ∧ f1 (n1 - 1) = f2 q then cnt (fun s => mt f1 f2 s q (n1 - 1)) (2 ^ q) else 0 := by
      by_cases hc : 0 < n1 ∧ f1 (n1 - 1) = f2 q
      · rw [if_pos hc]
        refine cnt_cong _ (fun s hs => ?_)
        show mt f1 f2 (2 ^ q + s) (q + 1) n1 = _
        rw [mt, if_pos (tb_self hs), decide_eq_true hc, Bool.true_and]
        exact mt_cong q _ (fun i hi => tb_low hi)
      · rw [if_neg hc]
        refine cnt_none _ (fun s hs => ?_)
        show mt f1 f2 (2 ^ q + s) (q + 1) n1 = _
        rw [mt, if_pos (tb_self hs), decide_eq_false hc, Bool.false_and]
    rw [show 2 ^ (q + 1) = 2 ^ q + 2 ^ q by rw [Nat.pow_succ]; omega, cnt_add, e0, e1]
    cases n1 with
    | zero =>
      rw [wy_0, if_neg (fun z => absurd z.1 (Nat.lt_irrefl 0)), Nat.add_zero, ← cnt_wy f1 f2 q 0, wy_0]
    | succ m =>
      rw [wy_s, cnt_wy f1 f2 q (m + 1), Nat.add_sub_cancel]
      by_cases hf : f1 m = f2 q
      · rw [if_pos hf, if_pos ⟨Nat.succ_pos m, hf⟩, cnt_wy f1 f2 q m, lN_add]
      · rw [if_neg hf, if_neg (fun z => hf z.2), Int64.add_zero]; rfl
/-! a choice of places, as a row that grows -/
def emb (n1 n2 : Nat) (f1 f2 m : Nat → Nat) : Prop := (∀ k, k < n1 → m k < n2 ∧ f1 k = f2 (m k)) ∧ ∀ j k, j < k → k < n1 → m j < m k
theorem sm_of {n : Nat} {m : Nat → Nat} (h : ∀ k, k + 1 < n → m k < m (k + 1)) : ∀ k j, j < k → k < n → m j < m k
  | 0, j, hj, _ => absurd hj (Nat.not_lt_zero j)
  | k + 1, j, hj, hk => by
    by_cases hjk : j = k
    · subst hjk; exact h j hk
    · exact Nat.lt_trans (sm_of h k j (by omega) (by omega)) (h k hk)
theorem emb_of {f1 f2 : Nat → Nat} {s : Nat} : ∀ n2 n1, mt f1 f2 s n2 n1 = true → ps s n2 = n1 ∧ ∃ m, emb n1 n2 f1 f2 m ∧ (∀ k, k < n1 → s.testBit (m k) = true ∧ ps s (m k) = k) ∧ ∀ q, q < n2 → s.testBit q = true → ps s q < n1 ∧ m (ps s q) = q
  | 0, n1, h => by
    rw [mt, decide_eq_true_iff] at h
    subst h
    exact ⟨rfl, fun _ => 0, ⟨fun k hk => absurd hk (Nat.not_lt_zero k), fun j k _ hk => absurd hk (Nat.not_lt_zero k)⟩, fun k hk => absurd hk (Nat.not_lt_zero k), fun q hq => absurd hq (Nat.not_lt_zero q)⟩
  | q + 1, n1, h => by
    by_cases hb : s.testBit q = true
    · rw [mt, if_pos hb, Bool.and_eq_true, decide_eq_true_iff] at h
      obtain ⟨⟨h1, h2⟩, h3⟩ := h
      obtain ⟨e1, m, ⟨a1, a2⟩, a3, a4⟩ := emb_of q (n1 - 1) h3
      refine ⟨by rw [ps_1 hb]; omega, fun k => if k = n1 - 1 then q else m k, ⟨fun k hk => ?_, fun j k hjk hk => ?_⟩, fun k hk => ?_, fun p hp hpb => ?_⟩
      · by_cases hkn : k = n1 - 1
        · simp only [if_pos hkn]; rw [hkn]; exact ⟨Nat.lt_succ_self q, h2⟩
        · simp only [if_neg hkn]
          have := a1 k (by omega)
          exact ⟨by omega, this.2⟩
      · have hj : ¬ j = n1 - 1 := by omega
        simp only [if_neg hj]
        by_cases hkn : k = n1 - 1
        · simp only [if_pos hkn]; exact (a1 j (by omega)).1
        · simp only [if_neg hkn]; exact a2 j k hjk (by omega)
      · by_cases hkn : k = n1 - 1
        · simp only [if_pos hkn]; rw [hkn]; exact ⟨hb, e1⟩
        · simp only [if_neg hkn]; exact a3 k (by omega)
      · by_cases hpq : p = q
        · subst hpq
          rw [e1]
          exact ⟨by omega, if_pos rfl⟩
        · have := a4 p (by omega) hpb
          exact ⟨by omega, by show (if ps s p = n1 - 1 then q else m (ps s p)) = p; rw [if_neg (by omega)]; exact this.2⟩
    · rw [mt, if_neg hb] at h
      obtain ⟨e1, m, ⟨a1, a2⟩, a3, a4⟩ := emb_of q n1 h
      refine ⟨by rw [ps_0 hb]; exact e1, m, ⟨fun k hk => ⟨by have := (a1 k hk).1; omega, (a1 k hk).2⟩, a2⟩, a3, fun p hp hpb => a4 p ?_ hpb⟩
      by_cases hpq : p = q
      · subst hpq; exact absurd hpb hb
      · omega
theorem set_of {f1 f2 : Nat → Nat} : ∀ n2 n1 m, emb n1 n2 f1 f2 m → ∃ s, s < 2 ^ n2 ∧ mt f1 f2 s n2 n1 = true ∧ ∀ k, k < n1 → s.testBit (m k) = true ∧ ps s (m k) = k
  | 0, n1, m, h => by
    have h0 : n1 = 0 := by
      cases n1 with
      | zero => rfl
      | succ n => exact absurd (h.1 n (Nat.lt_succ_self n)).1 (Nat.not_lt_zero _)
    subst h0
    exact ⟨0, Nat.one_pos, rfl, fun k hk => absurd hk (Nat.not_lt_zero k)⟩
  | q + 1, n1, m, h => by
    obtain ⟨h1, h2⟩ := h
    have e2 : 2 ^ (q + 1) = 2 ^ q + 2 ^ q := by rw [Nat.pow_succ]; omega
    by_cases hc : 0 < n1 ∧ m (n1 - 1) = q
    · obtain ⟨c1, c2⟩ := hc
      have hlt : ∀ k, k < n1 - 1 → m k < q := fun k hk => by have := h2 k (n1 - 1) (by omega) (by omega); omega
      obtain ⟨s, s1, s2, s3⟩ := set_of q (n1 - 1) m ⟨fun k hk => ⟨hlt k hk, (h1 k (by omega)).2⟩, fun j k hjk hk => h2 j k hjk (by omega)⟩
      have hps := (emb_of q (n1 - 1) s2).1
      refine ⟨2 ^ q + s, by omega, ?_, fun k hk => ?_⟩
      · rw [mt, if_pos (tb_self s1), Bool.and_eq_true, decide_eq_true_iff]
        exact ⟨⟨c1, by rw [(h1 (n1 - 1) (by omega)).2, c2]⟩, by rw [mt_cong q (n1 - 1) (fun i hi => tb_low hi)]; exact s2⟩
      · by_cases hkn : k = n1 - 1
        · rw [hkn, c2]
          exact ⟨tb_self s1, by rw [ps_cong q (fun i hi => tb_low hi)]; exact hps⟩
        · have hk2 := hlt k (by omega)
          have := s3 k (by omega)
          exact ⟨by rw [tb_low hk2]; exact this.1, by rw [ps_cong (m k) (fun i hi => tb_low (by omega))]; exact this.2⟩
    · have hlt : ∀ k, k < n1 → m k < q := fun k hk => by
        have a1 := (h1 k hk).1
        by_cases hkn : k = n1 - 1
        · have : m k ≠ q := fun z => hc ⟨by omega, by rw [← hkn]; exact z⟩
          omega
        · have a2 := h2 k (n1 - 1) (by omega) (by omega)
          have a3 := (h1 (n1 - 1) (by omega)).1
          omega
      obtain ⟨s, s1, s2, s3⟩ := set_of q n1 m ⟨fun k hk => ⟨hlt k hk, (h1 k hk).2⟩, h2⟩
      exact ⟨s, by omega, by rw [mt, if_neg (tb_hi s1)]; exact s2, s3⟩
/-! the greedy rows are the first and the last choice -/
theorem emb_full {n1 n2 : Nat} {f1 f2 m : Nat → Nat} (h : emb n1 n2 f1 f2 m) : gK n1 f1 f2 n2 = n1 := by
  have key : ∀ p, p ≤ n2 → ∀ j, j ≤ n1 → (∀ k, k < j → m k < p) → j ≤ gK n1 f1 f2 p := by
    intro p
    induction p with
    | zero =>
      intro _ j _ hk
      cases j with
      | zero => exact Nat.zero_le _
      | succ j => exact absurd (hk 0 (Nat.succ_pos j)) (Nat.not_lt_zero _)
    | succ p ih =>
      intro hp j hj hk
      have up : gK n1 f1 f2 p ≤ gK n1 f1 f2 (p + 1) := by
        by_cases hc : gK n1 f1 f2 p < n1 ∧ f1 (gK n1 f1 f2 p) = f2 p
        · rw [gK_s1 hc]; omega
        · rw [gK_s0 hc]; exact Nat.le_refl _
      cases j with
      | zero => exact Nat.zero_le _
      | succ j =>
        have i1 := ih (by omega) j (by omega) (fun k hkj => by
          have a1 := hk j (Nat.lt_succ_self j)
          have a2 := h.2 k j hkj (by omega)
          omega)
        by_cases hlt : m j < p
        · have := ih (by omega) (j + 1) hj (fun k hkj => by
            by_cases hkk : k = j
            · subst hkk; exact hlt
            · have a2 := h.2 k j (by omega) (by omega); omega)
          omega
        · by_cases hge : j + 1 ≤ gK n1 f1 f2 p
          · omega
          · have ej : gK n1 f1 f2 p = j := by omega
            have mj : m j = p := by have := hk j (Nat.lt_succ_self j); omega
            have hc : gK n1 f1 f2 p < n1 ∧ f1 (gK n1 f1 f2 p) = f2 p := by
              rw [ej]
              exact ⟨by omega, by rw [(h.1 j (by omega)).2, mj]⟩
            rw [gK_s1 hc, ej]
            exact Nat.le_refl _
  have h1 := key n2 (Nat.le_refl _) n1 (Nat.le_refl _) (fun k hk => (h.1 k hk).1)
  have h2 := gK_le n1 f1 f2 n2
  omega
theorem emb_ge {n1 n2 : Nat} {f1 f2 m : Nat → Nat} (h : emb n1 n2 f1 f2 m) : ∀ k, k < n1 → mb_A n1 n2 f1 f2 k ≤ m k
  | 0, hk => gA_least n1 f1 f2 n2 0 (m 0) (by rw [emb_full h]; exact hk) (h.1 0 hk).1 (h.1 0 hk).2 (Or.inl rfl)
  | k + 1, hk => by
    have i1 := emb_ge h k (by omega)
    have i2 := h.2 k (k + 1) (Nat.lt_succ_self k) hk
    refine gA_least n1 f1 f2 n2 (k + 1) (m (k + 1)) (by rw [emb_full h]; exact hk) (h.1 _ hk).1 (h.1 _ hk).2 (Or.inr ?_)
    rw [Nat.add_sub_cancel]
    exact Nat.lt_of_le_of_lt i1 i2
theorem emb_le {n1 n2 : Nat} {f1 f2 m : Nat → Nat} (h : emb n1 n2 f1 f2 m) : ∀ d k, k + d + 1 = n1 → m k ≤ mb_B n1 n2 f1 f2 k
  | 0, k, hk => gB_most f1 f2 n2 n1 _ k (m k) (by rw [gR_within (emb_full h)]; exact Nat.zero_le k) (by omega) (h.1 k (by omega)).1 (h.1 k (by omega)).2 (Or.inl (by omega))
  | d + 1, k, hk => by
    have i1 := emb_le h d (k + 1) (by omega)
    have i2 := h.2 k (k + 1) (Nat.lt_succ_self k) (by omega)
    exact gB_most f1 f2 n2 n1 _ k (m k) (by rw [gR_within (emb_full h)]; exact Nat.zero_le k) (by omega) (h.1 k (by omega)).1 (h.1 k (by omega)).2 (Or.inr (Nat.lt_of_lt_of_le i2 i1))
theorem emb_A {n1 n2 : Nat} {f1 f2 : Nat → Nat} (h : gK n1 f1 f2 n2 = n1) : emb n1 n2 f1 f2 (mb_A n1 n2 f1 f2) := by
  obtain ⟨h1, h2⟩ := gA_ok n1 f1 f2 n2
  rw [h] at h1 h2
  exact ⟨h1, fun j k hjk hk => sm_of h2 k j hjk hk⟩
theorem emb_B {n1 n2 : Nat} {f1 f2 : Nat → Nat} (h : gK n1 f1 f2 n2 = n1) : emb n1 n2 f1 f2 (mb_B n1 n2 f1 f2) :=
  ⟨fun k hk => gB_ok f1 f2 n2 n1 _ k (by rw [gR_within h]; exact Nat.zero_le k) hk, fun j k hjk hk => sm_of (fun k hk => gB_mono f1 f2 n2 n1 _ k (by rw [gR_within h]; exact Nat.zero_le k) hk) k j hjk hk⟩
/-- a place between the first and the last can be taken -/
theorem emb_mid {n1 n2 k q : Nat} {f1 f2 : Nat → Nat} (h : gK n1 f1 f2 n2 = n1) (hk : k < n1) (hq : q < n2) (hf : f1 k = f2 q) (h1 : mb_A n1 n2 f1 f2 k ≤ q) (h2 : q ≤ mb_B n1 n2 f1 f2 k) : emb n1 n2 f1 f2 (fun j => if j < k then mb_A n1 n2 f1 f2 j else if j = k then q else mb_B n1 n2 f1 f2 j) := by
  have eA := emb_A h
  have eB := emb_B h
  have l1 := (mb_left h hk hq hf).mp h1
  have l2 := (mb_right h hk hq hf).mp h2
  have lA : ∀ j, j < k → mb_A n1 n2 f1 f2 j < q := fun j hj => by
    rcases l1 with z | z
    · omega
    · by_cases hjk : j = k - 1
      · rw [hjk]; exact z
      · exact Nat.lt_trans (eA.2 j (k - 1) (by omega) (by omega)) z
  have lB : ∀ j, k < j → j < n1 → q < mb_B n1 n2 f1 f2 j := fun j hj hj1 => by
    rcases l2 with z | z
    · omega
    · by_cases hjk : j = k + 1
      · rw [hjk]; exact z
      · exact Nat.lt_trans z (eB.2 (k + 1) j (by omega) hj1)
  refine ⟨fun j hj => ?_, fun i j hij hj => ?_⟩
  · by_cases c1 : j < k
    · simp only [if_pos c1]; exact eA.1 j hj
    · by_cases c2 : j = k
      · simp only [if_neg c1, if_pos c2]; rw [c2]; exact ⟨hq, hf⟩
      · simp only [if_neg c1, if_neg c2]; exact eB.1 j hj
  · by_cases c1 : j < k
    · simp only [if_pos c1, if_pos (show i < k by omega)]; exact eA.2 i j hij hj
    · by_cases c2 : j = k
      · simp only [if_neg c1, if_pos c2, if_pos (show i < k by omega)]; exact lA i (by omega)
      · simp only [if_neg c1, if_neg c2]
        have hB := lB j (by omega) hj
        by_cases c3 : i < k
        · simp only [if_pos c3]; exact Nat.lt_trans (lA i c3) hB
        · by_cases c4 : i = k
          · simp only [if_neg c3, if_pos c4]; exact hB
          · simp only [if_neg c3, if_neg c4]; exact eB.2 i j hij hj
