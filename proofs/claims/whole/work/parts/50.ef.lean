
/-! CRIES: the text, letter by letter: how many DAYS are begun, their sizes, their WORDS -/
abbrev pr_S : Type := Nat × (Nat → Nat) × (Nat → Nat → Nat)
def lw (x : Int32) : Nat := (x - 97).toNatClampNeg
abbrev lt_P (x : Int32) : Prop := ¬ x < 97 ∧ ¬ (105 : Int32) ≤ x
theorem lt_of {x : Int32} (h : lt_P x) : ∃ w, w < 8 ∧ x = nI (97 + w) ∧ lw x = w ∧ x - 97 = nI w := by
  obtain ⟨h1, h2⟩ := h
  rcases pp_rng 105 (by decide) x with ⟨k, hk, rfl⟩ | h3
  · have h4 : 97 ≤ k := by
      by_cases h5 : 97 ≤ k
      · exact h5
      · exact absurd (show nI k < 97 from nI_lt (a := k) (b := 97) (by omega) (by decide)) h1
    have e : nI k - 97 = nI (k - 97) := pk_sub (b := 97) h4
    refine ⟨k - 97, by omega, by congr 1; omega, ?_, e⟩
    unfold lw
    rw [e, nI_clamp (by omega)]
  · exfalso
    rcases h3 with h3 | h3
    · exact h1 (Int32.lt_trans h3 (by decide))
    · exact h2 h3
theorem lt_59 : ¬ lt_P 59 := fun h => h.1 (by decide)
theorem lt_c {x : Int32} {h : tt_H} : (lt_P x → s_X8_isLetter x h = some (1, h)) ∧ (¬ lt_P x → s_X8_isLetter x h = some (0, h)) := by
  unfold s_X8_isLetter lt_P
  by_cases h1 : x < 97
  · exact ⟨fun z => absurd h1 z.1, fun _ => if_pos h1⟩
  · by_cases h2 : (105 : Int32) ≤ x
    · exact ⟨fun z => absurd h2 z.2, fun _ => by rw [if_neg h1, if_pos h2]⟩
    · exact ⟨fun _ => by rw [if_neg h1, if_neg h2], fun z => absurd ⟨h1, h2⟩ z⟩
theorem lt_m {x : Int32} {h : tt_H} : (lt_P x → s_X9_inside x 97 104 h = some (1, h)) ∧ (¬ lt_P x → s_X9_inside x 97 104 h = some (0, h)) := by
  have e : (104 : Int32) < x ↔ (105 : Int32) ≤ x := by
    rw [Int32.lt_iff_toInt_lt, Int32.le_iff_toInt_le]
    have e1 : (104 : Int32).toInt = 104 := rfl
    have e2 : (105 : Int32).toInt = 105 := rfl
    omega
  rw [pi_inside]
  unfold lt_P
  constructor
  · rintro ⟨h1, h2⟩
    rw [if_neg (fun z => z.elim h1 (fun q => h2 (e.mp q)))]
  · intro hn
    rw [if_pos]
    by_cases h1 : x < 97
    · exact Or.inl h1
    · by_cases h2 : (105 : Int32) ≤ x
      · exact Or.inr (e.mpr h2)
      · exact absurd ⟨h1, h2⟩ hn
def pr_add (S : pr_S) (w : Nat) : pr_S := (S.1, (fun j => if j = S.1 - 1 then S.2.1 (S.1 - 1) + 1 else S.2.1 j), (fun j => if j = S.1 - 1 then ins_f (S.2.1 (S.1 - 1)) w (S.2.2 (S.1 - 1)) else S.2.2 j))
def pr_next (S : pr_S) : pr_S := (S.1 + 1, (fun j => if j = S.1 then 0 else S.2.1 j), S.2.2)
/-- what stops the text, or what it tells; by cases that say which -/
def pr_L (S : pr_S) : Nat := S.2.1 (S.1 - 1)
def pr_ok (c : Nat → Int32) : Nat → Nat → pr_S → pr_S → Prop
  | 0, _, S, S' => 0 < pr_L S ∧ S' = S
  | s + 1, p, S, S' => (lt_P (c p) ∧ pr_L S < 12 ∧ pr_ok c s (p + 1) (pr_add S (lw (c p))) S') ∨ (c p = 59 ∧ 0 < pr_L S ∧ S.1 < 6 ∧ pr_ok c s (p + 1) (pr_next S) S')
def pr_no (c : Nat → Int32) : Nat → Nat → pr_S → Nat → Prop
  | 0, p, S, q => pr_L S = 0 ∧ q = p
  | s + 1, p, S, q => (lt_P (c p) ∧ pr_L S < 12 ∧ pr_no c s (p + 1) (pr_add S (lw (c p))) q) ∨ (c p = 59 ∧ 0 < pr_L S ∧ S.1 < 6 ∧ pr_no c s (p + 1) (pr_next S) q) ∨ (¬ (lt_P (c p) ∧ pr_L S < 12) ∧ ¬ (c p = 59 ∧ 0 < pr_L S ∧ S.1 < 6) ∧ q = p)
theorem pr_or (c : Nat → Int32) : ∀ s p S, (∃ S', pr_ok c s p S S') ∨ ∃ q, pr_no c s p S q
  | 0, p, S => by
    by_cases h : 0 < pr_L S
    · exact Or.inl ⟨S, h, rfl⟩
    · exact Or.inr ⟨p, by omega, rfl⟩
  | s + 1, p, S => by
    by_cases h1 : lt_P (c p) ∧ pr_L S < 12
    · rcases pr_or c s (p + 1) (pr_add S (lw (c p))) with ⟨S', h⟩ | ⟨q, h⟩
      · exact Or.inl ⟨S', Or.inl ⟨h1.1, h1.2, h⟩⟩
      · exact Or.inr ⟨q, Or.inl ⟨h1.1, h1.2, h⟩⟩
    · by_cases h2 : c p = 59 ∧ 0 < pr_L S ∧ S.1 < 6
      · rcases pr_or c s (p + 1) (pr_next S) with ⟨S', h⟩ | ⟨q, h⟩
        · exact Or.inl ⟨S', Or.inr ⟨h2.1, h2.2.1, h2.2.2, h⟩⟩
        · exact Or.inr ⟨q, Or.inr (Or.inl ⟨h2.1, h2.2.1, h2.2.2, h⟩)⟩
      · exact Or.inr ⟨p, Or.inr (Or.inr ⟨h1, h2, rfl⟩)⟩
theorem pr_noP (c : Nat → Int32) : ∀ s p S q, pr_no c s p S q → q ≤ p + s
  | 0, p, S, q, h => by rw [h.2]; exact Nat.le_refl _
  | s + 1, p, S, q, h => by
    rcases h with ⟨_, _, h⟩ | ⟨_, _, _, h⟩ | ⟨_, _, h⟩
    · have := pr_noP c s (p + 1) _ q h; omega
    · have := pr_noP c s (p + 1) _ q h; omega
    · omega
/-- what is read so far is in order -/
def pr_W (S : pr_S) : Prop := 0 < S.1 ∧ S.1 ≤ 6 ∧ (∀ d, d + 1 < S.1 → 0 < S.2.1 d) ∧ ∀ d, d < S.1 → S.2.1 d ≤ 12 ∧ ∀ k, k < S.2.1 d → S.2.2 d k < 8
theorem pr_Wa {S : pr_S} (h : pr_W S) {w : Nat} (hw : w < 8) (hl : pr_L S < 12) : pr_W (pr_add S w) := by
  obtain ⟨h1, h2, h3, h4⟩ := h
  unfold pr_L at hl
  refine ⟨h1, h2, fun d hd => ?_, fun d hd => ?_⟩
  · show 0 < (if d = S.1 - 1 then S.2.1 (S.1 - 1) + 1 else S.2.1 d)
    split
    · omega
    · exact h3 d hd
  · by_cases hds : d = S.1 - 1
    · have e1 : (pr_add S w).2.1 d = S.2.1 (S.1 - 1) + 1 := if_pos hds
      have e2 : (pr_add S w).2.2 d = ins_f (S.2.1 (S.1 - 1)) w (S.2.2 (S.1 - 1)) := if_pos hds
      rw [e1, e2]
      refine ⟨by omega, fun k hk => ?_⟩
      unfold ins_f
      split
      · exact (h4 (S.1 - 1) (by omega)).2 k (by omega)
      · split
        · exact hw
        · omega
    · have e1 : (pr_add S w).2.1 d = S.2.1 d := if_neg hds
      have e2 : (pr_add S w).2.2 d = S.2.2 d := if_neg hds
      rw [e1, e2]
      exact h4 d hd
theorem pr_Wn {S : pr_S} (h : pr_W S) (hl : 0 < pr_L S) (h6 : S.1 < 6) : pr_W (pr_next S) := by
  obtain ⟨h1, h2, h3, h4⟩ := h
  unfold pr_L at hl
  refine ⟨Nat.succ_pos _, h6, fun d hd => ?_, fun d hd => ?_⟩
  · have hd2 : d < S.1 := by have : d + 1 < S.1 + 1 := hd; omega
    show 0 < (if d = S.1 then 0 else S.2.1 d)
    rw [if_neg (by omega)]
    by_cases hds : d = S.1 - 1
    · rw [hds]; exact hl
    · exact h3 d (by omega)
  · have hd2 : d < S.1 + 1 := hd
    by_cases hds : d = S.1
    · have e1 : (pr_next S).2.1 d = 0 := if_pos hds
      rw [e1]
      exact ⟨by omega, fun k hk => absurd hk (Nat.not_lt_zero k)⟩
    · have e1 : (pr_next S).2.1 d = S.2.1 d := if_neg hds
      rw [e1]
      exact h4 d (by omega)
theorem pr_Wk (c : Nat → Int32) : ∀ s p S S', pr_W S → pr_ok c s p S S' → pr_W S' ∧ 0 < pr_L S'
  | 0, _, S, S', hW, h => by rw [h.2]; exact ⟨hW, h.1⟩
  | s + 1, p, S, S', hW, h => by
    rcases h with ⟨h1, h2, h⟩ | ⟨h1, h2, h3, h⟩
    · obtain ⟨w, hw, -, e, -⟩ := lt_of h1
      exact pr_Wk c s (p + 1) _ S' (pr_Wa hW (by rw [e]; exact hw) h2) h
    · exact pr_Wk c s (p + 1) _ S' (pr_Wn hW h2 h3) h
theorem pr_V {kn : Nat → Nat} {so sl : Nat → Nat} {sc : Nat → Nat → Int32} {tr ft : Int32} {S : pr_S} (hW : pr_W S) (hl : 0 < pr_L S) (v0 : ∀ w, w < 8 → kn w < 3) (v3 : ∀ k, k < 4 → so k ≠ 9 → so k < 3 ∧ sl k ≤ 80) : pp_V (kn, S.1, S.2.1, S.2.2, so, sl, sc, tr, ft) := by
  obtain ⟨h1, h2, h3, h4⟩ := hW
  refine ⟨v0, h2, fun d hd => ⟨?_, (h4 d hd).1, (h4 d hd).2⟩, v3⟩
  by_cases hds : d = S.1 - 1
  · unfold pr_L at hl; rw [hds]; exact hl
  · exact h3 d (by omega)
/-! the class: the first fault -/

theorem pr_La (S : pr_S) (w : Nat) : pr_L (pr_add S w) = pr_L S + 1 := if_pos rfl
theorem pr_Ln (S : pr_S) : pr_L (pr_next S) = 0 := if_pos rfl
theorem pr_L12 {S : pr_S} (h : pr_W S) : pr_L S ≤ 12 := (h.2.2.2 (S.1 - 1) (by have := h.1; omega)).1
section FFC
variable {h : tt_H} {b s0 L i n : Nat} {c : Nat → Int32}
theorem ff_step (hS : sh_S h b s0 L c) (h9 : s0 ≠ 9) (hin : i + n ≤ L) (hL : L ≤ 80) {p l bg fu : Nat} (hp : p < n) (hl : l ≤ 12) (hb : bg ≤ 6) :
    s_X8_firstFaultOf_L8 (fu + 1) b (nI i) (nI n) (nI bg) (nI l) (nI p) h = (if lt_P (c (i + p)) ∧ l < 12 then s_X8_firstFaultOf_L8 fu b (nI i) (nI n) (nI bg) (nI (l + 1)) (nI (p + 1)) h else if c (i + p) = 59 ∧ 0 < l ∧ bg < 6 then s_X8_firstFaultOf_L8 fu b (nI i) (nI n) (nI (bg + 1)) (nI 0) (nI (p + 1)) h else some (nI p, h)) := by
  have j45 : s_X8_firstFaultOf_J45 (s_X8_firstFaultOf_J75 (s_X8_firstFaultOf_L8 fu)) b (nI i) (nI n) (nI bg) (nI l) (nI p) (c (i + p)) h = (if c (i + p) = 59 ∧ 0 < l ∧ bg < 6 then s_X8_firstFaultOf_L8 fu b (nI i) (nI n) (nI (bg + 1)) (nI 0) (nI (p + 1)) h else some (nI p, h)) := by
    unfold s_X8_firstFaultOf_J45 s_X8_firstFaultOf_J75
    by_cases h1 : c (i + p) = 59
    · rw [if_pos h1]
      by_cases h2 : 0 < l
      · rw [if_neg (nI_nle h2 (by omega))]
        by_cases h3 : bg < 6
        · rw [if_neg (show ¬ (6 : Int32) ≤ nI bg from nI_ge (a := bg) (b := 6) h3 (by decide)), if_pos ⟨h1, h2, h3⟩, nI_1, nI_1]
          rfl
        · rw [if_pos (show (6 : Int32) ≤ nI bg from nI_le (a := 6) (b := bg) (by omega) (by omega)), if_neg (fun z => h3 z.2.2)]
      · rw [if_pos (show nI l ≤ 0 from nI_le (a := l) (b := 0) (by omega) (by decide)), if_neg (fun z => h2 z.2.1)]
    · rw [if_neg h1, if_neg (fun z => h1 z.1)]
  rw [s_X8_firstFaultOf_L8, if_neg (nI_ge hp (by omega)), sh_b hS, nI_add, sh_at hS h9 (by omega), pp_bind]
  by_cases h1 : lt_P (c (i + p))
  · simp only [lt_c.1 h1, pp_bind, pn_10, ↓reduceIte]
    by_cases h2 : l < 12
    · rw [if_neg (show ¬ (12 : Int32) ≤ nI l from nI_ge (a := l) (b := 12) h2 (by decide)), if_pos ⟨h1, h2⟩, s_X8_firstFaultOf_J75, nI_1, nI_1]
    · rw [if_pos (show (12 : Int32) ≤ nI l from nI_le (a := 12) (b := l) (by omega) (by omega)), if_neg (fun z => h2 z.2)]
      exact j45
  · simp only [lt_c.2 h1, pp_bind, pn_00, ↓reduceIte]
    rw [if_neg (fun z => h1 z.1)]
    exact j45
theorem ff_end (l bg p fu : Nat) (hp : n ≤ p) (hp2 : p < 1000) (hl : l ≤ 12) : s_X8_firstFaultOf_L8 (fu + 1) b (nI i) (nI n) (nI bg) (nI l) (nI p) h = some (if l = 0 then nI n else -9, h) := by
  rw [s_X8_firstFaultOf_L8, if_pos (nI_le hp (by omega))]
  by_cases h0 : l = 0
  · rw [if_pos (by rw [h0]; rfl), if_pos h0]
  · rw [if_neg (nI_ne0 (by omega) (by omega)), if_neg h0]
theorem ff_c (hS : sh_S h b s0 L c) (h9 : s0 ≠ 9) (hin : i + n ≤ L) (hL : L ≤ 80) : ∀ (s p fu : Nat) (S : pr_S), pr_W S → p + s = n → s < fu →
    (∀ S', pr_ok (fun p => c (i + p)) s p S S' → s_X8_firstFaultOf_L8 fu b (nI i) (nI n) (nI S.1) (nI (pr_L S)) (nI p) h = some (-9, h)) ∧ (∀ q, pr_no (fun p => c (i + p)) s p S q → s_X8_firstFaultOf_L8 fu b (nI i) (nI n) (nI S.1) (nI (pr_L S)) (nI p) h = some (nI q, h)) := by
  intro s
  induction s with
  | zero =>
    intro p fu S hW hp hfu
    obtain ⟨fu, rfl⟩ : ∃ z, fu = z + 1 := ⟨fu - 1, by omega⟩
    have l12 := pr_L12 hW
    refine ⟨fun S' hk => ?_, fun q hk => ?_⟩
    · rw [ff_end _ _ _ _ (by omega) (by omega) l12, if_neg (by have := hk.1; omega)]
    · rw [ff_end _ _ _ _ (by omega) (by omega) l12, if_pos hk.1, hk.2, show n = p by omega]
  | succ s ih =>
    intro p fu S hW hp hfu
    obtain ⟨fu, rfl⟩ : ∃ z, fu = z + 1 := ⟨fu - 1, by omega⟩
    have l12 := pr_L12 hW
    have b6 := hW.2.1
    rw [ff_step hS h9 hin hL (show p < n by omega) l12 b6]
    refine ⟨fun S' hk => ?_, fun q hk => ?_⟩
    · rcases hk with ⟨h1, h2, hk⟩ | ⟨h1, h2, h3, hk⟩
      · obtain ⟨w, hw, -, e, -⟩ := lt_of h1
        have := (ih (p + 1) fu _ (pr_Wa hW (w := lw (c (i + p))) (by rw [e]; exact hw) h2) (by omega) (by omega)).1 S' hk
        rw [pr_La] at this
        rw [if_pos ⟨h1, h2⟩]
        exact this
      · have := (ih (p + 1) fu _ (pr_Wn hW h2 h3) (by omega) (by omega)).1 S' hk
        rw [pr_Ln] at this
        rw [if_neg (fun z => lt_59 (by have := z.1; rw [show c (i + p) = 59 from h1] at this; exact this)), if_pos ⟨h1, h2, h3⟩]
        exact this
    · rcases hk with ⟨h1, h2, hk⟩ | ⟨h1, h2, h3, hk⟩ | ⟨h1, h2, hk⟩
      · obtain ⟨w, hw, -, e, -⟩ := lt_of h1
        have := (ih (p + 1) fu _ (pr_Wa hW (w := lw (c (i + p))) (by rw [e]; exact hw) h2) (by omega) (by omega)).2 q hk
        rw [pr_La] at this
        rw [if_pos ⟨h1, h2⟩]
        exact this
      · have := (ih (p + 1) fu _ (pr_Wn hW h2 h3) (by omega) (by omega)).2 q hk
        rw [pr_Ln] at this
        rw [if_neg (fun z => lt_59 (by have := z.1; rw [show c (i + p) = 59 from h1] at this; exact this)), if_pos ⟨h1, h2, h3⟩]
        exact this
      · rw [if_neg h1, if_neg h2, hk]
end FFC
/-! the class: the text is taken -/
section TKC
variable {kn : Nat → Nat} {dc : Nat} {sz : Nat → Nat} {wd : Nat → Nat → Nat} {so sl : Nat → Nat} {sc : Nat → Nat → Int32} {tr ft : Int32} {h : tt_H}
theorem cry_raw {d : Nat} (e0 : h 0 = some (cc_ob dc tr ft)) (e1 : ∃ g : Nat → Option Nat, h 2 = some (tt_qa 3 6 g) ∧ ∀ d, d < 6 → g d = some (29 + 2 * d)) (hd : d < dc) (hdc : dc ≤ 6) : s_X8_lastCry 0 h = some (some (29 + 2 * (dc - 1)), h) := by
  have hin : ∀ d, d < dc → s_X8_cryOf 0 (nI d) h = some (some (29 + 2 * d), h) := fun d hd => by
    unfold s_X8_cryOf
    obtain ⟨g, e1, e2⟩ := e1
    rw [if_neg (nI_pos (by omega)), pp_fi e0 (k := 10) (v := nI dc) rfl, pp_bind, if_neg (nI_ge hd (by omega)), if_neg (show ¬ (6 : Int32) ≤ nI d from nI_ge (a := d) (b := 6) (by omega) (by decide)), pp_fr e0 (k := 1) (v := 2) rfl, pp_bind, pp_ql e1 (by omega) (by decide) (e2 d (by omega)), pp_bind]
  unfold s_X8_lastCry
  rw [pp_fi e0 (k := 10) (v := nI dc) rfl, pp_bind, pp_obj e0, pp_bind, pp_m1 (by omega), hin (dc - 1) (by omega), pp_bind]
theorem sh_of3 {k : Nat} (v3 : ∀ k, k < 4 → so k ≠ 9 → so k < 3 ∧ sl k ≤ 80) (ha : cc_I (kn, dc, sz, wd, so, sl, sc, tr, ft) h) (hk : k < 4) : sh_S h (41 + 2 * k) (so k) (sl k) (sc k) := by
  obtain ⟨-, -, -, -, -, -, a6, -⟩ := ha
  obtain ⟨g, q, e1, e2, e3⟩ := a6 k hk
  exact ⟨g, q, e1, e2, fun z => ⟨(e3 z).1, (e3 z).2, v3 k hk z⟩⟩
theorem cc_dc0 (ha : cc_A (kn, dc, sz, wd, so, sl, sc, tr, ft) h) : cc_A (kn, 0, sz, wd, so, sl, sc, tr, ft) (va_up h 0 (some (cc_ob 0 tr ft))) := by
  have e : ∀ i, i ≠ 0 → va_up h 0 (some (cc_ob 0 tr ft)) i = h i := fun i hi => va_up_ne _ _ hi
  obtain ⟨⟨a0, a1, a2, a3, a4, a5, a6, a7⟩, hS⟩ := ha
  refine ⟨⟨va_up_self _ _ _, by rw [e 1 (by decide)]; exact a1, by rw [e 2 (by decide)]; exact a2, by rw [e 3 (by decide)]; exact a3, fun d hd => ?_, by rw [e 4 (by decide), e 5 (by decide)]; exact a5, fun k hk => ?_, ?_⟩, ?_⟩
  · obtain ⟨g, z, c1, c2, -⟩ := a4 d hd
    exact ⟨g, z, by rw [e _ (by omega)]; exact c1, by rw [e _ (by omega)]; exact c2, fun q => absurd q (Nat.not_lt_zero d)⟩
  · rw [e _ (by omega), e _ (by omega)]; exact a6 k hk
  · rw [e 6 (by decide), e 10 (by decide), e 13 (by decide), e 14 (by decide), e 16 (by decide), e 19 (by decide), e 21 (by decide), e 24 (by decide), e 26 (by decide)]; exact a7
  · obtain ⟨s1, s2, s3, s4, s5⟩ := hS
    refine ⟨fun q hq => ?_, fun q hq => ?_, by rw [e 11 (by decide)]; exact s3, by rw [e 18 (by decide)]; exact s4, by rw [e 23 (by decide)]; exact s5⟩
    · rw [e q.1 (by revert q; decide)]; exact s1 q hq
    · rw [e q.1 (by revert q; decide)]; exact s2 q hq
theorem cl_begin (ha : cc_A (kn, dc, sz, wd, so, sl, sc, tr, ft) h) (h6 : dc < 6) : ∃ h1, s_X8_beginDay 0 h = some ((), h1) ∧ cc_A (kn, dc + 1, (fun j => if j = dc then 0 else sz j), wd, so, sl, sc, tr, ft) h1 ∧ ∀ i, 49 ≤ i → h1 i = h i := by
  obtain ⟨⟨a0, a1, a2, a3, a4, a5, a6, a7⟩, hS⟩ := ha
  obtain ⟨g0, z0, c1, c2, -⟩ := a4 dc h6
  have p1 : gg_put h 0 8 10 (.int (nI (dc + 1))) = some (va_up h 0 (some (cc_ob (dc + 1) tr ft))) := pp_put a0 _ (Nat.le_of_ble_eq_true rfl)
  have q0 : va_up h 0 (some (cc_ob (dc + 1) tr ft)) 0 = some (cc_ob (dc + 1) tr ft) := va_up_self _ _ _
  have ql := cry_raw (d := dc) q0 (by rw [va_up_ne _ _ (by decide)]; exact a2) (Nat.lt_succ_self dc) (by omega)
  rw [show dc + 1 - 1 = dc by omega] at ql
  have c1' : va_up h 0 (some (cc_ob (dc + 1) tr ft)) (29 + 2 * dc) = some (tt_ob 2 [.ref (29 + 2 * dc + 1), .int z0]) := by rw [va_up_ne _ _ (by omega)]; exact c1
  have p2 : gg_put (va_up h 0 (some (cc_ob (dc + 1) tr ft))) (29 + 2 * dc) 2 1 (.int 0) = some (va_up (va_up h 0 (some (cc_ob (dc + 1) tr ft))) (29 + 2 * dc) (some (tt_ob 2 [.ref (29 + 2 * dc + 1), .int 0]))) := pp_put c1' _ (Nat.le_of_ble_eq_true rfl)
  have e : ∀ i, i ≠ 0 → i ≠ 29 + 2 * dc → va_up (va_up h 0 (some (cc_ob (dc + 1) tr ft))) (29 + 2 * dc) (some (tt_ob 2 [.ref (29 + 2 * dc + 1), .int 0])) i = h i := fun i i1 i2 => by rw [va_up_ne _ _ i2, va_up_ne _ _ i1]
  refine ⟨va_up (va_up h 0 (some (cc_ob (dc + 1) tr ft))) (29 + 2 * dc) (some (tt_ob 2 [.ref (29 + 2 * dc + 1), .int 0])), ?_, ⟨⟨by rw [va_up_ne _ _ (by omega)]; exact q0, by rw [e 1 (by decide) (by omega)]; exact a1, by rw [e 2 (by decide) (by omega)]; exact a2, by rw [e 3 (by decide) (by omega)]; exact a3, fun d hd => ?_, by rw [e 4 (by decide) (by omega), e 5 (by decide) (by omega)]; exact a5, fun k hk => ?_, ?_⟩, ?_⟩, fun i hi => e i (by omega) (by omega)⟩
  · unfold s_X8_beginDay s_X2_clear
    simp only [pp_fi a0 (k := 10) (v := nI dc) rfl, show nI dc < 6 from nI_lt (a := dc) (b := 6) h6 (by decide), nI_1, p1, pp_obj q0, ql, gg_opt_some, pp_obj c1', p2, pp_bind, ↓reduceIte]
  · by_cases hdd : d = dc
    · subst hdd
      refine ⟨g0, 0, va_up_self _ _ _, by rw [e _ (by omega) (by omega)]; exact c2, fun _ => ?_⟩
      simp only [if_true]
      exact ⟨rfl, fun k hk => absurd hk (Nat.not_lt_zero k)⟩
    · obtain ⟨g, z, d1, d2, d3⟩ := a4 d hd
      refine ⟨g, z, by rw [e _ (by omega) (by omega)]; exact d1, by rw [e _ (by omega) (by omega)]; exact d2, fun q => ?_⟩
      simp only [if_neg hdd]
      exact d3 (by omega)
  · rw [e _ (by omega) (by omega), e _ (by omega) (by omega)]; exact a6 k hk
  · rw [e 6 (by decide) (by omega), e 10 (by decide) (by omega), e 13 (by decide) (by omega), e 14 (by decide) (by omega), e 16 (by decide) (by omega), e 19 (by decide) (by omega), e 21 (by decide) (by omega), e 24 (by decide) (by omega), e 26 (by decide) (by omega)]; exact a7
  · obtain ⟨s1, s2, s3, s4, s5⟩ := hS
    refine ⟨fun q hq => ?_, fun q hq => ?_, by rw [e 11 (by decide) (by omega)]; exact s3, by rw [e 18 (by decide) (by omega)]; exact s4, by rw [e 23 (by decide) (by omega)]; exact s5⟩
    · have : q.1 ≠ 0 ∧ q.1 < 29 := by revert q; decide
      rw [e q.1 this.1 (by omega)]; exact s1 q hq
    · have : q.1 ≠ 0 ∧ q.1 < 29 := by revert q; decide
      rw [e q.1 this.1 (by omega)]; exact s2 q hq
theorem tk_c (v3 : ∀ k, k < 4 → so k ≠ 9 → so k < 3 ∧ sl k ≤ 80) {k i n : Nat} (hk : k < 4) (h9 : so k ≠ 9) (hin : i + n ≤ sl k) : ∀ (s p fu : Nat) (S S' : pr_S) (h : tt_H), pr_W S → pr_ok (fun p => sc k (i + p)) s p S S' → cc_A (kn, S.1, S.2.1, S.2.2, so, sl, sc, tr, ft) h → p + s = n → s < fu → ∃ h1, s_X8_takeText_L12 fu 0 (41 + 2 * k) (nI i) (nI n) (nI p) h = some ((), h1) ∧ cc_A (kn, S'.1, S'.2.1, S'.2.2, so, sl, sc, tr, ft) h1 ∧ ∀ i, 49 ≤ i → h1 i = h i := by
  have hL := (v3 k hk h9).2
  intro s
  induction s with
  | zero =>
    intro p fu S S' h hW hok ha hp hfu
    obtain ⟨fu, rfl⟩ : ∃ z, fu = z + 1 := ⟨fu - 1, by omega⟩
    refine ⟨h, ?_, by rw [hok.2]; exact ha, fun _ _ => rfl⟩
    rw [s_X8_takeText_L12, if_pos (nI_le (by omega) (by omega))]
  | succ s ih =>
    intro p fu S S' h hW hok ha hp hfu
    obtain ⟨fu, rfl⟩ : ∃ z, fu = z + 1 := ⟨fu - 1, by omega⟩
    have hS := sh_of3 v3 ha.1 hk
    have hl := cry_raw (d := 0) ha.1.1 ha.1.2.2.1 hW.1 hW.2.1
    rw [s_X8_takeText_L12, if_neg (nI_ge (by omega) (by omega)), sh_b hS, nI_add, sh_at hS h9 (by omega), pp_bind]
    simp only [ca_b ha.1, hl, pp_bind]
    rcases hok with ⟨h1, h2, hok⟩ | ⟨h1, h2, h3, hok⟩
    · obtain ⟨w, hw, e1, e2, e3⟩ := lt_of h1
      have n59 : ¬ sc k (i + p) = 59 := fun z => lt_59 (by have := h1; simp only [] at this; rw [z] at this; exact this)
      have hWa := pr_Wa hW (w := lw (sc k (i + p))) (by rw [show lw (sc k (i + p)) = w from e2]; exact hw) h2
      rw [show lw ((fun p => sc k (i + p)) p) = w from e2] at hok
      rw [show lw (sc k (i + p)) = w from e2] at hWa
      obtain ⟨g, z, a1, a2, a3⟩ := ha.1.2.2.2.2.1 (S.1 - 1) (by have := hW.1; have := hW.2.1; omega)
      obtain ⟨rfl, a4⟩ := a3 (by have := hW.1; omega)
      have h2' : S.2.1 (S.1 - 1) < 12 := h2
      obtain ⟨g', f1, f2⟩ := ins_c (p := S.2.1 (S.1 - 1)) (x := nI w) a1 a2 h2' (Nat.le_refl _)
      have hA := cc_day ha (d := S.1 - 1) (n' := S.2.1 (S.1 - 1) + 1) (f' := ins_f (S.2.1 (S.1 - 1)) w (S.2.2 (S.1 - 1))) (g' := g') (by have := hW.1; have := hW.2.1; omega) (fun q hq => by
        rw [f2 q (by omega)]
        unfold ins_f
        split
        · exact a4 q (by omega)
        · split
          · rfl
          · omega)
      obtain ⟨h4, b1, b2, b3⟩ := ih (p + 1) fu (pr_add S w) S' _ hWa hok hA (by omega) (by omega)
      refine ⟨h4, ?_, b2, fun j hj => (b3 j hj).trans (by rw [va_up_ne _ _ (by have := hW.2.1; omega), va_up_ne _ _ (by have := hW.2.1; omega)])⟩
      rw [if_neg n59]
      have e3' : sc k (i + p) - 97 = nI w := e3
      have hsz : s_X2_size (29 + 2 * (S.1 - 1)) h = some (nI (S.2.1 (S.1 - 1)), h) := by
        unfold s_X2_size
        rw [pp_fi a1 (k := 1) (v := nI (S.2.1 (S.1 - 1))) rfl, pp_bind]
      simp only [gg_opt_some, lt_c.1 h1, pp_obj a1, hsz, e3', f1, s_X8_takeText_J76, nI_1, pp_bind, pn_10, ↓reduceIte]
      exact b1
    · have h1' : sc k (i + p) = 59 := h1
      obtain ⟨h3', d1, d2, d3⟩ := cl_begin ha h3
      obtain ⟨h4, b1, b2, b3⟩ := ih (p + 1) fu (pr_next S) S' h3' (pr_Wn hW h2 h3) hok d2 (by omega) (by omega)
      refine ⟨h4, ?_, b2, fun j hj => (b3 j hj).trans (d3 j hj)⟩
      rw [if_pos h1', d1, pp_bind, s_X8_takeText_J76, nI_1]
      exact b1
theorem cl_take (v3 : ∀ k, k < 4 → so k ≠ 9 → so k < 3 ∧ sl k ≤ 80) {k i n : Nat} (hk : k < 4) (h9 : so k ≠ 9) (hin : i + n ≤ sl k) {S' : pr_S} (ha : cc_A (kn, dc, sz, wd, so, sl, sc, tr, ft) h) (hok : pr_ok (fun p => sc k (i + p)) n 0 (pr_next (0, sz, wd)) S') : ∃ h1, s_X8_takeText 0 (41 + 2 * k) (nI i) (nI n) h = some ((), h1) ∧ cc_A (kn, S'.1, S'.2.1, S'.2.2, so, sl, sc, tr, ft) h1 ∧ ∀ i, 49 ≤ i → h1 i = h i := by
  have hL := (v3 k hk h9).2
  have p1 : gg_put h 0 8 10 (.int 0) = some (va_up h 0 (some (cc_ob 0 tr ft))) := pp_put ha.1.1 _ (Nat.le_of_ble_eq_true rfl)
  have h0 := cc_dc0 ha
  obtain ⟨h2, d1, d2, d3⟩ := cl_begin h0 (by decide)
  obtain ⟨h3, b1, b2, b3⟩ := tk_c v3 hk h9 hin n 0 1000 (pr_next (0, sz, wd)) S' h2 ⟨Nat.le_of_ble_eq_true rfl, Nat.le_of_ble_eq_true rfl, fun d hd => by have : d + 1 < 0 + 1 := hd; omega, fun d hd => by
    have hd2 : d < 0 + 1 := hd
    have e1 : (pr_next (0, sz, wd)).2.1 d = 0 := if_pos (show d = 0 by omega)
    rw [e1]
    exact ⟨by omega, fun q hq => absurd hq (Nat.not_lt_zero q)⟩⟩ hok d2 (by omega) (by omega)
  refine ⟨h3, ?_, b2, fun j hj => (b3 j hj).trans ((d3 j hj).trans (va_up_ne _ _ (by omega)))⟩
  unfold s_X8_takeText
  rw [p1, pp_bind, ca_b h0.1, d1, pp_bind]
  exact b1
end TKC
