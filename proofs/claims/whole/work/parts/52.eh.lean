
/-! WHAT IS SAID: the model's state (the set, denying, the latest), and the class's for one WORD w (said, denying, latest) -/
abbrev sy_S : Type := Nat × Bool × Nat
abbrev sy_T : Type := Bool × Bool × Bool
def sy_st (kn : Nat → Nat) (st : sy_S) (v : Nat) : sy_S := if kn v = 0 then ((if st.2.1 = true then st.1 &&& (255 - 2 ^ v) else st.1 ||| 2 ^ v), false, v) else ((if kn v = 2 ∧ st.2.2 ≠ 9 then st.1 &&& (255 - 2 ^ st.2.2) else st.1), !st.2.1, st.2.2)
def sy_af (kn : Nat → Nat) (w : Nat) (t : sy_T) (v : Nat) : sy_T := if kn v = 0 then (if v = w then (!t.2.1, false, true) else (t.1, false, false)) else ((if kn v = 2 ∧ t.2.2 = true then false else t.1), !t.2.1, t.2.2)
def sy_ab (w : Nat) (st : sy_S) : sy_T := (st.1.testBit w, st.2.1, decide (st.2.2 = w))
def sy_G (kn : Nat → Nat) (st : sy_S) : Prop := (∀ x, st.1.testBit x = true → x < 8 ∧ kn x = 0) ∧ (st.2.2 = 9 ∨ st.2.2 < 8)
theorem sy_255 : ∀ v, v < 8 → ∀ x, x < 8 → (255 - 2 ^ v).testBit x = decide (x ≠ v) := by decide
theorem sy_Gs {kn : Nat → Nat} {st : sy_S} (h : sy_G kn st) {v : Nat} (hv : v < 8) : sy_G kn (sy_st kn st v) := by
  obtain ⟨h1, h2⟩ := h
  have hand : ∀ m x, (st.1 &&& m).testBit x = true → x < 8 ∧ kn x = 0 := fun m x hx => by
    rw [Nat.testBit_and, Bool.and_eq_true] at hx
    exact h1 x hx.1
  unfold sy_st
  by_cases h0 : kn v = 0
  · rw [if_pos h0]
    refine ⟨fun x hx => ?_, Or.inr hv⟩
    by_cases hd : st.2.1 = true
    · simp only [if_pos hd] at hx; exact hand _ x hx
    · simp only [if_neg hd] at hx
      rw [Nat.testBit_or, Nat.testBit_two_pow, Bool.or_eq_true, decide_eq_true_eq] at hx
      rcases hx with hx | hx
      · exact h1 x hx
      · rw [← hx]; exact ⟨hv, h0⟩
  · rw [if_neg h0]
    refine ⟨fun x hx => ?_, h2⟩
    by_cases hd : kn v = 2 ∧ st.2.2 ≠ 9
    · simp only [if_pos hd] at hx; exact hand _ x hx
    · simp only [if_neg hd] at hx; exact h1 x hx
theorem sy_abs {kn : Nat → Nat} {st : sy_S} (h : sy_G kn st) {v w : Nat} (hv : v < 8) (hw : w < 8) : sy_ab w (sy_st kn st v) = sy_af kn w (sy_ab w st) v := by
  obtain ⟨S, D, L⟩ := st
  obtain ⟨h1, h2⟩ := h
  unfold sy_st sy_af sy_ab
  by_cases h0 : kn v = 0
  · rw [if_pos h0, if_pos h0]
    by_cases hvw : v = w
    · subst hvw
      rw [if_pos rfl]
      cases D with
      | true =>
        simp only [if_true, Nat.testBit_and, sy_255 v hv v hv]
        simp
      | false =>
        simp only [Nat.testBit_or, Nat.testBit_two_pow]
        simp
    · rw [if_neg hvw]
      cases D with
      | true =>
        simp only [if_true, Nat.testBit_and, sy_255 v hv w hw]
        simp [hvw, Ne.symm hvw]
      | false =>
        simp only [Nat.testBit_or, Nat.testBit_two_pow]
        simp [hvw]
  · rw [if_neg h0, if_neg h0]
    have key : (if kn v = 2 ∧ L ≠ 9 then S &&& (255 - 2 ^ L) else S).testBit w = (if kn v = 2 ∧ decide (L = w) = true then false else S.testBit w) := by
      by_cases hd : kn v = 2 ∧ L ≠ 9
      · have hL : L < 8 := h2.resolve_left hd.2
        rw [if_pos hd, Nat.testBit_and, sy_255 L hL w hw]
        by_cases hLw : L = w
        · rw [if_pos ⟨hd.1, decide_eq_true hLw⟩, show decide (w ≠ L) = false from decide_eq_false (fun z => z hLw.symm), Bool.and_false]
        · rw [if_neg (fun z => hLw (of_decide_eq_true z.2)), show decide (w ≠ L) = true from decide_eq_true (Ne.symm hLw), Bool.and_true]
      · rw [if_neg hd, if_neg]
        rintro ⟨z1, z2⟩
        exact hd ⟨z1, by have := of_decide_eq_true z2; omega⟩
    exact congrArg (fun b => (b, !D, decide (L = w))) key
def sy_in (kn : Nat → Nat) (o k : Nat) (st : sy_S) : sy_S := if o / 10 = k then sy_st kn st (o % 10) else st
def sa_in (kn : Nat → Nat) (w o k : Nat) (t : sy_T) : sy_T := if o / 10 = k then sy_af kn w t (o % 10) else t
def sy_W (kn : Nat → Nat) (one two : Nat) (f : Nat → Nat) : Nat → Nat → sy_S → sy_S
  | 0, k, st => sy_in kn two k (sy_in kn one k st)
  | s + 1, k, st => sy_W kn one two f s (k + 1) (sy_st kn (sy_in kn two k (sy_in kn one k st)) (f k))
def sa_W (kn : Nat → Nat) (w one two : Nat) (f : Nat → Nat) : Nat → Nat → sy_T → sy_T
  | 0, k, t => sa_in kn w two k (sa_in kn w one k t)
  | s + 1, k, t => sa_W kn w one two f s (k + 1) (sy_af kn w (sa_in kn w two k (sa_in kn w one k t)) (f k))
def sa_E (kn : Nat → Nat) (w : Nat) (f : Nat → Nat) : Nat → Nat → sy_T → sy_T
  | 0, _, t => t
  | s + 1, k, t => sa_E kn w f s (k + 1) (sy_af kn w t (f k))
section SY
variable {kn f : Nat → Nat} {one two w : Nat}
theorem sy_Gi {st : sy_S} (h : sy_G kn st) {o k : Nat} (ho : o % 10 < 8) : sy_G kn (sy_in kn o k st) := by
  unfold sy_in
  split
  · exact sy_Gs h ho
  · exact h
theorem sy_absi {st : sy_S} (h : sy_G kn st) {o k : Nat} (ho : o % 10 < 8) (hw : w < 8) : sy_ab w (sy_in kn o k st) = sa_in kn w o k (sy_ab w st) := by
  unfold sy_in sa_in
  split
  · exact sy_abs h ho hw
  · rfl
theorem sy_Wab (h1 : one % 10 < 8) (h2 : two % 10 < 8) (hw : w < 8) : ∀ s k st, sy_G kn st → (∀ j, k ≤ j → j < k + s → f j < 8) → sy_ab w (sy_W kn one two f s k st) = sa_W kn w one two f s k (sy_ab w st) ∧ sy_G kn (sy_W kn one two f s k st)
  | 0, k, st, hG, _ => ⟨by rw [sy_W, sa_W, sy_absi (sy_Gi hG h1) h2 hw, sy_absi hG h1 hw], sy_Gi (sy_Gi hG h1) h2⟩
  | s + 1, k, st, hG, hf => by
    have hG2 := sy_Gi (o := two) (k := k) (sy_Gi (o := one) (k := k) hG h1) h2
    have hfk := hf k (Nat.le_refl k) (by omega)
    have := sy_Wab h1 h2 hw s (k + 1) _ (sy_Gs hG2 hfk) (fun j a b => hf j (by omega) (by omega))
    rw [sy_W, sa_W]
    rw [sy_abs hG2 hfk hw, sy_absi (sy_Gi hG h1) h2 hw, sy_absi hG h1 hw] at this
    exact this
theorem sa_n {o k : Nat} {t : sy_T} (h : ¬ o / 10 = k) : sa_in kn w o k t = t := if_neg h
theorem sa_y {o k : Nat} {t : sy_T} (h : o / 10 = k) : sa_in kn w o k t = sy_af kn w t (o % 10) := if_pos h
theorem sa_WE : ∀ s k t, (∀ j, k ≤ j → j ≤ k + s → ¬ one / 10 = j ∧ ¬ two / 10 = j) → sa_W kn w one two f s k t = sa_E kn w f s k t
  | 0, k, t, h => by
    rw [sa_W, sa_E, sa_n (h k (Nat.le_refl k) (by omega)).1, sa_n (h k (Nat.le_refl k) (by omega)).2]
  | s + 1, k, t, h => by
    rw [sa_W, sa_E, sa_n (h k (Nat.le_refl k) (by omega)).1, sa_n (h k (Nat.le_refl k) (by omega)).2]
    exact sa_WE s (k + 1) _ (fun j hj hj2 => h j (by omega) (by omega))
theorem sa_W1 {s k : Nat} {t : sy_T} (h1 : one / 10 = k) (hk : k + s ≤ 12) : sa_W kn w one 1000 f s k t = sa_E kn w f s k (sy_af kn w t (one % 10)) := by
  cases s with
  | zero => rw [sa_W, sa_E, sa_y h1, sa_n (by omega)]
  | succ s =>
    rw [sa_W, sa_E, sa_y h1, sa_n (by omega)]
    exact sa_WE s (k + 1) _ (fun j hj hj2 => by omega)
theorem sa_Wd : ∀ s k t, one / 10 < k → k + s ≤ 12 → sa_W kn w one two f s k t = sa_W kn w two 1000 f s k t
  | 0, k, t, h, hk => by rw [sa_W, sa_W, sa_n (o := one) (by omega), sa_n (o := 1000) (by omega)]
  | s + 1, k, t, h, hk => by
    rw [sa_W, sa_W, sa_n (o := one) (by omega), sa_n (o := 1000) (by omega)]
    exact sa_Wd s (k + 1) _ (by omega) (by omega)
theorem sa_W2 {s k : Nat} {t : sy_T} (h1 : one / 10 = k) (hk : k + s ≤ 12) : sa_W kn w one two f s k t = sa_W kn w two 1000 f s k (sy_af kn w t (one % 10)) := by
  cases s with
  | zero => rw [sa_W, sa_W, sa_y h1, sa_n (o := 1000) (by omega)]
  | succ s =>
    rw [sa_W, sa_W, sa_y h1, sa_n (o := 1000) (by omega)]
    exact sa_Wd s (k + 1) _ (by omega) (by omega)
theorem sa_Wm {s k : Nat} {t : sy_T} (h1 : ¬ one / 10 = k) (h2 : ¬ two / 10 = k) : sa_W kn w one two f (s + 1) k t = sa_W kn w one two f s (k + 1) (sy_af kn w t (f k)) := by
  rw [sa_W, sa_n h1, sa_n h2]
end SY

/-! the first that is so -/
def sc_R (Q : Nat → Bool) : Nat → Nat → Option Nat
  | 0, _ => none
  | s + 1, o => if o % 10 < 8 ∧ Q o = true then some o else sc_R Q s (o + 1)
theorem sc_s {Q : Nat → Bool} {x : Nat} : ∀ a b o, sc_R Q a o = some x → sc_R Q (a + b) o = some x
  | 0, b, o, h => by cases h
  | a + 1, b, o, h => by
    rw [show a + 1 + b = a + b + 1 by omega]
    rw [sc_R] at h ⊢
    by_cases hc : o % 10 < 8 ∧ Q o = true
    · rw [if_pos hc] at h ⊢; exact h
    · rw [if_neg hc] at h ⊢; exact sc_s a b (o + 1) h
theorem sc_n {Q : Nat → Bool} : ∀ a b o, sc_R Q a o = none → sc_R Q (a + b) o = sc_R Q b (o + a)
  | 0, b, o, h => by rw [Nat.zero_add, Nat.add_zero]
  | a + 1, b, o, h => by
    rw [show a + 1 + b = a + b + 1 by omega]
    rw [sc_R] at h ⊢
    by_cases hc : o % 10 < 8 ∧ Q o = true
    · rw [if_pos hc] at h; cases h
    · rw [if_neg hc] at h ⊢; rw [sc_n a b (o + 1) h, show o + 1 + a = o + (a + 1) by omega]
theorem sc_10 {Q : Nat → Bool} {p b : Nat} : sc_R Q (2 + b) (10 * p + 8) = sc_R Q b (10 * (p + 1)) := by
  have e : sc_R Q 2 (10 * p + 8) = none := by
    rw [sc_R, if_neg (by omega), sc_R, if_neg (by omega), sc_R]
  rw [sc_n 2 b _ e, show 10 * p + 8 + 2 = 10 * (p + 1) by omega]
def sd_R (Q : Nat → Nat → Bool) (m : Nat) : Nat → Nat → Option (Nat × Nat)
  | 0, _ => none
  | s + 1, o => if o % 10 < 8 then (match sc_R (Q o) (m - 10 * (o / 10)) (10 * (o / 10)) with
    | some x => some (o, x)
    | none => sd_R Q m s (o + 1)) else sd_R Q m s (o + 1)
theorem sd_1 {Q : Nat → Nat → Bool} {m s o x : Nat} (h : o % 10 < 8) (hs : sc_R (Q o) (m - 10 * (o / 10)) (10 * (o / 10)) = some x) : sd_R Q m (s + 1) o = some (o, x) := by rw [sd_R, if_pos h, hs]
theorem sd_0 {Q : Nat → Nat → Bool} {m s o : Nat} (h : o % 10 < 8) (hs : sc_R (Q o) (m - 10 * (o / 10)) (10 * (o / 10)) = none) : sd_R Q m (s + 1) o = sd_R Q m s (o + 1) := by rw [sd_R, if_pos h, hs]
theorem sd_8 {Q : Nat → Nat → Bool} {m s o : Nat} (h : ¬ o % 10 < 8) : sd_R Q m (s + 1) o = sd_R Q m s (o + 1) := by rw [sd_R, if_neg h]
def dI (b : Bool) : Int32 := if b = true then 1 else 0
/-! the class -/
def ey (t : sy_T) : Nat := (if t.1 = true then 1 else 0) + (if t.2.1 = true then 2 else 0) + (if t.2.2 = true then 4 else 0)
theorem ey_lt (t : sy_T) : ey t < 8 := by
  unfold ey
  split <;> split <;> split <;> omega
theorem ey_b1 : ∀ a d l : Bool, (nI (ey (a, d, l)) &&& 1 = 0 ↔ a = false) ∧ nI (ey (a, d, l)) &&& 1 = nI (ey (a, false, false)) := by decide
theorem ey_b2 : ∀ a d l : Bool, nI (ey (a, d, l)) &&& 2 = 0 ↔ d = false := by decide
theorem ey_b4 : ∀ a d l : Bool, nI (ey (a, d, l)) &&& 4 = 0 ↔ l = false := by decide
theorem ey_x2 : ∀ a d l : Bool, nI (ey (a, d, l)) ^^^ 2 = nI (ey (a, !d, l)) ∧ (nI (ey (a, d, l)) &&& (-2)) ^^^ 2 = nI (ey (false, !d, l)) := by decide
theorem ey_o : ∀ s, s < 8 → ey (s.testBit 0, s.testBit 1, s.testBit 2) = s := by decide
theorem ey_of (s : Nat) (h : s < 8) : ∃ t : sy_T, ey t = s := ⟨_, ey_o s h⟩
section SYC
variable {kn : Nat → Nat} {dc : Nat} {sz : Nat → Nat} {wd : Nat → Nat → Nat} {so sl : Nat → Nat} {sc : Nat → Nat → Int32} {tr ft : Int32} {h : tt_H} {b n w : Nat} {f : Nat → Nat}
theorem af_c (hV : pp_V (kn, dc, sz, wd, so, sl, sc, tr, ft)) (ha : cc_I (kn, dc, sz, wd, so, sl, sc, tr, ft) h) (hw : w < 8) {v : Nat} (hv : v < 8) (t : sy_T) : s_X5_after (nI (ey t)) (nI v) 1 (nI w) h = some (nI (ey (sy_af kn w t v)), h) := by
  have h3 := kn_lt hV hv
  have e1 := ca_kind ha hv
  have el : gg_len h 1 = some (nI 8) := by obtain ⟨-, ⟨g, e, -⟩, -⟩ := ha; exact pp_lenI e
  obtain ⟨a, d, l⟩ := t
  unfold s_X5_after sy_af
  rw [if_neg (nI_pos (by omega)), el, pp_bind, if_pos (nI_lt hv (by decide)), e1, pp_bind]
  by_cases h0 : kn v = 0
  · rw [if_pos (by rw [h0]; rfl), if_pos h0]
    unfold s_X5_after_J29
    by_cases hvw : v = w
    · rw [if_pos hvw]
      cases d with
      | false => rw [if_pos ((ey_b2 a false l).mpr rfl), if_pos (by rw [hvw]), if_pos rfl]; rfl
      | true => rw [if_neg (fun z => by have := (ey_b2 a true l).mp z; cases this), if_pos (by rw [hvw]), if_neg (by decide)]; rfl
    · have hne : ¬ nI v = nI w := fun z => hvw ((nI_eq (by omega) (by omega)).mp z)
      rw [if_neg hvw, if_neg hne, if_neg hne, (ey_b1 a d l).2]
      split <;> rfl
  · rw [if_neg (nI_ne0 (by omega) (by omega)), if_neg h0, pp_bind]
    unfold s_X5_after_J68 s_X5_after_J69
    by_cases h2 : kn v = 2
    · rw [if_pos (by rw [h2]; rfl)]
      cases l with
      | false => rw [if_pos ((ey_b4 a d false).mpr rfl), if_pos rfl, (ey_x2 a d false).1, if_neg (fun z => by cases z.2)]
      | true => rw [if_neg (fun z => by have := (ey_b4 a d true).mp z; cases this), if_neg (by decide), (ey_x2 a d true).2, if_pos ⟨h2, rfl⟩]
    · rw [if_neg (show ¬ nI (kn v) = (2 : Int32) from fun z => h2 ((nI_eq (b := 2) (by omega) (by decide)).mp z)), if_pos rfl, (ey_x2 a d l).1, if_neg (fun z => h2 z.1)]
theorem af_9 (x0 : Int32) (xw : Int32) : s_X5_after x0 (-9) 1 xw h = some (x0, h) := by
  unfold s_X5_after
  rw [if_pos (by decide)]
theorem iS_c (hV : pp_V (kn, dc, sz, wd, so, sl, sc, tr, ft)) (ha : cc_I (kn, dc, sz, wd, so, sl, sc, tr, ft) h) (c1 : pp_cry h b n f) (hw : w < 8) : ∀ (s k fu : Nat) (t : sy_T), k + s = n → s < fu → s_X5_isSaid_L5 fu b 1 (nI w) (nI (ey t)) (nI k) h = some (dI (sa_E kn w f s k t).1, h) := by
  have hn := c1.le
  intro s
  induction s with
  | zero =>
    intro k fu t hk hfu
    obtain ⟨fu, rfl⟩ : ∃ z, fu = z + 1 := ⟨fu - 1, by omega⟩
    rw [s_X5_isSaid_L5]
    simp only [pp_cobj c1, pp_size c1, nI_le (show n ≤ k by omega) (show k < 2 ^ 31 by omega), pp_bind, ↓reduceIte, sa_E]
    obtain ⟨a, d, l⟩ := t
    cases a with
    | false => rw [if_pos ((ey_b1 false d l).1.mpr rfl)]; rfl
    | true => rw [if_neg (fun z => by have := (ey_b1 true d l).1.mp z; cases this)]; rfl
  | succ s ih =>
    intro k fu t hk hfu
    obtain ⟨fu, rfl⟩ : ∃ z, fu = z + 1 := ⟨fu - 1, by omega⟩
    rw [s_X5_isSaid_L5]
    simp only [pp_cobj c1, pp_size c1, nI_ge (show k < n by omega) (show n < 2 ^ 31 by omega), pp_at c1 (show k < 2 ^ 31 by omega), pp_w_in (show k < n by omega), af_c hV ha hw (c1.lt8 (show k < n by omega)), nI_1, pp_bind, ↓reduceIte, sa_E]
    exact ih (k + 1) fu _ (by omega) (by omega)
/-- the class's set -/
def sd_C (kn : Nat → Nat) (n : Nat) (f : Nat → Nat) : Nat → Nat → Nat → Nat
  | 0, _, C => C
  | s + 1, w, C => sd_C kn n f s (w + 1) (if kn w = 0 ∧ (sa_E kn w f n 0 (false, false, false)).1 = true then C ||| 2 ^ w else C)
theorem sd_bit (kn : Nat → Nat) (n : Nat) (f : Nat → Nat) (x : Nat) : ∀ s w C, (sd_C kn n f s w C).testBit x = true ↔ C.testBit x = true ∨ (w ≤ x ∧ x < w + s ∧ kn x = 0 ∧ (sa_E kn x f n 0 (false, false, false)).1 = true)
  | 0, w, C => by rw [sd_C]; exact ⟨Or.inl, fun z => z.elim id (fun q => by omega)⟩
  | s + 1, w, C => by
    rw [sd_C, sd_bit kn n f x s (w + 1)]
    by_cases hc : kn w = 0 ∧ (sa_E kn w f n 0 (false, false, false)).1 = true
    · rw [if_pos hc, Nat.testBit_or, Nat.testBit_two_pow, Bool.or_eq_true, decide_eq_true_eq]
      constructor
      · rintro ((h | h) | ⟨h1, h2, h3⟩)
        · exact Or.inl h
        · exact Or.inr ⟨by omega, by omega, by rw [← h]; exact hc⟩
        · exact Or.inr ⟨by omega, by omega, h3⟩
      · rintro (h | ⟨h1, h2, h3⟩)
        · exact Or.inl (Or.inl h)
        · by_cases hx : w = x
          · exact Or.inl (Or.inr hx)
          · exact Or.inr ⟨by omega, by omega, h3⟩
    · rw [if_neg hc]
      constructor
      · rintro (h | ⟨h1, h2, h3⟩)
        · exact Or.inl h
        · exact Or.inr ⟨by omega, by omega, h3⟩
      · rintro (h | ⟨h1, h2, h3⟩)
        · exact Or.inl h
        · by_cases hx : w = x
          · exact absurd (by rw [hx]; exact h3) hc
          · exact Or.inr ⟨by omega, by omega, h3⟩
theorem sd_c (hV : pp_V (kn, dc, sz, wd, so, sl, sc, tr, ft)) (ha : cc_I (kn, dc, sz, wd, so, sl, sc, tr, ft) h) (c1 : pp_cry h b n f) : ∀ (s w fu C : Nat), w + s = 8 → s < fu → s_X8_said_L17 fu 0 b (nI C) (nI w) h = some (nI (sd_C kn n f s w C), h) := by
  have hn := c1.le
  intro s
  induction s with
  | zero =>
    intro w fu C hw hfu
    obtain ⟨fu, rfl⟩ : ∃ z, fu = z + 1 := ⟨fu - 1, by omega⟩
    rw [s_X8_said_L17, if_pos (show (8 : Int32) ≤ nI w from nI_le (a := 8) (b := w) (by omega) (by omega))]
    rfl
  | succ s ih =>
    intro w fu C hw hfu
    obtain ⟨fu, rfl⟩ : ∃ z, fu = z + 1 := ⟨fu - 1, by omega⟩
    have hw8 : w < 8 := by omega
    have h3 := kn_lt hV hw8
    have e1 : s_X5_isSaid b 1 (nI w) h = some (dI (sa_E kn w f n 0 (false, false, false)).1, h) := iS_c hV ha c1 hw8 n 0 1000 (false, false, false) (by omega) (by omega)
    rw [s_X8_said_L17, if_neg (show ¬ (8 : Int32) ≤ nI w from nI_ge (a := w) (b := 8) hw8 (by decide)), sd_C]
    simp only [ca_0 ha, ca_kind ha hw8, e1, sh_w hw8, fa_or, s_X8_said_J54, nI_1, pp_bind]
    rw [← ih (w + 1) fu _ (by omega) (by omega)]
    by_cases h0 : kn w = 0
    · rw [if_pos (by rw [h0]; rfl)]
      cases hb : (sa_E kn w f n 0 (false, false, false)).1 with
      | false => rw [if_pos (show dI false = 0 from rfl), if_neg (fun z => by cases z.2)]
      | true => rw [if_neg (show ¬ dI true = 0 by decide), if_pos ⟨h0, rfl⟩]
    · rw [if_neg (nI_ne0 (by omega) (by omega)), if_neg (fun z => h0 z.1)]
end SYC
/-! the model -/
theorem sy_G0 (kn : Nat → Nat) : sy_G kn (0, false, 9) := by
  refine ⟨fun x hx => ?_, Or.inl rfl⟩
  rw [Nat.zero_testBit] at hx
  cases hx
def oI (o : Nat) : Int32 := if o = 1000 then -9 else nI o
def lI (L : Nat) : Int32 := if L = 9 then -9 else nI L
def sb_R (kn r : Nat → Nat) : Nat → sy_S
  | 0 => (0, false, 9)
  | n + 1 => sy_st kn (sb_R kn r n) (r n)
theorem sb_cong {kn r r' : Nat → Nat} : ∀ n, (∀ j, j < n → r j = r' j) → sb_R kn r n = sb_R kn r' n
  | 0, _ => rfl
  | n + 1, h => by rw [sb_R, sb_R, sb_cong n (fun j hj => h j (by omega)), h n (Nat.lt_succ_self n)]
def pf_H (h0 h : tt_H) (ft tr dc at_ rd pm po pt : Int32) (g : Nat → Int32) : Prop := h 49 = some (pp_mob ft tr dc at_ rd pm po pt) ∧ h 60 = some (tt_ia 14 g) ∧ ∀ i, i ≠ 49 → i ≠ 60 → h i = h0 i
section SYM
variable {kn : Nat → Nat} {dcn : Nat} {sz : Nat → Nat} {wd : Nat → Nat → Nat} {so sl : Nat → Nat} {sc : Nat → Nat → Int32} {trn ftn : Int32} {h0 h : tt_H} {ft tr dc at_ rd pm po pt : Int32} {d n : Nat} {f : Nat → Nat}
theorem pf_m {g : Nat → Int32} (c1 : pp_m h0 d n f) (hH : pf_H h0 h ft tr dc at_ rd pm po pt g) : pp_m h d n f := by
  obtain ⟨-, ln, wr, e1, e2, e3⟩ := c1
  exact ⟨⟨_, _, _, _, _, _, _, _, hH.1⟩, ln, wr, by rw [hH.2.2 54 (by decide) (by decide)]; exact e1, by rw [hH.2.2 55 (by decide) (by decide)]; exact e2, e3⟩
/-- the kinds in the model -/
def kk_I (kn : Nat → Nat) (h : tt_H) : Prop := ∃ g : Nat → Int32, h 53 = some (tt_ia 8 g) ∧ ∀ w, w < 8 → g w = nI (kn w)
theorem kk_g (hk : kk_I kn h) {w : Nat} (hw : w < 8) : gg_il h 53 (nI w) = some (nI (kn w)) := by
  obtain ⟨g, e1, e2⟩ := hk
  rw [pp_il e1 hw (by decide), e2 w hw]
theorem sb_m {g : Nat → Int32} {r : Nat → Nat} {m : Nat} (k3 : ∀ w, w < 8 → kn w < 3) (hmo : pp_mo h) (hk : kk_I kn h) (e60 : h 60 = some (tt_ia 14 g)) (hm : m ≤ 14) (hg : ∀ j, j < m → g j = nI (r j) ∧ r j < 8) : ∀ (s k fu : Nat), k + s = m → s < fu → s_X9_saidBy_L11 fu 49 (nI m) (nI (sb_R kn r k).1) (dI (sb_R kn r k).2.1) (lI (sb_R kn r k).2.2) (nI k) h = some (nI (sb_R kn r m).1, h) := by
  intro s
  induction s with
  | zero =>
    intro k fu hk' hfu
    obtain ⟨fu, rfl⟩ : ∃ z, fu = z + 1 := ⟨fu - 1, by omega⟩
    obtain rfl : k = m := by omega
    rw [s_X9_saidBy_L11, if_pos (nI_le (Nat.le_refl k) (by omega))]
  | succ s ih =>
    intro k fu hk' hfu
    obtain ⟨fu, rfl⟩ : ∃ z, fu = z + 1 := ⟨fu - 1, by omega⟩
    obtain ⟨g1, g2⟩ := hg k (by omega)
    have h3 := k3 (r k) g2
    have e := ih (k + 1) fu (by omega) (by omega)
    have hL : (sb_R kn r k).2.2 = 9 ∨ (sb_R kn r k).2.2 < 8 := by
      have hG : ∀ j, j ≤ k → sy_G kn (sb_R kn r j) := by
        intro j
        induction j with
        | zero => intro _; exact sy_G0 kn
        | succ j ihj => intro hj; exact sy_Gs (ihj (by omega)) (hg j (by omega)).2
      exact (hG k (Nat.le_refl k)).2
    have p2 : ∀ v, v < 8 → (255 : Int32) - nI (2 ^ v) = nI (255 - 2 ^ v) := by decide
    rw [s_X9_saidBy_L11, if_neg (nI_ge (by omega) (by omega)), mo_15 hmo, pp_bind, pp_il e60 (by omega) (by decide), pp_bind, g1, mo_5 hmo, pp_bind, kk_g hk g2, pp_bind]
    rw [sb_R] at e
    generalize sb_R kn r k = st at e hL ⊢
    obtain ⟨S, D, L⟩ := st
    unfold sy_st at e
    by_cases h0 : kn (r k) = 0
    · rw [if_pos h0] at e
      rw [if_pos (by rw [h0]; rfl), sh_w g2, p2 _ g2]
      unfold s_X9_saidBy_J59 s_X9_saidBy_J108
      rw [nI_1]
      have el : lI (r k) = nI (r k) := if_neg (by omega)
      cases D with
      | false =>
        rw [if_pos (show dI (S, false, L).2.1 = 0 from rfl), fa_or]
        simp only [Bool.false_eq_true, ↓reduceIte] at e
        rw [el] at e
        exact e
      | true =>
        rw [if_neg (show ¬ dI (S, true, L).2.1 = 0 from (by decide : ¬ dI true = 0)), fa_and]
        simp only [↓reduceIte] at e
        rw [el] at e
        exact e
    · rw [if_neg h0] at e
      rw [if_neg (nI_ne0 (by omega) (by omega))]
      have j78 : ∀ D' : Bool, D' = (!D) → s_X9_saidBy_J78 (s_X9_saidBy_J108 (s_X9_saidBy_L11 fu)) 49 (nI m) (nI S) (lI L) (nI k) (nI (r k)) (dI D') h = some (nI (sb_R kn r m).1, h) := by
        rintro _ rfl
        unfold s_X9_saidBy_J78 s_X9_saidBy_J108
        rw [mo_5 hmo, pp_bind, kk_g hk g2, pp_bind, nI_1]
        by_cases h2 : kn (r k) = 2
        · rw [if_pos (by rw [h2]; rfl)]
          by_cases h9 : L = 9
          · rw [if_pos (show lI L = -9 from if_pos h9)]
            simp only [h2, h9, ne_eq, not_true_eq_false, and_false, ↓reduceIte] at e ⊢
            exact e
          · have hL8 : L < 8 := hL.resolve_left h9
            have el : lI L = nI L := if_neg h9
            rw [if_neg (show ¬ lI L = -9 from by rw [el]; exact fun z => absurd z.symm (pp_neg_ne (by decide) (by omega)))]
            simp only [if_pos (show kn (r k) = 2 ∧ L ≠ 9 from ⟨h2, h9⟩)] at e
            rw [el] at e ⊢
            rw [sh_w hL8, p2 _ hL8, fa_and]
            exact e
        · rw [if_neg (show ¬ nI (kn (r k)) = (2 : Int32) from fun z => h2 ((nI_eq (b := 2) (by omega) (by decide)).mp z))]
          simp only [if_neg (show ¬ (kn (r k) = 2 ∧ L ≠ 9) from fun z => h2 z.1)] at e
          exact e
      cases D with
      | false => rw [if_pos (show dI (S, false, L).2.1 = 0 from rfl)]; exact j78 true rfl
      | true => rw [if_neg (show ¬ dI (S, true, L).2.1 = 0 from (by decide : ¬ dI true = 0))]; exact j78 false rfl
/-- so many stand in the row -/
def i1 (o k : Nat) : Nat := if o / 10 < k then 1 else 0
theorem i1_s {o k : Nat} (h : ¬ o / 10 = k) : i1 o (k + 1) = i1 o k := by
  unfold i1
  by_cases z : o / 10 < k
  · rw [if_pos z, if_pos (by omega)]
  · rw [if_neg z, if_neg (by omega)]
theorem sw_m (k3 : ∀ w, w < 8 → kn w < 3) (c1 : pp_m h0 d n f) (hk0 : kk_I kn h0) {one two : Nat} (ho1 : one % 10 < 8) (ho2 : two % 10 < 8) (hb1 : one = 1000 ∨ one < 200) (hb2 : two = 1000 ∨ two < 200) :
    ∀ (s k fu m : Nat) (h : tt_H) (g : Nat → Int32) (r : Nat → Nat), pf_H h0 h ft tr dc at_ rd pm po pt g → k + s = n → s + 1 < fu → m = k + i1 one k + i1 two k → (∀ j, j < m → g j = nI (r j) ∧ r j < 8) → ∃ h1 g1, s_X9_saidWith_L6 fu 49 (nI d) (oI one) (oI two) (nI m) (nI k) h = some (nI (sy_W kn one two f s k (sb_R kn r m)).1, h1) ∧ pf_H h0 h1 ft tr dc at_ rd pm po pt g1 := by
  have hn := c1.le
  have nz : gg_nz 10 = some () := rfl
  have h10 : ∀ o, o < 200 → nI o / 10 = nI (o / 10) := fun o ho => by rw [pp_lit 10]; exact pk_div (by omega) (by decide) (by decide)
  have m10 : ∀ o, o < 200 → nI o - nI o / 10 * 10 = nI (o % 10) := fun o ho => by rw [pp_lit 10]; exact pk_rem (by omega) (by decide) (by decide)
  -- one word put in
  have put : ∀ (o m : Nat) (h : tt_H) (g : Nat → Int32) (r : Nat → Nat), m < 14 → o % 10 < 8 → pf_H h0 h ft tr dc at_ rd pm po pt g → (∀ j, j < m → g j = nI (r j) ∧ r j < 8) → ∃ h1 g1 r1, gg_is h 60 (nI m) (nI (o % 10)) = some h1 ∧ pf_H h0 h1 ft tr dc at_ rd pm po pt g1 ∧ (∀ j, j < m + 1 → g1 j = nI (r1 j) ∧ r1 j < 8) ∧ sb_R kn r1 (m + 1) = sy_st kn (sb_R kn r m) (o % 10) := by
    intro o m h g r hm ho hH hg
    refine ⟨_, upd g m (nI (o % 10)), (fun j => if j = m then o % 10 else r j), pp_is hH.2.1 hm (by decide) _, ⟨by rw [va_up_ne _ _ (by decide)]; exact hH.1, va_up_self _ _ _, fun i a b => by rw [va_up_ne _ _ b]; exact hH.2.2 i a b⟩, fun j hj => ?_, ?_⟩
    · by_cases hjm : j = m
      · simp only [if_pos hjm]; rw [hjm, pk_us]; exact ⟨rfl, ho⟩
      · simp only [if_neg hjm]; rw [pk_un hjm]; exact hg j (by omega)
    · rw [sb_R, sb_cong m (r' := r) (fun j hj => if_neg (by omega))]
      simp only [if_true]
  intro s
  induction s with
  | zero =>
    intro k fu m h g r hH hk hfu hm hg
    obtain ⟨fu, rfl⟩ : ∃ z, fu = z + 1 := ⟨fu - 1, by omega⟩
    obtain ⟨fu, rfl⟩ : ∃ z, fu = z + 1 := ⟨fu - 1, by omega⟩
    obtain rfl : k = n := by omega
    have hi1 : i1 one k ≤ 1 ∧ i1 two k ≤ 1 := by unfold i1; constructor <;> split <;> omega
    -- behind both
    have j75 : ∀ (m : Nat) (h : tt_H) (g : Nat → Int32) (r : Nat → Nat), m ≤ 14 → pf_H h0 h ft tr dc at_ rd pm po pt g → (∀ j, j < m → g j = nI (r j) ∧ r j < 8) → s_X9_saidWith_J75 (s_X9_saidWith_L6 (fu + 1)) 49 (nI d) (oI one) (oI two) (nI m) (nI k) h = some (nI (sb_R kn r m).1, h) := by
      intro m h g r hm hH hg
      have c1' := pf_m c1 hH
      have hk' : kk_I kn h := by obtain ⟨g, e1, e2⟩ := hk0; exact ⟨g, by rw [hH.2.2 53 (by decide) (by decide)]; exact e1, e2⟩
      unfold s_X9_saidWith_J75 s_X9_saidWith_J103
      rw [mo_7 c1'.1, pp_bind, pp_mlen c1', pp_bind, if_pos (nI_le (Nat.le_refl k) (by omega)), nI_1, s_X9_saidWith_L6, mo_7 c1'.1, pp_bind, pp_mlen c1', pp_bind, if_pos (nI_lt (Nat.lt_succ_self k) (by omega)), c1'.1.b]
      have e : s_X9_saidBy 49 (nI m) h = some (nI (sb_R kn r m).1, h) := sb_m k3 c1'.1 hk' hH.2.1 hm hg m 0 1000 (by omega) (by omega)
      rw [e, pp_bind]
    have j46 : ∀ (m : Nat) (h : tt_H) (g : Nat → Int32) (r : Nat → Nat), m ≤ 13 + i1 two k → pf_H h0 h ft tr dc at_ rd pm po pt g → (∀ j, j < m → g j = nI (r j) ∧ r j < 8) → ∃ h1 g1, s_X9_saidWith_J46 (s_X9_saidWith_L6 (fu + 1)) 49 (nI d) (oI one) (oI two) (nI m) (nI k) h = some (nI (sy_in kn two k (sb_R kn r m)).1, h1) ∧ pf_H h0 h1 ft tr dc at_ rd pm po pt g1 := by
      intro m h g r hm hH hg
      have c1' := pf_m c1 hH
      unfold s_X9_saidWith_J46
      rcases hb2 with h2 | h2
      · rw [if_pos (show oI two = -9 from if_pos h2), j75 m h g r (by omega) hH hg]
        exact ⟨h, g, by rw [sy_in, if_neg (by omega)], hH⟩
      · have e2 : oI two = nI two := if_neg (by omega)
        rw [if_neg (show ¬ oI two = -9 from by rw [e2]; exact fun z => absurd z.symm (pp_neg_ne (by decide) (by omega))), nz, pp_bind]
        by_cases hc : two / 10 = k
        · have q0 : i1 two k = 0 := if_neg (by omega)
          obtain ⟨h1, g1, r1, a1, a2, a3, a4⟩ := put two m h g r (by omega) ho2 hH hg
          refine ⟨h1, g1, ?_, a2⟩
          rw [sy_in, if_pos hc, ← a4, ← j75 (m + 1) h1 g1 r1 (by omega) a2 a3, e2, h10 two h2, if_pos (by rw [hc]), mo_15 c1'.1, pp_bind, pp_bind, ← h10 two h2, m10 two h2, a1, pp_bind, nI_1]
        · refine ⟨h, g, ?_, hH⟩
          rw [sy_in, if_neg hc, ← j75 m h g r (by omega) hH hg, e2, h10 two h2, if_neg (fun z => hc ((nI_eq (by omega) (by omega)).mp z))]
    have c1' := pf_m c1 hH
    rw [s_X9_saidWith_L6, mo_7 c1'.1, pp_bind, pp_mlen c1', pp_bind, if_neg (nI_nlt (Nat.le_refl k) (by omega))]
    rcases hb1 with h2 | h2
    · obtain ⟨h1, g1, a1, a2⟩ := j46 m h g r (by omega) hH hg
      refine ⟨h1, g1, ?_, a2⟩
      rw [if_pos (show oI one = -9 from if_pos h2), a1, sy_W, show sy_in kn one k (sb_R kn r m) = sb_R kn r m from if_neg (by omega)]
    · have e2 : oI one = nI one := if_neg (by omega)
      rw [if_neg (show ¬ oI one = -9 from by rw [e2]; exact fun z => absurd z.symm (pp_neg_ne (by decide) (by omega))), nz, pp_bind]
      by_cases hc : one / 10 = k
      · have i0 : i1 one k = 0 := if_neg (by omega)
        obtain ⟨h1, g1, r1, a1, a2, a3, a4⟩ := put one m h g r (by omega) ho1 hH hg
        obtain ⟨h2', g2, a5, a6⟩ := j46 (m + 1) h1 g1 r1 (by omega) a2 a3
        refine ⟨h2', g2, ?_, a6⟩
        rw [sy_W, show sy_in kn one k (sb_R kn r m) = sy_st kn (sb_R kn r m) (one % 10) from if_pos hc, ← a4, ← a5, e2, h10 one h2, if_pos (by rw [hc]), mo_15 c1'.1, pp_bind, pp_bind, ← h10 one h2, m10 one h2, a1, pp_bind, nI_1]
      · obtain ⟨h1, g1, a1, a2⟩ := j46 m h g r (by omega) hH hg
        refine ⟨h1, g1, ?_, a2⟩
        rw [sy_W, show sy_in kn one k (sb_R kn r m) = sb_R kn r m from if_neg hc, ← a1, e2, h10 one h2, if_neg (fun z => hc ((nI_eq (by omega) (by omega)).mp z))]
  | succ s ih =>
    intro k fu m h g r hH hk hfu hm hg
    obtain ⟨fu, rfl⟩ : ∃ z, fu = z + 1 := ⟨fu - 1, by omega⟩
    have hi1 : i1 one k ≤ 1 ∧ i1 two k ≤ 1 := by unfold i1; constructor <;> split <;> omega
    have hfk := c1.lt8 (show k < n by omega)
    have j75 : ∀ (m : Nat) (h : tt_H) (g : Nat → Int32) (r : Nat → Nat), m = k + i1 one (k + 1) + i1 two (k + 1) → pf_H h0 h ft tr dc at_ rd pm po pt g → (∀ j, j < m → g j = nI (r j) ∧ r j < 8) → ∃ h1 g1, s_X9_saidWith_J75 (s_X9_saidWith_L6 fu) 49 (nI d) (oI one) (oI two) (nI m) (nI k) h = some (nI (sy_W kn one two f s (k + 1) (sy_st kn (sb_R kn r m) (f k))).1, h1) ∧ pf_H h0 h1 ft tr dc at_ rd pm po pt g1 := by
      intro m h g r hm hH hg
      have hi2 : i1 one (k + 1) ≤ 1 ∧ i1 two (k + 1) ≤ 1 := by unfold i1; constructor <;> split <;> omega
      have c1' := pf_m c1 hH
      obtain ⟨h1, g1, r1, a1, a2, a3, a4⟩ := put (f k) m h g r (by omega) (by omega) hH hg
      rw [show f k % 10 = f k by omega] at a1 a4
      obtain ⟨h2, g2, a5, a6⟩ := ih (k + 1) fu (m + 1) h1 g1 r1 a2 (by omega) (by omega) (by omega) a3
      refine ⟨h2, g2, ?_, a6⟩
      unfold s_X9_saidWith_J75 s_X9_saidWith_J103
      rw [← a4, ← a5, mo_7 c1'.1, pp_bind, pp_mlen c1', pp_bind, if_neg (nI_ge (by omega) (by omega)), mo_15 c1'.1, pp_bind, c1'.1.b, pp_mw c1' (by omega), pp_bind]
      simp only []
      rw [a1, pp_bind, nI_1, nI_1]
    have j46 : ∀ (m : Nat) (h : tt_H) (g : Nat → Int32) (r : Nat → Nat), m = k + i1 one (k + 1) + i1 two k → pf_H h0 h ft tr dc at_ rd pm po pt g → (∀ j, j < m → g j = nI (r j) ∧ r j < 8) → ∃ h1 g1, s_X9_saidWith_J46 (s_X9_saidWith_L6 fu) 49 (nI d) (oI one) (oI two) (nI m) (nI k) h = some (nI (sy_W kn one two f s (k + 1) (sy_st kn (sy_in kn two k (sb_R kn r m)) (f k))).1, h1) ∧ pf_H h0 h1 ft tr dc at_ rd pm po pt g1 := by
      intro m h g r hm hH hg
      have hi2 : i1 one (k + 1) ≤ 1 := by unfold i1; split <;> omega
      have c1' := pf_m c1 hH
      unfold s_X9_saidWith_J46
      rcases hb2 with h2 | h2
      · have q : i1 two (k + 1) = i1 two k := by unfold i1; rw [if_neg (by omega), if_neg (by omega)]
        obtain ⟨h1, g1, a1, a2⟩ := j75 m h g r (by omega) hH hg
        refine ⟨h1, g1, ?_, a2⟩
        rw [if_pos (show oI two = -9 from if_pos h2), a1, show sy_in kn two k (sb_R kn r m) = sb_R kn r m from if_neg (by omega)]
      · have e2 : oI two = nI two := if_neg (by omega)
        rw [if_neg (show ¬ oI two = -9 from by rw [e2]; exact fun z => absurd z.symm (pp_neg_ne (by decide) (by omega))), nz, pp_bind]
        by_cases hc : two / 10 = k
        · have q1 : i1 two (k + 1) = 1 := if_pos (by omega)
          have q0 : i1 two k = 0 := if_neg (by omega)
          obtain ⟨h1, g1, r1, a1, a2, a3, a4⟩ := put two m h g r (by omega) ho2 hH hg
          obtain ⟨h3, g3, a5, a6⟩ := j75 (m + 1) h1 g1 r1 (by omega) a2 a3
          refine ⟨h3, g3, ?_, a6⟩
          rw [show sy_in kn two k (sb_R kn r m) = sy_st kn (sb_R kn r m) (two % 10) from if_pos hc, ← a4, ← a5, e2, h10 two h2, if_pos (by rw [hc]), mo_15 c1'.1, pp_bind, pp_bind, ← h10 two h2, m10 two h2, a1, pp_bind, nI_1]
        · have q : i1 two (k + 1) = i1 two k := i1_s hc
          obtain ⟨h3, g3, a5, a6⟩ := j75 m h g r (by omega) hH hg
          refine ⟨h3, g3, ?_, a6⟩
          rw [show sy_in kn two k (sb_R kn r m) = sb_R kn r m from if_neg hc, ← a5, e2, h10 two h2, if_neg (fun z => hc ((nI_eq (by omega) (by omega)).mp z))]
    have c1' := pf_m c1 hH
    rw [s_X9_saidWith_L6, mo_7 c1'.1, pp_bind, pp_mlen c1', pp_bind, if_neg (nI_nlt (by omega) (by omega)), sy_W]
    rcases hb1 with h2 | h2
    · have q : i1 one (k + 1) = i1 one k := by unfold i1; rw [if_neg (by omega), if_neg (by omega)]
      obtain ⟨h1, g1, a1, a2⟩ := j46 m h g r (by omega) hH hg
      refine ⟨h1, g1, ?_, a2⟩
      rw [if_pos (show oI one = -9 from if_pos h2), a1, show sy_in kn one k (sb_R kn r m) = sb_R kn r m from if_neg (by omega)]
    · have e2 : oI one = nI one := if_neg (by omega)
      rw [if_neg (show ¬ oI one = -9 from by rw [e2]; exact fun z => absurd z.symm (pp_neg_ne (by decide) (by omega))), nz, pp_bind]
      by_cases hc : one / 10 = k
      · have q1 : i1 one (k + 1) = 1 := if_pos (by omega)
        have q0 : i1 one k = 0 := if_neg (by omega)
        obtain ⟨h1, g1, r1, a1, a2, a3, a4⟩ := put one m h g r (by omega) ho1 hH hg
        obtain ⟨h3, g3, a5, a6⟩ := j46 (m + 1) h1 g1 r1 (by omega) a2 a3
        refine ⟨h3, g3, ?_, a6⟩
        rw [show sy_in kn one k (sb_R kn r m) = sy_st kn (sb_R kn r m) (one % 10) from if_pos hc, ← a4, ← a5, e2, h10 one h2, if_pos (by rw [hc]), mo_15 c1'.1, pp_bind, pp_bind, ← h10 one h2, m10 one h2, a1, pp_bind, nI_1]
      · have q : i1 one (k + 1) = i1 one k := i1_s hc
        obtain ⟨h3, g3, a5, a6⟩ := j46 m h g r (by omega) hH hg
        refine ⟨h3, g3, ?_, a6⟩
        rw [show sy_in kn one k (sb_R kn r m) = sb_R kn r m from if_neg hc, ← a5, e2, h10 one h2, if_neg (fun z => hc ((nI_eq (by omega) (by omega)).mp z))]
theorem sW_m (k3 : ∀ w, w < 8 → kn w < 3) (c1 : pp_m h0 d n f) (hk0 : kk_I kn h0) {one two : Nat} (ho1 : one % 10 < 8) (ho2 : two % 10 < 8) (hb1 : one = 1000 ∨ one < 200) (hb2 : two = 1000 ∨ two < 200) {g : Nat → Int32} (hH : pf_H h0 h ft tr dc at_ rd pm po pt g) :
    ∃ h1 g1, s_X9_saidWith 49 (nI d) (oI one) (oI two) h = some (nI (sy_W kn one two f n 0 (0, false, 9)).1, h1) ∧ pf_H h0 h1 ft tr dc at_ rd pm po pt g1 :=
  sw_m k3 c1 hk0 ho1 ho2 hb1 hb2 n 0 1000 0 h g (fun _ => 0) hH (by omega) (by have := c1.le; omega) (by unfold i1; rw [if_neg (by omega), if_neg (by omega)]) (fun j hj => absurd hj (Nat.not_lt_zero j))
end SYM
theorem sy_a0 {w : Nat} (hw : w < 8) : sy_ab w (0, false, 9) = (false, false, false) := by
  unfold sy_ab
  simp only [Nat.zero_testBit]
  rw [show decide (9 = w) = false from by simp; omega]
theorem pf_mm {kn : Nat → Nat} {dc : Nat} {sz : Nat → Nat} {wd : Nat → Nat → Nat} {so sl : Nat → Nat} {sc : Nat → Nat → Int32} {tr ft : Int32} {h h1 : tt_H} {at_ rd pm po pt : Int32} {g : Nat → Int32} (hm : mm_A (kn, dc, sz, wd, so, sl, sc, tr, ft) h) (hH : pf_H h h1 ft tr (nI dc) at_ rd pm po pt g) : mm_A (kn, dc, sz, wd, so, sl, sc, tr, ft) h1 := by
  obtain ⟨⟨a0, a1, a2, a3, a4, ln, a5, wr, a6, a7⟩, s1, s2⟩ := hm
  obtain ⟨e49, e60, e⟩ := hH
  refine ⟨⟨⟨at_, rd, pm, po, pt, e49⟩, by rw [e 50 (by decide) (by decide)]; exact a1, by rw [e 51 (by decide) (by decide)]; exact a2, by rw [e 52 (by decide) (by decide)]; exact a3, by rw [e 53 (by decide) (by decide)]; exact a4, ln, by rw [e 54 (by decide) (by decide)]; exact a5, wr, by rw [e 55 (by decide) (by decide)]; exact a6, a7⟩, fun q hq => ?_, fun q hq => ?_⟩
  · by_cases q60 : q.1 = 60
    · have : q.2 = 14 := by revert q; decide
      rw [q60, this]; exact ⟨g, e60⟩
    · have : q.1 ≠ 49 := by revert q; decide
      rw [e q.1 this q60]; exact s1 q hq
  · have : q.1 ≠ 49 ∧ q.1 ≠ 60 := by revert q; decide
    rw [e q.1 this.1 this.2]; exact s2 q hq
theorem E_said {h : tt_H} (hI : pp_Inv h) (x1 : Int32) : pp_G (s_X8_said 0 x1) (s_X9_said 49 x1) h := by
  obtain ⟨⟨kn, dc, sz, wd, so, sl, sc, tr, ft⟩, hV, ha, hm⟩ := hI
  have hdc : dc ≤ 6 := hV.2.1
  rcases pp_rng dc (by omega) x1 with ⟨d1, hd1, rfl⟩ | h1
  · have c1 := ca_cry hV ha.1 hd1
    have l1 := c1.le
    refine pp_G.of (nI (sd_C kn (sz d1) (wd d1) 8 0 0)) ha hm hV ⟨h, ?_, ha, fun _ _ => rfl⟩ (fun h hm => ?_)
    · have e := sd_c hV ha.1 c1 8 0 1000 0 (by omega) (by omega)
      unfold s_X8_said
      simp only [ca_b ha.1, ca_in hV ha.1 hd1, gg_opt_some, pp_bind]
      exact e
    · have c1 := ma_day hV hm.1 hd1
      obtain ⟨⟨at_, rd, pm, po, pt, e49⟩, -, -, -, hk, -⟩ := id hm.1
      obtain ⟨g60, e60⟩ := hm.2.1 (60, 14) (by decide)
      obtain ⟨h1, g1, a1, a2⟩ := sW_m (kn := kn) hV.1 c1 hk (one := 1000) (two := 1000) (by decide) (by decide) (Or.inl rfl) (Or.inl rfl) (h := h) ⟨e49, e60, fun _ _ _ => rfl⟩
      have hG := sy_Wab (kn := kn) (f := wd d1) (one := 1000) (two := 1000) (w := 0) (by decide) (by decide) (by decide) (sz d1) 0 (0, false, 9) (sy_G0 kn) (fun j _ hj => c1.lt8 (by omega))
      have eq : (sy_W kn 1000 1000 (wd d1) (sz d1) 0 (0, false, 9)).1 = sd_C kn (sz d1) (wd d1) 8 0 0 := by
        refine Nat.eq_of_testBit_eq (fun x => ?_)
        have key : (sy_W kn 1000 1000 (wd d1) (sz d1) 0 (0, false, 9)).1.testBit x = true ↔ (sd_C kn (sz d1) (wd d1) 8 0 0).testBit x = true := by
          rw [sd_bit, Nat.zero_testBit]
          constructor
          · intro hx
            obtain ⟨x8, xk⟩ := hG.2.1 x hx
            have ab := (sy_Wab (kn := kn) (f := wd d1) (one := 1000) (two := 1000) (w := x) (by decide) (by decide) x8 (sz d1) 0 (0, false, 9) (sy_G0 kn) (fun j _ hj => c1.lt8 (by omega))).1
            rw [sy_a0 x8, sa_WE (sz d1) 0 _ (fun j _ hj => by omega)] at ab
            refine Or.inr ⟨Nat.zero_le x, by omega, xk, ?_⟩
            rw [← ab]; exact hx
          · rintro (hx | ⟨-, x8, xk, hx⟩)
            · cases hx
            · have x8' : x < 8 := by omega
              have ab := (sy_Wab (kn := kn) (f := wd d1) (one := 1000) (two := 1000) (w := x) (by decide) (by decide) x8' (sz d1) 0 (0, false, 9) (sy_G0 kn) (fun j _ hj => c1.lt8 (by omega))).1
              rw [sy_a0 x8', sa_WE (sz d1) 0 _ (fun j _ hj => by omega)] at ab
              rw [← ab] at hx
              exact hx
        cases hb : (sy_W kn 1000 1000 (wd d1) (sz d1) 0 (0, false, 9)).1.testBit x with
        | true => exact (key.mp hb).symm
        | false =>
          cases hb2 : (sd_C kn (sz d1) (wd d1) 8 0 0).testBit x with
          | false => rfl
          | true => rw [key.mpr hb2] at hb; cases hb
      rw [eq] at a1
      refine ⟨h1, ?_, pf_mm hm a2, fun i hi => a2.2.2 i (by omega) (by omega)⟩
      unfold s_X9_said
      simp only [(ma_o hm.1).b, ma_in hV hm.1 hd1, pp_bind, pn_10, ↓reduceIte]
      rw [show (-9 : Int32) = oI 1000 from rfl, a1, pp_bind]
  · refine pp_G.rd (-1) hV ha hm ?_ (fun h hm => ?_)
    · unfold s_X8_said
      simp only [ca_b ha.1, ca_out ha.1 h1, gg_opt_none, pp_bind]
    · unfold s_X9_said
      simp only [(ma_o hm.1).b, ma_out hm.1 h1, pp_bind, pn_00, ↓reduceIte]
