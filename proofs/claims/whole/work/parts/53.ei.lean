/-! PUT IN: the first that is so, as rows -/
theorem sc_cong {Q Q' : Nat → Bool} : ∀ s o, (∀ x, o ≤ x → x < o + s → x % 10 < 8 → Q x = Q' x) → sc_R Q s o = sc_R Q' s o
  | 0, _, _ => rfl
  | s + 1, o, h => by
    rw [sc_R, sc_R, sc_cong s (o + 1) (fun x a b c => h x (by omega) (by omega) c)]
    by_cases hc : o % 10 < 8
    · rw [h o (Nat.le_refl o) (by omega) hc]
    · rw [if_neg (fun z => hc z.1), if_neg (fun z => hc z.1)]
theorem sc_mem {Q : Nat → Bool} : ∀ s o x, sc_R Q s o = some x → o ≤ x ∧ x < o + s ∧ x % 10 < 8
  | 0, _, _, h => by cases h
  | s + 1, o, x, h => by
    rw [sc_R] at h
    by_cases hc : o % 10 < 8 ∧ Q o = true
    · rw [if_pos hc] at h
      cases h
      exact ⟨Nat.le_refl _, by omega, hc.1⟩
    · rw [if_neg hc] at h
      obtain ⟨a, b, c⟩ := sc_mem s (o + 1) x h
      exact ⟨by omega, by omega, c⟩
theorem sd_cong {Q Q' : Nat → Nat → Bool} {m : Nat} : ∀ s o, (∀ a, o ≤ a → a < o + s → a % 10 < 8 → ∀ x, 10 * (a / 10) ≤ x → x < m → x % 10 < 8 → Q a x = Q' a x) → sd_R Q m s o = sd_R Q' m s o
  | 0, _, _ => rfl
  | s + 1, o, h => by
    rw [sd_R, sd_R, sd_cong s (o + 1) (fun x a b c => h x (by omega) (by omega) c)]
    by_cases hc : o % 10 < 8
    · rw [if_pos hc, if_pos hc, sc_cong _ _ (fun x a b c => h o (Nat.le_refl o) (by omega) hc x a (by omega) c)]
    · rw [if_neg hc, if_neg hc]
theorem sd_mem {Q : Nat → Nat → Bool} {m : Nat} : ∀ s o q, sd_R Q m s o = some q → o ≤ q.1 ∧ q.1 < o + s ∧ q.1 % 10 < 8 ∧ 10 * (q.1 / 10) ≤ q.2 ∧ q.2 < m ∧ q.2 % 10 < 8
  | 0, _, _, h => by cases h
  | s + 1, o, q, h => by
    rw [sd_R] at h
    have rec_ : sd_R Q m s (o + 1) = some q → o ≤ q.1 ∧ q.1 < o + (s + 1) ∧ q.1 % 10 < 8 ∧ 10 * (q.1 / 10) ≤ q.2 ∧ q.2 < m ∧ q.2 % 10 < 8 := fun h => by
      obtain ⟨a, b, c⟩ := sd_mem s (o + 1) q h
      exact ⟨by omega, by omega, c⟩
    by_cases hc : o % 10 < 8
    · rw [if_pos hc] at h
      cases hs : sc_R (Q o) (m - 10 * (o / 10)) (10 * (o / 10)) with
      | none => rw [hs] at h; exact rec_ h
      | some x =>
        rw [hs] at h
        cases h
        obtain ⟨a, b, c⟩ := sc_mem _ _ _ hs
        exact ⟨Nat.le_refl _, by omega, hc, a, by omega, c⟩
    · rw [if_neg hc] at h; exact rec_ h
theorem sd_10 {Q : Nat → Nat → Bool} {m p b : Nat} : sd_R Q m (2 + b) (10 * p + 8) = sd_R Q m b (10 * (p + 1)) := by
  rw [show 2 + b = b + 1 + 1 by omega, sd_8 (by omega), sd_8 (by omega), show 10 * p + 8 + 1 + 1 = 10 * (p + 1) by omega]
/-! the class -/
def ez_K (P : pp_P) (b n : Nat) (f : Nat → Nat) (h : tt_H) : Prop := cc_I P h ∧ pp_cry h b n f ∧ 29 ≤ b
theorem ez_K.fr {P : pp_P} {b n : Nat} {f : Nat → Nat} {h h1 : tt_H} (k : ez_K P b n f h) (e : ∀ i, i ≠ 11 → i ≠ 12 → h1 i = h i) : ez_K P b n f h1 := by
  obtain ⟨a, ⟨g, e1, e2, e3⟩, hb⟩ := k
  exact ⟨a.congr (fun i hi => e i (by unfold cc_main at hi; omega) (by unfold cc_main at hi; omega)), ⟨g, by rw [e b (by omega) (by omega)]; exact e1, by rw [e (b + 1) (by omega) (by omega)]; exact e2, e3⟩, hb⟩
theorem ez_K.o {P : pp_P} {b n : Nat} {f : Nat → Nat} {h : tt_H} (k : ez_K P b n f h) : h 10 = some (tt_ob 5 [.ref 11, .ref 12]) := by
  obtain ⟨kn, dc, sz, wd, so, sl, sc, tr, ft⟩ := P
  obtain ⟨⟨-, -, -, -, -, -, -, -, e, -⟩, -⟩ := k
  exact e
theorem ez_K.b {P : pp_P} {b n : Nat} {f : Nat → Nat} {h : tt_H} (k : ez_K P b n f h) {α : Type} (x : Option α) : ((gg_obj h 10 5).bind fun _ => x) = x := by
  rw [pp_obj k.o]; rfl
theorem ez_K.f0 {P : pp_P} {b n : Nat} {f : Nat → Nat} {h : tt_H} (k : ez_K P b n f h) : gg_fr h 10 5 0 = some 11 := pp_fr k.o rfl
theorem ez_K.f1 {P : pp_P} {b n : Nat} {f : Nat → Nat} {h : tt_H} (k : ez_K P b n f h) : gg_fr h 10 5 1 = some 12 := pp_fr k.o rfl
theorem ez_K.c {P : pp_P} {b n : Nat} {f : Nat → Nat} {h : tt_H} (k : ez_K P b n f h) {α : Type} (x : Option α) : ((gg_obj h b 2).bind fun _ => x) = x := by
  rw [pp_cobj k.2.1]; rfl
theorem dI_nar (a : Bool) : vp_nar .boolean (dI a) = dI a := by cases a <;> rfl
theorem dI_0 {a : Bool} : dI a = 0 ↔ a = false := by cases a <;> decide
theorem dI_eq {a c : Bool} : dI a = dI c ↔ a = c := by cases a <;> cases c <;> decide
theorem dI_if (a : Bool) (h : tt_H) : (if dI a = 0 then some ((0 : Int32), h) else some (1, h)) = some (dI a, h) := by cases a <;> rfl
theorem ey_inj : ∀ a d l a' d' l' : Bool, ey (a, d, l) = ey (a', d', l') → (a, d, l) = (a', d', l') := by decide
theorem ey_in {t t' : sy_T} (h : ey t = ey t') : t = t' := by
  obtain ⟨a, d, l⟩ := t
  obtain ⟨a', d', l'⟩ := t'
  exact ey_inj _ _ _ _ _ _ h
theorem ez_neg (x : Int32) : x - 1 = x + (-1) := by rw [Int32.sub_eq_add_neg]
section PUTC
variable {kn : Nat → Nat} {dc : Nat} {sz : Nat → Nat} {wd : Nat → Nat → Nat} {so sl : Nat → Nat} {sc : Nat → Nat → Int32} {tr ft : Int32} {b n w : Nat} {f : Nat → Nat}
/-- one place of the table is right -/
def ez_p (kn : Nat → Nat) (w n : Nat) (f : Nat → Nat) (E : Nat → Int32) (p : Nat) (t : sy_T) : Prop := E (8 * p + ey t) = dI (sa_E kn w f (n - p) p t).1
theorem ez_ends {h : tt_H} (k : ez_K (kn, dc, sz, wd, so, sl, sc, tr, ft) b n f h) {E : Nat → Int32} (e : h 11 = some (tt_za 104 E)) {p : Nat} (hp : p < 13) {t : sy_T} (ht : ez_p kn w n f E p t) : s_X5_endsSaid 10 (nI p) (nI (ey t)) h = some (dI (sa_E kn w f (n - p) p t).1, h) := by
  have h8 := ey_lt t
  unfold s_X5_endsSaid
  rw [if_neg (nI_pos (by omega)), if_neg (show ¬ (13 : Int32) ≤ nI p from nI_ge (a := p) (b := 13) hp (by decide)), if_neg (nI_pos (by omega)), if_neg (show ¬ (8 : Int32) ≤ nI (ey t) from nI_ge (a := ey t) (b := 8) h8 (by decide)), k.f0, pp_bind, pp_lit 8, pk_mul, nI_add, pp_zl e (by omega) (by decide), pp_bind, show p * 8 + ey t = 8 * p + ey t by omega, ht, dI_if]
theorem ez_66 (hV : pp_V (kn, dc, sz, wd, so, sl, sc, tr, ft)) (hw : w < 8) {p : Nat} (hp : p < n) (κ : Nat → Nat → Nat → Int32 → Int32 → tt_H → Option (Unit × tt_H)) : ∀ (s v fu : Nat) (h : tt_H) (E : Nat → Int32), ez_K (kn, dc, sz, wd, so, sl, sc, tr, ft) b n f h → h 11 = some (tt_za 104 E) → v + s = 8 → s < fu → (∀ t, ez_p kn w n f E (p + 1) t) → (∀ t, ey t < v → ez_p kn w n f E p t) →
    ∃ h1 E1, s_X5_keepEnds_L66 κ fu 10 b 1 (nI w) (nI p) (nI v) h = κ 10 b 1 (nI w) (nI p + (-1)) h1 ∧ h1 11 = some (tt_za 104 E1) ∧ (∀ i, i ≠ 11 → h1 i = h i) ∧ (∀ i, 8 * (p + 1) ≤ i → E1 i = E i) ∧ ∀ t, ez_p kn w n f E1 p t := by
  intro s
  induction s with
  | zero =>
    intro v fu h E k e hv hfu hE hv2
    obtain ⟨fu, rfl⟩ : ∃ z, fu = z + 1 := ⟨fu - 1, by omega⟩
    refine ⟨h, E, ?_, e, fun _ _ => rfl, fun _ _ => rfl, fun t => hv2 t (by have := ey_lt t; omega)⟩
    rw [s_X5_keepEnds_L66, if_pos (show (8 : Int32) ≤ nI v from nI_le (a := 8) (b := v) (by omega) (by omega))]
  | succ s ih =>
    intro v fu h E k e hv hfu hE hv2
    obtain ⟨fu, rfl⟩ : ∃ z, fu = z + 1 := ⟨fu - 1, by omega⟩
    have hn := k.2.1.le
    have hv8 : v < 8 := by omega
    have hf := k.2.1.lt8 hp
    obtain ⟨t, ht⟩ := ey_of v hv8
    have hs : sa_E kn w f (n - p) p t = sa_E kn w f (n - (p + 1)) (p + 1) (sy_af kn w t (f p)) := by
      rw [show n - p = n - (p + 1) + 1 by omega, sa_E]
    have ee : ∀ q, q ≠ 8 * p + v → upd E (8 * p + v) (dI (sa_E kn w f (n - p) p t).1) q = E q := fun q hq => pk_un hq
    obtain ⟨h1, E1, a1, a2, a3, a4, a5⟩ := ih (v + 1) fu (va_up h 11 (some (tt_za 104 (upd E (8 * p + v) (dI (sa_E kn w f (n - p) p t).1))))) _ (k.fr (fun i hi _ => va_up_ne _ _ hi)) (va_up_self _ _ _) (by omega) (by omega)
      (fun t' => by unfold ez_p; rw [ee _ (by have := ey_lt t'; omega)]; exact hE t')
      (fun t' ht' => by
        unfold ez_p
        by_cases htt : ey t' = v
        · have : t' = t := ey_in (by omega)
          rw [this, ht, pk_us]
        · rw [ee _ (by omega)]; exact hv2 t' (by omega))
    refine ⟨h1, E1, ?_, a2, fun i hi => by rw [a3 i hi, va_up_ne _ _ hi], fun i hi => by rw [a4 i hi, ee i (by omega)], a5⟩
    rw [← a1, s_X5_keepEnds_L66, if_neg (show ¬ (8 : Int32) ≤ nI v from nI_ge (a := v) (b := 8) hv8 (by decide)), k.f0, pp_bind, k.c, pp_at k.2.1 (by omega), pp_bind]
    simp only [pp_w_in hp]
    rw [← ht, af_c hV k.1 hw hf, pp_bind]
    simp only []
    rw [k.b, nI_1, ez_ends k e (by omega) (hE _), pp_bind]
    simp only []
    rw [pp_lit 8, pk_mul, nI_add, pp_zs e (by omega) (by decide), pp_bind, dI_nar, nI_1, ← hs, show p * 8 + ey t = 8 * p + ey t by omega, ht]
theorem ez_58 (hV : pp_V (kn, dc, sz, wd, so, sl, sc, tr, ft)) (hw : w < 8) : ∀ (p fu : Nat) (h : tt_H) (E : Nat → Int32), ez_K (kn, dc, sz, wd, so, sl, sc, tr, ft) b n f h → h 11 = some (tt_za 104 E) → p ≤ n → p < fu → (∀ q t, p ≤ q → q ≤ n → ez_p kn w n f E q t) →
    ∃ h1 E1, s_X5_keepEnds_L58 fu 10 b 1 (nI w) (nI p + (-1)) h = some ((), h1) ∧ h1 11 = some (tt_za 104 E1) ∧ (∀ i, i ≠ 11 → h1 i = h i) ∧ ∀ q t, q ≤ n → ez_p kn w n f E1 q t := by
  intro p
  induction p with
  | zero =>
    intro fu h E k e hp hfu hE
    obtain ⟨fu, rfl⟩ : ∃ z, fu = z + 1 := ⟨fu - 1, by omega⟩
    refine ⟨h, E, ?_, e, fun _ _ => rfl, fun q t hq => hE q t (Nat.zero_le q) hq⟩
    rw [s_X5_keepEnds_L58, if_pos (by decide)]
  | succ p ih =>
    intro fu h E k e hp hfu hE
    obtain ⟨fu, rfl⟩ : ∃ z, fu = z + 1 := ⟨fu - 1, by omega⟩
    have hn := k.2.1.le
    obtain ⟨h1, E1, a1, a2, a3, a4, a5⟩ := ez_66 hV hw (p := p) (by omega) (s_X5_keepEnds_L58 fu) 8 0 1000 h E k e (by omega) (by omega) (fun t => hE (p + 1) t (by omega) hp) (fun t ht => absurd ht (Nat.not_lt_zero _))
    obtain ⟨h2, E2, b1, b2, b3, b4⟩ := ih fu h1 E1 (k.fr (fun i hi _ => a3 i hi)) a2 (by omega) (by omega) (fun q t hq hqn => by
      by_cases hqp : q = p
      · rw [hqp]; exact a5 t
      · unfold ez_p
        rw [a4 _ (by omega)]
        exact hE q t (by omega) hqn)
    refine ⟨h2, E2, ?_, b2, fun i hi => by rw [b3 i hi, a3 i hi], b4⟩
    rw [← b1, ← a1, pk_m1, s_X5_keepEnds_L58, if_neg (nI_pos (by omega))]
    rfl
theorem ez_14 (hV : pp_V (kn, dc, sz, wd, so, sl, sc, tr, ft)) (hw : w < 8) : ∀ (s v fu : Nat) (h : tt_H) (E : Nat → Int32), ez_K (kn, dc, sz, wd, so, sl, sc, tr, ft) b n f h → h 11 = some (tt_za 104 E) → v + s = 8 → s < fu → (∀ t, ey t < v → ez_p kn w n f E n t) →
    ∃ h1 E1, s_X5_keepEnds_L14 fu 10 b 1 (nI w) (nI n) (nI v) h = some ((), h1) ∧ h1 11 = some (tt_za 104 E1) ∧ (∀ i, i ≠ 11 → h1 i = h i) ∧ ∀ q t, q ≤ n → ez_p kn w n f E1 q t := by
  intro s
  induction s with
  | zero =>
    intro v fu h E k e hv hfu hE
    obtain ⟨fu, rfl⟩ : ∃ z, fu = z + 1 := ⟨fu - 1, by omega⟩
    have hn := k.2.1.le
    obtain ⟨h1, E1, a1, a2⟩ := ez_58 hV hw n 1000 h E k e (Nat.le_refl n) (by omega) (fun q t hq hqn => by
      obtain rfl : q = n := by omega
      exact hE t (by have := ey_lt t; omega))
    refine ⟨h1, E1, ?_, a2⟩
    rw [s_X5_keepEnds_L14, if_pos (show (8 : Int32) ≤ nI v from nI_le (a := 8) (b := v) (by omega) (by omega)), ez_neg, a1]
  | succ s ih =>
    intro v fu h E k e hv hfu hE
    obtain ⟨fu, rfl⟩ : ∃ z, fu = z + 1 := ⟨fu - 1, by omega⟩
    have hn := k.2.1.le
    have hv8 : v < 8 := by omega
    obtain ⟨t, ht⟩ := ey_of v hv8
    obtain ⟨h1, E1, a1, a2, a3, a4⟩ := ih (v + 1) fu (va_up h 11 (some (tt_za 104 (upd E (8 * n + v) (dI t.1))))) _ (k.fr (fun i hi _ => va_up_ne _ _ hi)) (va_up_self _ _ _) (by omega) (by omega)
      (fun t' ht' => by
        unfold ez_p
        rw [Nat.sub_self, sa_E]
        by_cases htt : ey t' = v
        · have : t' = t := ey_in (by omega)
          rw [this, ht, pk_us]
        · rw [pk_un (by omega)]
          have := hE t' (by omega)
          unfold ez_p at this
          rw [Nat.sub_self, sa_E] at this
          exact this)
    refine ⟨h1, E1, ?_, a2, fun i hi => by rw [a3 i hi, va_up_ne _ _ hi], a4⟩
    have j45 : s_X5_keepEnds_J45 (s_X5_keepEnds_L14 fu) 10 b 1 (nI w) (nI n) (nI v) 11 (nI n * 8 + nI v) (dI t.1) h = some ((), h1) := by
      unfold s_X5_keepEnds_J45
      rw [← a1, pp_lit 8, pk_mul, nI_add, pp_zs e (by omega) (by decide), pp_bind, dI_nar, nI_1, show n * 8 + v = 8 * n + v by omega]
    rw [← j45, s_X5_keepEnds_L14, if_neg (show ¬ (8 : Int32) ≤ nI v from nI_ge (a := v) (b := 8) hv8 (by decide)), k.f0, pp_bind]
    obtain ⟨a, d, l⟩ := t
    rw [← ht]
    cases a with
    | false => rw [if_pos ((ey_b1 false d l).1.mpr rfl)]; rfl
    | true => rw [if_neg (fun z => by have := (ey_b1 true d l).1.mp z; cases this)]; rfl
theorem ez_keep (hV : pp_V (kn, dc, sz, wd, so, sl, sc, tr, ft)) (hw : w < 8) {h : tt_H} {E : Nat → Int32} (k : ez_K (kn, dc, sz, wd, so, sl, sc, tr, ft) b n f h) (e : h 11 = some (tt_za 104 E)) :
    ∃ h1 E1, s_X5_keepEnds 10 b 1 (nI w) h = some ((), h1) ∧ h1 11 = some (tt_za 104 E1) ∧ (∀ i, i ≠ 11 → h1 i = h i) ∧ ∀ q t, q ≤ n → ez_p kn w n f E1 q t := by
  have hn := k.2.1.le
  obtain ⟨h1, E1, a1, a2⟩ := ez_14 hV hw 8 0 1000 h E k e (by omega) (by omega) (fun t ht => absurd ht (Nat.not_lt_zero _))
  refine ⟨h1, E1, ?_, a2⟩
  unfold s_X5_keepEnds
  rw [k.c, pp_size k.2.1, pp_bind]
  simp only []
  rw [if_neg (show ¬ (12 : Int32) < nI n from nI_nlt (a := 12) (b := n) hn (by decide))]
  exact a1
/-- ready: the table is right -/
def ez_R (P : pp_P) (b n : Nat) (f : Nat → Nat) (kn : Nat → Nat) (w : Nat) (h : tt_H) : Prop := ez_K P b n f h ∧ (∃ E, h 11 = some (tt_za 104 E) ∧ ∀ q t, q ≤ n → ez_p kn w n f E q t) ∧ ∃ g, h 12 = some (tt_ia 2 g)
theorem ez_Re {h : tt_H} (k : ez_R (kn, dc, sz, wd, so, sl, sc, tr, ft) b n f kn w h) {p : Nat} (hp : p ≤ n) (t : sy_T) : s_X5_endsSaid 10 (nI p) (nI (ey t)) h = some (dI (sa_E kn w f (n - p) p t).1, h) := by
  obtain ⟨k1, ⟨E, e1, e2⟩, -⟩ := k
  have := k1.2.1.le
  exact ez_ends k1 e1 (by omega) (e2 p t hp)
/-- what is found is kept -/
def ez_12 (h : tt_H) (q x : Nat) (h1 : tt_H) : Prop := ∃ g g1, h 12 = some (tt_ia 2 g) ∧ h1 = va_up h 12 (some (tt_ia 2 g1)) ∧ g1 = upd g q (nI x)
theorem ez_R12 {P : pp_P} {h h1 : tt_H} (k : ez_R P b n f kn w h) {q x : Nat} (e : ez_12 h q x h1) : ez_R P b n f kn w h1 := by
  obtain ⟨g, g1, e1, rfl, e3⟩ := e
  obtain ⟨k1, ⟨E, e4, e5⟩, -⟩ := k
  exact ⟨k1.fr (fun i _ hi => va_up_ne _ _ hi), ⟨E, by rw [va_up_ne _ _ (by decide)]; exact e4, e5⟩, ⟨g1, va_up_self _ _ _⟩⟩
theorem ez_sk {P : pp_P} {h : tt_H} (k : ez_R P b n f kn w h) {q p v : Nat} (hq : q < 2) : ∃ h1, s_X5_keep 10 (nI q) (nI p) (nI v) h = some ((), h1) ∧ ez_12 h q (10 * p + v) h1 := by
  obtain ⟨k1, -, g, e⟩ := k
  refine ⟨_, ?_, g, _, e, rfl, rfl⟩
  unfold s_X5_keep
  rw [if_neg (nI_pos (by omega)), if_neg (show ¬ (2 : Int32) ≤ nI q from nI_ge (a := q) (b := 2) hq (by decide)), k1.f1, pp_bind, pp_lit 10, pk_mul, nI_add, pp_is e hq (by decide), pp_bind]
/-- one put in makes it so -/
def ez_Q (kn : Nat → Nat) (w : Nat) (f : Nat → Nat) (want : Bool) (s k : Nat) (t : sy_T) (o : Nat) : Bool := decide ((sa_W kn w o 1000 f s k t).1 = want)
theorem ez_Qy {want : Bool} {s k v : Nat} {t : sy_T} (hv : v < 8) (hk : k + s ≤ 12) : ez_Q kn w f want s k t (10 * k + v) = decide ((sa_E kn w f s k (sy_af kn w t v)).1 = want) := by
  unfold ez_Q
  rw [sa_W1 (by omega) hk, show (10 * k + v) % 10 = v by omega]
theorem ez_Qn {want : Bool} {s k o : Nat} {t : sy_T} (ho : 10 * (k + 1) ≤ o) (hk : k + s < 12) : ez_Q kn w f want (s + 1) k t o = ez_Q kn w f want s (k + 1) (sy_af kn w t (f k)) o := by
  unfold ez_Q
  rw [sa_Wm (by omega) (by omega)]
theorem ez_20 (hV : pp_V (kn, dc, sz, wd, so, sl, sc, tr, ft)) (hw : w < 8) {want : Bool} {q p : Nat} (hq : q < 2) (hp : p ≤ n) {t : sy_T} {h : tt_H} (κ : Nat → Nat → Nat → Int32 → Int32 → Int32 → Int32 → Int32 → tt_H → Option (Int32 × tt_H)) (k : ez_R (kn, dc, sz, wd, so, sl, sc, tr, ft) b n f kn w h) : ∀ (s v fu : Nat), v + s = 8 → s < fu →
    (∀ o, sc_R (ez_Q kn w f want (n - p) p t) s (10 * p + v) = some o → ∃ h1, s_X5_findOne_L20 κ fu 10 b 1 (nI w) (dI want) (nI q) (nI (ey t)) (nI p) (nI v) h = some (1, h1) ∧ ez_12 h q o h1) ∧
    (sc_R (ez_Q kn w f want (n - p) p t) s (10 * p + v) = none → ∃ x, (p < n → x = nI (ey (sy_af kn w t (f p)))) ∧ s_X5_findOne_L20 κ fu 10 b 1 (nI w) (dI want) (nI q) (nI (ey t)) (nI p) (nI v) h = κ 10 b 1 (nI w) (dI want) (nI q) x (nI (p + 1)) h) := by
  have hn := k.1.2.1.le
  intro s
  induction s with
  | zero =>
    intro v fu hv hfu
    obtain ⟨fu, rfl⟩ : ∃ z, fu = z + 1 := ⟨fu - 1, by omega⟩
    refine ⟨fun o ho => (by cases ho), fun _ => ?_⟩
    rw [s_X5_findOne_L20, if_pos (show (8 : Int32) ≤ nI v from nI_le (a := 8) (b := v) (by omega) (by omega)), k.1.c, pp_at k.1.2.1 (by omega), pp_bind]
    by_cases hpn : p < n
    · refine ⟨_, fun _ => rfl, ?_⟩
      simp only [pp_w_in hpn]
      rw [af_c hV k.1.1 hw (k.1.2.1.lt8 hpn), pp_bind, nI_1]
    · refine ⟨nI (ey t), fun z => absurd z hpn, ?_⟩
      simp only [show pp_w n f p = -9 from if_neg hpn]
      rw [af_9, pp_bind, nI_1]
  | succ s ih =>
    intro v fu hv hfu
    obtain ⟨fu, rfl⟩ : ∃ z, fu = z + 1 := ⟨fu - 1, by omega⟩
    have hv8 : v < 8 := by omega
    have eq : s_X5_findOne_L20 κ (fu + 1) 10 b 1 (nI w) (dI want) (nI q) (nI (ey t)) (nI p) (nI v) h = (if (sa_E kn w f (n - p) p (sy_af kn w t v)).1 = want then (s_X5_keep 10 (nI q) (nI p) (nI v) h).bind fun w54 => some (1, w54.2) else s_X5_findOne_L20 κ fu 10 b 1 (nI w) (dI want) (nI q) (nI (ey t)) (nI p) (nI (v + 1)) h) := by
      rw [s_X5_findOne_L20, if_neg (show ¬ (8 : Int32) ≤ nI v from nI_ge (a := v) (b := 8) hv8 (by decide)), af_c hV k.1.1 hw hv8, pp_bind]
      simp only []
      rw [k.1.b, ez_Re k hp, pp_bind]
      simp only []
      rw [k.1.b, nI_1]
      by_cases hc : (sa_E kn w f (n - p) p (sy_af kn w t v)).1 = want
      · rw [if_pos (dI_eq.mpr hc), if_pos hc]
      · rw [if_neg (fun z => hc (dI_eq.mp z)), if_neg hc]
    rw [eq, sc_R, ez_Qy hv8 (by omega)]
    by_cases hc : (sa_E kn w f (n - p) p (sy_af kn w t v)).1 = want
    · rw [if_pos hc, if_pos ⟨by omega, decide_eq_true hc⟩]
      refine ⟨fun o ho => ?_, fun z => by cases z⟩
      cases ho
      obtain ⟨h1, a1, a2⟩ := ez_sk k (q := q) (p := p) (v := v) hq
      exact ⟨h1, by rw [a1, pp_bind], a2⟩
    · rw [if_neg hc, if_neg (fun z => hc (of_decide_eq_true z.2))]
      exact ih (v + 1) fu (by omega) (by omega)
theorem ez_8 (hV : pp_V (kn, dc, sz, wd, so, sl, sc, tr, ft)) (hw : w < 8) {want : Bool} {q : Nat} (hq : q < 2) {h : tt_H} (k : ez_R (kn, dc, sz, wd, so, sl, sc, tr, ft) b n f kn w h) : ∀ (s p fu : Nat) (t : sy_T), p + s = n → s + 1 < fu →
    (∀ o, sc_R (ez_Q kn w f want s p t) (10 * s + 8) (10 * p) = some o → ∃ h1, s_X5_findOne_L8 fu 10 b 1 (nI w) (dI want) (nI q) (nI (ey t)) (nI p) h = some (1, h1) ∧ ez_12 h q o h1) ∧
    (sc_R (ez_Q kn w f want s p t) (10 * s + 8) (10 * p) = none → s_X5_findOne_L8 fu 10 b 1 (nI w) (dI want) (nI q) (nI (ey t)) (nI p) h = some (0, h)) := by
  have hn := k.1.2.1.le
  intro s
  induction s with
  | zero =>
    intro p fu t hp hfu
    obtain ⟨fu, rfl⟩ : ∃ z, fu = z + 1 := ⟨fu - 1, by omega⟩
    obtain ⟨fu, rfl⟩ : ∃ z, fu = z + 1 := ⟨fu - 1, by omega⟩
    obtain rfl : p = n := by omega
    have e := ez_20 hV hw (want := want) hq (Nat.le_refl p) (t := t) (s_X5_findOne_L8 (fu + 1)) k 8 0 1000 (by omega) (by omega)
    rw [Nat.sub_self, show 10 * p + 0 = 10 * p from rfl] at e
    have e0 : s_X5_findOne_L8 (fu + 1 + 1) 10 b 1 (nI w) (dI want) (nI q) (nI (ey t)) (nI p) h = s_X5_findOne_L20 (s_X5_findOne_L8 (fu + 1)) 1000 10 b 1 (nI w) (dI want) (nI q) (nI (ey t)) (nI p) (nI 0) h := by
      rw [s_X5_findOne_L8, k.1.c, pp_size k.1.2.1, pp_bind, if_neg (nI_nlt (Nat.le_refl p) (by omega))]
      rfl
    rw [e0]
    refine ⟨fun o ho => e.1 o ho, fun ho => ?_⟩
    obtain ⟨x, -, e2⟩ := e.2 ho
    rw [e2, s_X5_findOne_L8, k.1.c, pp_size k.1.2.1, pp_bind, if_pos (nI_lt (Nat.lt_succ_self p) (by omega))]
  | succ s ih =>
    intro p fu t hp hfu
    obtain ⟨fu, rfl⟩ : ∃ z, fu = z + 1 := ⟨fu - 1, by omega⟩
    have e := ez_20 hV hw (want := want) hq (show p ≤ n by omega) (t := t) (s_X5_findOne_L8 fu) k 8 0 1000 (by omega) (by omega)
    rw [show n - p = s + 1 by omega, show 10 * p + 0 = 10 * p from rfl] at e
    have e0 : s_X5_findOne_L8 (fu + 1) 10 b 1 (nI w) (dI want) (nI q) (nI (ey t)) (nI p) h = s_X5_findOne_L20 (s_X5_findOne_L8 fu) 1000 10 b 1 (nI w) (dI want) (nI q) (nI (ey t)) (nI p) (nI 0) h := by
      rw [s_X5_findOne_L8, k.1.c, pp_size k.1.2.1, pp_bind, if_neg (nI_nlt (show p ≤ n by omega) (by omega))]
      rfl
    have sp : 10 * (s + 1) + 8 = 8 + (2 + (10 * s + 8)) := by omega
    rw [e0, sp]
    cases h8 : sc_R (ez_Q kn w f want (s + 1) p t) 8 (10 * p) with
    | some o8 =>
      rw [sc_s 8 _ _ h8]
      refine ⟨fun o ho => ?_, fun z => by cases z⟩
      cases ho
      exact e.1 _ h8
    | none =>
      obtain ⟨x, ex, e2⟩ := e.2 h8
      rw [sc_n 8 _ _ h8, sc_10, sc_cong (Q' := ez_Q kn w f want s (p + 1) (sy_af kn w t (f p))) _ _ (fun o ho _ _ => ez_Qn ho (by omega)), e2, ex (by omega)]
      exact ih (p + 1) fu _ (by omega) (by omega)
/-- two put in make it so -/
def ez_D (kn : Nat → Nat) (w : Nat) (f : Nat → Nat) (want : Bool) (s k : Nat) (t : sy_T) (o x : Nat) : Bool := decide ((sa_W kn w o x f s k t).1 = want)
theorem ez_Dy {want : Bool} {s k v x : Nat} {t : sy_T} (hv : v < 8) (hk : k + s ≤ 12) : ez_D kn w f want s k t (10 * k + v) x = ez_Q kn w f want s k (sy_af kn w t v) x := by
  unfold ez_D ez_Q
  rw [sa_W2 (by omega) hk, show (10 * k + v) % 10 = v by omega]
theorem ez_Dn {want : Bool} {s k o x : Nat} {t : sy_T} (ho : 10 * (k + 1) ≤ o) (hx : 10 * (k + 1) ≤ x) : ez_D kn w f want (s + 1) k t o x = ez_D kn w f want s (k + 1) (sy_af kn w t (f k)) o x := by
  unfold ez_D
  rw [sa_Wm (by omega) (by omega)]
/-- both are kept -/
def ez_22 (h : tt_H) (o x : Nat) (h1 : tt_H) : Prop := ∃ g g1, h 12 = some (tt_ia 2 g) ∧ h1 = va_up h 12 (some (tt_ia 2 g1)) ∧ g1 0 = nI o ∧ g1 1 = nI x
theorem ez_18 (hV : pp_V (kn, dc, sz, wd, so, sl, sc, tr, ft)) (hw : w < 8) {want : Bool} {p m : Nat} (hp : p ≤ n) (hm : m = 10 * n + 8) {t : sy_T} {h : tt_H} (κ : Nat → Nat → Nat → Int32 → Int32 → Int32 → Int32 → tt_H → Option (Int32 × tt_H)) (k : ez_R (kn, dc, sz, wd, so, sl, sc, tr, ft) b n f kn w h) : ∀ (s v fu r : Nat), v + s = 8 → s < fu →
    (∀ q, sd_R (ez_D kn w f want (n - p) p t) m s (10 * p + v) = some q → ∃ h1, s_X5_findTwo_L18 κ fu 10 b 1 (nI w) (dI want) (nI (ey t)) (nI p) (nI v) h = some (1, h1) ∧ ez_22 h q.1 q.2 h1) ∧
    (sd_R (ez_D kn w f want (n - p) p t) m s (10 * p + v) = none → (∃ x, (p < n → x = nI (ey (sy_af kn w t (f p)))) ∧ s_X5_findTwo_L18 κ fu 10 b 1 (nI w) (dI want) (nI (ey t)) (nI p) (nI v) h = κ 10 b 1 (nI w) (dI want) x (nI (p + 1)) h) ∧ sd_R (ez_D kn w f want (n - p) p t) m (s + r) (10 * p + v) = sd_R (ez_D kn w f want (n - p) p t) m r (10 * p + 8)) ∧
    (∀ q, sd_R (ez_D kn w f want (n - p) p t) m s (10 * p + v) = some q → sd_R (ez_D kn w f want (n - p) p t) m (s + r) (10 * p + v) = some q) := by
  have hn := k.1.2.1.le
  intro s
  induction s with
  | zero =>
    intro v fu r hv hfu
    obtain ⟨fu, rfl⟩ : ∃ z, fu = z + 1 := ⟨fu - 1, by omega⟩
    refine ⟨fun o ho => (by cases ho), fun _ => ⟨?_, ?_⟩, fun o ho => (by cases ho)⟩
    · rw [s_X5_findTwo_L18, if_pos (show (8 : Int32) ≤ nI v from nI_le (a := 8) (b := v) (by omega) (by omega)), k.1.c, pp_at k.1.2.1 (by omega), pp_bind]
      by_cases hpn : p < n
      · refine ⟨_, fun _ => rfl, ?_⟩
        simp only [pp_w_in hpn]
        rw [af_c hV k.1.1 hw (k.1.2.1.lt8 hpn), pp_bind, nI_1]
      · refine ⟨nI (ey t), fun z => absurd z hpn, ?_⟩
        simp only [show pp_w n f p = -9 from if_neg hpn]
        rw [af_9, pp_bind, nI_1]
    · rw [Nat.zero_add, show v = 8 by omega]
  | succ s ih =>
    intro v fu r hv hfu
    obtain ⟨fu, rfl⟩ : ∃ z, fu = z + 1 := ⟨fu - 1, by omega⟩
    have hv8 : v < 8 := by omega
    have hd : (10 * p + v) / 10 = p := by omega
    have hmd : (10 * p + v) % 10 < 8 := by omega
    have e8 := ez_8 hV hw (want := want) (q := 1) (by decide) k (n - p) p 1000 (sy_af kn w t v) (by omega) (by omega)
    have eq : ∀ g : Int32 × tt_H, s_X5_findOne_L8 1000 10 b 1 (nI w) (dI want) (nI 1) (nI (ey (sy_af kn w t v))) (nI p) h = some g → s_X5_findTwo_L18 κ (fu + 1) 10 b 1 (nI w) (dI want) (nI (ey t)) (nI p) (nI v) h = (if g.1 = 0 then s_X5_findTwo_L18 κ fu 10 b 1 (nI w) (dI want) (nI (ey t)) (nI p) (nI (v + 1)) g.2 else (gg_obj g.2 10 5).bind fun _ => (s_X5_keep 10 0 (nI p) (nI v) g.2).bind fun w55 => some (1, w55.2)) := by
      intro g hg
      rw [s_X5_findTwo_L18, if_neg (show ¬ (8 : Int32) ≤ nI v from nI_ge (a := v) (b := 8) hv8 (by decide)), af_c hV k.1.1 hw hv8, pp_bind]
      simp only []
      rw [k.1.b, show s_X5_findOne 10 b 1 (nI w) (dI want) (nI p) (nI (ey (sy_af kn w t v))) 1 h = some g from hg, pp_bind, nI_1]
    have eQ : sc_R (ez_D kn w f want (n - p) p t (10 * p + v)) (m - 10 * ((10 * p + v) / 10)) (10 * ((10 * p + v) / 10)) = sc_R (ez_Q kn w f want (n - p) p (sy_af kn w t v)) (10 * (n - p) + 8) (10 * p) := by
      rw [hd, show m - 10 * p = 10 * (n - p) + 8 by omega]
      exact sc_cong _ _ (fun x _ _ _ => ez_Dy hv8 (by omega))
    cases hs : sc_R (ez_Q kn w f want (n - p) p (sy_af kn w t v)) (10 * (n - p) + 8) (10 * p) with
    | some x =>
      obtain ⟨h1, a1, a2⟩ := e8.1 x hs
      rw [hs] at eQ
      rw [eq _ a1, show s + 1 + r = s + r + 1 by omega, sd_1 hmd eQ, sd_1 hmd eQ, if_neg (show ¬ (1 : Int32) = 0 by decide)]
      have k1 := ez_R12 k a2
      obtain ⟨h2, b1, b2⟩ := ez_sk k1 (q := 0) (p := p) (v := v) (by decide)
      refine ⟨fun q hq => ?_, fun z => (by cases z), fun q hq => hq⟩
      cases hq
      refine ⟨h2, ?_, ?_⟩
      · simp only []
        rw [k1.1.b, show s_X5_keep 10 0 (nI p) (nI v) h1 = some ((), h2) from b1, pp_bind]
      · obtain ⟨g, g1, c1, rfl, rfl⟩ := a2
        obtain ⟨g', g1', d1, rfl, rfl⟩ := b2
        rw [va_up_self] at d1
        have : g' = upd g 1 (nI x) := by simp at d1; exact d1.symm
        subst this
        refine ⟨g, upd (upd g 1 (nI x)) 0 (nI (10 * p + v)), c1, ?_, pk_us, ?_⟩
        · funext i
          by_cases hi : i = 12
          · rw [hi, va_up_self, va_up_self]
          · rw [va_up_ne _ _ hi, va_up_ne _ _ hi, va_up_ne _ _ hi]
        · rw [pk_un (by decide), pk_us]
    | none =>
      have a1 := e8.2 hs
      rw [hs] at eQ
      rw [eq _ a1, show s + 1 + r = s + r + 1 by omega, sd_0 hmd eQ, sd_0 hmd eQ, if_pos rfl]
      exact ih (v + 1) fu r (by omega) (by omega)
theorem ez_6 (hV : pp_V (kn, dc, sz, wd, so, sl, sc, tr, ft)) (hw : w < 8) {want : Bool} {m : Nat} (hm : m = 10 * n + 8) {h : tt_H} (k : ez_R (kn, dc, sz, wd, so, sl, sc, tr, ft) b n f kn w h) : ∀ (s p fu : Nat) (t : sy_T), p + s = n → s + 1 < fu →
    (∀ q, sd_R (ez_D kn w f want s p t) m (10 * s + 8) (10 * p) = some q → ∃ h1, s_X5_findTwo_L6 fu 10 b 1 (nI w) (dI want) (nI (ey t)) (nI p) h = some (1, h1) ∧ ez_22 h q.1 q.2 h1) ∧
    (sd_R (ez_D kn w f want s p t) m (10 * s + 8) (10 * p) = none → s_X5_findTwo_L6 fu 10 b 1 (nI w) (dI want) (nI (ey t)) (nI p) h = some (0, h)) := by
  have hn := k.1.2.1.le
  intro s
  induction s with
  | zero =>
    intro p fu t hp hfu
    obtain ⟨fu, rfl⟩ : ∃ z, fu = z + 1 := ⟨fu - 1, by omega⟩
    obtain ⟨fu, rfl⟩ : ∃ z, fu = z + 1 := ⟨fu - 1, by omega⟩
    obtain rfl : p = n := by omega
    have e := ez_18 hV hw (want := want) (Nat.le_refl p) hm (t := t) (s_X5_findTwo_L6 (fu + 1)) k 8 0 1000 0 (by omega) (by omega)
    rw [Nat.sub_self, show 10 * p + 0 = 10 * p from rfl] at e
    have e0 : s_X5_findTwo_L6 (fu + 1 + 1) 10 b 1 (nI w) (dI want) (nI (ey t)) (nI p) h = s_X5_findTwo_L18 (s_X5_findTwo_L6 (fu + 1)) 1000 10 b 1 (nI w) (dI want) (nI (ey t)) (nI p) (nI 0) h := by
      rw [s_X5_findTwo_L6, k.1.c, pp_size k.1.2.1, pp_bind, if_neg (nI_nlt (Nat.le_refl p) (by omega))]
      rfl
    rw [e0]
    refine ⟨fun o ho => e.1 o ho, fun ho => ?_⟩
    obtain ⟨⟨x, -, e2⟩, -⟩ := e.2.1 ho
    rw [e2, s_X5_findTwo_L6, k.1.c, pp_size k.1.2.1, pp_bind, if_pos (nI_lt (Nat.lt_succ_self p) (by omega))]
  | succ s ih =>
    intro p fu t hp hfu
    obtain ⟨fu, rfl⟩ : ∃ z, fu = z + 1 := ⟨fu - 1, by omega⟩
    have e := ez_18 hV hw (want := want) (show p ≤ n by omega) hm (t := t) (s_X5_findTwo_L6 fu) k 8 0 1000 (2 + (10 * s + 8)) (by omega) (by omega)
    rw [show n - p = s + 1 by omega, show 10 * p + 0 = 10 * p from rfl] at e
    have e0 : s_X5_findTwo_L6 (fu + 1) 10 b 1 (nI w) (dI want) (nI (ey t)) (nI p) h = s_X5_findTwo_L18 (s_X5_findTwo_L6 fu) 1000 10 b 1 (nI w) (dI want) (nI (ey t)) (nI p) (nI 0) h := by
      rw [s_X5_findTwo_L6, k.1.c, pp_size k.1.2.1, pp_bind, if_neg (nI_nlt (show p ≤ n by omega) (by omega))]
      rfl
    have sp : 10 * (s + 1) + 8 = 8 + (2 + (10 * s + 8)) := by omega
    rw [e0, sp]
    cases h8 : sd_R (ez_D kn w f want (s + 1) p t) m 8 (10 * p) with
    | some o8 =>
      rw [e.2.2 _ h8]
      refine ⟨fun o ho => ?_, fun z => by cases z⟩
      cases ho
      exact e.1 _ h8
    | none =>
      obtain ⟨⟨x, ex, e2⟩, e3⟩ := e.2.1 h8
      rw [e3, sd_10, sd_cong (Q' := ez_D kn w f want s (p + 1) (sy_af kn w t (f p))) _ _ (fun o ho _ _ x hx _ _ => ez_Dn ho (by omega)), e2, ex (by omega)]
      exact ih (p + 1) fu _ (by omega) (by omega)
end PUTC
