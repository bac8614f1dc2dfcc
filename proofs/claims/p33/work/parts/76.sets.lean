/-! THE LAW'S LOOK AT ALL SETS of places: where each WORD stands first, last; which places can be one of it -/
def isMin (R : Nat → Prop) (x : Int32) : Prop := (x = -9 ∧ ∀ q, ¬ R q) ∨ ∃ q, q < 12 ∧ x = nI q ∧ R q ∧ ∀ q', R q' → q ≤ q'
def isMax (R : Nat → Prop) (x : Int32) : Prop := (x = -9 ∧ ∀ q, ¬ R q) ∨ ∃ q, q < 12 ∧ x = nI q ∧ R q ∧ ∀ q', R q' → q' ≤ q
def nF (x : Int32) (q : Nat) : Int32 := if x < 0 then nI q else if x ≤ nI q then x else nI q
def nE (x : Int32) (q : Nat) : Int32 := if nI q ≤ x then x else nI q
theorem isMin.congr {R R' : Nat → Prop} {x : Int32} (h : isMin R x) (e : ∀ q, R q ↔ R' q) : isMin R' x := by
  rcases h with ⟨h1, h2⟩ | ⟨q, h0, h1, h2, h3⟩
  · exact Or.inl ⟨h1, fun q z => h2 q ((e q).mpr z)⟩
  · exact Or.inr ⟨q, h0, h1, (e q).mp h2, fun q' z => h3 q' ((e q').mpr z)⟩
theorem isMax.congr {R R' : Nat → Prop} {x : Int32} (h : isMax R x) (e : ∀ q, R q ↔ R' q) : isMax R' x := by
  rcases h with ⟨h1, h2⟩ | ⟨q, h0, h1, h2, h3⟩
  · exact Or.inl ⟨h1, fun q z => h2 q ((e q).mpr z)⟩
  · exact Or.inr ⟨q, h0, h1, (e q).mp h2, fun q' z => h3 q' ((e q').mpr z)⟩
theorem isMin.add {R : Nat → Prop} {x : Int32} (h : isMin R x) {q : Nat} (hq : q < 12) : isMin (fun q' => R q' ∨ q' = q) (nF x q) := by
  unfold nF
  rcases h with ⟨h1, h2⟩ | ⟨p, h0, h1, h2, h3⟩
  · rw [h1, if_pos (by decide)]
    exact Or.inr ⟨q, hq, rfl, Or.inr rfl, fun q' z => z.elim (fun z => absurd z (h2 q')) (fun z => by omega)⟩
  · rw [h1, if_neg (nI_pos (by omega))]
    by_cases hpq : p ≤ q
    · rw [if_pos (nI_le hpq (by omega))]
      exact Or.inr ⟨p, h0, rfl, Or.inl h2, fun q' z => z.elim (h3 q') (fun z => by omega)⟩
    · rw [if_neg (nI_ge (by omega) (by omega))]
      exact Or.inr ⟨q, hq, rfl, Or.inr rfl, fun q' z => z.elim (fun z => by have := h3 q' z; omega) (fun z => by omega)⟩
theorem isMax.add {R : Nat → Prop} {x : Int32} (h : isMax R x) {q : Nat} (hq : q < 12) : isMax (fun q' => R q' ∨ q' = q) (nE x q) := by
  unfold nE
  rcases h with ⟨h1, h2⟩ | ⟨p, h0, h1, h2, h3⟩
  · rw [h1, if_neg (pp_neg_lt (by decide) (by omega))]
    exact Or.inr ⟨q, hq, rfl, Or.inr rfl, fun q' z => z.elim (fun z => absurd z (h2 q')) (fun z => by omega)⟩
  · rw [h1]
    by_cases hpq : q ≤ p
    · rw [if_pos (nI_le hpq (by omega))]
      exact Or.inr ⟨p, h0, rfl, Or.inl h2, fun q' z => z.elim (h3 q') (fun z => by omega)⟩
    · rw [if_neg (nI_ge (by omega) (by omega))]
      exact Or.inr ⟨q, hq, rfl, Or.inr rfl, fun q' z => z.elim (fun z => by have := h3 q' z; omega) (fun z => by omega)⟩
def bI (a : Nat) : Int32 := (1 : Int32) <<< (nI a &&& 31)
section SE
variable {kn : Nat → Nat} {dc : Nat} {sz : Nat → Nat} {wd : Nat → Nat → Nat} {so sl : Nat → Nat} {sc : Nat → Nat → Int32} {tr ft : Int32} {C : Nat → Int64} {G kd : Nat → Int32} {nn Ls : Nat} {xs : Nat → Int32}
/-- the three rows that the law keeps -/
def lv_R (p : Nat) (F E M : Nat → Int32) (h : tt_H) : Prop := h p = some (tt_ia 12 F) ∧ h (p + 1) = some (tt_ia 12 E) ∧ h 52 = some (tt_ia 12 M)
theorem st_444 {a b p s : Nat} (ha : a < dc) (hb : b < dc) (hp : 53 ≤ p) (hpn : p + 1 < nn) (hs : s < 4096) {m : Nat → Nat} (m1 : ps s (sz b) = sz a) (m2 : ∀ q, q < sz b → s.testBit q = true → ps s q < sz a ∧ m (ps s q) = q) (F0 E0 M0 : Nat → Int32) {x11 x12 : Int32} (κ : Int32 → Nat → Int32 → Int32 → Int32 → Int32 → Nat → Nat → Int32 → Nat → tt_H → Option (Int32 × tt_H)) (Q : Int32 × tt_H → Prop)
    (hκ : ∀ F E M h, lm_B kn dc sz wd so sl sc tr ft C G kd nn h → lv_R p F E M h → (∀ k, k < sz a → F k = nF (F0 k) (m k)) → (∀ k, k < sz a → E k = nE (E0 k) (m k)) → (∀ q, M q = if q < sz b ∧ b = dc - 1 ∧ s.testBit q = true then M0 q ||| bI a else M0 q) → ok (κ (nI (dc - 1)) 52 (nI a) (nI b) x11 x12 p (p + 1) (nI s) nn h) Q) :
    ∀ (t q fu : Nat) (F E M : Nat → Int32) (h : tt_H), q + t = sz b → t < fu → lm_B kn dc sz wd so sl sc tr ft C G kd nn h → lv_R p F E M h → (∀ k, k < sz a → F k = if k < ps s q then nF (F0 k) (m k) else F0 k) → (∀ k, k < sz a → E k = if k < ps s q then nE (E0 k) (m k) else E0 k) → (∀ j, M j = if j < q ∧ b = dc - 1 ∧ s.testBit j = true then M0 j ||| bI a else M0 j) → ok (s_L_law_L444 Ls xs κ fu (nI (dc - 1)) 52 (nI a) (nI b) x11 x12 p (p + 1) (nI s) (nI (ps s q)) (nI q) nn h) Q := by
  intro t
  induction t with
  | zero =>
    intro q fu F E M h hq hfu hB hR hF hE hM
    obtain ⟨fu, rfl⟩ : ∃ z, fu = z + 1 := ⟨fu - 1, by omega⟩
    have b12 := hB.s12 hb
    obtain rfl : q = sz b := by omega
    rw [s_L_law_L444, hB.g hb, pp_bind, if_pos (nI_le (Nat.le_refl _) (by omega))]
    exact hκ F E M h hB hR (fun k hk => by rw [hF k hk, if_pos (by omega)]) (fun k hk => by rw [hE k hk, if_pos (by omega)]) hM
  | succ t ih =>
    intro q fu F E M h hq hfu hB hR hF hE hM
    obtain ⟨fu, rfl⟩ : ∃ z, fu = z + 1 := ⟨fu - 1, by omega⟩
    have b12 := hB.s12 hb
    have a12 := hB.s12 ha
    have d6 := hB.d6
    obtain ⟨r1, r2, r3⟩ := hR
    rw [s_L_law_L444, hB.g hb, pp_bind, if_neg (nI_ge (show q < sz b by omega) (by omega))]
    by_cases hbit : s.testBit q = true
    · obtain ⟨hk, hmk⟩ := m2 q (by omega) hbit
      have hFk : F (ps s q) = F0 (ps s q) := by rw [hF _ hk, if_neg (Nat.lt_irrefl _)]
      have hEk : E (ps s q) = E0 (ps s q) := by rw [hE _ hk, if_neg (Nat.lt_irrefl _)]
      rw [if_neg (fun z => by rw [st_bit (by omega) (by omega)] at z; rw [z] at hbit; cases hbit)]
      have R1 : ∀ v, lm_B kn dc sz wd so sl sc tr ft C G kd nn (va_up h p (some (tt_ia 12 (upd F (ps s q) v)))) := fun v => hB.up (by omega) (by omega) trivial
      have tail : ∀ F2 E2 M2 h2, lm_B kn dc sz wd so sl sc tr ft C G kd nn h2 → lv_R p F2 E2 M2 h2 → F2 = upd F (ps s q) (nF (F0 (ps s q)) q) → E2 = upd E (ps s q) (nE (E0 (ps s q)) q) → (∀ j, M2 j = if j < q + 1 ∧ b = dc - 1 ∧ s.testBit j = true then M0 j ||| bI a else M0 j) → ok (s_L_law_J545 Ls xs (s_L_law_J548 Ls xs (s_L_law_L444 Ls xs κ fu)) (nI (dc - 1)) 52 (nI a) (nI b) x11 x12 p (p + 1) (nI s) (nI (ps s q)) (nI q) nn h2) Q := by
        intro F2 E2 M2 h2 B2 R2 eF eE hM2
        unfold s_L_law_J545 s_L_law_J548
        rw [nI_1, nI_1, ← ps_1 hbit]
        refine ih (q + 1) fu F2 E2 M2 h2 (by omega) (by omega) B2 R2 (fun k hk2 => ?_) (fun k hk2 => ?_) hM2
        · rw [eF, ps_1 hbit]
          by_cases hkk : k = ps s q
          · rw [hkk, pk_us, if_pos (Nat.lt_succ_self _), hmk]
          · rw [pk_un hkk, hF k hk2]
            by_cases hlt : k < ps s q
            · rw [if_pos hlt, if_pos (by omega)]
            · rw [if_neg hlt, if_neg (by omega)]
        · rw [eE, ps_1 hbit]
          by_cases hkk : k = ps s q
          · rw [hkk, pk_us, if_pos (Nat.lt_succ_self _), hmk]
          · rw [pk_un hkk, hE k hk2]
            by_cases hlt : k < ps s q
            · rw [if_pos hlt, if_pos (by omega)]
            · rw [if_neg hlt, if_neg (by omega)]
      have j525 : ∀ (h1 : tt_H) (F1 : Nat → Int32), lm_B kn dc sz wd so sl sc tr ft C G kd nn h1 → lv_R p F1 E M h1 → F1 = upd F (ps s q) (nF (F0 (ps s q)) q) → ok (s_L_law_J525 Ls xs (s_L_law_J548 Ls xs (s_L_law_L444 Ls xs κ fu)) (nI (dc - 1)) 52 (nI a) (nI b) x11 x12 p (p + 1) (nI s) (nI (ps s q)) (nI q) (p + 1) (nI (ps s q)) (nE (E0 (ps s q)) q) nn h1) Q := by
        intro h1 F1 B1 R1 eF
        obtain ⟨q1, q2, q3⟩ := R1
        unfold s_L_law_J525
        rw [pp_is q2 (show ps s q < 12 by omega) (by decide), pp_bind]
        have B2 := B1.up (p := p + 1) (by omega) (by omega) (x := tt_ia 12 (upd E (ps s q) (nE (E0 (ps s q)) q))) trivial
        have q1' : va_up h1 (p + 1) (some (tt_ia 12 (upd E (ps s q) (nE (E0 (ps s q)) q)))) p = some (tt_ia 12 F1) := by rw [va_up_ne _ _ (by omega)]; exact q1
        have q3' : va_up h1 (p + 1) (some (tt_ia 12 (upd E (ps s q) (nE (E0 (ps s q)) q)))) 52 = some (tt_ia 12 M) := by rw [va_up_ne _ _ (by omega)]; exact q3
        by_cases hbl : b = dc - 1
        · rw [if_pos (by rw [hbl]), pp_il q3' (show q < 12 by omega) (by decide), pp_bind, pp_is q3' (show q < 12 by omega) (by decide), pp_bind]
          refine tail F1 _ _ _ (B2.up (p := 52) (by omega) (by omega) trivial) ⟨by rw [va_up_ne _ _ (by omega)]; exact q1', by rw [va_up_ne _ _ (by omega), va_up_self], va_up_self _ _ _⟩ eF rfl (fun j => ?_)
          by_cases hjq : j = q
          · rw [hjq, pk_us, if_pos ⟨Nat.lt_succ_self q, hbl, hbit⟩, hM q, if_neg (fun z => absurd z.1 (Nat.lt_irrefl q))]
            rfl
          · rw [pk_un hjq, hM j]
            by_cases hc : j < q ∧ b = dc - 1 ∧ s.testBit j = true
            · rw [if_pos hc, if_pos ⟨by omega, hc.2⟩]
            · rw [if_neg hc, if_neg (fun z => hc ⟨by omega, z.2⟩)]
        · rw [if_neg (fun z => hbl ((nI_eq (by omega) (by omega)).mp z))]
          refine tail F1 _ M _ B2 ⟨q1', va_up_self _ _ _, q3'⟩ eF rfl (fun j => ?_)
          rw [hM j, if_neg (fun z => hbl z.2.1), if_neg (fun z => hbl z.2.1)]
      have j500 : ok (s_L_law_J500 Ls xs (s_L_law_J548 Ls xs (s_L_law_L444 Ls xs κ fu)) (nI (dc - 1)) 52 (nI a) (nI b) x11 x12 p (p + 1) (nI s) (nI (ps s q)) (nI q) p (nI (ps s q)) (nF (F0 (ps s q)) q) nn h) Q := by
        have q2' : ∀ v, va_up h p (some (tt_ia 12 (upd F (ps s q) v))) (p + 1) = some (tt_ia 12 E) := fun v => by rw [va_up_ne _ _ (by omega)]; exact r2
        have q3' : ∀ v, va_up h p (some (tt_ia 12 (upd F (ps s q) v))) 52 = some (tt_ia 12 M) := fun v => by rw [va_up_ne _ _ (by omega)]; exact r3
        unfold s_L_law_J500
        rw [pp_is r1 (show ps s q < 12 by omega) (by decide), pp_bind, pp_il (q2' _) (show ps s q < 12 by omega) (by decide), pp_bind, hEk]
        have go := j525 _ _ (R1 (nF (F0 (ps s q)) q)) ⟨va_up_self _ _ _, q2' _, q3' _⟩ rfl
        unfold nE at go
        by_cases hc : nI q ≤ E0 (ps s q)
        · rw [if_pos hc] at go
          rw [if_pos hc, pp_bind]
          exact go
        · rw [if_neg hc] at go
          rw [if_neg hc]
          exact go
      unfold nF at j500
      rw [pp_il r1 (show ps s q < 12 by omega) (by decide), pp_bind, hFk]
      by_cases c1 : F0 (ps s q) < 0
      · rw [if_pos c1] at j500
        rw [if_pos c1]
        unfold s_L_law_J490
        exact j500
      · rw [if_neg c1] at j500
        rw [if_neg c1, pp_bind]
        by_cases c2 : F0 (ps s q) ≤ nI q
        · rw [if_pos c2] at j500
          rw [if_pos c2, pp_bind]
          exact j500
        · rw [if_neg c2] at j500
          rw [if_neg c2]
          unfold s_L_law_J490
          exact j500
    · have hbit' : s.testBit q = false := by cases hx : s.testBit q with | true => exact absurd hx hbit | false => rfl
      rw [if_pos ((st_bit (by omega) (by omega)).mpr hbit')]
      unfold s_L_law_J548
      rw [nI_1, ← ps_0 hbit]
      refine ih (q + 1) fu F E M h (by omega) (by omega) hB ⟨r1, r2, r3⟩ (fun k hk => by rw [ps_0 hbit]; exact hF k hk) (fun k hk => by rw [ps_0 hbit]; exact hE k hk) (fun j => ?_)
      rw [hM j]
      by_cases hc : j < q ∧ b = dc - 1 ∧ s.testBit j = true
      · rw [if_pos hc, if_pos ⟨by omega, hc.2⟩]
      · rw [if_neg hc, if_neg]
        rintro ⟨z1, z2, z3⟩
        by_cases hjq : j = q
        · rw [hjq] at z3; exact hbit z3
        · exact hc ⟨by omega, z2, z3⟩
/-- what is known when the sets below S have been looked at -/
def rS (f1 f2 : Nat → Nat) (n1 n2 S k q : Nat) : Prop := ∃ s, s < S ∧ mt f1 f2 s n2 n1 = true ∧ q < n2 ∧ s.testBit q = true ∧ ps s q = k
def mS (f1 f2 : Nat → Nat) (n1 n2 S q : Nat) : Prop := ∃ s, s < S ∧ mt f1 f2 s n2 n1 = true ∧ q < n2 ∧ s.testBit q = true
def mI (f1 f2 : Nat → Nat) (n1 n2 a S : Nat) (on : Prop) (M0 M : Nat → Int32) (q : Nat) : Prop := ((on ∧ mS f1 f2 n1 n2 S q) ∧ M q = M0 q ||| bI a) ∨ (¬ (on ∧ mS f1 f2 n1 n2 S q) ∧ M q = M0 q)
theorem rS_no {f1 f2 : Nat → Nat} {n1 n2 S k q : Nat} (h : ¬ mt f1 f2 S n2 n1 = true) : rS f1 f2 n1 n2 S k q ↔ rS f1 f2 n1 n2 (S + 1) k q :=
  ⟨fun ⟨s, h1, h2⟩ => ⟨s, by omega, h2⟩, fun ⟨s, h1, h2⟩ => ⟨s, by
    by_cases hs : s = S
    · subst hs; exact absurd h2.1 h
    · omega, h2⟩⟩
theorem mS_no {f1 f2 : Nat → Nat} {n1 n2 S q : Nat} (h : ¬ mt f1 f2 S n2 n1 = true) : mS f1 f2 n1 n2 S q ↔ mS f1 f2 n1 n2 (S + 1) q :=
  ⟨fun ⟨s, h1, h2⟩ => ⟨s, by omega, h2⟩, fun ⟨s, h1, h2⟩ => ⟨s, by
    by_cases hs : s = S
    · subst hs; exact absurd h2.1 h
    · omega, h2⟩⟩
theorem rS_yes {f1 f2 m : Nat → Nat} {n1 n2 S k : Nat} (h : mt f1 f2 S n2 n1 = true) (hk : k < n1) (e1 : ∀ k, k < n1 → S.testBit (m k) = true ∧ ps S (m k) = k) (e0 : ∀ k, k < n1 → m k < n2) (e2 : ∀ q, q < n2 → S.testBit q = true → ps S q < n1 ∧ m (ps S q) = q) (q : Nat) : (rS f1 f2 n1 n2 S k q ∨ q = m k) ↔ rS f1 f2 n1 n2 (S + 1) k q := by
  constructor
  · rintro (⟨s, h1, h2⟩ | rfl)
    · exact ⟨s, by omega, h2⟩
    · exact ⟨S, Nat.lt_succ_self S, h, e0 k hk, e1 k hk⟩
  · rintro ⟨s, h1, h2, h3, h4, h5⟩
    by_cases hs : s = S
    · subst hs
      refine Or.inr ?_
      have := (e2 q h3 h4).2
      rw [h5] at this
      exact this.symm
    · exact Or.inl ⟨s, by omega, h2, h3, h4, h5⟩
theorem or_idem (x y : Int32) : (x ||| y) ||| y = x ||| y := by rw [Int32.or_assoc, Int32.or_self]
theorem mI_yes {f1 f2 : Nat → Nat} {n1 n2 a S : Nat} {on : Prop} {M0 M M' : Nat → Int32} {q : Nat} (h : mt f1 f2 S n2 n1 = true) (hI : mI f1 f2 n1 n2 a S on M0 M q) (h1 : q < n2 ∧ on ∧ S.testBit q = true → M' q = M q ||| bI a) (h0 : ¬ (q < n2 ∧ on ∧ S.testBit q = true) → M' q = M q) : mI f1 f2 n1 n2 a (S + 1) on M0 M' q := by
  by_cases hc : q < n2 ∧ on ∧ S.testBit q = true
  · refine Or.inl ⟨⟨hc.2.1, S, Nat.lt_succ_self S, h, hc.1, hc.2.2⟩, ?_⟩
    rw [h1 hc]
    rcases hI with ⟨_, e⟩ | ⟨_, e⟩
    · rw [e, or_idem]
    · rw [e]
  · rw [mI, h0 hc]
    have key : (on ∧ mS f1 f2 n1 n2 S q) ↔ (on ∧ mS f1 f2 n1 n2 (S + 1) q) := by
      constructor
      · rintro ⟨o, s, s1, s2⟩; exact ⟨o, s, by omega, s2⟩
      · rintro ⟨o, s, s1, s2, s3, s4⟩
        refine ⟨o, s, ?_, s2, s3, s4⟩
        by_cases hs : s = S
        · subst hs; exact absurd ⟨s3, o, s4⟩ hc
        · omega
    rw [← key]
    exact hI
theorem st_382 {a b p : Nat} (ha : a < dc) (hb : b < dc) (hp : 53 ≤ p) (hpn : p + 1 < nn) (M0 : Nat → Int32) {x11 : Int32} (κ : Int32 → Nat → Int32 → Int32 → Nat → tt_H → Option (Int32 × tt_H)) (Q : Int32 × tt_H → Prop)
    (hfin : ∀ fu F E M h, lm_B kn dc sz wd so sl sc tr ft C G kd nn h → lv_R p F E M h → (∀ k, k < sz a → isMin (rS (wd a) (wd b) (sz a) (sz b) (2 ^ sz b) k) (F k)) → (∀ k, k < sz a → isMax (rS (wd a) (wd b) (sz a) (sz b) (2 ^ sz b) k) (E k)) → (∀ q, mI (wd a) (wd b) (sz a) (sz b) a (2 ^ sz b) (b = dc - 1) M0 M q) → ok (s_L_law_L382 Ls xs κ (fu + 1) (nI (dc - 1)) 52 (nI a) (nI b) x11 (nI (cnt (fun s => mt (wd a) (wd b) s (sz b) (sz a)) (2 ^ sz b))) p (p + 1) (nI (2 ^ sz b)) nn h) Q) :
    ∀ (t S fu : Nat) (F E M : Nat → Int32) (h : tt_H), S + t = 2 ^ sz b → t < fu → lm_B kn dc sz wd so sl sc tr ft C G kd nn h → lv_R p F E M h → (∀ k, k < sz a → isMin (rS (wd a) (wd b) (sz a) (sz b) S k) (F k)) → (∀ k, k < sz a → isMax (rS (wd a) (wd b) (sz a) (sz b) S k) (E k)) → (∀ q, mI (wd a) (wd b) (sz a) (sz b) a S (b = dc - 1) M0 M q) → ok (s_L_law_L382 Ls xs κ fu (nI (dc - 1)) 52 (nI a) (nI b) x11 (nI (cnt (fun s => mt (wd a) (wd b) s (sz b) (sz a)) S)) p (p + 1) (nI S) nn h) Q := by
  intro t
  induction t with
  | zero =>
    intro S fu F E M h hS hfu hB hR hF hE hM
    obtain ⟨fu, rfl⟩ : ∃ z, fu = z + 1 := ⟨fu - 1, by omega⟩
    obtain rfl : S = 2 ^ sz b := by omega
    exact hfin fu F E M h hB hR hF hE hM
  | succ t ih =>
    intro S fu F E M h hS hfu hB hR hF hE hM
    obtain ⟨fu, rfl⟩ : ∃ z, fu = z + 1 := ⟨fu - 1, by omega⟩
    obtain ⟨b1, b2, b3⟩ := hB.s12 hb
    obtain ⟨a1, a2, a3⟩ := hB.s12 ha
    have hS2 : S < 2 ^ sz b := by omega
    have h4 : 2 ^ sz b ≤ 2 ^ 12 := Nat.pow_le_pow_right (by decide) b2
    have hS4 : S < 4096 := by omega
    have iff := mt_iff (f1 := wd a) (f2 := wd b) (s := S) (sz b) (sz a) a3 b3
    have hps := ps_le S (sz b)
    rw [s_L_law_L382, hB.g hb, pp_bind, st_1 _ (show sz b < 13 by omega), if_neg (nI_ge hS2 (by omega)), H_size hS2 b2, pp_bind]
    simp only []
    rw [hB.g ha, pp_bind]
    have skip : ¬ mt (wd a) (wd b) S (sz b) (sz a) = true → ok (s_L_law_J554 Ls xs (s_L_law_L382 Ls xs κ fu) (nI (dc - 1)) 52 (nI a) (nI b) x11 (nI (cnt (fun s => mt (wd a) (wd b) s (sz b) (sz a)) S)) p (p + 1) (nI S) nn h) Q := fun hno => by
      have hc : cnt (fun s => mt (wd a) (wd b) s (sz b) (sz a)) (S + 1) = cnt (fun s => mt (wd a) (wd b) s (sz b) (sz a)) S := by rw [cnt, if_neg hno]
      have := ih (S + 1) fu F E M h (by omega) (by omega) hB hR (fun k hk => (hF k hk).congr (fun q => rS_no hno)) (fun k hk => (hE k hk).congr (fun q => rS_no hno)) (fun q => by
        have := hM q
        rw [mI] at this ⊢
        rw [← mS_no hno]
        exact this)
      rw [hc] at this
      unfold s_L_law_J554
      rw [nI_1]
      exact this
    by_cases hsz : ps S (sz b) = sz a
    · rw [if_pos (by rw [hsz]), hB.c hb, pp_bind, hB.g hb, pp_bind, H_part b2 b3 hS4, pp_bind]
      simp only []
      rw [hB.c ha, pp_bind]
      have l1 := pv_lt (f := wd b) (s := S) (sz b) b3
      have l2 : 8 ^ ps S (sz b) ≤ 8 ^ 12 := Nat.pow_le_pow_right (by decide) (by omega)
      have l3 : (8 : Nat) ^ 12 = 2 ^ 36 := by decide
      have l4 := cN_36 a3 a2
      by_cases hpv : pv (wd b) S (sz b) = cN (wd a) (sz a)
      · have hyes : mt (wd a) (wd b) S (sz b) (sz a) = true := iff.mp ⟨hsz, hpv⟩
        obtain ⟨e1, m, hem, e3, e4⟩ := emb_of (sz b) (sz a) hyes
        have hc : cnt (fun s => mt (wd a) (wd b) s (sz b) (sz a)) (S + 1) = cnt (fun s => mt (wd a) (wd b) s (sz b) (sz a)) S + 1 := by rw [cnt, if_pos hyes]
        rw [if_pos ((lg_cmp_eq _ _).mpr (by rw [hpv])), nI_1, ← hc]
        refine st_444 ha hb hp hpn hS4 hsz e4 F E M _ Q (fun F' E' M' h' B' R' hF' hE' hM' => ?_) (sz b) 0 10000 F E M h (by omega) (by omega) hB hR (fun k hk => by rw [if_neg (show ¬ k < ps S 0 from Nat.not_lt_zero k)]) (fun k hk => by rw [if_neg (show ¬ k < ps S 0 from Nat.not_lt_zero k)]) (fun j => by rw [if_neg (fun z => absurd z.1 (Nat.not_lt_zero j))])
        unfold s_L_law_J554
        rw [nI_1]
        refine ih (S + 1) fu F' E' M' h' (by omega) (by omega) B' R' (fun k hk => ?_) (fun k hk => ?_) (fun q => ?_)
        · rw [hF' k hk]
          exact ((hF k hk).add (q := m k) (by have := (hem.1 k hk).1; omega)).congr (rS_yes hyes hk e3 (fun k hk => (hem.1 k hk).1) e4)
        · rw [hE' k hk]
          exact ((hE k hk).add (q := m k) (by have := (hem.1 k hk).1; omega)).congr (rS_yes hyes hk e3 (fun k hk => (hem.1 k hk).1) e4)
        · exact mI_yes hyes (hM q) (fun z => by rw [hM' q, if_pos z]) (fun z => by rw [hM' q, if_neg z])
      · rw [if_neg (fun z => hpv ((pk_lEQ (by omega) (by omega)).mp ((lg_cmp_eq _ _).mp z)))]
        exact skip (fun z => hpv (iff.mpr z).2)
    · rw [if_neg (fun z => hsz ((nI_eq (by omega) (by omega)).mp z))]
      exact skip (fun z => hsz (iff.mpr z).1)
end SE
