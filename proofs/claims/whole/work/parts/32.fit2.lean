/-! THE MODEL's object: at 49 -/
def pp_mob (ft tr dc at_ rd pm po pt : Int32) : tt_E := tt_ob 9 [.int ft, .int tr, .ref 50, .ref 51, .ref 52, .ref 53, .int dc, .ref 54, .ref 55, .int at_, .int rd, .ref 56, .ref 57, .ref 58, .ref 59, .ref 60, .int pm, .int po, .int pt, .ref 61, .ref 62, .ref 63, .ref 64, .ref 65, .ref 66, .ref 67]
def pp_mo (h : tt_H) : Prop := ∃ ft tr dc at_ rd pm po pt, h 49 = some (pp_mob ft tr dc at_ rd pm po pt)
theorem pp_mo.up {h : tt_H} (hm : pp_mo h) {p : Nat} (e : Option tt_E) (h1 : 49 ≠ p) : pp_mo (va_up h p e) := by
  obtain ⟨ft, tr, dc, at_, rd, pm, po, pt, hm⟩ := hm
  exact ⟨ft, tr, dc, at_, rd, pm, po, pt, by rw [va_up_ne _ _ h1]; exact hm⟩
theorem pp_mo.obj {h : tt_H} (hm : pp_mo h) : ∃ fs, gg_obj h 49 9 = some fs := by
  obtain ⟨ft, tr, dc, at_, rd, pm, po, pt, hm⟩ := hm
  exact ⟨_, pp_obj hm⟩
/-- the receiver's class is looked at; what it holds is not used -/
theorem pp_mo.b {α : Type} {h : tt_H} (hm : pp_mo h) (x : Option α) : ((gg_obj h 49 9).bind fun _ => x) = x := by
  obtain ⟨fs, e⟩ := hm.obj
  rw [e]; rfl

theorem mo_2 {h : tt_H} (hm : pp_mo h) : gg_fr h 49 9 2 = some 50 := by
  obtain ⟨ft, tr, dc, at_, rd, pm, po, pt, hm⟩ := hm
  exact pp_fr hm rfl

theorem mo_3 {h : tt_H} (hm : pp_mo h) : gg_fr h 49 9 3 = some 51 := by
  obtain ⟨ft, tr, dc, at_, rd, pm, po, pt, hm⟩ := hm
  exact pp_fr hm rfl

theorem mo_4 {h : tt_H} (hm : pp_mo h) : gg_fr h 49 9 4 = some 52 := by
  obtain ⟨ft, tr, dc, at_, rd, pm, po, pt, hm⟩ := hm
  exact pp_fr hm rfl

theorem mo_5 {h : tt_H} (hm : pp_mo h) : gg_fr h 49 9 5 = some 53 := by
  obtain ⟨ft, tr, dc, at_, rd, pm, po, pt, hm⟩ := hm
  exact pp_fr hm rfl

theorem mo_7 {h : tt_H} (hm : pp_mo h) : gg_fr h 49 9 7 = some 54 := by
  obtain ⟨ft, tr, dc, at_, rd, pm, po, pt, hm⟩ := hm
  exact pp_fr hm rfl

theorem mo_8 {h : tt_H} (hm : pp_mo h) : gg_fr h 49 9 8 = some 55 := by
  obtain ⟨ft, tr, dc, at_, rd, pm, po, pt, hm⟩ := hm
  exact pp_fr hm rfl

theorem mo_11 {h : tt_H} (hm : pp_mo h) : gg_fr h 49 9 11 = some 56 := by
  obtain ⟨ft, tr, dc, at_, rd, pm, po, pt, hm⟩ := hm
  exact pp_fr hm rfl

theorem mo_12 {h : tt_H} (hm : pp_mo h) : gg_fr h 49 9 12 = some 57 := by
  obtain ⟨ft, tr, dc, at_, rd, pm, po, pt, hm⟩ := hm
  exact pp_fr hm rfl

theorem mo_13 {h : tt_H} (hm : pp_mo h) : gg_fr h 49 9 13 = some 58 := by
  obtain ⟨ft, tr, dc, at_, rd, pm, po, pt, hm⟩ := hm
  exact pp_fr hm rfl

theorem mo_14 {h : tt_H} (hm : pp_mo h) : gg_fr h 49 9 14 = some 59 := by
  obtain ⟨ft, tr, dc, at_, rd, pm, po, pt, hm⟩ := hm
  exact pp_fr hm rfl

theorem mo_15 {h : tt_H} (hm : pp_mo h) : gg_fr h 49 9 15 = some 60 := by
  obtain ⟨ft, tr, dc, at_, rd, pm, po, pt, hm⟩ := hm
  exact pp_fr hm rfl

theorem mo_19 {h : tt_H} (hm : pp_mo h) : gg_fr h 49 9 19 = some 61 := by
  obtain ⟨ft, tr, dc, at_, rd, pm, po, pt, hm⟩ := hm
  exact pp_fr hm rfl

theorem mo_20 {h : tt_H} (hm : pp_mo h) : gg_fr h 49 9 20 = some 62 := by
  obtain ⟨ft, tr, dc, at_, rd, pm, po, pt, hm⟩ := hm
  exact pp_fr hm rfl

theorem mo_21 {h : tt_H} (hm : pp_mo h) : gg_fr h 49 9 21 = some 63 := by
  obtain ⟨ft, tr, dc, at_, rd, pm, po, pt, hm⟩ := hm
  exact pp_fr hm rfl

theorem mo_22 {h : tt_H} (hm : pp_mo h) : gg_fr h 49 9 22 = some 64 := by
  obtain ⟨ft, tr, dc, at_, rd, pm, po, pt, hm⟩ := hm
  exact pp_fr hm rfl

theorem mo_23 {h : tt_H} (hm : pp_mo h) : gg_fr h 49 9 23 = some 65 := by
  obtain ⟨ft, tr, dc, at_, rd, pm, po, pt, hm⟩ := hm
  exact pp_fr hm rfl

theorem mo_24 {h : tt_H} (hm : pp_mo h) : gg_fr h 49 9 24 = some 66 := by
  obtain ⟨ft, tr, dc, at_, rd, pm, po, pt, hm⟩ := hm
  exact pp_fr hm rfl

theorem mo_25 {h : tt_H} (hm : pp_mo h) : gg_fr h 49 9 25 = some 67 := by
  obtain ⟨ft, tr, dc, at_, rd, pm, po, pt, hm⟩ := hm
  exact pp_fr hm rfl

/-- a DAY of the model: number d, n WORDS f -/
def pp_m (h : tt_H) (d n : Nat) (f : Nat → Nat) : Prop := pp_mo h ∧ ∃ ln wr : Nat → Int32, h 54 = some (tt_ia 6 ln) ∧ h 55 = some (tt_ia 84 wr) ∧ d < 6 ∧ ln d = nI n ∧ n ≤ 12 ∧ ∀ k, k < n → wr (14 * d + k) = nI (f k) ∧ f k < 8
theorem pp_m.up {h : tt_H} {d n : Nat} {f : Nat → Nat} (hc : pp_m h d n f) {p : Nat} (e : Option tt_E) (h1 : 55 < p) : pp_m (va_up h p e) d n f := by
  obtain ⟨e0, ln, wr, e1, e2, e3⟩ := hc
  exact ⟨e0.up e (by omega), ln, wr, by rw [va_up_ne _ _ (by omega)]; exact e1, by rw [va_up_ne _ _ (by omega)]; exact e2, e3⟩
section MCR
variable {h : tt_H} {d n : Nat} {f : Nat → Nat}
theorem pp_m.le (hc : pp_m h d n f) : n ≤ 12 := by obtain ⟨_, _, _, _, _, _, _, h1, _⟩ := hc; exact h1
theorem pp_m.dlt (hc : pp_m h d n f) : d < 6 := by obtain ⟨_, _, _, _, _, h1, _⟩ := hc; exact h1
theorem pp_m.lt8 (hc : pp_m h d n f) {k : Nat} (hk : k < n) : f k < 8 := by obtain ⟨_, _, _, _, _, _, _, _, h1⟩ := hc; exact (h1 k hk).2
theorem pp_mlen (hc : pp_m h d n f) : gg_il h 54 (nI d) = some (nI n) := by
  obtain ⟨_, ln, wr, e1, e2, e3, e4, _⟩ := hc
  rw [pp_il e1 e3 (by decide), e4]
theorem pp_mw (hc : pp_m h d n f) {k : Nat} (hk : k < n) : s_X9_wordAt 49 (nI d) (nI k) h = some (nI (f k), h) := by
  have hm := hc.1
  obtain ⟨_, ln, wr, e1, e2, e3, e4, e5, e6⟩ := hc
  unfold s_X9_wordAt
  rw [mo_8 hm, pp_bind, show ((14 : Int32) * nI d) + nI k = nI (14 * d + k) from by rw [pp_lit 14, pk_mul, nI_add], pp_il e2 (by omega) (by decide), pp_bind, (e6 k hk).1]
end MCR
theorem pp_same {h : tt_H} {p : Nat} {e : tt_E} (hp : h p = some e) : va_up h p (some e) = h := by
  funext j
  by_cases hj : j = p
  · subst hj; rw [va_up_self, hp]
  · rw [va_up_ne _ _ hj]
theorem pp_comm {h : tt_H} {p q : Nat} (e e' : Option tt_E) (hpq : p ≠ q) : va_up (va_up h p e) q e' = va_up (va_up h q e') p e := by
  funext j
  by_cases h1 : j = p
  · subst h1; rw [va_up_ne _ _ hpq, va_up_self, va_up_self]
  · by_cases h2 : j = q
    · subst h2; rw [va_up_self, va_up_ne _ _ h1, va_up_self]
    · rw [va_up_ne _ _ h2, va_up_ne _ _ h1, va_up_ne _ _ h1, va_up_ne _ _ h2]
theorem pp_sub1 (x : Int32) : x - 1 = x + (-1) := Int32.sub_eq_add_neg x 1
section FIT2
variable {h0 : tt_H} {b1 b2 n1 n2 : Nat} {f1 f2 : Nat → Nat}
theorem fit_front (c1 : pp_cry h0 b1 n1 f1) (c2 : pp_cry h0 b2 n2 f2) (hF : h0 6 = some (tt_ob 3 [.ref 7, .ref 8, .ref 9])) (k1 : b1 ≠ 7 ∧ b1 + 1 ≠ 7 ∧ b2 ≠ 7 ∧ b2 + 1 ≠ 7) :
    ∀ (s p fu : Nat) (g : Nat → Int32), p + s = n2 → s < fu → (∀ k, k < gK n1 f1 f2 p → g k = nI (gA n1 f1 f2 p k)) →
      ∃ g', s_X3_make_L5 fu 6 b1 b2 (nI (gK n1 f1 f2 p)) (nI p) (va_up h0 7 (some (tt_ia 12 g))) = (if n1 ≤ gK n1 f1 f2 n2 then s_X3_make_L78 1000 6 b1 b2 (nI n1 + (-1)) (nI n2 + (-1)) (va_up h0 7 (some (tt_ia 12 g'))) else some (0, va_up h0 7 (some (tt_ia 12 g')))) ∧ ∀ k, k < gK n1 f1 f2 n2 → g' k = nI (gA n1 f1 f2 n2 k) := by
  intro s
  have l1 := c1.le
  have l2 := c2.le
  induction s with
  | zero =>
    intro p fu g hp hfu hg
    obtain ⟨fu, rfl⟩ : ∃ z, fu = z + 1 := ⟨fu - 1, by omega⟩
    obtain rfl : p = n2 := by omega
    have c1' : pp_cry (va_up h0 7 (some (tt_ia 12 g))) b1 n1 f1 := c1.up _ k1.1 k1.2.1
    have c2' : pp_cry (va_up h0 7 (some (tt_ia 12 g))) b2 p f2 := c2.up _ k1.2.2.1 k1.2.2.2
    have hk := gK_le n1 f1 f2 p
    refine ⟨g, ?_, hg⟩
    rw [s_X3_make_L5, pp_cobj c2', pp_bind, pp_size c2', pp_bind]
    simp only []
    rw [if_pos (nI_le (Nat.le_refl p) (by omega)), pp_cobj c1', pp_bind, pp_size c1', pp_bind]
    simp only []
    by_cases hw : n1 ≤ gK n1 f1 f2 p
    · rw [if_pos (nI_le hw (by omega)), if_pos hw, pp_cobj c1', pp_bind, pp_size c1', pp_bind]
      simp only []
      rw [pp_cobj c2', pp_bind, pp_size c2', pp_bind]
      simp only [pp_sub1]
    · rw [if_neg (nI_ge (by omega) (by omega)), if_neg hw]
  | succ s ih =>
    intro p fu g hp hfu hg
    obtain ⟨fu, rfl⟩ : ∃ z, fu = z + 1 := ⟨fu - 1, by omega⟩
    have c1' : pp_cry (va_up h0 7 (some (tt_ia 12 g))) b1 n1 f1 := c1.up _ k1.1 k1.2.1
    have c2' : pp_cry (va_up h0 7 (some (tt_ia 12 g))) b2 n2 f2 := c2.up _ k1.2.2.1 k1.2.2.2
    have hk := gK_le n1 f1 f2 p
    rw [s_X3_make_L5, pp_cobj c2', pp_bind, pp_size c2', pp_bind]
    simp only []
    rw [if_neg (nI_ge (by omega) (by omega)), pp_cobj c1', pp_bind, pp_has c1' (by omega), pp_bind]
    simp only []
    by_cases hk1 : gK n1 f1 f2 p < n1
    · rw [if_pos hk1, if_neg (by decide), pp_cobj c1', pp_bind, pp_at c1' (by omega), pp_bind]
      simp only []
      rw [pp_cobj c2', pp_bind, pp_at c2' (by omega), pp_bind]
      simp only []
      by_cases hw : f1 (gK n1 f1 f2 p) = f2 p
      · have hc : gK n1 f1 f2 p < n1 ∧ f1 (gK n1 f1 f2 p) = f2 p := ⟨hk1, hw⟩
        rw [if_pos ((pp_w_eq hk1 (by omega) (c1.lt8 hk1) (c2.lt8 (by omega))).mpr hw), pp_fr (v := 7) (by rw [va_up_ne _ _ (by decide)]; exact hF) rfl, pp_bind, pp_is (va_up_self _ _ _) (by omega) (by decide), pp_bind, bx_uu, s_X3_make_J47, nI_1, nI_1, ← gK_s1 hc]
        refine ih (p + 1) fu _ (by omega) (by omega) (fun k hk => ?_)
        rw [gK_s1 hc] at hk
        rw [gA_s1 hc]
        by_cases hkk : k = gK n1 f1 f2 p
        · simp [upd, hkk]
        · simp only [upd, if_neg hkk]; exact hg k (by omega)
      · have hc : ¬ (gK n1 f1 f2 p < n1 ∧ f1 (gK n1 f1 f2 p) = f2 p) := fun z => hw z.2
        rw [if_neg (fun z => hw ((pp_w_eq hk1 (by omega) (c1.lt8 hk1) (c2.lt8 (by omega))).mp z)), s_X3_make_J47, nI_1, ← gK_s0 hc]
        exact ih (p + 1) fu _ (by omega) (by omega) (by rw [gK_s0 hc, gA_s0 hc]; exact hg)
    · have hc : ¬ (gK n1 f1 f2 p < n1 ∧ f1 (gK n1 f1 f2 p) = f2 p) := fun z => hk1 z.1
      rw [if_neg hk1, if_pos rfl, s_X3_make_J47, nI_1, ← gK_s0 hc]
      exact ih (p + 1) fu _ (by omega) (by omega) (by rw [gK_s0 hc, gA_s0 hc]; exact hg)
theorem pp_make {g7 g8 : Nat → Int32} (c1 : pp_cry h0 b1 n1 f1) (c2 : pp_cry h0 b2 n2 f2) (hF : h0 6 = some (tt_ob 3 [.ref 7, .ref 8, .ref 9])) (h7 : h0 7 = some (tt_ia 12 g7)) (h8 : h0 8 = some (tt_ia 12 g8)) (k1 : b1 ≠ 7 ∧ b1 + 1 ≠ 7 ∧ b2 ≠ 7 ∧ b2 + 1 ≠ 7) (k2 : b1 ≠ 8 ∧ b1 + 1 ≠ 8 ∧ b2 ≠ 8 ∧ b2 + 1 ≠ 8) :
    ∃ g l, s_X3_make 6 b1 b2 h0 = some (if gK n1 f1 f2 n2 = n1 then 1 else 0, va_up (va_up h0 7 (some (tt_ia 12 g))) 8 (some (tt_ia 12 l))) ∧ (gK n1 f1 f2 n2 = n1 → ∀ k, k < n1 → g k = nI (gA n1 f1 f2 n2 k) ∧ l k = nI (gB f1 f2 n2 n1 (fun _ => 0) k)) := by
  have l1 := c1.le
  have l2 := c2.le
  obtain ⟨g, e1, e2⟩ := fit_front c1 c2 hF k1 n2 0 1000 g7 (by omega) (by omega) (fun k hk => absurd hk (Nat.not_lt_zero k))
  rw [pp_same h7] at e1
  have hle := gK_le n1 f1 f2 n2
  by_cases hw : gK n1 f1 f2 n2 = n1
  · rw [if_pos (by omega)] at e1
    obtain ⟨l, e3, e4⟩ := fit_back (h0 := va_up h0 7 (some (tt_ia 12 g))) (c1.up _ k1.1 k1.2.1) (c2.up _ k1.2.2.1 k1.2.2.2) (by rw [va_up_ne _ _ (by decide)]; exact hF) k2 n2 n1 1000 g8 (fun _ => 0) (Nat.le_refl _) (Nat.le_refl _) (by omega) (fun k h1 h2 => by omega)
    rw [pp_same (by rw [va_up_ne _ _ (by decide)]; exact h8)] at e3
    refine ⟨g, l, ?_, fun _ k hk => ⟨e2 k (by omega), e4 k (by rw [gR_within hw]; exact Nat.zero_le k) hk⟩⟩
    rw [if_pos hw]
    show s_X3_make_L5 1000 6 b1 b2 (nI (gK n1 f1 f2 0)) (nI 0) h0 = _
    rw [e1, e3]
  · rw [if_neg (by omega)] at e1
    refine ⟨g, g8, ?_, fun z => absurd z hw⟩
    rw [if_neg hw, pp_same (by rw [va_up_ne _ _ (by decide)]; exact h8)]
    show s_X3_make_L5 1000 6 b1 b2 (nI (gK n1 f1 f2 0)) (nI 0) h0 = _
    rw [e1]
end FIT2
