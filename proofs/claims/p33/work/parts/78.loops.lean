/-! THE LAW'S LOOPS over DAYS, and its end -/
def mb_P (W : Nat → Int32) : Nat → Int32
  | 0 => 0
  | a + 1 => if W a = 0 then mb_P W a else mb_P W a ||| bI a
theorem mb_PR (W : Nat → Int32) : ∀ s d, mb_R W s d (mb_P W d) = mb_P W (d + s)
  | 0, d => rfl
  | s + 1, d => by
    rw [mb_R, show d + (s + 1) = (d + 1) + s by omega, ← mb_PR W s (d + 1)]
    rfl
section LO2
variable {kn : Nat → Nat} {dc : Nat} {sz : Nat → Nat} {wd : Nat → Nat → Nat} {so sl : Nat → Nat} {sc : Nat → Nat → Int32} {tr ft : Int32} {C : Nat → Int64} {G kd : Nat → Int32} {Ls : Nat} {xs : Nat → Int32}
/-- said, DAY by DAY -/
theorem lo_731 {nn : Nat} {h : tt_H} (hB : lm_B kn dc sz wd so sl sc tr ft C G kd nn h) (x7 x9 : Int32) (κ : Int32 → Int32 → Nat → tt_H → Option (Int32 × tt_H)) : ∀ (t d fu : Nat), d + t = dc → t < fu → s_L_law_L731 Ls xs κ fu x7 x9 (nI d) nn h = κ x7 (x9 + 1) nn h := by
  have d6 := hB.d6
  intro t
  induction t with
  | zero =>
    intro d fu hd hfu
    obtain ⟨fu, rfl⟩ : ∃ z, fu = z + 1 := ⟨fu - 1, by omega⟩
    rw [s_L_law_L731, hB.n, pp_bind, if_pos (nI_le (by omega) (by omega))]
  | succ t ih =>
    intro d fu hd hfu
    obtain ⟨fu, rfl⟩ : ∃ z, fu = z + 1 := ⟨fu - 1, by omega⟩
    obtain ⟨s1, s2, s3⟩ := hB.s12 (show d < dc by omega)
    rw [s_L_law_L731, hB.n, pp_bind, if_neg (nI_ge (show d < dc by omega) (by omega)), hB.b, K_said hB.1 hB.2.1 (show d < dc by omega), pp_bind]
    simp only []
    rw [hB.c (show d < dc by omega), pp_bind, hB.g (show d < dc by omega), pp_bind, H_said s2 s3 hB.1.1 hB.2.2.2.2.2.1 hB.2.2.2.2.2.2.2.2.1, pp_bind]
    simp only []
    rw [if_pos trivial, nI_1]
    exact ih (d + 1) fu (by omega) (by omega)
/-- the refusals at the end -/
theorem lo_end {nn : Nat} {h : tt_H} (hB : lm_B kn dc sz wd so sl sc tr ft C G kd nn h) (fu : Nat) : s_L_law_L703 Ls xs (fu + 1) (nI (dc - 1)) (nI 4) nn h = some (1, h) := by
  have d6 := hB.d6
  have d0 := hB.2.2.1
  obtain ⟨s1, s2, s3⟩ := hB.s12 d0
  have w1 : s_X8_within 0 0 (nI dc) h = some (-1, h) := K_within_2 hB.1 hB.2.1 (d1 := 0) d0 (Or.inr (Int32.le_refl _))
  have w2 : s_X8_within 0 (-1) 0 h = some (-1, h) := K_within_1 hB.1 hB.2.1 (Or.inl (by decide)) (d2 := 0) d0
  have w3 : s_X8_ways 0 (nI dc) 0 h = some (-9223372036854775808, h) := K_ways_1 hB.1 hB.2.1 (Or.inr (Int32.le_refl _)) (d2 := 0) d0
  have w4 : s_X8_place 0 0 (nI dc) 0 0 h = some (-1, h) := K_place_2 hB.1 hB.2.1 (d1 := 0) d0 (Or.inr (Int32.le_refl _)) 0 0
  have w5 : s_X8_place 0 0 0 (nI (sz 0)) 0 h = some (-1, h) := K_place_3 hB.1 hB.2.1 (d1 := 0) (d2 := 0) d0 d0 (Or.inr (Int32.le_refl _)) 0
  have w6 : s_X8_place 0 0 0 (-1) 0 h = some (-1, h) := K_place_3 hB.1 hB.2.1 (d1 := 0) (d2 := 0) d0 d0 (Or.inl (by decide)) 0
  have w7 : s_X8_place 0 0 0 0 2 h = some (-2, h) := K_place_4 hB.1 hB.2.1 (d1 := 0) (d2 := 0) (k := 0) d0 d0 s1 (Or.inr (by decide))
  have w8 : s_X8_mayBe 0 (nI (sz (dc - 1))) h = some (-1, h) := K_mayBe_1 hB.1 hB.2.1 d0 (Or.inr (Int32.le_refl _))
  have w9 : s_X8_mayBe 0 (-1) h = some (-1, h) := K_mayBe_1 hB.1 hB.2.1 d0 (Or.inl (by decide))
  have w10 : s_X8_said 0 (nI dc) h = some (-1, h) := K_said_1 hB.2.1 (Or.inr (Int32.le_refl _))
  have w11 : s_X8_ofDay 0 (nI dc) 0 h = some (-1, h) := K_ofDay_d hB.2.1 0 (Or.inr (Int32.le_refl _))
  have w12 : s_X8_ofDay 0 0 (-2) h = some (-1, h) := K_ofDay_o hB.1 hB.2.1 (d := 0) d0 (by decide) (Or.inl (by decide))
  have w13 : s_X8_kind 0 8 0 h = some (-1, h) := K_kind_1 0 (Or.inr (by decide))
  have w14 : s_X8_kind 0 0 3 h = some (-2, h) := K_kind_2 (w := 0) (by decide) (Or.inr (by decide))
  have w15 : s_X8_kind 0 (-1) 0 h = some (-1, h) := K_kind_1 0 (Or.inl (by decide))
  have g1 : gg_il h 50 1 = some (nI (sz 0)) := hB.g0 d0
  have g2 := hB.g (show dc - 1 < dc by omega)
  rw [s_L_law_L703, if_pos (by decide)]
  rw [hB.n, pp_bind, hB.b, w1, pp_bind, if_pos rfl]
  simp only []
  rw [hB.b, w2, pp_bind, if_pos rfl]
  simp only []
  rw [hB.n, pp_bind, hB.b, w3, pp_bind, if_pos ((lg_cmp_eq _ _).mpr rfl)]
  simp only []
  rw [hB.n, pp_bind, hB.b, w4, pp_bind, if_pos rfl]
  simp only []
  rw [g1, pp_bind, hB.b, w5, pp_bind, if_pos rfl]
  simp only []
  rw [hB.b, w6, pp_bind, if_pos rfl]
  simp only []
  rw [hB.b, w7, pp_bind, if_pos rfl]
  simp only []
  rw [g2, pp_bind, hB.b, w8, pp_bind, if_pos rfl]
  simp only []
  rw [hB.b, w9, pp_bind, if_pos rfl]
  simp only []
  rw [hB.n, pp_bind, hB.b, w10, pp_bind, if_pos rfl]
  simp only []
  rw [hB.n, pp_bind, hB.b, w11, pp_bind, if_pos rfl]
  simp only []
  rw [hB.b, w12, pp_bind, if_pos rfl]
  simp only []
  rw [hB.b, w13, pp_bind, if_pos rfl]
  simp only []
  rw [hB.b, w14, pp_bind, if_pos rfl]
  simp only []
  rw [hB.b, w15, pp_bind, if_pos rfl]
/-- four turns of kinds -/
theorem lo_703 (hL : Ls ≤ 260) {nn : Nat} : ∀ (t k fu : Nat) (kn : Nat → Nat) (kd : Nat → Int32) (h : tt_H), k + t = 4 → t < fu → lm_B kn dc sz wd so sl sc tr ft C G kd nn h → ok (s_L_law_L703 Ls xs fu (nI (dc - 1)) (nI k) nn h) (fun r => r.1 = 1) := by
  intro t
  induction t with
  | zero =>
    intro k fu kn kd h hk hfu hB
    obtain ⟨fu, rfl⟩ : ∃ z, fu = z + 1 := ⟨fu - 1, by omega⟩
    obtain rfl : k = 4 := by omega
    exact ⟨(1, h), lo_end hB fu, rfl⟩
  | succ t ih =>
    intro k fu kn kd h hk hfu hB
    obtain ⟨fu, rfl⟩ : ∃ z, fu = z + 1 := ⟨fu - 1, by omega⟩
    have d6 := hB.d6
    obtain ⟨v, e1⟩ := H_cell hL xs (k := 4 + k) (by omega) h
    obtain ⟨b1, b2, b3, b4, b5, b6, b7, b8, b9, b10, b11⟩ := id hB
    obtain ⟨kn', g', h', f1, f2, f3, f4, f5, f6⟩ := H_kinds v b1 b2 b6 b9
    have hA : lm_A nn h' := by
      refine ⟨b10.1, fun i i1 i2 => ?_, fun i hi => by rw [f6 i (by omega) (by omega)]; exact b10.2.2 i hi⟩
      by_cases h51 : i = 51
      · exact ⟨tt_ia 8 g', by rw [h51]; exact f4, oe_ia⟩
      · rw [f6 i i1 h51]; exact b10.2.1 i i1 i2
    have B' : lm_B kn' dc sz wd so sl sc tr ft C G g' nn h' := ⟨f2, f3, b3, by rw [f6 49 (by decide) (by decide)]; exact b4, by rw [f6 50 (by decide) (by decide)]; exact b5, f4, b7, b8, f5, hA, b11⟩
    rw [s_L_law_L703, if_neg (show ¬ (4 : Int32) ≤ nI k from nI_ge (a := k) (b := 4) (by omega) (by decide)), show (4 : Int32) + nI k = nI (4 + k) by rw [pp_lit 4, nI_add], e1, pp_bind]
    simp only []
    rw [f1, pp_bind]
    simp only []
    rw [if_neg (by decide), show (0 : Int32) = nI 0 from rfl, lo_731 B' (nI (dc - 1)) (nI k) _ dc 0 10000 (by omega) (by omega), nI_1]
    exact ih (k + 1) fu kn' g' h' (by omega) (by omega) B'
/-- MAY BE, place by place -/
theorem lo_667 (hL : Ls ≤ 260) {nn : Nat} {M : Nat → Int32} (hM : ∀ q, q < sz (dc - 1) → M q = mb_P (mb_V dc sz wd q) dc) : ∀ (t q fu : Nat) (h : tt_H), q + t = sz (dc - 1) → t < fu → lm_B kn dc sz wd so sl sc tr ft C G kd nn h → h 52 = some (tt_ia 12 M) → ok (s_L_law_L667 Ls xs fu (nI (dc - 1)) 52 (nI q) nn h) (fun r => r.1 = 1) := by
  intro t
  induction t with
  | zero =>
    intro q fu h hq hfu hB h52
    obtain ⟨fu, rfl⟩ : ∃ z, fu = z + 1 := ⟨fu - 1, by omega⟩
    have d0 := hB.2.2.1
    have s12 := hB.s12 (show dc - 1 < dc by omega)
    rw [s_L_law_L667, hB.g (show dc - 1 < dc by omega), pp_bind, if_pos (nI_le (by omega) (by omega))]
    exact lo_703 hL 4 0 10000 kn kd h (by omega) (by omega) hB
  | succ t ih =>
    intro q fu h hq hfu hB h52
    obtain ⟨fu, rfl⟩ : ∃ z, fu = z + 1 := ⟨fu - 1, by omega⟩
    have d0 := hB.2.2.1
    have s12 := hB.s12 (show dc - 1 < dc by omega)
    have hqs : q < sz (dc - 1) := by omega
    obtain ⟨h1, e1, B1, f1⟩ := hB.call (K_mayBe hB.1 hB.2.1 d0 hqs)
    have e2 : mb_R (mb_V dc sz wd q) dc 0 0 = M q := by
      rw [hM q hqs]
      have := mb_PR (mb_V dc sz wd q) dc 0
      rw [Nat.zero_add] at this
      exact this
    have h52' : h1 52 = some (tt_ia 12 M) := by rw [f1 52 (by decide)]; exact h52
    rw [s_L_law_L667, hB.g (show dc - 1 < dc by omega), pp_bind, if_neg (nI_ge hqs (by omega)), hB.b, e1, pp_bind]
    simp only []
    rw [pp_il h52' (show q < 12 by omega) (by decide), pp_bind, if_pos e2, nI_1]
    exact ih (q + 1) fu h1 (by omega) (by omega) B1 h52'
/-- all pairs with a DAY -/
theorem lo_244 {a : Nat} (ha : a < dc) (κ : Int32 → Nat → Int32 → Nat → tt_H → Option (Int32 × tt_H)) (Q : Int32 × tt_H → Prop)
    (hκ : ∀ nn M h, nn ≤ 53 + 12 * (a + 1) → 53 ≤ nn → lm_B kn dc sz wd so sl sc tr ft C G kd nn h → h 52 = some (tt_ia 12 M) → (∀ q, q < sz (dc - 1) → M q = mb_P (mb_V dc sz wd q) (a + 1)) → ok (κ (nI (dc - 1)) 52 (nI (a + 1)) nn h) Q) :
    ∀ (t b fu nn : Nat) (M : Nat → Int32) (h : tt_H), b + t = dc → t < fu → nn ≤ 53 + 12 * a + 2 * b → 53 ≤ nn → lm_B kn dc sz wd so sl sc tr ft C G kd nn h → h 52 = some (tt_ia 12 M) → (∀ q, q < sz (dc - 1) → M q = mb_P (mb_V dc sz wd q) (if b = dc then a + 1 else a)) → ok (s_L_law_L244 Ls xs κ fu (nI (dc - 1)) 52 (nI a) (nI b) nn h) Q := by
  intro t
  induction t with
  | zero =>
    intro b fu nn M h hb hfu hn h53 hB h52 hM
    obtain ⟨fu, rfl⟩ : ∃ z, fu = z + 1 := ⟨fu - 1, by omega⟩
    have d6 := hB.d6
    obtain rfl : b = dc := by omega
    rw [if_pos rfl] at hM
    rw [s_L_law_L244, hB.n, pp_bind, if_pos (nI_le (Nat.le_refl _) (by omega)), nI_1]
    exact hκ nn M h (by omega) h53 hB h52 hM
  | succ t ih =>
    intro b fu nn M h hb hfu hn h53 hB h52 hM
    obtain ⟨fu, rfl⟩ : ∃ z, fu = z + 1 := ⟨fu - 1, by omega⟩
    have d6 := hB.d6
    have hbd : b < dc := by omega
    rw [if_neg (show ¬ b = dc by omega)] at hM
    obtain ⟨a1, a2, a3⟩ := hB.s12 ha
    obtain ⟨b1, b2, b3⟩ := hB.s12 hbd
    obtain ⟨h1, e1, B1, f1⟩ := hB.call (K_within hB.1 hB.2.1 ha hbd)
    have h52' : h1 52 = some (tt_ia 12 M) := by rw [f1 52 (by decide)]; exact h52
    have pair : ok (s_L_law_J334 Ls xs (s_L_law_J652 Ls xs (s_L_law_L244 Ls xs κ fu)) (nI (dc - 1)) 52 (nI a) (nI b) (pw_b (sz a) (sz b) (wd a) (wd b)) nn h1) Q := by
      refine st_334 ha hbd B1 h53 (by omega) h52' _ Q (fun M' h' B' h52'' hI => ?_)
      unfold s_L_law_J652
      rw [nI_1]
      refine ih (b + 1) fu (nn + 1 + 1) M' h' (by omega) (by omega) (by omega) (by omega) B' h52'' (fun q hq => ?_)
      by_cases hbl : b = dc - 1
      · rw [if_pos (show b + 1 = dc by omega), mb_P, ← hM q hq]
        have hiff := mS_iff (n1 := sz a) (f1 := wd a) (f2 := wd b) (show q < sz b by rw [hbl]; exact hq)
        have hV : mb_V dc sz wd q a = ms_W (sz a) (sz b) (wd a) (wd b) q := by rw [hbl]; rfl
        rw [hV]
        rcases hI q with ⟨⟨_, hm⟩, e⟩ | ⟨hm, e⟩
        · rw [if_neg (hiff.mp hm), e]
        · have : ms_W (sz a) (sz b) (wd a) (wd b) q = 0 := by
            by_cases hz : ms_W (sz a) (sz b) (wd a) (wd b) q = 0
            · exact hz
            · exact absurd ⟨hbl, hiff.mpr hz⟩ hm
          rw [if_pos this, e]
      · rw [if_neg (show ¬ b + 1 = dc by omega), ← hM q hq]
        rcases hI q with ⟨⟨hb2, _⟩, _⟩ | ⟨_, e⟩
        · exact absurd hb2 hbl
        · exact e
    have skip : b ≠ dc - 1 → ok (s_L_law_J652 Ls xs (s_L_law_L244 Ls xs κ fu) (nI (dc - 1)) 52 (nI a) (nI b) nn h1) Q := fun hbl => by
      unfold s_L_law_J652
      rw [nI_1]
      refine ih (b + 1) fu nn M h1 (by omega) (by omega) (by omega) h53 B1 h52' (fun q hq => ?_)
      rw [if_neg (show ¬ b + 1 = dc by omega)]
      exact hM q hq
    have j295 : ∀ u, ok (s_L_law_J295 Ls xs (s_L_law_L244 Ls xs κ fu) (nI (dc - 1)) 52 (nI a) (nI b) (pw_b (sz a) (sz b) (wd a) (wd b)) u u nn h1) Q := fun u => by
      unfold s_L_law_J295
      rw [if_pos rfl]
      by_cases c1 : nI a = nI (dc - 1)
      · rw [if_pos c1]; exact pair
      · rw [if_neg c1]
        by_cases c2 : nI b = nI (dc - 1)
        · rw [if_pos c2]; exact pair
        · rw [if_neg c2, show gg_nz 2 = some () from rfl, pp_bind]
          by_cases c3 : (nI a + nI b) - (nI a + nI b) / 2 * 2 = 0
          · rw [if_pos c3]
            by_cases c4 : nI a = nI b
            · rw [if_pos c4]; exact pair
            · rw [if_neg c4]
              exact skip (fun z => c2 (by rw [z]))
          · rw [if_neg c3]; exact pair
    rw [s_L_law_L244, hB.n, pp_bind, if_neg (nI_ge hbd (by omega)), hB.c ha, pp_bind, hB.g ha, pp_bind, hB.c hbd, pp_bind, hB.g hbd, pp_bind, H_within a2 b2 a3 b3, pp_bind]
    simp only []
    rw [hB.b, e1, pp_bind]
    simp only []
    by_cases hw : gK (sz a) (wd a) (wd b) (sz b) = sz a
    · have hp : pw_b (sz a) (sz b) (wd a) (wd b) = 1 := if_pos hw
      rw [if_neg (show ¬ pw_b (sz a) (sz b) (wd a) (wd b) = 0 by rw [hp]; decide)]
      have := j295 1
      rw [hp] at this ⊢
      exact this
    · have hp : pw_b (sz a) (sz b) (wd a) (wd b) = 0 := if_neg hw
      rw [if_pos hp]
      have := j295 0
      rw [hp] at this ⊢
      exact this
/-- a DAY's WORDS -/
theorem lo_202 {a nn : Nat} (ha : a < dc) {h : tt_H} (hB : lm_B kn dc sz wd so sl sc tr ft C G kd nn h) (κ : Int32 → Nat → Int32 → Nat → tt_H → Option (Int32 × tt_H)) (x7 : Int32) : ∀ (t k fu : Nat), k + t = sz a → t < fu → s_L_law_L202 Ls xs κ fu x7 52 (nI a) (nI k) nn h = s_L_law_L244 Ls xs κ 10000 x7 52 (nI a) 0 nn h := by
  obtain ⟨a1, a2, a3⟩ := hB.s12 ha
  intro t
  induction t with
  | zero =>
    intro k fu hk hfu
    obtain ⟨fu, rfl⟩ : ∃ z, fu = z + 1 := ⟨fu - 1, by omega⟩
    rw [s_L_law_L202, hB.g ha, pp_bind, if_pos (nI_le (by omega) (by omega))]
  | succ t ih =>
    intro k fu hk hfu
    obtain ⟨fu, rfl⟩ : ∃ z, fu = z + 1 := ⟨fu - 1, by omega⟩
    rw [s_L_law_L202, hB.g ha, pp_bind, if_neg (nI_ge (show k < sz a by omega) (by omega)), hB.b, K_ofDay_k hB.1 hB.2.1 ha (show k < sz a by omega), pp_bind]
    simp only []
    rw [hB.c ha, pp_bind, lw_wordf a3 a2 (show k < sz a by omega), pp_bind]
    simp only []
    rw [if_pos trivial, nI_1]
    exact ih (k + 1) fu (by omega) (by omega)
theorem lo_157 (hL : Ls ≤ 260) : ∀ (t a fu nn : Nat) (M : Nat → Int32) (h : tt_H), a + t = dc → t < fu → nn ≤ 53 + 12 * a → 53 ≤ nn → lm_B kn dc sz wd so sl sc tr ft C G kd nn h → h 52 = some (tt_ia 12 M) → (∀ q, q < sz (dc - 1) → M q = mb_P (mb_V dc sz wd q) a) → ok (s_L_law_L157 Ls xs fu (nI (dc - 1)) 52 (nI a) nn h) (fun r => r.1 = 1) := by
  intro t
  induction t with
  | zero =>
    intro a fu nn M h ha hfu hn h53 hB h52 hM
    obtain ⟨fu, rfl⟩ : ∃ z, fu = z + 1 := ⟨fu - 1, by omega⟩
    have d6 := hB.d6
    have d0 := hB.2.2.1
    have s12 := hB.s12 (show dc - 1 < dc by omega)
    obtain rfl : a = dc := by omega
    rw [s_L_law_L157, hB.n, pp_bind, if_pos (nI_le (Nat.le_refl _) (by omega))]
    exact lo_667 hL hM (sz (a - 1)) 0 10000 h (by omega) (by omega) hB h52
  | succ t ih =>
    intro a fu nn M h ha hfu hn h53 hB h52 hM
    obtain ⟨fu, rfl⟩ : ∃ z, fu = z + 1 := ⟨fu - 1, by omega⟩
    have d6 := hB.d6
    have had : a < dc := by omega
    obtain ⟨a1, a2, a3⟩ := hB.s12 had
    have hx : ¬ nI (sz a) = -1 := fun z => absurd z.symm (pp_neg_ne (by decide) (by omega))
    rw [s_L_law_L157, hB.n, pp_bind, if_neg (nI_ge had (by omega)), hB.b, K_ofDay_n hB.1 hB.2.1 had, pp_bind]
    simp only []
    rw [hB.g had, pp_bind, if_pos rfl, pp_bind, hB.b, K_ofDay_o hB.1 hB.2.1 had hx (Or.inr (Int32.le_refl _)), pp_bind, if_pos rfl]
    simp only []
    rw [show (0 : Int32) = nI 0 from rfl, lo_202 had hB _ _ (sz a) 0 10000 (by omega) (by omega)]
    exact lo_244 had _ _ (fun nn' M' h' h1 h2 B' h52' hM' => ih (a + 1) fu nn' M' h' (by omega) (by omega) h1 h2 B' h52' hM') dc 0 10000 nn M h (by omega) (by omega) (by omega) h53 hB h52 (fun q hq => by rw [if_neg (show ¬ 0 = dc by omega)]; exact hM q hq)
/-- LEFT OUT -/
theorem lo_76 {nn : Nat} {h : tt_H} (hB : lm_B kn dc sz wd so sl sc tr ft C G kd nn h) : ∀ (t d fu : Nat), d + t = dc → 1 ≤ d → t + 1 < fu → s_L_law_L76 Ls xs fu (-9) (nI d) nn h = s_L_law_J130 Ls xs (lo_R (lo_W sz wd) t d) nn h := by
  have d6 := hB.d6
  intro t
  induction t with
  | zero =>
    intro d fu hd h1 hfu
    obtain ⟨fu, rfl⟩ : ∃ z, fu = z + 1 := ⟨fu - 1, by omega⟩
    rw [s_L_law_L76, hB.n, pp_bind, if_pos (nI_le (by omega) (by omega))]
    rfl
  | succ t ih =>
    intro d fu hd h1 hfu
    obtain ⟨fu, rfl⟩ : ∃ z, fu = z + 1 := ⟨fu - 1, by omega⟩
    have hdd : d < dc := by omega
    have hd1 : d - 1 < dc := by omega
    obtain ⟨a1, a2, a3⟩ := hB.s12 hd1
    obtain ⟨b1, b2, b3⟩ := hB.s12 hdd
    have g1 : gg_il h 50 (nI d) = some (nI (sz (d - 1))) := by
      have := hB.g0 hd1
      rw [show 1 + (d - 1) = d by omega] at this
      exact this
    rw [s_L_law_L76, hB.n, pp_bind, if_neg (nI_ge hdd (by omega)), if_neg (by decide), pp_m1 h1, hB.c hd1, pp_bind, g1, pp_bind, hB.c hdd, pp_bind, hB.g hdd, pp_bind, H_within a2 b2 a3 b3, pp_bind, lo_R]
    simp only []
    have hW : lo_W sz wd d = pw_b (sz (d - 1)) (sz d) (wd (d - 1)) (wd d) := rfl
    rw [hW]
    unfold s_L_law_J122
    by_cases hw : pw_b (sz (d - 1)) (sz d) (wd (d - 1)) (wd d) = 0
    · rw [if_pos hw, if_pos hw, nI_1]
      obtain ⟨fu, rfl⟩ : ∃ z, fu = z + 1 := ⟨fu - 1, by omega⟩
      rw [s_L_law_L76, hB.n, pp_bind]
      by_cases hle : nI dc ≤ nI (d + 1)
      · rw [if_pos hle]
      · rw [if_neg hle, if_pos (nI_pos' (by omega))]
    · rw [if_neg hw, if_neg hw, nI_1]
      exact ih (d + 1) fu (by omega) (by omega) (by omega)
theorem lo_130 (hL : Ls ≤ 260) {h : tt_H} (hB : lm_B kn dc sz wd so sl sc tr ft C G kd 52 h) : ok (s_L_law_J130 Ls xs (lo_R (lo_W sz wd) (dc - 1) 1) 52 h) (fun r => r.1 = 1) := by
  have d0 := hB.2.2.1
  obtain ⟨h1, e1, B1, f1⟩ := hB.call (K_leftOut hB.1 hB.2.1)
  have g1 := B1.gnew (rs := [1000000, 0, 49, 50, 51]) (by omega) ⟨Or.inr (Nat.le_refl _), Or.inl (by omega), Or.inl (by omega), Or.inl (by omega), Or.inl (by omega), trivial⟩
  unfold s_L_law_J130
  rw [hB.b, e1, pp_bind, if_pos rfl]
  simp only []
  rw [B1.n, pp_bind, g1, pp_bind, pp_m1 d0]
  exact lo_157 hL dc 0 10000 53 (fun _ => 0) _ (by omega) (by have := B1.d6; omega) (by omega) (by omega) (B1.new (x := tt_ia 12 (fun _ => 0)) oe_ia) (va_up_self _ _ _) (fun q hq => rfl)
end LO2
