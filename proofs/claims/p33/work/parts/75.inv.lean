/-! WHAT HOLDS BETWEEN THE LAW'S CALLS -/
theorem ov_nil {n : Nat} : ∀ v ∈ ([] : List Value), tt_okv n v := fun _ h => absurd h List.not_mem_nil
theorem ov_ref {n r : Nat} {l : List Value} (h : r < n) (t : ∀ v ∈ l, tt_okv n v) : ∀ v ∈ Value.ref r :: l, tt_okv n v := List.forall_mem_cons.mpr ⟨h, t⟩
theorem ov_int {n : Nat} {x : Int32} {l : List Value} (t : ∀ v ∈ l, tt_okv n v) : ∀ v ∈ Value.int x :: l, tt_okv n v := List.forall_mem_cons.mpr ⟨trivial, t⟩
theorem oe_ia {n N : Nat} {f : Nat → Int32} : tt_oke n (tt_ia N f) := trivial
theorem oe_ja {n N : Nat} {f : Nat → Int64} : tt_oke n (tt_ja N f) := trivial
theorem oe_za {n N : Nat} {f : Nat → Int32} : tt_oke n (tt_za N f) := trivial
/-- all cells of the class are there, and speak of each other alone -/
theorem cc_cells {P : pp_P} {h : tt_H} (ha : cc_A P h) : ∀ i, i < 49 → ∃ e, h i = some e ∧ tt_oke 49 e := by
  obtain ⟨kn, dc, sz, wd, so, sl, sc, tr, ft⟩ := P
  obtain ⟨⟨a0, ⟨g1, a1, -⟩, ⟨g2, a2, b2, b2'⟩, ⟨g3, a3, b3, b3'⟩, a4, ⟨g5, a5, a5'⟩, a6, c6, c10, c13, c14, c16, c19, c21, c24, c26⟩, s1, s2, ⟨g11, s3⟩, ⟨x18, y18, s4, o4⟩, ⟨x23, y23, s5, o5⟩⟩ := ha
  have o4' : (x18 : Nat) < 49 ∧ (y18 : Nat) < 49 := by rcases o4 with ⟨h1, h2⟩ | ⟨h1, h2⟩ <;> rw [h1, h2] <;> exact ⟨by decide, by decide⟩
  have o5' : (x23 : Nat) < 49 ∧ (y23 : Nat) < 49 := by rcases o5 with ⟨h1, h2⟩ | ⟨h1, h2⟩ <;> rw [h1, h2] <;> exact ⟨by decide, by decide⟩
  obtain ⟨q7, e7⟩ := s1 (7, 12) (by decide)
  obtain ⟨q8, e8⟩ := s1 (8, 12) (by decide)
  obtain ⟨q12, e12⟩ := s1 (12, 2) (by decide)
  obtain ⟨q28, e28⟩ := s1 (28, 13) (by decide)
  obtain ⟨q9, e9⟩ := s2 (9, 13) (by decide)
  obtain ⟨q15, e15⟩ := s2 (15, 169) (by decide)
  obtain ⟨q17, e17⟩ := s2 (17, 169) (by decide)
  obtain ⟨q20, e20⟩ := s2 (20, 169) (by decide)
  obtain ⟨q22, e22⟩ := s2 (22, 169) (by decide)
  obtain ⟨q25, e25⟩ := s2 (25, 169) (by decide)
  obtain ⟨q27, e27⟩ := s2 (27, 169) (by decide)
  intro i hi
  by_cases h41 : 41 ≤ i
  · obtain ⟨g, q, d1, d2, -⟩ := a6 ((i - 41) / 2) (by omega)
    rcases (show i = 41 + 2 * ((i - 41) / 2) ∨ i = 41 + 2 * ((i - 41) / 2) + 1 by omega) with z | z
    · rw [z]; exact ⟨_, d1, ov_ref (by omega) (ov_int (ov_int ov_nil))⟩
    · rw [z]; exact ⟨_, d2, oe_ia⟩
  · by_cases h29 : 29 ≤ i
    · obtain ⟨g, z0, d1, d2, -⟩ := a4 ((i - 29) / 2) (by omega)
      rcases (show i = 29 + 2 * ((i - 29) / 2) ∨ i = 29 + 2 * ((i - 29) / 2) + 1 by omega) with z | z
      · rw [z]; exact ⟨_, d1, ov_ref (by omega) (ov_int ov_nil)⟩
      · rw [z]; exact ⟨_, d2, oe_ia⟩
    · have hc : i = 0 ∨ i = 1 ∨ i = 2 ∨ i = 3 ∨ i = 4 ∨ i = 5 ∨ i = 6 ∨ i = 7 ∨ i = 8 ∨ i = 9 ∨ i = 10 ∨ i = 11 ∨ i = 12 ∨ i = 13 ∨ i = 14 ∨ i = 15 ∨ i = 16 ∨ i = 17 ∨ i = 18 ∨ i = 19 ∨ i = 20 ∨ i = 21 ∨ i = 22 ∨ i = 23 ∨ i = 24 ∨ i = 25 ∨ i = 26 ∨ i = 27 ∨ i = 28 := by omega
      clear hi h41 h29
      rcases hc with rfl | rfl | rfl | rfl | rfl | rfl | rfl | rfl | rfl | rfl | rfl | rfl | rfl | rfl | rfl | rfl | rfl | rfl | rfl | rfl | rfl | rfl | rfl | rfl | rfl | rfl | rfl | rfl | rfl
      · exact ⟨_, a0, ov_ref (by decide) (ov_ref (by decide) (ov_ref (by decide) (ov_ref (by decide) (ov_ref (by decide) (ov_ref (by decide) (ov_ref (by decide) (ov_ref (by decide) (ov_ref (by decide) (ov_ref (by decide) (ov_int (ov_int (ov_int ov_nil))))))))))))⟩
      · exact ⟨_, a1, oe_ia⟩
      · refine ⟨_, a2, fun j i hj => ?_⟩
        by_cases hjd : j < 6
        · rw [b2 j hjd] at hj; cases hj; omega
        · rw [b2' j (by omega)] at hj; cases hj
      · refine ⟨_, a3, fun j i hj => ?_⟩
        by_cases hjd : j < 4
        · rw [b3 j hjd] at hj; cases hj; omega
        · rw [b3' j (by omega)] at hj; cases hj
      · exact ⟨_, a5, ov_ref (by decide) (ov_int ov_nil)⟩
      · exact ⟨_, a5', oe_ia⟩
      · exact ⟨_, c6, ov_ref (by decide) (ov_ref (by decide) (ov_ref (by decide) ov_nil))⟩
      · exact ⟨_, e7, oe_ia⟩
      · exact ⟨_, e8, oe_ia⟩
      · exact ⟨_, e9, oe_ja⟩
      · exact ⟨_, c10, ov_ref (by decide) (ov_ref (by decide) ov_nil)⟩
      · exact ⟨_, s3, oe_za⟩
      · exact ⟨_, e12, oe_ia⟩
      · exact ⟨_, c13, ov_ref (by decide) (ov_ref (by decide) ov_nil)⟩
      · exact ⟨_, c14, ov_ref (by decide) ov_nil⟩
      · exact ⟨_, e15, oe_ja⟩
      · exact ⟨_, c16, ov_ref (by decide) ov_nil⟩
      · exact ⟨_, e17, oe_ja⟩
      · exact ⟨_, s4, ov_ref o4'.1 (ov_ref o4'.2 ov_nil)⟩
      · exact ⟨_, c19, ov_ref (by decide) ov_nil⟩
      · exact ⟨_, e20, oe_ja⟩
      · exact ⟨_, c21, ov_ref (by decide) ov_nil⟩
      · exact ⟨_, e22, oe_ja⟩
      · exact ⟨_, s5, ov_ref o5'.1 (ov_ref o5'.2 ov_nil)⟩
      · exact ⟨_, c24, ov_ref (by decide) ov_nil⟩
      · exact ⟨_, e25, oe_ja⟩
      · exact ⟨_, c26, ov_ref (by decide) ov_nil⟩
      · exact ⟨_, e27, oe_ja⟩
      · exact ⟨_, e28, oe_ia⟩
/-- behind the class's cells the law has its own rows, of numbers -/
def lm_A (nn : Nat) (h : tt_H) : Prop := 49 ≤ nn ∧ (∀ i, 49 ≤ i → i < nn → ∃ e, h i = some e ∧ tt_oke 0 e) ∧ ∀ i, nn ≤ i → h i = none
theorem lm_A.congr {nn : Nat} {h h' : tt_H} (hA : lm_A nn h) (e : ∀ i, 49 ≤ i → h' i = h i) : lm_A nn h' := by
  have h49 := hA.1
  exact ⟨hA.1, fun i i1 i2 => by rw [e i i1]; exact hA.2.1 i i1 i2, fun i hi => by rw [e i (by omega)]; exact hA.2.2 i hi⟩
theorem lm_A.up {nn : Nat} {h : tt_H} (hA : lm_A nn h) {p : Nat} (h1 : p < nn) {x : tt_E} (hx : tt_oke 0 x) : lm_A nn (va_up h p (some x)) := by
  refine ⟨hA.1, fun i i1 i2 => ?_, fun i hi => by rw [va_up_ne _ _ (by omega)]; exact hA.2.2 i hi⟩
  by_cases hip : i = p
  · subst hip; exact ⟨x, va_up_self _ _ _, hx⟩
  · rw [va_up_ne _ _ hip]; exact hA.2.1 i i1 i2
theorem lm_A.new {nn : Nat} {h : tt_H} (hA : lm_A nn h) {x : tt_E} (hx : tt_oke 0 x) : lm_A (nn + 1) (va_up h nn (some x)) := by
  refine ⟨by have := hA.1; omega, fun i i1 i2 => ?_, fun i hi => by rw [va_up_ne _ _ (by omega)]; exact hA.2.2 i (by omega)⟩
  by_cases hip : i = nn
  · subst hip; exact ⟨x, va_up_self _ _ _, hx⟩
  · rw [va_up_ne _ _ hip]; exact hA.2.1 i i1 (by omega)
theorem lm_wf {P : pp_P} {nn : Nat} {h : tt_H} (ha : cc_A P h) (hA : lm_A nn h) : tt_wf nn h ∧ tt_okh nn h := by
  have h49 := hA.1
  refine ⟨fun i => ⟨fun hi => ?_, fun hs => ?_⟩, fun i e he => ?_⟩
  · by_cases h1 : i < 49
    · obtain ⟨e, he, -⟩ := cc_cells ha i h1
      rw [he]; rfl
    · obtain ⟨e, he, -⟩ := hA.2.1 i (by omega) hi
      rw [he]; rfl
  · rcases Nat.lt_or_ge i nn with z | z
    · exact z
    · rw [hA.2.2 i z] at hs; cases hs
  · by_cases h1 : i < 49
    · obtain ⟨e2, he2, ho⟩ := cc_cells ha i h1
      rw [he] at he2; cases he2
      exact al_oke_mono h49 ho
    · rcases Nat.lt_or_ge i nn with z | z
      · obtain ⟨e2, he2, ho⟩ := hA.2.1 i (by omega) z
        rw [he] at he2; cases he2
        exact al_oke_mono (Nat.zero_le nn) ho
      · rw [hA.2.2 i z] at he; cases he
/-- the law's state: the class's, the CRIES as numbers (49), their lengths (50), the kinds (51) -/
def lm_B (kn : Nat → Nat) (dc : Nat) (sz : Nat → Nat) (wd : Nat → Nat → Nat) (so sl : Nat → Nat) (sc : Nat → Nat → Int32) (tr ft : Int32) (C : Nat → Int64) (G kd : Nat → Int32) (nn : Nat) (h : tt_H) : Prop := pp_V (kn, dc, sz, wd, so, sl, sc, tr, ft) ∧ cc_A (kn, dc, sz, wd, so, sl, sc, tr, ft) h ∧ 0 < dc ∧ h 49 = some (tt_ja 6 C) ∧ h 50 = some (tt_ia 7 G) ∧ h 51 = some (tt_ia 8 kd) ∧ G 0 = nI dc ∧ (∀ d, d < dc → G (1 + d) = nI (sz d) ∧ C d = lN (cN (wd d) (sz d))) ∧ (∀ w, w < 8 → kd w = nI (kn w)) ∧ lm_A nn h ∧ 52 ≤ nn
section LB
variable {kn : Nat → Nat} {dc : Nat} {sz : Nat → Nat} {wd : Nat → Nat → Nat} {so sl : Nat → Nat} {sc : Nat → Nat → Int32} {tr ft : Int32} {C : Nat → Int64} {G kd : Nat → Int32} {nn : Nat} {h : tt_H}
theorem lm_B.d6 (hB : lm_B kn dc sz wd so sl sc tr ft C G kd nn h) : dc ≤ 6 := hB.1.2.1
theorem lm_B.s12 (hB : lm_B kn dc sz wd so sl sc tr ft C G kd nn h) {d : Nat} (hd : d < dc) : 0 < sz d ∧ sz d ≤ 12 ∧ ∀ k, k < sz d → wd d k < 8 := hB.1.2.2.1 d hd
theorem lm_B.b {α : Type} (hB : lm_B kn dc sz wd so sl sc tr ft C G kd nn h) (x : Option α) : ((gg_obj h 0 8).bind fun _ => x) = x := ca_b hB.2.1.1 x
theorem lm_B.n (hB : lm_B kn dc sz wd so sl sc tr ft C G kd nn h) : gg_il h 50 0 = some (nI dc) := by
  rw [show gg_il h 50 0 = gg_il h 50 (nI 0) from rfl, pp_il hB.2.2.2.2.1 (show 0 < 7 by decide) (by decide), hB.2.2.2.2.2.2.1]
theorem lm_B.g (hB : lm_B kn dc sz wd so sl sc tr ft C G kd nn h) {d : Nat} (hd : d < dc) : gg_il h 50 (1 + nI d) = some (nI (sz d)) := by
  have := hB.d6
  rw [pu_1, pp_il hB.2.2.2.2.1 (show 1 + d < 7 by omega) (by decide), (hB.2.2.2.2.2.2.2.1 d hd).1]
theorem lm_B.g0 (hB : lm_B kn dc sz wd so sl sc tr ft C G kd nn h) {d : Nat} (hd : d < dc) : gg_il h 50 (nI (1 + d)) = some (nI (sz d)) := by rw [← pu_1]; exact hB.g hd
theorem lm_B.c (hB : lm_B kn dc sz wd so sl sc tr ft C G kd nn h) {d : Nat} (hd : d < dc) : gg_jl h 49 (nI d) = some (lN (cN (wd d) (sz d))) := by
  have := hB.d6
  rw [pp_jl hB.2.2.2.1 (show d < 6 by omega) (by decide), (hB.2.2.2.2.2.2.2.1 d hd).2]
/-- a call of the class -/
theorem lm_B.call {α : Type} (hB : lm_B kn dc sz wd so sl sc tr ft C G kd nn h) {f : tt_H → Option (α × tt_H)} {R : α} (hG : pc_G f h (kn, dc, sz, wd, so, sl, sc, tr, ft) R) : ∃ h1, f h = some (R, h1) ∧ lm_B kn dc sz wd so sl sc tr ft C G kd nn h1 ∧ ∀ i, 49 ≤ i → h1 i = h i := by
  obtain ⟨h1, e1, e2, e3⟩ := hG
  obtain ⟨b1, b2, b3, b4, b5, b6, b7, b8, b9, b10, b11⟩ := hB
  exact ⟨h1, e1, ⟨b1, e2, b3, by rw [e3 49 (by decide)]; exact b4, by rw [e3 50 (by decide)]; exact b5, by rw [e3 51 (by decide)]; exact b6, b7, b8, b9, b10.congr e3, b11⟩, e3⟩
/-- the law's own rows are written -/
theorem lm_B.up (hB : lm_B kn dc sz wd so sl sc tr ft C G kd nn h) {p : Nat} (h0 : 52 ≤ p) (h1 : p < nn) {x : tt_E} (hx : tt_oke 0 x) : lm_B kn dc sz wd so sl sc tr ft C G kd nn (va_up h p (some x)) := by
  obtain ⟨b1, b2, b3, b4, b5, b6, b7, b8, b9, b10, b11⟩ := hB
  exact ⟨b1, b2.congr (fun i hi => va_up_ne _ _ (by omega)), b3, by rw [va_up_ne _ _ (by omega)]; exact b4, by rw [va_up_ne _ _ (by omega)]; exact b5, by rw [va_up_ne _ _ (by omega)]; exact b6, b7, b8, b9, b10.up h1 hx, b11⟩
theorem lm_B.new (hB : lm_B kn dc sz wd so sl sc tr ft C G kd nn h) {x : tt_E} (hx : tt_oke 0 x) : lm_B kn dc sz wd so sl sc tr ft C G kd (nn + 1) (va_up h nn (some x)) := by
  obtain ⟨b1, b2, b3, b4, b5, b6, b7, b8, b9, b10, b11⟩ := hB
  exact ⟨b1, b2.congr (fun i hi => va_up_ne _ _ (by omega)), b3, by rw [va_up_ne _ _ (by omega)]; exact b4, by rw [va_up_ne _ _ (by omega)]; exact b5, by rw [va_up_ne _ _ (by omega)]; exact b6, b7, b8, b9, b10.new hx, by omega⟩
theorem lm_B.gnew (hB : lm_B kn dc sz wd so sl sc tr ft C G kd nn h) (hn : nn < 100000) {rs : List Nat} (hr : gg_rf nn rs) : gg_new nn rs h = some () := by
  obtain ⟨w1, w2⟩ := lm_wf hB.2.1 hB.2.2.2.2.2.2.2.2.2.1
  exact gg_new_of ⟨w1, w2, hn, hr⟩
end LB
