/-! THE STATE, as numbers: kinds kn, how many days dc, sizes sz, words wd, sorts so (9: nothing), lengths sl, cells sc, trace tr, fault ft -/
abbrev pp_P : Type := (Nat → Nat) × Nat × (Nat → Nat) × (Nat → Nat → Nat) × (Nat → Nat) × (Nat → Nat) × (Nat → Nat → Int32) × Int32 × Int32
def pp_V (P : pp_P) : Prop := match P with
  | (kn, dc, sz, wd, so, sl, _, _, _) => (∀ w, w < 8 → kn w < 3) ∧ dc ≤ 6 ∧ (∀ d, d < dc → 0 < sz d ∧ sz d ≤ 12 ∧ ∀ k, k < sz d → wd d k < 8) ∧ ∀ k, k < 4 → so k ≠ 9 → so k < 3 ∧ sl k ≤ 80
def cc_ob (dc : Nat) (tr ft : Int32) : tt_E := tt_ob 8 [.ref 1, .ref 2, .ref 3, .ref 4, .ref 6, .ref 10, .ref 13, .ref 18, .ref 23, .ref 28, .int (nI dc), .int tr, .int ft]
/-- the class's cells that hold the state -/
def cc_main (i : Nat) : Prop := i ≤ 6 ∨ i = 10 ∨ i = 13 ∨ i = 14 ∨ i = 16 ∨ i = 19 ∨ i = 21 ∨ i = 24 ∨ i = 26 ∨ (29 ≤ i ∧ i ≤ 48)
def cc_I (P : pp_P) (h : tt_H) : Prop := match P with
  | (kn, dc, sz, wd, so, sl, sc, tr, ft) =>
    h 0 = some (cc_ob dc tr ft) ∧
    (∃ g : Nat → Int32, h 1 = some (tt_ia 8 g) ∧ ∀ w, w < 8 → g w = nI (kn w)) ∧
    (∃ g : Nat → Option Nat, h 2 = some (tt_qa 3 6 g) ∧ ∀ d, d < 6 → g d = some (29 + 2 * d)) ∧
    (∃ g : Nat → Option Nat, h 3 = some (tt_qa 4 4 g) ∧ ∀ k, k < 4 → g k = some (41 + 2 * k)) ∧
    (∀ d, d < 6 → ∃ (g : Nat → Int32) (z : Int32), h (29 + 2 * d) = some (tt_ob 2 [.ref (29 + 2 * d + 1), .int z]) ∧ h (29 + 2 * d + 1) = some (tt_ia 12 g) ∧ (d < dc → z = nI (sz d) ∧ ∀ k, k < sz d → g k = nI (wd d k))) ∧
    (∃ g : Nat → Int32, h 4 = some (tt_ob 2 [.ref 5, .int 0]) ∧ h 5 = some (tt_ia 12 g)) ∧
    (∀ k, k < 4 → ∃ (g : Nat → Int32) (q : Int32), h (41 + 2 * k) = some (tt_ob 6 [.ref (41 + 2 * k + 1), .int (if so k = 9 then -1 else nI (sl k)), .int q]) ∧ h (41 + 2 * k + 1) = some (tt_ia 80 g) ∧ (so k ≠ 9 → q = nI (so k) ∧ ∀ i, i < 80 → g i = sc k i)) ∧
    h 6 = some (tt_ob 3 [.ref 7, .ref 8, .ref 9]) ∧ h 10 = some (tt_ob 5 [.ref 11, .ref 12]) ∧ h 13 = some (tt_ob 7 [.ref 14, .ref 16]) ∧
    h 14 = some (tt_ob 4 [.ref 15]) ∧ h 16 = some (tt_ob 4 [.ref 17]) ∧ h 19 = some (tt_ob 4 [.ref 20]) ∧ h 21 = some (tt_ob 4 [.ref 22]) ∧ h 24 = some (tt_ob 4 [.ref 25]) ∧ h 26 = some (tt_ob 4 [.ref 27])
def cc_sI : List (Nat × Nat) := [(7, 12), (8, 12), (12, 2), (28, 13)]
def cc_sJ : List (Nat × Nat) := [(9, 13), (15, 169), (17, 169), (20, 169), (22, 169), (25, 169), (27, 169)]
/-- the cells that no call reads before it has written them -/
def cc_S (h : tt_H) : Prop := (∀ q ∈ cc_sI, ∃ g, h q.1 = some (tt_ia q.2 g)) ∧ (∀ q ∈ cc_sJ, ∃ g, h q.1 = some (tt_ja q.2 g)) ∧ (∃ g, h 11 = some (tt_za 104 g)) ∧
  (∃ x y, h 18 = some (tt_ob 1 [.ref x, .ref y]) ∧ ((x = 19 ∧ y = 21) ∨ (x = 21 ∧ y = 19))) ∧ (∃ x y, h 23 = some (tt_ob 0 [.ref x, .ref y]) ∧ ((x = 24 ∧ y = 26) ∨ (x = 26 ∧ y = 24)))
def cc_A (P : pp_P) (h : tt_H) : Prop := cc_I P h ∧ cc_S h
theorem cc_I.congr {P : pp_P} {h h' : tt_H} (hi : cc_I P h) (e : ∀ i, cc_main i → h' i = h i) : cc_I P h' := by
  obtain ⟨kn, dc, sz, wd, so, sl, sc, tr, ft⟩ := P
  obtain ⟨a0, ⟨g1, a1, b1⟩, ⟨g2, a2, b2⟩, ⟨g3, a3, b3⟩, a4, ⟨g5, a5, a5'⟩, a6, a7⟩ := hi
  refine ⟨by rw [e 0 (by unfold cc_main; omega)]; exact a0, ⟨g1, by rw [e 1 (by unfold cc_main; omega)]; exact a1, b1⟩, ⟨g2, by rw [e 2 (by unfold cc_main; omega)]; exact a2, b2⟩, ⟨g3, by rw [e 3 (by unfold cc_main; omega)]; exact a3, b3⟩, fun d hd => ?_, ⟨g5, by rw [e 4 (by unfold cc_main; omega)]; exact a5, by rw [e 5 (by unfold cc_main; omega)]; exact a5'⟩, fun k hk => ?_, ?_⟩
  · obtain ⟨g, z, c1, c2, c3⟩ := a4 d hd
    exact ⟨g, z, by rw [e _ (by unfold cc_main; omega)]; exact c1, by rw [e _ (by unfold cc_main; omega)]; exact c2, c3⟩
  · obtain ⟨g, q, c1, c2, c3⟩ := a6 k hk
    exact ⟨g, q, by rw [e _ (by unfold cc_main; omega)]; exact c1, by rw [e _ (by unfold cc_main; omega)]; exact c2, c3⟩
  · rw [e 6 (by unfold cc_main; omega), e 10 (by unfold cc_main; omega), e 13 (by unfold cc_main; omega), e 14 (by unfold cc_main; omega), e 16 (by unfold cc_main; omega), e 19 (by unfold cc_main; omega), e 21 (by unfold cc_main; omega), e 24 (by unfold cc_main; omega), e 26 (by unfold cc_main; omega)]
    exact a7
theorem cc_S.congr {h h' : tt_H} (hs : cc_S h) (e : ∀ i, i < 49 → h' i = h i) : cc_S h' := by
  obtain ⟨a1, a2, a3, a4, a5⟩ := hs
  refine ⟨fun q hq => ?_, fun q hq => ?_, by rw [e 11 (by decide)]; exact a3, by rw [e 18 (by decide)]; exact a4, by rw [e 23 (by decide)]; exact a5⟩
  · have : q.1 < 49 := by revert q; decide
    rw [e q.1 this]; exact a1 q hq
  · have : q.1 < 49 := by revert q; decide
    rw [e q.1 this]; exact a2 q hq
theorem cc_A.congr {P : pp_P} {h h' : tt_H} (ha : cc_A P h) (e : ∀ i, i < 49 → h' i = h i) : cc_A P h' := ⟨ha.1.congr (fun i hi => e i (by unfold cc_main at hi; omega)), ha.2.congr e⟩
theorem cc_A.upI {P : pp_P} {h : tt_H} (ha : cc_A P h) {p N : Nat} (hp : (p, N) ∈ cc_sI) (g : Nat → Int32) : cc_A P (va_up h p (some (tt_ia N g))) := by
  have hm : ¬ cc_main p ∧ p ≠ 11 ∧ p ≠ 18 ∧ p ≠ 23 := by
    simp only [cc_sI, List.mem_cons, Prod.mk.injEq, List.not_mem_nil, or_false] at hp
    unfold cc_main; omega
  refine ⟨ha.1.congr (fun i hi => va_up_ne _ _ (fun z => hm.1 (z ▸ hi))), ?_⟩
  obtain ⟨a1, a2, a3, a4, a5⟩ := ha.2
  refine ⟨fun q hq => ?_, fun q hq => ?_, by rw [va_up_ne _ _ (Ne.symm hm.2.1)]; exact a3, by rw [va_up_ne _ _ (Ne.symm hm.2.2.1)]; exact a4, by rw [va_up_ne _ _ (Ne.symm hm.2.2.2)]; exact a5⟩
  · by_cases hqp : q.1 = p
    · have hN : q.2 = N := by
        simp only [cc_sI, List.mem_cons, Prod.mk.injEq, List.not_mem_nil, or_false] at hp
        simp only [cc_sI, List.mem_cons, List.not_mem_nil, or_false] at hq
        rcases hq with rfl | rfl | rfl | rfl <;> simp only at hqp ⊢ <;> omega
      exact ⟨g, by rw [hqp, va_up_self, hN]⟩
    · rw [va_up_ne _ _ hqp]; exact a1 q hq
  · have hqp : q.1 ≠ p := by
      simp only [cc_sI, List.mem_cons, Prod.mk.injEq, List.not_mem_nil, or_false] at hp
      simp only [cc_sJ, List.mem_cons, List.not_mem_nil, or_false] at hq
      rcases hq with rfl | rfl | rfl | rfl | rfl | rfl | rfl <;> simp only <;> omega
    rw [va_up_ne _ _ hqp]; exact a2 q hq
theorem cc_A.upJ {P : pp_P} {h : tt_H} (ha : cc_A P h) {p N : Nat} (hp : (p, N) ∈ cc_sJ) (g : Nat → Int64) : cc_A P (va_up h p (some (tt_ja N g))) := by
  have hm : ¬ cc_main p ∧ p ≠ 11 ∧ p ≠ 18 ∧ p ≠ 23 := by
    simp only [cc_sJ, List.mem_cons, Prod.mk.injEq, List.not_mem_nil, or_false] at hp
    unfold cc_main; omega
  refine ⟨ha.1.congr (fun i hi => va_up_ne _ _ (fun z => hm.1 (z ▸ hi))), ?_⟩
  obtain ⟨a1, a2, a3, a4, a5⟩ := ha.2
  refine ⟨fun q hq => ?_, fun q hq => ?_, by rw [va_up_ne _ _ (Ne.symm hm.2.1)]; exact a3, by rw [va_up_ne _ _ (Ne.symm hm.2.2.1)]; exact a4, by rw [va_up_ne _ _ (Ne.symm hm.2.2.2)]; exact a5⟩
  · have hqp : q.1 ≠ p := by
      simp only [cc_sJ, List.mem_cons, Prod.mk.injEq, List.not_mem_nil, or_false] at hp
      simp only [cc_sI, List.mem_cons, List.not_mem_nil, or_false] at hq
      rcases hq with rfl | rfl | rfl | rfl <;> simp only <;> omega
    rw [va_up_ne _ _ hqp]; exact a1 q hq
  · by_cases hqp : q.1 = p
    · have hN : q.2 = N := by
        simp only [cc_sJ, List.mem_cons, Prod.mk.injEq, List.not_mem_nil, or_false] at hp
        simp only [cc_sJ, List.mem_cons, List.not_mem_nil, or_false] at hq
        rcases hq with rfl | rfl | rfl | rfl | rfl | rfl | rfl <;> simp only at hqp ⊢ <;> omega
      exact ⟨g, by rw [hqp, va_up_self, hN]⟩
    · rw [va_up_ne _ _ hqp]; exact a2 q hq
theorem cc_A.upZ {P : pp_P} {h : tt_H} (ha : cc_A P h) (g : Nat → Int32) : cc_A P (va_up h 11 (some (tt_za 104 g))) := by
  refine ⟨ha.1.congr (fun i hi => va_up_ne _ _ (fun z => by unfold cc_main at hi; omega)), ?_⟩
  obtain ⟨a1, a2, a3, a4, a5⟩ := ha.2
  refine ⟨fun q hq => ?_, fun q hq => ?_, ⟨g, va_up_self _ _ _⟩, by rw [va_up_ne _ _ (by decide)]; exact a4, by rw [va_up_ne _ _ (by decide)]; exact a5⟩
  · have : q.1 ≠ 11 := by revert q; decide
    rw [va_up_ne _ _ this]; exact a1 q hq
  · have : q.1 ≠ 11 := by revert q; decide
    rw [va_up_ne _ _ this]; exact a2 q hq
/-! the model's cells -/
def mm_I (P : pp_P) (h : tt_H) : Prop := match P with
  | (kn, dc, sz, wd, so, sl, sc, tr, ft) =>
    (∃ at_ rd pm po pt, h 49 = some (pp_mob ft tr (nI dc) at_ rd pm po pt)) ∧
    (∃ g : Nat → Int32, h 50 = some (tt_ia 4 g) ∧ ∀ k, k < 4 → g k = if so k = 9 then -9 else nI (so k)) ∧
    (∃ g : Nat → Int32, h 51 = some (tt_ia 4 g) ∧ ∀ k, k < 4 → so k ≠ 9 → g k = nI (sl k)) ∧
    (∃ g : Nat → Int32, h 52 = some (tt_ia 320 g) ∧ ∀ k, k < 4 → so k ≠ 9 → ∀ i, i < 80 → g (80 * k + i) = sc k i) ∧
    (∃ g : Nat → Int32, h 53 = some (tt_ia 8 g) ∧ ∀ w, w < 8 → g w = nI (kn w)) ∧
    (∃ ln : Nat → Int32, h 54 = some (tt_ia 6 ln) ∧ ∃ wr : Nat → Int32, h 55 = some (tt_ia 84 wr) ∧ ∀ d, d < dc → ln d = nI (sz d) ∧ ∀ k, k < sz d → wr (14 * d + k) = nI (wd d k))
def mm_sI : List (Nat × Nat) := [(56, 6), (57, 84), (58, 12), (59, 12), (60, 14), (62, 169), (64, 2197), (67, 13)]
def mm_sJ : List (Nat × Nat) := [(61, 169), (63, 169), (65, 169), (66, 169)]
def mm_S (h : tt_H) : Prop := (∀ q ∈ mm_sI, ∃ g, h q.1 = some (tt_ia q.2 g)) ∧ ∀ q ∈ mm_sJ, ∃ g, h q.1 = some (tt_ja q.2 g)
def mm_A (P : pp_P) (h : tt_H) : Prop := mm_I P h ∧ mm_S h
theorem mm_I.congr {P : pp_P} {h h' : tt_H} (hi : mm_I P h) (e : ∀ i, 49 ≤ i → i ≤ 55 → h' i = h i) : mm_I P h' := by
  obtain ⟨kn, dc, sz, wd, so, sl, sc, tr, ft⟩ := P
  obtain ⟨a0, a1, a2, a3, a4, ln, a5, wr, a6, a7⟩ := hi
  exact ⟨by rw [e 49 (by decide) (by decide)]; exact a0, by rw [e 50 (by decide) (by decide)]; exact a1, by rw [e 51 (by decide) (by decide)]; exact a2, by rw [e 52 (by decide) (by decide)]; exact a3, by rw [e 53 (by decide) (by decide)]; exact a4, ln, by rw [e 54 (by decide) (by decide)]; exact a5, wr, by rw [e 55 (by decide) (by decide)]; exact a6, a7⟩
theorem mm_A.congr {P : pp_P} {h h' : tt_H} (ha : mm_A P h) (e : ∀ i, 49 ≤ i → h' i = h i) : mm_A P h' := by
  refine ⟨ha.1.congr (fun i h1 _ => e i h1), fun q hq => ?_, fun q hq => ?_⟩
  · have : 49 ≤ q.1 := by revert q; decide
    rw [e q.1 this]; exact ha.2.1 q hq
  · have : 49 ≤ q.1 := by revert q; decide
    rw [e q.1 this]; exact ha.2.2 q hq
theorem mm_A.upI {P : pp_P} {h : tt_H} (ha : mm_A P h) {p N : Nat} (hp : (p, N) ∈ mm_sI) (g : Nat → Int32) : mm_A P (va_up h p (some (tt_ia N g))) := by
  have hm : 55 < p := by
    simp only [mm_sI, List.mem_cons, Prod.mk.injEq, List.not_mem_nil, or_false] at hp
    omega
  refine ⟨ha.1.congr (fun i _ hi => va_up_ne _ _ (by omega)), fun q hq => ?_, fun q hq => ?_⟩
  · by_cases hqp : q.1 = p
    · have hN : q.2 = N := by
        simp only [mm_sI, List.mem_cons, Prod.mk.injEq, List.not_mem_nil, or_false] at hp
        simp only [mm_sI, List.mem_cons, List.not_mem_nil, or_false] at hq
        rcases hq with rfl | rfl | rfl | rfl | rfl | rfl | rfl | rfl <;> simp only at hqp ⊢ <;> omega
      exact ⟨g, by rw [hqp, va_up_self, hN]⟩
    · rw [va_up_ne _ _ hqp]; exact ha.2.1 q hq
  · have hqp : q.1 ≠ p := by
      simp only [mm_sI, List.mem_cons, Prod.mk.injEq, List.not_mem_nil, or_false] at hp
      simp only [mm_sJ, List.mem_cons, List.not_mem_nil, or_false] at hq
      rcases hq with rfl | rfl | rfl | rfl <;> simp only <;> omega
    rw [va_up_ne _ _ hqp]; exact ha.2.2 q hq
theorem mm_A.upJ {P : pp_P} {h : tt_H} (ha : mm_A P h) {p N : Nat} (hp : (p, N) ∈ mm_sJ) (g : Nat → Int64) : mm_A P (va_up h p (some (tt_ja N g))) := by
  have hm : 55 < p := by
    simp only [mm_sJ, List.mem_cons, Prod.mk.injEq, List.not_mem_nil, or_false] at hp
    omega
  refine ⟨ha.1.congr (fun i _ hi => va_up_ne _ _ (by omega)), fun q hq => ?_, fun q hq => ?_⟩
  · have hqp : q.1 ≠ p := by
      simp only [mm_sJ, List.mem_cons, Prod.mk.injEq, List.not_mem_nil, or_false] at hp
      simp only [mm_sI, List.mem_cons, List.not_mem_nil, or_false] at hq
      rcases hq with rfl | rfl | rfl | rfl | rfl | rfl | rfl | rfl <;> simp only <;> omega
    rw [va_up_ne _ _ hqp]; exact ha.2.1 q hq
  · by_cases hqp : q.1 = p
    · have hN : q.2 = N := by
        simp only [mm_sJ, List.mem_cons, Prod.mk.injEq, List.not_mem_nil, or_false] at hp
        simp only [mm_sJ, List.mem_cons, List.not_mem_nil, or_false] at hq
        rcases hq with rfl | rfl | rfl | rfl <;> simp only at hqp ⊢ <;> omega
      exact ⟨g, by rw [hqp, va_up_self, hN]⟩
    · rw [va_up_ne _ _ hqp]; exact ha.2.2 q hq
/-! BOTH -/
def pp_Inv (h : tt_H) : Prop := ∃ P, pp_V P ∧ cc_A P h ∧ mm_A P h
/-- a call of both: like answers, and all holds behind it -/
def pp_G {α : Type} (f g : tt_H → Option (α × tt_H)) (h : tt_H) : Prop := ∃ r h1 h2, f h = some (r, h1) ∧ g h1 = some (r, h2) ∧ pp_Inv h2 ∧ ∃ fs, gg_obj h1 49 9 = some fs
theorem pp_G.of {α : Type} {f g : tt_H → Option (α × tt_H)} {h : tt_H} {P P' : pp_P} (R : α) (ha : cc_A P h) (hm : mm_A P h) (hV : pp_V P') (hc : ∃ h1, f h = some (R, h1) ∧ cc_A P' h1 ∧ ∀ i, 49 ≤ i → h1 i = h i) (hg : ∀ h, mm_A P h → ∃ h2, g h = some (R, h2) ∧ mm_A P' h2 ∧ ∀ i, i < 49 → h2 i = h i) : pp_G f g h := by
  obtain ⟨h1, e1, a1, f1⟩ := hc
  obtain ⟨h2, e2, a2, f2⟩ := hg h1 (hm.congr f1)
  refine ⟨R, h1, h2, e1, e2, ⟨P', hV, a1.congr f2, a2⟩, ?_⟩
  obtain ⟨kn, dc, sz, wd, so, sl, sc, tr, ft⟩ := P
  obtain ⟨⟨⟨at_, rd, pm, po, pt, e⟩, -⟩, -⟩ := hm
  exact ⟨_, pp_obj (by rw [f1 49 (by decide)]; exact e)⟩
/-- the simplest: nothing is written -/
theorem pp_G.rd {α : Type} {f g : tt_H → Option (α × tt_H)} {h : tt_H} {P : pp_P} (R : α) (hV : pp_V P) (ha : cc_A P h) (hm : mm_A P h) (hc : f h = some (R, h)) (hg : ∀ h, mm_A P h → g h = some (R, h)) : pp_G f g h :=
  pp_G.of R ha hm hV ⟨h, hc, ha, fun _ _ => rfl⟩ (fun h hm => ⟨h, hg h hm, hm, fun _ _ => rfl⟩)
