/-! WHAT ALL SETS TOGETHER GIVE is what the class answers -/
theorem rS_emb {f1 f2 : Nat → Nat} {n1 n2 S k q : Nat} (h : rS f1 f2 n1 n2 S k q) : ∃ m, emb n1 n2 f1 f2 m ∧ k < n1 ∧ m k = q := by
  obtain ⟨s, _, h2, h3, h4, h5⟩ := h
  obtain ⟨_, m, hm, _, e⟩ := emb_of n2 n1 h2
  have := e q h3 h4
  rw [h5] at this
  exact ⟨m, hm, this⟩
theorem emb_rS {f1 f2 m : Nat → Nat} {n1 n2 k : Nat} (h : emb n1 n2 f1 f2 m) (hk : k < n1) : rS f1 f2 n1 n2 (2 ^ n2) k (m k) := by
  obtain ⟨s, s1, s2, s3⟩ := set_of n2 n1 m h
  exact ⟨s, s1, s2, (h.1 k hk).1, s3 k hk⟩
theorem min_fin {f1 f2 : Nat → Nat} {n1 n2 k : Nat} {x : Int32} (hk : k < n1) (h : isMin (rS f1 f2 n1 n2 (2 ^ n2) k) x) : x = if gK n1 f1 f2 n2 = n1 then nI (mb_A n1 n2 f1 f2 k) else -9 := by
  by_cases hw : gK n1 f1 f2 n2 = n1
  · rw [if_pos hw]
    have hA := emb_rS (emb_A hw) hk
    rcases h with ⟨_, h2⟩ | ⟨q, h0, h1, h2, h3⟩
    · exact absurd hA (h2 _)
    · obtain ⟨m, hm, _, e⟩ := rS_emb h2
      have a1 := h3 _ hA
      have a2 := emb_ge hm k hk
      rw [h1]
      congr 1; omega
  · rw [if_neg hw]
    rcases h with ⟨h1, _⟩ | ⟨q, h0, h1, h2, h3⟩
    · exact h1
    · obtain ⟨m, hm, _, e⟩ := rS_emb h2
      exact absurd (emb_full hm) hw
theorem max_fin {f1 f2 : Nat → Nat} {n1 n2 k : Nat} {x : Int32} (hk : k < n1) (h : isMax (rS f1 f2 n1 n2 (2 ^ n2) k) x) : x = if gK n1 f1 f2 n2 = n1 then nI (mb_B n1 n2 f1 f2 k) else -9 := by
  by_cases hw : gK n1 f1 f2 n2 = n1
  · rw [if_pos hw]
    have hA := emb_rS (emb_B hw) hk
    rcases h with ⟨_, h2⟩ | ⟨q, h0, h1, h2, h3⟩
    · exact absurd hA (h2 _)
    · obtain ⟨m, hm, _, e⟩ := rS_emb h2
      have a1 := h3 _ hA
      have a2 := emb_le hm (n1 - k - 1) k (by omega)
      rw [h1]
      congr 1; omega
  · rw [if_neg hw]
    rcases h with ⟨h1, _⟩ | ⟨q, h0, h1, h2, h3⟩
    · exact h1
    · obtain ⟨m, hm, _, e⟩ := rS_emb h2
      exact absurd (emb_full hm) hw
theorem ms_iff {n1 n2 p : Nat} {f1 f2 : Nat → Nat} : ∀ s k, (ms_R n1 n2 f1 f2 p s k ≠ 0 ↔ ∃ j, k ≤ j ∧ j < k + s ∧ f1 j = f2 p ∧ mb_A n1 n2 f1 f2 j ≤ p ∧ p ≤ mb_B n1 n2 f1 f2 j)
  | 0, k => ⟨fun z => absurd rfl z, fun ⟨j, h1, h2, _⟩ => by omega⟩
  | s + 1, k => by
    rw [ms_R]
    by_cases hc : f1 k = f2 p ∧ mb_A n1 n2 f1 f2 k ≤ p ∧ p ≤ mb_B n1 n2 f1 f2 k
    · rw [if_pos hc]
      exact ⟨fun _ => ⟨k, Nat.le_refl k, by omega, hc⟩, fun _ => by decide⟩
    · rw [if_neg hc, ms_iff s (k + 1)]
      constructor
      · rintro ⟨j, h1, h2, h3⟩; exact ⟨j, by omega, by omega, h3⟩
      · rintro ⟨j, h1, h2, h3⟩
        refine ⟨j, ?_, by omega, h3⟩
        by_cases hj : j = k
        · subst hj; exact absurd h3 hc
        · omega
theorem mS_iff {n1 n2 q : Nat} {f1 f2 : Nat → Nat} (hq : q < n2) : mS f1 f2 n1 n2 (2 ^ n2) q ↔ ¬ ms_W n1 n2 f1 f2 q = 0 := by
  unfold ms_W
  constructor
  · rintro ⟨s, h1, h2, h3, h4⟩
    obtain ⟨_, m, hm, _, e⟩ := emb_of n2 n1 h2
    obtain ⟨hk, hmk⟩ := e q h3 h4
    have hw := emb_full hm
    rw [if_pos hw]
    refine (ms_iff n1 0).mpr ⟨ps s q, Nat.zero_le _, by omega, ?_, ?_, ?_⟩
    · rw [(hm.1 _ hk).2, hmk]
    · have := emb_ge hm _ hk; omega
    · have := emb_le hm (n1 - ps s q - 1) (ps s q) (by omega); omega
  · intro h
    by_cases hw : gK n1 f1 f2 n2 = n1
    · rw [if_pos hw] at h
      obtain ⟨k, _, hk, h1, h2, h3⟩ := (ms_iff n1 0).mp h
      have he := emb_mid hw (show k < n1 by omega) hq h1 h2 h3
      obtain ⟨s, s1, s2, s3⟩ := set_of n2 n1 _ he
      have := s3 k (by omega)
      simp only [if_neg (Nat.lt_irrefl k), if_true] at this
      exact ⟨s, s1, s2, hq, this.1⟩
    · rw [if_neg hw] at h; exact absurd rfl h
theorem cnt_iff {n1 n2 : Nat} {f1 f2 : Nat → Nat} : cnt (fun s => mt f1 f2 s n2 n1) (2 ^ n2) ≠ 0 ↔ gK n1 f1 f2 n2 = n1 := by
  constructor
  · intro h
    obtain ⟨s, _, h2⟩ := cnt_some _ h
    obtain ⟨_, m, hm, _⟩ := emb_of n2 n1 h2
    exact emb_full hm
  · intro hw
    obtain ⟨s, s1, s2, _⟩ := set_of n2 n1 _ (emb_A hw)
    have := cnt_pos (P := fun s => mt f1 f2 s n2 n1) _ s s1 s2
    omega
section PA
variable {kn : Nat → Nat} {dc : Nat} {sz : Nat → Nat} {wd : Nat → Nat → Nat} {so sl : Nat → Nat} {sc : Nat → Nat → Int32} {tr ft : Int32} {C : Nat → Int64} {G kd : Nat → Int32} {nn Ls : Nat} {xs : Nat → Int32}
/-- the places are asked for -/
theorem st_595 {a b p : Nat} (ha : a < dc) (hb : b < dc) (κ : Int32 → Nat → Int32 → Int32 → Nat → tt_H → Option (Int32 × tt_H)) (Q : Int32 × tt_H → Prop) {F E M : Nat → Int32} (hp : 53 ≤ p)
    (hF : ∀ k, k < sz a → F k = if gK (sz a) (wd a) (wd b) (sz b) = sz a then nI (mb_A (sz a) (sz b) (wd a) (wd b) k) else -9) (hE : ∀ k, k < sz a → E k = if gK (sz a) (wd a) (wd b) (sz b) = sz a then nI (mb_B (sz a) (sz b) (wd a) (wd b) k) else -9)
    (hκ : ∀ h, lm_B kn dc sz wd so sl sc tr ft C G kd nn h → lv_R p F E M h → ok (κ (nI (dc - 1)) 52 (nI a) (nI b) nn h) Q) :
    ∀ (t k fu : Nat) (h : tt_H), k + t = sz a → t < fu → lm_B kn dc sz wd so sl sc tr ft C G kd nn h → lv_R p F E M h → ok (s_L_law_L595 Ls xs κ fu (nI (dc - 1)) 52 (nI a) (nI b) p (p + 1) (nI k) nn h) Q := by
  intro t
  induction t with
  | zero =>
    intro k fu h hk hfu hB hR
    obtain ⟨fu, rfl⟩ : ∃ z, fu = z + 1 := ⟨fu - 1, by omega⟩
    have a12 := hB.s12 ha
    rw [s_L_law_L595, hB.g ha, pp_bind, if_pos (nI_le (by omega) (by omega))]
    exact hκ h hB hR
  | succ t ih =>
    intro k fu h hk hfu hB hR
    obtain ⟨fu, rfl⟩ : ∃ z, fu = z + 1 := ⟨fu - 1, by omega⟩
    have a12 := hB.s12 ha
    have hks : k < sz a := by omega
    obtain ⟨h1, e1, B1, f1⟩ := hB.call (K_place hB.1 hB.2.1 ha hb hks (q := 0) (by decide))
    have e1' : s_X8_place 0 (nI a) (nI b) (nI k) 0 h = some (F k, h1) := by rw [hF k hks]; exact e1
    obtain ⟨h2, e2, B2, f2⟩ := B1.call (K_place B1.1 B1.2.1 ha hb hks (q := 1) (by decide))
    have e2' : s_X8_place 0 (nI a) (nI b) (nI k) 1 h1 = some (E k, h2) := by rw [hE k hks]; exact e2
    have r1 : h1 p = some (tt_ia 12 F) := by rw [f1 p (by omega)]; exact hR.1
    have r2 : h2 (p + 1) = some (tt_ia 12 E) := by rw [f2 (p + 1) (by omega), f1 (p + 1) (by omega)]; exact hR.2.1
    have R2 : lv_R p F E M h2 := ⟨by rw [f2 p (by omega)]; exact r1, r2, by rw [f2 52 (by decide), f1 52 (by decide)]; exact hR.2.2⟩
    rw [s_L_law_L595, hB.g ha, pp_bind, if_neg (nI_ge hks (by omega)), hB.b, e1', pp_bind]
    simp only []
    rw [pp_il r1 (show k < 12 by omega) (by decide), pp_bind, if_pos rfl, B1.b, e2', pp_bind]
    simp only []
    rw [pp_il r2 (show k < 12 by omega) (by decide), pp_bind, if_pos rfl, nI_1]
    exact ih (k + 1) fu h2 (by omega) (by omega) B2 R2
/-- all sets are looked at: WAYS, then the places -/
theorem st_fin {a b p : Nat} (ha : a < dc) (hb : b < dc) (hp : 53 ≤ p) (M0 : Nat → Int32) (κ : Int32 → Nat → Int32 → Int32 → Nat → tt_H → Option (Int32 × tt_H)) (Q : Int32 × tt_H → Prop)
    (hκ : ∀ M h, lm_B kn dc sz wd so sl sc tr ft C G kd nn h → h 52 = some (tt_ia 12 M) → (∀ q, mI (wd a) (wd b) (sz a) (sz b) a (2 ^ sz b) (b = dc - 1) M0 M q) → ok (κ (nI (dc - 1)) 52 (nI a) (nI b) nn h) Q) :
    ∀ fu F E M h, lm_B kn dc sz wd so sl sc tr ft C G kd nn h → lv_R p F E M h → (∀ k, k < sz a → isMin (rS (wd a) (wd b) (sz a) (sz b) (2 ^ sz b) k) (F k)) → (∀ k, k < sz a → isMax (rS (wd a) (wd b) (sz a) (sz b) (2 ^ sz b) k) (E k)) → (∀ q, mI (wd a) (wd b) (sz a) (sz b) a (2 ^ sz b) (b = dc - 1) M0 M q) → ok (s_L_law_L382 Ls xs κ (fu + 1) (nI (dc - 1)) 52 (nI a) (nI b) (pw_b (sz a) (sz b) (wd a) (wd b)) (nI (cnt (fun s => mt (wd a) (wd b) s (sz b) (sz a)) (2 ^ sz b))) p (p + 1) (nI (2 ^ sz b)) nn h) Q := by
  intro fu F E M h hB hR hF hE hM
  obtain ⟨b1, b2, b3⟩ := hB.s12 hb
  have a12 := hB.s12 ha
  have h4 : 2 ^ sz b ≤ 2 ^ 12 := Nat.pow_le_pow_right (by decide) b2
  have hc := cnt_le (fun s => mt (wd a) (wd b) s (sz b) (sz a)) (2 ^ sz b)
  obtain ⟨h1, e1, B1, f1⟩ := hB.call (K_ways hB.1 hB.2.1 ha hb)
  have R1 : lv_R p F E M h1 := ⟨by rw [f1 p (by omega)]; exact hR.1, by rw [f1 (p + 1) (by omega)]; exact hR.2.1, by rw [f1 52 (by decide)]; exact hR.2.2⟩
  have last := st_595 (Ls := Ls) (xs := xs) ha hb κ Q hp (fun k hk => min_fin hk (hF k hk)) (fun k hk => max_fin hk (hE k hk)) (fun h' B' R' => hκ M h' B' R'.2.2 hM) (sz a) 0 10000 h1 (by omega) (by omega) B1 R1
  rw [s_L_law_L382, hB.g hb, pp_bind, st_1 _ (show sz b < 13 by omega), if_pos (nI_le (Nat.le_refl _) (by omega)), hB.b, e1, pp_bind]
  simp only []
  rw [cnt_wy, nI_l (by omega), if_pos ((lg_cmp_eq _ _).mpr rfl)]
  by_cases hw : gK (sz a) (wd a) (wd b) (sz b) = sz a
  · have c0 := cnt_iff.mpr hw
    rw [if_neg (nI_nle (by omega) (by omega))]
    unfold s_L_law_J585
    rw [if_pos (show (1 : Int32) = pw_b (sz a) (sz b) (wd a) (wd b) from (if_pos hw).symm)]
    exact last
  · have c0 : cnt (fun s => mt (wd a) (wd b) s (sz b) (sz a)) (2 ^ sz b) = 0 := by
      by_cases hz : cnt (fun s => mt (wd a) (wd b) s (sz b) (sz a)) (2 ^ sz b) = 0
      · exact hz
      · exact absurd (cnt_iff.mp hz) hw
    rw [c0, if_pos (by decide)]
    unfold s_L_law_J585
    rw [if_pos (show (0 : Int32) = pw_b (sz a) (sz b) (wd a) (wd b) from (if_neg hw).symm)]
    exact last
/-- the law's rows are made ready -/
theorem st_352 {a b p : Nat} (hp : 53 ≤ p) (hpn : p + 1 < nn) {x11 : Int32} {M : Nat → Int32} (κ : Int32 → Nat → Int32 → Int32 → Nat → tt_H → Option (Int32 × tt_H)) (Q : Int32 × tt_H → Prop)
    (hκ : ∀ F E h, lm_B kn dc sz wd so sl sc tr ft C G kd nn h → lv_R p F E M h → (∀ k, k < 12 → F k = -9) → (∀ k, k < 12 → E k = -9) → ok (s_L_law_L382 Ls xs κ 10000 (nI (dc - 1)) 52 (nI a) (nI b) x11 0 p (p + 1) 0 nn h) Q) :
    ∀ (t k fu : Nat) (F E : Nat → Int32) (h : tt_H), k + t = 12 → t < fu → lm_B kn dc sz wd so sl sc tr ft C G kd nn h → lv_R p F E M h → (∀ j, j < k → F j = -9) → (∀ j, j < k → E j = -9) → ok (s_L_law_L352 Ls xs κ fu (nI (dc - 1)) 52 (nI a) (nI b) x11 0 p (p + 1) (nI k) nn h) Q := by
  intro t
  induction t with
  | zero =>
    intro k fu F E h hk hfu hB hR hF hE
    obtain ⟨fu, rfl⟩ : ∃ z, fu = z + 1 := ⟨fu - 1, by omega⟩
    obtain rfl : k = 12 := by omega
    rw [s_L_law_L352, if_pos (by decide)]
    exact hκ F E h hB hR hF hE
  | succ t ih =>
    intro k fu F E h hk hfu hB hR hF hE
    obtain ⟨fu, rfl⟩ : ∃ z, fu = z + 1 := ⟨fu - 1, by omega⟩
    obtain ⟨r1, r2, r3⟩ := hR
    have r2' : va_up h p (some (tt_ia 12 (upd F k (-9)))) (p + 1) = some (tt_ia 12 E) := by rw [va_up_ne _ _ (by omega)]; exact r2
    rw [s_L_law_L352, if_neg (show ¬ (12 : Int32) ≤ nI k from nI_ge (a := k) (b := 12) (by omega) (by decide)), pp_is r1 (show k < 12 by omega) (by decide), pp_bind, pp_is r2' (show k < 12 by omega) (by decide), pp_bind, nI_1]
    refine ih (k + 1) fu _ _ _ (by omega) (by omega) ((hB.up (p := p) (by omega) (by omega) (x := tt_ia 12 (upd F k (-9))) oe_ia).up (p := p + 1) (by omega) (by omega) (x := tt_ia 12 (upd E k (-9))) oe_ia) ⟨by rw [va_up_ne _ _ (by omega), va_up_self], va_up_self _ _ _, by rw [va_up_ne _ _ (by omega), va_up_ne _ _ (by omega)]; exact r3⟩ (fun j hj => ?_) (fun j hj => ?_)
    · by_cases hjk : j = k
      · rw [hjk, pk_us]
      · rw [pk_un hjk]; exact hF j (by omega)
    · by_cases hjk : j = k
      · rw [hjk, pk_us]
      · rw [pk_un hjk]; exact hE j (by omega)
/-- a pair of DAYS, all choices gone through -/
theorem st_334 {a b : Nat} (ha : a < dc) (hb : b < dc) {h : tt_H} (hB : lm_B kn dc sz wd so sl sc tr ft C G kd nn h) (h53 : 53 ≤ nn) (hn : nn + 2 < 100000) {M0 : Nat → Int32} (h52 : h 52 = some (tt_ia 12 M0)) (κ : Int32 → Nat → Int32 → Int32 → Nat → tt_H → Option (Int32 × tt_H)) (Q : Int32 × tt_H → Prop)
    (hκ : ∀ M h, lm_B kn dc sz wd so sl sc tr ft C G kd (nn + 1 + 1) h → h 52 = some (tt_ia 12 M) → (∀ q, mI (wd a) (wd b) (sz a) (sz b) a (2 ^ sz b) (b = dc - 1) M0 M q) → ok (κ (nI (dc - 1)) 52 (nI a) (nI b) (nn + 1 + 1) h) Q) :
    ok (s_L_law_J334 Ls xs κ (nI (dc - 1)) 52 (nI a) (nI b) (pw_b (sz a) (sz b) (wd a) (wd b)) nn h) Q := by
  have a12 := hB.s12 ha
  obtain ⟨b1, b2, b3⟩ := hB.s12 hb
  have h4 : 2 ^ sz b ≤ 2 ^ 12 := Nat.pow_le_pow_right (by decide) b2
  have g1 := hB.gnew (rs := [1000000, 0, 49, 50, 51, 52]) (by omega) ⟨Or.inr (Nat.le_refl _), Or.inl (by omega), Or.inl (by omega), Or.inl (by omega), Or.inl (by omega), Or.inl (by omega), trivial⟩
  have B1 := hB.new (x := tt_ia 12 (fun _ => 0)) trivial
  have g2 := B1.gnew (rs := [1000000, 0, 49, 50, 51, 52, nn]) (by omega) ⟨Or.inr (Nat.le_refl _), Or.inl (by omega), Or.inl (by omega), Or.inl (by omega), Or.inl (by omega), Or.inl (by omega), Or.inl (by omega), trivial⟩
  have B2 := B1.new (x := tt_ia 12 (fun _ => 0)) trivial
  unfold s_L_law_J334
  rw [g1, pp_bind, g2, pp_bind]
  refine st_352 (p := nn) h53 (by omega) κ Q (fun F E h' B' R' hF hE => ?_) 12 0 10000 _ _ _ (by omega) (by omega) B2 ⟨by rw [va_up_ne _ _ (by omega), va_up_self], va_up_self _ _ _, by rw [va_up_ne _ _ (by omega), va_up_ne _ _ (by omega)]; exact h52⟩ (fun j hj => absurd hj (Nat.not_lt_zero j)) (fun j hj => absurd hj (Nat.not_lt_zero j))
  exact st_382 ha hb h53 (by omega) M0 κ Q (st_fin ha hb h53 M0 κ Q hκ) (2 ^ sz b) 0 10000 F E M0 h' (by omega) (by omega) B' R' (fun k hk => Or.inl ⟨hF k (by omega), fun q ⟨s, hs, _⟩ => absurd hs (Nat.not_lt_zero s)⟩) (fun k hk => Or.inl ⟨hE k (by omega), fun q ⟨s, hs, _⟩ => absurd hs (Nat.not_lt_zero s)⟩) (fun q => Or.inr ⟨fun ⟨_, s, hs, _⟩ => absurd hs (Nat.not_lt_zero s), rfl⟩)
end PA
