/-! THE LAW'S OWN HELPERS, over numbers -/
theorem hl_within {n1 n2 : Nat} {f1 f2 : Nat → Nat} (l1 : n1 ≤ 12) (l2 : n2 ≤ 12) (b1 : ∀ k, k < n1 → f1 k < 8) (b2 : ∀ k, k < n2 → f2 k < 8) (h : tt_H) : ∀ (s q fu : Nat), q + s = n2 → s < fu → s_L_within_L6 fu (lN (cN f1 n1)) (nI n1) (lN (cN f2 n2)) (nI n2) (nI (gK n1 f1 f2 q)) (nI q) h = some (pw_b n1 n2 f1 f2, h) := by
  have fin : ∀ q, gK n1 f1 f2 q = gK n1 f1 f2 n2 → s_L_within_J50 (nI n1) (nI (gK n1 f1 f2 q)) h = some (pw_b n1 n2 f1 f2, h) := fun q hq => by
    have := gK_le n1 f1 f2 q
    unfold s_L_within_J50 pw_b
    rw [← hq]
    by_cases hc : gK n1 f1 f2 q = n1
    · rw [if_pos (by rw [hc]), if_pos hc]
    · rw [if_neg (fun z => hc ((nI_eq (by omega) (by omega)).mp z)), if_neg hc]
  intro s
  induction s with
  | zero =>
    intro q fu hq hfu
    obtain ⟨fu, rfl⟩ : ∃ z, fu = z + 1 := ⟨fu - 1, by omega⟩
    obtain rfl : q = n2 := by omega
    rw [s_L_within_L6, if_pos (nI_le (Nat.le_refl _) (by omega))]
    exact fin _ rfl
  | succ s ih =>
    intro q fu hq hfu
    obtain ⟨fu, rfl⟩ : ∃ z, fu = z + 1 := ⟨fu - 1, by omega⟩
    have hle := gK_le n1 f1 f2 q
    rw [s_L_within_L6, if_neg (nI_ge (show q < n2 by omega) (by omega))]
    by_cases hf : gK n1 f1 f2 q = n1
    · rw [if_pos (by rw [hf]; exact nI_le (Nat.le_refl _) (by omega))]
      have := (gK_full hf (n2 - q)).1
      rw [show q + (n2 - q) = n2 by omega] at this
      exact fin q (by rw [hf, this])
    · rw [if_neg (nI_ge (show gK n1 f1 f2 q < n1 by omega) (by omega)), lw_wordf b1 l1 (show gK n1 f1 f2 q < n1 by omega), pp_bind, lw_wordf b2 l2 (show q < n2 by omega), pp_bind]
      have c1 := b1 _ (show gK n1 f1 f2 q < n1 by omega)
      have c2 := b2 q (by omega)
      unfold s_L_within_J41
      by_cases hw : f1 (gK n1 f1 f2 q) = f2 q
      · rw [if_pos (by rw [hw]), nI_1, nI_1, ← gK_s1 ⟨by omega, hw⟩]
        exact ih (q + 1) fu (by omega) (by omega)
      · rw [if_neg (fun z => hw ((nI_eq (by omega) (by omega)).mp z)), nI_1, Int32.add_zero, ← gK_s0 (p := q) (fun z => hw z.2)]
        exact ih (q + 1) fu (by omega) (by omega)
theorem H_within {n1 n2 : Nat} {f1 f2 : Nat → Nat} (l1 : n1 ≤ 12) (l2 : n2 ≤ 12) (b1 : ∀ k, k < n1 → f1 k < 8) (b2 : ∀ k, k < n2 → f2 k < 8) (h : tt_H) : s_L_within (lN (cN f1 n1)) (nI n1) (lN (cN f2 n2)) (nI n2) h = some (pw_b n1 n2 f1 f2, h) :=
  hl_within l1 l2 b1 b2 h n2 0 1000 (by omega) (by omega)
/-! how many bits -/
def sz_t : Bool := (List.range 4096).all fun s => decide (s = 0) || (decide (ps (s &&& (s - 1)) 12 + 1 = ps s 12) && decide ((s &&& (s - 1)) < s))
theorem sz_tt : sz_t = true := by decide +kernel
theorem sz_1 {s : Nat} (h : s < 4096) (h0 : s ≠ 0) : ps (s &&& (s - 1)) 12 + 1 = ps s 12 ∧ (s &&& (s - 1)) < s := by
  have h1 := List.all_eq_true.mp sz_tt s (List.mem_range.mpr h)
  rw [decide_eq_false h0, Bool.false_or, Bool.and_eq_true, decide_eq_true_iff, decide_eq_true_iff] at h1
  exact h1
theorem hl_size (h : tt_H) : ∀ (t s fu a : Nat), s < 4096 → ps s 12 = t → t < fu → a + t < 1000 → s_L_size_L4 fu (nI a) (nI s) h = some (nI (a + t), h) := by
  intro t
  induction t with
  | zero =>
    intro s fu a hs ht hfu ha
    obtain ⟨fu, rfl⟩ : ∃ z, fu = z + 1 := ⟨fu - 1, by omega⟩
    have h0 : s = 0 := by
      by_cases h0 : s = 0
      · exact h0
      · have := (sz_1 hs h0).1; omega
    subst h0
    rw [s_L_size_L4, if_pos (by decide)]
    rfl
  | succ t ih =>
    intro s fu a hs ht hfu ha
    obtain ⟨fu, rfl⟩ : ∃ z, fu = z + 1 := ⟨fu - 1, by omega⟩
    have h0 : s ≠ 0 := by
      rintro rfl
      have e0 : ps 0 12 = 0 := by decide
      omega
    obtain ⟨e1, e2⟩ := sz_1 hs h0
    rw [s_L_size_L4, if_neg (nI_nle (by omega) (by omega)), pp_m1 (by omega), fa_and, nI_1, ih _ fu (a + 1) (by omega) (by omega) (by omega) (by omega)]
    congr 2
    congr 1
    omega
theorem ps_top {s n : Nat} (hs : s < 2 ^ n) : ∀ d, ps s (n + d) = ps s n
  | 0 => rfl
  | d + 1 => by
    rw [show n + (d + 1) = (n + d) + 1 from rfl, ps_0, ps_top hs d]
    exact tb_hi (Nat.lt_of_lt_of_le hs (Nat.pow_le_pow_right (by decide) (by omega)))
theorem s_4096 {s n : Nat} (hs : s < 2 ^ n) (hn : n ≤ 12) : s < 4096 :=
  Nat.lt_of_lt_of_le hs (show 2 ^ n ≤ 2 ^ 12 from Nat.pow_le_pow_right (by decide) hn)
theorem H_size {s n : Nat} (hs : s < 2 ^ n) (hn : n ≤ 12) (h : tt_H) : s_L_size (nI s) h = some (nI (ps s n), h) := by
  have e := ps_top hs (12 - n)
  rw [show n + (12 - n) = 12 by omega] at e
  have hl := ps_le s n
  have := hl_size h (ps s n) s 1000 0 (s_4096 hs hn) e (by omega) (by omega)
  rw [Nat.zero_add] at this
  exact this
/-! what a set chooses -/
theorem hl_part {n s : Nat} {f : Nat → Nat} (ln : n ≤ 12) (b : ∀ k, k < n → f k < 8) (hs : s < 4096) (h : tt_H) : ∀ (t q fu : Nat), q + t = n → t < fu → s_L_part_L9 fu (lN (cN f n)) (nI n) (nI s) (lN (pv f s q)) (nI (ps s q)) (nI q) h = some (lN (pv f s n), h) := by
  intro t
  induction t with
  | zero =>
    intro q fu hq hfu
    obtain ⟨fu, rfl⟩ : ∃ z, fu = z + 1 := ⟨fu - 1, by omega⟩
    obtain rfl : q = n := by omega
    rw [s_L_part_L9, if_pos (nI_le (Nat.le_refl _) (by omega))]
  | succ t ih =>
    intro q fu hq hfu
    obtain ⟨fu, rfl⟩ : ∃ z, fu = z + 1 := ⟨fu - 1, by omega⟩
    have hle := ps_le s q
    rw [s_L_part_L9, if_neg (nI_ge (show q < n by omega) (by omega))]
    unfold s_L_part_J47
    by_cases hb : s.testBit q = true
    · have hlt := pv_lt (f := f) (s := s) q (fun i hi => b i (by omega))
      have h12 : 8 ^ ps s q ≤ 8 ^ 12 := Nat.pow_le_pow_right (by decide) (by omega)
      have e12 : (8 : Nat) ^ 12 = 2 ^ 36 := by decide
      have h8 := b q (by omega)
      have hm : f q * 8 ^ ps s q ≤ 7 * 8 ^ ps s q := Nat.mul_le_mul_right _ (by omega)
      rw [if_neg (fun z => by rw [st_bit (by omega) (by omega)] at z; rw [z] at hb; cases hb), lw_wordf b ln (show q < n by omega), pp_bind]
      simp only []
      rw [nI_l (by omega), cn_3, wb_shl _ (show 3 * ps s q < 64 by omega), ← cn_8, cn_8 (ps s q), cn_or (by rw [← cn_8]; exact hlt) (by rw [← cn_8]; omega), ← cn_8, nI_1, nI_1]
      have e1 : pv f s q + f q * 8 ^ ps s q = pv f s (q + 1) := by rw [pv, if_pos hb]
      rw [e1, ← ps_1 hb]
      exact ih (q + 1) fu (by omega) (by omega)
    · have hb' : s.testBit q = false := by cases hx : s.testBit q with | true => exact absurd hx hb | false => rfl
      rw [if_pos ((st_bit (by omega) (by omega)).mpr hb'), nI_1]
      have e1 : pv f s q = pv f s (q + 1) := by rw [pv, if_neg hb]
      rw [e1, ← ps_0 hb]
      exact ih (q + 1) fu (by omega) (by omega)
theorem H_part {n s : Nat} {f : Nat → Nat} (ln : n ≤ 12) (b : ∀ k, k < n → f k < 8) (hs : s < 4096) (h : tt_H) : s_L_part (lN (cN f n)) (nI n) (nI s) h = some (lN (pv f s n), h) :=
  hl_part ln b hs h n 0 1000 (by omega) (by omega)
/-! what is said -/
theorem sd_clr : ∀ v, v < 8 → ∀ C, C < 256 → nI C &&& (((1 : Int32) <<< (nI v &&& 31)) ^^^ (-1)) = nI (C &&& (255 - 2 ^ v)) := by decide +kernel
theorem sd_set : ∀ v, v < 8 → ∀ C, C < 256 → nI C ||| ((1 : Int32) <<< (nI v &&& 31)) = nI (C ||| 2 ^ v) := by decide +kernel
theorem sy_256 {kn : Nat → Nat} {st : sy_S} (h : sy_G kn st) : st.1 < 256 := Nat.lt_pow_two_of_testBit (n := 8) st.1 (fun i hi => by
  cases hx : st.1.testBit i with
  | true => have := (h.1 i hx).1; omega
  | false => rfl)
def sd_L (L : Nat) : Int32 := if L = 9 then -1 else nI L
theorem sd_x : ∀ b : Bool, dI b ^^^ 1 = dI (!b) := by decide
theorem hl_said {n b0 : Nat} {f kn : Nat → Nat} {g : Nat → Int32} {h : tt_H} (ln : n ≤ 12) (b : ∀ k, k < n → f k < 8) (hk : ∀ w, w < 8 → kn w < 3) (hg : h b0 = some (tt_ia 8 g)) (eg : ∀ w, w < 8 → g w = nI (kn w)) : ∀ (t q fu : Nat) (st : sy_S), sy_G kn st → q + t = n → t < fu → s_L_said_L12 fu b0 (lN (cN f n)) (nI n) (nI st.1) (dI st.2.1) (sd_L st.2.2) (nI q) h = some (nI (sy_F kn f t q st).1, h) := by
  intro t
  induction t with
  | zero =>
    intro q fu st hG hq hfu
    obtain ⟨fu, rfl⟩ : ∃ z, fu = z + 1 := ⟨fu - 1, by omega⟩
    rw [s_L_said_L12, if_pos (nI_le (show n ≤ q by omega) (by omega))]
    rfl
  | succ t ih =>
    intro q fu st hG hq hfu
    obtain ⟨fu, rfl⟩ : ∃ z, fu = z + 1 := ⟨fu - 1, by omega⟩
    have h8 := b q (by omega)
    have h3 := hk (f q) h8
    have hi := ih (q + 1) fu (sy_st kn st (f q)) (sy_Gs hG h8) (by omega) (by omega)
    have hC := sy_256 hG
    have hgl : gg_il h b0 (nI (f q)) = some (nI (kn (f q))) := by rw [pp_il hg h8 (by decide), eg _ h8]
    obtain ⟨C, D, L⟩ := st
    have hC' : C < 256 := hC
    have hL : L = 9 ∨ L < 8 := hG.2
    rw [s_L_said_L12, if_neg (nI_ge (show q < n by omega) (by omega)), lw_wordf b ln (show q < n by omega), pp_bind]
    simp only []
    rw [hgl, pp_bind, sy_F, ← hi]
    by_cases h0 : kn (f q) = 0
    · have e : sy_st kn (C, D, L) (f q) = ((if D = true then C &&& (255 - 2 ^ f q) else C ||| 2 ^ f q), false, f q) := if_pos h0
      rw [e, h0, if_pos (show nI 0 ≤ 0 by decide)]
      unfold s_L_said_J39
      rw [hgl, h0, pp_bind, if_neg (show ¬ nI 0 = 2 by decide)]
      unfold s_L_said_J63
      rw [hgl, h0, pp_bind, if_pos (show nI 0 ≤ 0 by decide)]
      unfold s_L_said_J98 s_L_said_J107
      have eL : sd_L (f q) = nI (f q) := if_neg (by omega)
      simp only []
      rw [eL, nI_1]
      cases D with
      | true =>
        rw [if_pos (show dI true = 1 from rfl), sd_clr _ h8 C hC', if_pos rfl]
        rfl
      | false =>
        rw [if_neg (show ¬ dI false = 1 by decide), sd_set _ h8 C hC', if_neg (by decide)]
        rfl
    · have e : sy_st kn (C, D, L) (f q) = ((if kn (f q) = 2 ∧ L ≠ 9 then C &&& (255 - 2 ^ L) else C), !D, L) := if_neg h0
      rw [e, if_neg (nI_nle (by omega) (by omega)), sd_x]
      have j63 : ∀ x, s_L_said_J63 (s_L_said_L12 fu) b0 (lN (cN f n)) (nI n) x (dI (!D)) (sd_L L) (nI q) (nI (f q)) h = s_L_said_L12 fu b0 (lN (cN f n)) (nI n) x (dI (!D)) (sd_L L) (nI (q + 1)) h := fun x => by
        unfold s_L_said_J63 s_L_said_J107
        rw [hgl, pp_bind, if_neg (nI_nle (by omega) (by omega)), nI_1]
      unfold s_L_said_J39
      rw [hgl, pp_bind]
      by_cases h2 : kn (f q) = 2
      · rw [if_pos (show nI (kn (f q)) = 2 by rw [h2]; rfl)]
        rcases hL with rfl | hL
        · rw [if_pos (show sd_L 9 < 0 by decide), j63, if_neg (fun z => z.2 rfl)]
        · have eL : sd_L L = nI L := if_neg (by omega)
          rw [if_neg (show ¬ sd_L L < 0 by rw [eL]; exact nI_pos (by omega)), j63, if_pos ⟨h2, by omega⟩]
          simp only []
          rw [show nI C &&& (((1 : Int32) <<< (sd_L L &&& 31)) ^^^ (-1)) = nI (C &&& (255 - 2 ^ L)) by rw [eL]; exact sd_clr L hL C hC']
      · rw [if_neg (show ¬ nI (kn (f q)) = 2 from fun z => h2 ((nI_eq (b := 2) (by omega) (by decide)).mp z)), j63, if_neg (fun z => h2 z.1)]
theorem H_said {n b0 : Nat} {f kn : Nat → Nat} {g : Nat → Int32} {h : tt_H} (ln : n ≤ 12) (b : ∀ k, k < n → f k < 8) (hk : ∀ w, w < 8 → kn w < 3) (hg : h b0 = some (tt_ia 8 g)) (eg : ∀ w, w < 8 → g w = nI (kn w)) : s_L_said b0 (lN (cN f n)) (nI n) h = some (nI (sy_F kn f n 0 (0, false, 9)).1, h) :=
  hl_said ln b hk hg eg n 0 1000 (0, false, 9) (sy_G0 kn) (by omega) (by omega)
/-! cells of the script, kinds -/
theorem H_cell {Ls : Nat} (hL : Ls ≤ 260) (xs : Nat → Int32) {k : Nat} (hk : k < 1000) (h : tt_H) : ∃ v, s_L_cell Ls xs (nI k) h = some (v, h) := by
  unfold s_L_cell
  by_cases hc : Ls ≤ k
  · exact ⟨_, if_pos (nI_le hc (by omega))⟩
  · rw [if_neg (nI_ge (show k < Ls by omega) (by omega)), pp_ix (by omega) (by omega), pp_bind]
    exact ⟨_, rfl⟩
section HK
variable {dc : Nat} {sz : Nat → Nat} {wd : Nat → Nat → Nat} {so sl : Nat → Nat} {sc : Nat → Nat → Int32} {tr ft : Int32}
theorem hl_kinds (x : Int32) : ∀ (t k fu : Nat) (kn : Nat → Nat) (g : Nat → Int32) (h : tt_H), pp_V (kn, dc, sz, wd, so, sl, sc, tr, ft) → cc_A (kn, dc, sz, wd, so, sl, sc, tr, ft) h → h 51 = some (tt_ia 8 g) → (∀ w, w < 8 → g w = nI (kn w)) → k + t = 3 → t < fu → ∃ kn' g' h', s_L_kinds_L2 fu 0 x 51 (nI k) h = some (1, h') ∧ pp_V (kn', dc, sz, wd, so, sl, sc, tr, ft) ∧ cc_A (kn', dc, sz, wd, so, sl, sc, tr, ft) h' ∧ h' 51 = some (tt_ia 8 g') ∧ (∀ w, w < 8 → g' w = nI (kn' w)) ∧ ∀ i, 49 ≤ i → i ≠ 51 → h' i = h i := by
  intro t
  induction t with
  | zero =>
    intro k fu kn g h hV ha hg eg hk hfu
    obtain ⟨fu, rfl⟩ : ∃ z, fu = z + 1 := ⟨fu - 1, by omega⟩
    obtain rfl : k = 3 := by omega
    exact ⟨kn, g, h, by rw [s_L_kinds_L2, if_pos (by decide)], hV, ha, hg, eg, fun _ _ _ => rfl⟩
  | succ t ih =>
    intro k fu kn g h hV ha hg eg hk hfu
    obtain ⟨fu, rfl⟩ : ∃ z, fu = z + 1 := ⟨fu - 1, by omega⟩
    obtain ⟨w, hw, e1⟩ := lw_some (x >>> ((4 * nI k) &&& 31)) (n := 8) (by decide) (by decide) h
    obtain ⟨j, hj, e2⟩ := lw_some (x >>> ((3 + (4 * nI k)) &&& 31)) (n := 3) (by decide) (by decide) h
    obtain ⟨hV1, h1, f1, f2, f3⟩ := K_kind hV ha hw hj
    have hg1 : h1 51 = some (tt_ia 8 g) := by rw [f3 51 (by decide)]; exact hg
    have ha2 : cc_A ((fun i => if i = w then j else kn i), dc, sz, wd, so, sl, sc, tr, ft) (va_up h1 51 (some (tt_ia 8 (upd g w (nI j))))) := f2.congr (fun i hi => va_up_ne _ _ (by omega))
    obtain ⟨kn', g', h', r1, r2, r3, r4, r5, r6⟩ := ih (k + 1) fu _ (upd g w (nI j)) _ hV1 ha2 (va_up_self _ _ _) (fun v hv => by
      by_cases hvw : v = w
      · rw [hvw, pk_us, if_pos rfl]
      · rw [pk_un hvw, if_neg hvw]; exact eg v hv) (by omega) (by omega)
    refine ⟨kn', g', h', ?_, r2, r3, r4, r5, fun i i1 i2 => by rw [r6 i i1 i2, va_up_ne _ _ i2]; exact f3 i i1⟩
    rw [s_L_kinds_L2, if_neg (show ¬ (3 : Int32) ≤ nI k from nI_ge (a := k) (b := 3) (by omega) (by decide)), show (8 : Int32) = nI 8 from rfl, e1, pp_bind]
    simp only []
    rw [show s_L_some (x >>> ((3 + (4 * nI k)) &&& 31)) 3 h = some (nI j, h) from e2, pp_bind]
    simp only []
    rw [ca_b ha.1, f1, pp_bind]
    simp only []
    rw [pp_il hg1 hw (by decide), pp_bind, eg w hw, if_pos rfl, pp_is hg1 hw (by decide), pp_bind, nI_1]
    exact r1
theorem H_kinds {kn : Nat → Nat} {g : Nat → Int32} {h : tt_H} (x : Int32) (hV : pp_V (kn, dc, sz, wd, so, sl, sc, tr, ft)) (ha : cc_A (kn, dc, sz, wd, so, sl, sc, tr, ft) h) (hg : h 51 = some (tt_ia 8 g)) (eg : ∀ w, w < 8 → g w = nI (kn w)) : ∃ kn' g' h', s_L_kinds 0 x 51 h = some (1, h') ∧ pp_V (kn', dc, sz, wd, so, sl, sc, tr, ft) ∧ cc_A (kn', dc, sz, wd, so, sl, sc, tr, ft) h' ∧ h' 51 = some (tt_ia 8 g') ∧ (∀ w, w < 8 → g' w = nI (kn' w)) ∧ ∀ i, 49 ≤ i → i ≠ 51 → h' i = h i :=
  hl_kinds x 3 0 1000 kn g h hV ha hg eg (by omega) (by omega)
end HK
