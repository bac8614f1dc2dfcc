
theorem pp_cp {h : tt_H} {a b : Nat} {f g : Nat → Int32} {i j n : Nat} (ha : h a = some (tt_ia 80 f)) (hb : h b = some (tt_ia 80 g)) (hi : i + n ≤ 80) (hj : j + n ≤ 80) : gg_cp h a (nI i) b (nI j) (nI n) = some (va_up h b (some (tt_ia 80 (va_cpy f g i j n)))) := by
  unfold gg_cp
  rw [pp_ia ha, pp_bind, pp_ia hb, pp_bind]
  simp only [nI_clamp (show i < 2 ^ 31 by omega), nI_clamp (show j < 2 ^ 31 by omega), nI_clamp (show n < 2 ^ 31 by omega)]
  rw [if_neg]
  rintro (z | z | z | z | z)
  · exact nI_pos (by omega) z
  · exact nI_pos (by omega) z
  · exact nI_pos (by omega) z
  · omega
  · omega
def cp_f (f g : Nat → Int32) (A B n : Nat) (p : Nat) : Int32 := if B ≤ p ∧ p < B + n then f (A + (p - B)) else g p
theorem cp_m {H : tt_H} (hmo : pp_mo H) {k o i j n : Nat} (hk : k < 4) (ho : o < 4) (hi : i + n ≤ 80) (hj : j + n ≤ 80) {G : Nat → Int32} (fl : Int32) (hfl : (fl = 0 ∧ (80 * o + j ≤ 80 * k + i ∨ 80 * k + i + n ≤ 80 * o + j ∨ 80 * o + j + n ≤ 80 * k + i)) ∨ (fl = 1 ∧ (80 * k + i ≤ 80 * o + j ∨ 80 * k + i + n ≤ 80 * o + j ∨ 80 * o + j + n ≤ 80 * k + i))) :
    ∀ (s q fu : Nat) (g : Nat → Int32), q + s = n → s < fu → (∀ p, p < 320 → g p = if (if fl = 0 then 80 * o + j ≤ p ∧ p < 80 * o + j + q else 80 * o + j + n ≤ p + q ∧ p < 80 * o + j + n) then G (80 * k + i + (p - (80 * o + j))) else G p) → ∃ g', s_X9_copy_L166 fu 49 (nI k) (nI i) (nI o) (nI j) (nI n) fl (nI q) (va_up H 52 (some (tt_ia 320 g))) = some (nI n, va_up H 52 (some (tt_ia 320 g'))) ∧ ∀ p, p < 320 → g' p = cp_f G G (80 * k + i) (80 * o + j) n p := by
  have hix : ∀ a b c : Nat, (80 * nI a + nI b) + nI c = nI (80 * a + b + c) := fun a b c => by rw [ix80, nI_add]
  intro s
  induction s with
  | zero =>
    intro q fu g hq hfu hg
    obtain ⟨fu, rfl⟩ : ∃ z, fu = z + 1 := ⟨fu - 1, by omega⟩
    obtain rfl : q = n := by omega
    refine ⟨g, ?_, fun p hp => ?_⟩
    · rw [s_X9_copy_L166, if_pos (nI_le (Nat.le_refl q) (by omega))]
    · rw [hg p hp, cp_f]
      rcases hfl with ⟨hfl, -⟩ | ⟨hfl, -⟩
      · simp only [if_pos hfl]
      · have hne : ¬ fl = 0 := by rw [hfl]; decide
        simp only [if_neg hne]
        by_cases hc : 80 * o + j ≤ p ∧ p < 80 * o + j + q
        · rw [if_pos hc, if_pos (by omega)]
        · rw [if_neg hc, if_neg (by omega)]
  | succ s ih =>
    intro q fu g hq hfu hg
    obtain ⟨fu, rfl⟩ : ∃ z, fu = z + 1 := ⟨fu - 1, by omega⟩
    have hmo' : ∀ g : Nat → Int32, pp_mo (va_up H 52 (some (tt_ia 320 g))) := fun g => hmo.up _ (by decide)
    rw [s_X9_copy_L166, if_neg (nI_ge (by omega) (by omega))]
    have st : ∀ c, c < n → s_X9_copy_J190 (s_X9_copy_L166 fu) 49 (nI k) (nI i) (nI o) (nI j) (nI n) fl (nI q) (nI c) (va_up H 52 (some (tt_ia 320 g))) = s_X9_copy_L166 fu 49 (nI k) (nI i) (nI o) (nI j) (nI n) fl (nI (q + 1)) (va_up H 52 (some (tt_ia 320 (upd g (80 * o + j + c) (g (80 * k + i + c)))))) := by
      intro c hc
      unfold s_X9_copy_J190
      rw [mo_4 (hmo' g), pp_bind, pp_bind, hix, hix, pp_il (va_up_self _ _ _) (by omega) (by decide), pp_bind, pp_is (va_up_self _ _ _) (by omega) (by decide), pp_bind, bx_uu, nI_1]
    rcases hfl with ⟨hfl, hd⟩ | ⟨hfl, hd⟩
    · rw [if_pos hfl, st q (by omega)]
      refine ih (q + 1) fu _ (by omega) (by omega) (fun p hp => ?_)
      simp only [if_pos hfl] at hg ⊢
      by_cases hpc : p = 80 * o + j + q
      · rw [hpc, pk_us, hg _ (by omega), if_neg (by omega), if_pos (by omega)]
        congr 1; omega
      · rw [pk_un hpc, hg p hp]
        by_cases hc : 80 * o + j ≤ p ∧ p < 80 * o + j + q
        · rw [if_pos hc, if_pos (by omega)]
        · rw [if_neg hc, if_neg (by omega)]
    · have hne : ¬ fl = 0 := by rw [hfl]; decide
      rw [if_neg hne, pp_m1 (by omega), pk_sub (by omega), st (n - 1 - q) (by omega)]
      refine ih (q + 1) fu _ (by omega) (by omega) (fun p hp => ?_)
      simp only [if_neg hne] at hg ⊢
      by_cases hpc : p = 80 * o + j + (n - 1 - q)
      · rw [hpc, pk_us, hg _ (by omega), if_neg (by omega), if_pos (by omega)]
        congr 1; omega
      · rw [pk_un hpc, hg p hp]
        by_cases hc : 80 * o + j + n ≤ p + q ∧ p < 80 * o + j + n
        · rw [if_pos hc, if_pos (by omega)]
        · rw [if_neg hc, if_neg (by omega)]
theorem E_copy {h : tt_H} (hI : pp_Inv h) (x1 x2 x3 x4 x5 : Int32) : pp_G (s_X8_copy 0 x1 x2 x3 x4 x5) (s_X9_copy 49 x1 x2 x3 x4 x5) h := by
  obtain ⟨⟨kn, dc, sz, wd, so, sl, sc, tr, ft⟩, hV, ha, hm⟩ := hI
  rcases pp_rng 4 (by decide) x1 with ⟨k, hk, rfl⟩ | h1
  · rcases pp_rng 4 (by decide) x3 with ⟨o, ho, rfl⟩ | h3
    · by_cases h9 : so k = 9
      · refine pp_G.ft (-10 - 1) 1 hV ha hm (fun h ha => ?_) (fun h hm => ?_)
        · obtain ⟨h1, f1, f2, f3⟩ := cl_put ha 0
          obtain ⟨h2, g1, g2, g3⟩ := cl_fails f2 1
          have hS := sh_of (ft := 0) hV f2.1 hk
          refine ⟨h2, ?_, g2, fun i hi => (g3 i hi).trans (f3 i hi)⟩
          unfold s_X8_copy s_X8_copy_J47
          simp only [f1, ca_b f2.1, sh_in f2.1 hk, sh_in f2.1 ho, gg_opt_some, sh_b hS, sh_no hS, if_pos h9, g1, pp_bind, pn_10, ↓reduceIte]
        · obtain ⟨h1, f1, f2, f3⟩ := ml_put hm 0
          obtain ⟨h2, g1, g2, g3⟩ := ml_fails f2 1
          refine ⟨h2, ?_, g2, fun i hi => (g3 i hi).trans (f3 i hi)⟩
          unfold s_X9_copy s_X9_copy_J43
          simp only [f1, js_in hk, js_in ho, mo_2 (ma_o f2.1), ma_so f2.1 hk, if_pos h9, (ma_o f2.1).b, g1, pp_bind, pn_10, ↓reduceIte]
      · obtain ⟨hk3, hkL⟩ := hV.2.2.2 k hk h9
        have n9 := so_n9 h9 hk3
        by_cases ho9 : so o = 9
        · refine pp_G.ft (-10 - 1) 1 hV ha hm (fun h ha => ?_) (fun h hm => ?_)
          · obtain ⟨h1, f1, f2, f3⟩ := cl_put ha 0
            obtain ⟨h2, g1, g2, g3⟩ := cl_fails f2 1
            have hS := sh_of (ft := 0) hV f2.1 hk
            have hT := sh_of (ft := 0) hV f2.1 ho
            refine ⟨h2, ?_, g2, fun i hi => (g3 i hi).trans (f3 i hi)⟩
            unfold s_X8_copy s_X8_copy_J47
            simp only [f1, ca_b f2.1, sh_in f2.1 hk, sh_in f2.1 ho, gg_opt_some, sh_b hS, sh_b hT, sh_no hS, sh_no hT, if_neg h9, if_pos ho9, g1, pp_bind, pn_10, pn_00, ↓reduceIte]
          · obtain ⟨h1, f1, f2, f3⟩ := ml_put hm 0
            obtain ⟨h2, g1, g2, g3⟩ := ml_fails f2 1
            refine ⟨h2, ?_, g2, fun i hi => (g3 i hi).trans (f3 i hi)⟩
            unfold s_X9_copy s_X9_copy_J43
            simp only [f1, js_in hk, js_in ho, mo_2 (ma_o f2.1), ma_so f2.1 hk, ma_so f2.1 ho, n9, if_pos ho9, (ma_o f2.1).b, g1, pp_bind, pn_10, ↓reduceIte]
        · obtain ⟨ho3, hoL⟩ := hV.2.2.2 o ho ho9
          have no9 := so_n9 ho9 ho3
          have e_c : ∀ {h : tt_H}, cc_A (kn, dc, sz, wd, so, sl, sc, tr, 0) h → sh_S h (41 + 2 * k) (so k) (sl k) (sc k) ∧ sh_S h (41 + 2 * o) (so o) (sl o) (sc o) := fun f2 => ⟨sh_of (ft := 0) hV f2.1 hk, sh_of (ft := 0) hV f2.1 ho⟩
          by_cases hso : so k = so o
          · have heq : (if so k = 9 then (-9 : Int32) else nI (so k)) = (if so o = 9 then (-9 : Int32) else nI (so o)) := by rw [hso]
            have heq2 : nI (so k) = nI (so o) := by rw [hso]
            by_cases hall : ∃ i j n, (i + n ≤ sl k ∧ j + n ≤ sl o) ∧ x2 = nI i ∧ x4 = nI j ∧ x5 = nI n
            · obtain ⟨i, j, n, ⟨hin, hjn⟩, rfl, rfl, rfl⟩ := hall
              have hV' : pp_V (kn, dc, sz, wd, so, sl, (fun p => if p = o then cp_f (sc k) (sc o) i j n else sc p), tr, 0) := hV
              refine pp_G.of (P' := (kn, dc, sz, wd, so, sl, (fun p => if p = o then cp_f (sc k) (sc o) i j n else sc p), tr, 0)) (nI n) ha hm hV' ?_ (fun h hm => ?_)
              · obtain ⟨h1, f1, f2, f3⟩ := cl_put ha 0
                obtain ⟨hS, hT⟩ := e_c f2
                obtain ⟨g, q, e1, e2, e3⟩ := id hS
                obtain ⟨g', q', e1', e2', e3'⟩ := id hT
                have a1 := sh_hc hS h9 (i := i) (n := n) (by omega) (by omega)
                rw [if_pos hin] at a1
                have a2 := sh_hc hT ho9 (i := j) (n := n) (by omega) (by omega)
                rw [if_pos hjn] at a2
                refine ⟨va_up h1 (41 + 2 * o + 1) (some (tt_ia 80 (va_cpy g g' i j n))), ?_, ?_, fun i hi => by rw [va_up_ne _ _ (by omega)]; exact f3 i (by omega)⟩
                · unfold s_X8_copy s_X6_giveTo
                  simp only [f1, ca_b f2.1, sh_in f2.1 hk, sh_in f2.1 ho, gg_opt_some, sh_b hS, sh_b hT, sh_no hS, sh_no hT, if_neg h9, if_neg ho9, sh_so hS h9, sh_so hT ho9, heq2, a1, a2, pp_fr e1 (k := 0) (v := 41 + 2 * k + 1) rfl, pp_fr e1' (k := 0) (v := 41 + 2 * o + 1) rfl, pp_cp e2 e2' (show i + n ≤ 80 by omega) (show j + n ≤ 80 by omega), pp_bind, pn_10, pn_00, ↓reduceIte]
                · refine cc_sheet f2 ho (g := va_cpy g g' i j n) (q := q') (fun p i1 i2 => va_up_ne _ _ i2) (by rw [va_up_ne _ _ (by omega)]; exact e1') (va_up_self _ _ _) (fun _ => ⟨(e3' ho9).1, fun p hp => ?_⟩) (fun p _ hpo => ⟨rfl, rfl, if_neg hpo⟩)
                  simp only [if_true, cp_f]
                  by_cases hc : j ≤ p ∧ p < j + n
                  · rw [if_pos hc, pk_cpy_in hc.1 hc.2, (e3 h9).2.1 _ (by omega)]
                  · rw [if_neg hc, pk_cpy_out (by omega), (e3' ho9).2.1 p hp]
              · obtain ⟨h1, f1, f2, f3⟩ := ml_put hm 0
                obtain ⟨-, ⟨g50, e50, f50⟩, ⟨g51, e51, f51⟩, ⟨g52, e52, f52⟩, -⟩ := id f2.1
                have hmo := ma_o f2.1
                have run : ∀ fl : Int32, ((fl = 0 ∧ (80 * o + j ≤ 80 * k + i ∨ 80 * k + i + n ≤ 80 * o + j ∨ 80 * o + j + n ≤ 80 * k + i)) ∨ (fl = 1 ∧ (80 * k + i ≤ 80 * o + j ∨ 80 * k + i + n ≤ 80 * o + j ∨ 80 * o + j + n ≤ 80 * k + i))) → ∃ g', s_X9_copy_J161 49 (nI k) (nI i) (nI o) (nI j) (nI n) fl h1 = some (nI n, va_up h1 52 (some (tt_ia 320 g'))) ∧ ∀ p, p < 320 → g' p = cp_f g52 g52 (80 * k + i) (80 * o + j) n p := by
                  intro fl hfl
                  obtain ⟨g', b1, b2⟩ := cp_m hmo hk ho (show i + n ≤ 80 by omega) (show j + n ≤ 80 by omega) (G := g52) fl hfl n 0 1000 g52 (by omega) (by omega) (fun p hp => by
                    by_cases hf : fl = 0
                    · simp only [if_pos hf]; rw [if_neg (by omega)]
                    · simp only [if_neg hf]; rw [if_neg (by omega)])
                  rw [pp_same e52] at b1
                  exact ⟨g', b1, b2⟩
                have dis : k ≠ o → (80 * k + i + n ≤ 80 * o + j ∨ 80 * o + j + n ≤ 80 * k + i) := fun hne => by omega
                obtain ⟨g', b1, b2⟩ : ∃ g', (if nI j ≤ nI i then s_X9_copy_J161 49 (nI k) (nI i) (nI o) (nI j) (nI n) 0 h1 else s_X9_copy_J161 49 (nI k) (nI i) (nI o) (nI j) (nI n) 1 h1) = some (nI n, va_up h1 52 (some (tt_ia 320 g'))) ∧ ∀ p, p < 320 → g' p = cp_f g52 g52 (80 * k + i) (80 * o + j) n p := by
                  by_cases hji : j ≤ i
                  · rw [if_pos (nI_le hji (by omega))]
                    refine run 0 (Or.inl ⟨rfl, ?_⟩)
                    by_cases hko : k = o
                    · subst hko; omega
                    · exact Or.inr (dis hko)
                  · rw [if_neg (nI_ge (by omega) (by omega))]
                    refine run 1 (Or.inr ⟨rfl, ?_⟩)
                    by_cases hko : k = o
                    · subst hko; omega
                    · exact Or.inr (dis hko)
                refine ⟨va_up h1 52 (some (tt_ia 320 g')), ?_, ?_, fun i hi => by rw [va_up_ne _ _ (by omega)]; exact f3 i (by omega)⟩
                · unfold s_X9_copy s_X9_copy_J110
                  simp only [f1, js_in hk, js_in ho, mo_2 hmo, ma_so f2.1 hk, ma_so f2.1 ho, n9, no9, heq, mo_3 hmo, ma_sl f2.1 hk h9, ma_sl f2.1 ho ho9, nI_pos (show i < 2 ^ 31 by omega), nI_pos (show j < 2 ^ 31 by omega), nI_pos (show n < 2 ^ 31 by omega), nI_nlt (show i ≤ sl k by omega) (show sl k < 2 ^ 31 by omega), nI_nlt (show j ≤ sl o by omega) (show sl o < 2 ^ 31 by omega), pk_sub (show i ≤ sl k by omega), pk_sub (show j ≤ sl o by omega), nI_nlt (show n ≤ sl k - i by omega) (show sl k - i < 2 ^ 31 by omega), nI_le (show n ≤ sl o - j by omega) (show sl o - j < 2 ^ 31 by omega), pp_bind, pn_10, ↓reduceIte]
                  exact b1
                · refine mm_sheets f2 (g50 := g50) (g51 := g51) (g52 := g') (fun p i1 i2 i3 => va_up_ne _ _ i3) (by rw [va_up_ne _ _ (by decide)]; exact e50) f50 (by rw [va_up_ne _ _ (by decide)]; exact e51) f51 (va_up_self _ _ _) (fun p hp hp9 r hr => ?_)
                  rw [b2 _ (by omega), cp_f]
                  by_cases hpo : p = o
                  · simp only [if_pos hpo, cp_f]
                    rw [hpo]
                    by_cases hc : j ≤ r ∧ r < j + n
                    · rw [if_pos hc, if_pos (by omega), ← f52 k hk h9 (i + (r - j)) (by omega)]
                      congr 1; omega
                    · rw [if_neg hc, if_neg (by omega)]
                      exact f52 o ho ho9 r hr
                  · simp only [if_neg hpo]
                    rw [if_neg (by omega)]
                    exact f52 p hp hp9 r hr
            · refine pp_G.ft (-10 - 3) 3 hV ha hm (fun h ha => ?_) (fun h hm => ?_)
              · obtain ⟨h1, f1, f2, f3⟩ := cl_put ha 0
                obtain ⟨h4, g1, g2, g3⟩ := cl_fails f2 3
                obtain ⟨hS, hT⟩ := e_c f2
                refine ⟨h4, ?_, g2, fun i hi => (g3 i hi).trans (f3 i hi)⟩
                have bad : s_X6_hasCells (41 + 2 * k) x2 x5 h1 = some (0, h1) ∨ (s_X6_hasCells (41 + 2 * k) x2 x5 h1 = some (1, h1) ∧ s_X6_hasCells (41 + 2 * o) x4 x5 h1 = some (0, h1)) := by
                  by_cases a : x2 < 0 ∨ x5 < 0
                  · exact Or.inl (sh_hcN a)
                  · obtain ⟨i, hi, rfl⟩ := nI_of (fun z => a (Or.inl z))
                    obtain ⟨n, hn, rfl⟩ := nI_of (fun z => a (Or.inr z))
                    have c1 := sh_hc hS h9 hi hn
                    by_cases hin : i + n ≤ sl k
                    · rw [if_pos hin] at c1
                      refine Or.inr ⟨c1, ?_⟩
                      by_cases b : x4 < 0
                      · exact sh_hcN (Or.inl b)
                      · obtain ⟨j, hj, rfl⟩ := nI_of b
                        have c2 := sh_hc hT ho9 hj hn
                        rw [if_neg (fun z => hall ⟨i, j, n, ⟨hin, z⟩, rfl, rfl, rfl⟩)] at c2
                        exact c2
                    · rw [if_neg hin] at c1
                      exact Or.inl c1
                unfold s_X8_copy s_X8_copy_J95
                rcases bad with b1 | ⟨b1, b2⟩
                · simp only [f1, ca_b f2.1, sh_in f2.1 hk, sh_in f2.1 ho, gg_opt_some, sh_b hS, sh_b hT, sh_no hS, sh_no hT, if_neg h9, if_neg ho9, sh_so hS h9, sh_so hT ho9, heq2, b1, g1, pp_bind, pn_00, ↓reduceIte]
                · simp only [f1, ca_b f2.1, sh_in f2.1 hk, sh_in f2.1 ho, gg_opt_some, sh_b hS, sh_b hT, sh_no hS, sh_no hT, if_neg h9, if_neg ho9, sh_so hS h9, sh_so hT ho9, heq2, b1, b2, g1, pp_bind, pn_10, pn_00, ↓reduceIte]
              · obtain ⟨h1, f1, f2, f3⟩ := ml_put hm 0
                obtain ⟨h4, g1, g2, g3⟩ := ml_fails f2 3
                have hmo := ma_o f2.1
                refine ⟨h4, ?_, g2, fun i hi => (g3 i hi).trans (f3 i hi)⟩
                unfold s_X9_copy s_X9_copy_J109 s_X9_copy_J110 s_X9_copy_J144
                simp only [f1, js_in hk, js_in ho, mo_2 hmo, ma_so f2.1 hk, ma_so f2.1 ho, n9, no9, heq, mo_3 hmo, ma_sl f2.1 hk h9, ma_sl f2.1 ho ho9, hmo.b, g1, pp_bind, pn_10, pn_00, ↓reduceIte]
                by_cases a : x2 < 0
                · rw [if_pos a]
                · rw [if_neg a]
                  by_cases b : x4 < 0
                  · rw [if_pos b]
                  · rw [if_neg b]
                    by_cases c : x5 < 0
                    · rw [if_pos c]
                    · rw [if_neg c]
                      obtain ⟨i, hi, rfl⟩ := nI_of a
                      obtain ⟨j, hj, rfl⟩ := nI_of b
                      obtain ⟨n, hn, rfl⟩ := nI_of c
                      by_cases d : sl k < i
                      · rw [if_pos (nI_lt d hi)]
                      · rw [if_neg (nI_nlt (by omega) (by omega))]
                        by_cases e : sl o < j
                        · rw [if_pos (nI_lt e hj)]
                        · rw [if_neg (nI_nlt (by omega) (by omega)), pk_sub (by omega), pk_sub (by omega)]
                          by_cases p : sl k - i < n
                          · rw [if_pos (nI_lt p hn)]
                          · rw [if_neg (nI_nlt (by omega) (by omega))]
                            rw [if_neg (nI_ge (show sl o - j < n by
                              by_cases q : n ≤ sl o - j
                              · exact absurd ⟨i, j, n, ⟨by omega, by omega⟩, rfl, rfl, rfl⟩ hall
                              · omega) hn)]
          · refine pp_G.ft (-10 - 2) 2 hV ha hm (fun h ha => ?_) (fun h hm => ?_)
            · obtain ⟨h1, f1, f2, f3⟩ := cl_put ha 0
              obtain ⟨h2, g1, g2, g3⟩ := cl_fails f2 2
              obtain ⟨hS, hT⟩ := e_c f2
              have hne : ¬ nI (so k) = nI (so o) := fun z => hso ((nI_eq (by omega) (by omega)).mp z)
              refine ⟨h2, ?_, g2, fun i hi => (g3 i hi).trans (f3 i hi)⟩
              unfold s_X8_copy
              simp only [f1, ca_b f2.1, sh_in f2.1 hk, sh_in f2.1 ho, gg_opt_some, sh_b hS, sh_b hT, sh_no hS, sh_no hT, if_neg h9, if_neg ho9, sh_so hS h9, sh_so hT ho9, hne, g1, pp_bind, pn_00, ↓reduceIte]
            · obtain ⟨h1, f1, f2, f3⟩ := ml_put hm 0
              obtain ⟨h2, g1, g2, g3⟩ := ml_fails f2 2
              have hne : ¬ (if so k = 9 then (-9 : Int32) else nI (so k)) = (if so o = 9 then (-9 : Int32) else nI (so o)) := by
                rw [if_neg h9, if_neg ho9]
                exact fun z => hso ((nI_eq (by omega) (by omega)).mp z)
              refine ⟨h2, ?_, g2, fun i hi => (g3 i hi).trans (f3 i hi)⟩
              unfold s_X9_copy
              simp only [f1, js_in hk, js_in ho, mo_2 (ma_o f2.1), ma_so f2.1 hk, ma_so f2.1 ho, n9, no9, (ma_o f2.1).b, g1, pp_bind, pn_10, ↓reduceIte]
              rw [if_neg hne]
    · refine pp_G.ft (-1) 0 hV ha hm (fun h ha => ?_) (fun h hm => ?_)
      · obtain ⟨h2, f1, f2, f3⟩ := cl_put ha 0
        refine ⟨h2, ?_, f2, f3⟩
        unfold s_X8_copy
        simp only [f1, ca_b f2.1, sh_in f2.1 hk, sh_out h3, gg_opt_some, gg_opt_none, pp_bind]
      · obtain ⟨h2, f1, f2, f3⟩ := ml_put hm 0
        refine ⟨h2, ?_, f2, f3⟩
        unfold s_X9_copy
        simp only [f1, js_in hk, js_out h3, pp_bind, pn_10, pn_00, ↓reduceIte]
  · refine pp_G.ft (-1) 0 hV ha hm (fun h ha => ?_) (fun h hm => ?_)
    · obtain ⟨h2, f1, f2, f3⟩ := cl_put ha 0
      refine ⟨h2, ?_, f2, f3⟩
      unfold s_X8_copy
      rcases pp_rng 4 (by decide) x3 with ⟨o, ho, rfl⟩ | h3
      · simp only [f1, ca_b f2.1, sh_out h1, sh_in f2.1 ho, gg_opt_none, pp_bind]
      · simp only [f1, ca_b f2.1, sh_out h1, sh_out h3, gg_opt_none, pp_bind]
    · obtain ⟨h2, f1, f2, f3⟩ := ml_put hm 0
      refine ⟨h2, ?_, f2, f3⟩
      unfold s_X9_copy
      simp only [f1, js_out h1, pp_bind, pn_00, ↓reduceIte]
