
theorem E_sheet {h : tt_H} (hI : pp_Inv h) (x1 x2 x3 : Int32) : pp_G (s_X8_sheet 0 x1 x2 x3) (s_X9_sheet 49 x1 x2 x3) h := by
  obtain ⟨⟨kn, dc, sz, wd, so, sl, sc, tr, ft⟩, hV, ha, hm⟩ := hI
  have only : ∀ (r : Int32) (u : Int32), (∀ h, cc_A (kn, dc, sz, wd, so, sl, sc, tr, ft) h → ∃ h1, s_X8_sheet 0 x1 x2 x3 h = some (r, h1) ∧ cc_A (kn, dc, sz, wd, so, sl, sc, tr, u) h1 ∧ ∀ i, i ≠ 0 → h1 i = h i) → (∀ h, mm_A (kn, dc, sz, wd, so, sl, sc, tr, ft) h → ∃ h1, s_X9_sheet 49 x1 x2 x3 h = some (r, h1) ∧ mm_A (kn, dc, sz, wd, so, sl, sc, tr, u) h1 ∧ ∀ i, i ≠ 49 → h1 i = h i) → pp_G (s_X8_sheet 0 x1 x2 x3) (s_X9_sheet 49 x1 x2 x3) h := by
    intro r u hc hg
    refine pp_G.of (P' := (kn, dc, sz, wd, so, sl, sc, tr, u)) r ha hm hV ?_ (fun h hm => ?_)
    · obtain ⟨h1, e1, e2, e3⟩ := hc h ha
      exact ⟨h1, e1, e2, fun i hi => e3 i (by omega)⟩
    · obtain ⟨h1, e1, e2, e3⟩ := hg h hm
      exact ⟨h1, e1, e2, fun i hi => e3 i (by omega)⟩
  rcases pp_rng 4 (by decide) x1 with ⟨k, hk, rfl⟩ | h1
  · rcases pp_rng 3 (by decide) x2 with ⟨s, hs, rfl⟩ | h2
    · by_cases h3 : x3 ≤ 80
      · by_cases h4 : 0 ≤ x3
        · obtain ⟨n, hn, rfl⟩ : ∃ n, n ≤ 80 ∧ x3 = nI n := by
            obtain ⟨n, hn, rfl⟩ := nI_of (Int32.not_lt.mpr h4)
            exact ⟨n, (nI_leI (b := 80) hn (by decide)).mp h3, rfl⟩
          have n0 : ¬ nI n < 0 := Int32.not_lt.mpr h4
          have hV' : pp_V (kn, dc, sz, wd, (fun j => if j = k then s else so j), (fun j => if j = k then n else sl j), (fun j => if j = k then (fun _ => 0) else sc j), tr, 0) := by
            obtain ⟨v0, v1, v2, v3⟩ := hV
            refine ⟨v0, v1, v2, fun j hj h9 => ?_⟩
            by_cases hjk : j = k
            · simp only [if_pos hjk]; exact ⟨hs, hn⟩
            · simp only [if_neg hjk] at h9 ⊢; exact v3 j hj h9
          refine pp_G.of (P' := (kn, dc, sz, wd, (fun j => if j = k then s else so j), (fun j => if j = k then n else sl j), (fun j => if j = k then (fun _ => 0) else sc j), tr, 0)) 1 ha hm hV' ?_ (fun h hm => ?_)
          · obtain ⟨h1, f1, f2, f3⟩ := cl_put ha 0
            have hS := sh_of (ft := 0) hV f2.1 hk
            obtain ⟨g, q, e1, e2, e3⟩ := id hS
            obtain ⟨g', p1, p2⟩ := fl_II (y := 0) e2 (by decide)
            have q1 : gg_put (va_up h1 (41 + 2 * k + 1) (some (tt_ia 80 g'))) (41 + 2 * k) 6 1 (.int (nI n)) = some (va_up (va_up h1 (41 + 2 * k + 1) (some (tt_ia 80 g'))) (41 + 2 * k) (some (tt_ob 6 [.ref (41 + 2 * k + 1), .int (nI n), .int q]))) := pp_put (show va_up h1 (41 + 2 * k + 1) (some (tt_ia 80 g')) (41 + 2 * k) = some (tt_ob 6 [.ref (41 + 2 * k + 1), .int (if so k = 9 then -1 else nI (sl k)), .int q]) by rw [va_up_ne _ _ (by omega)]; exact e1) _ (Nat.le_of_ble_eq_true rfl)
            have q2 : gg_put (va_up (va_up h1 (41 + 2 * k + 1) (some (tt_ia 80 g'))) (41 + 2 * k) (some (tt_ob 6 [.ref (41 + 2 * k + 1), .int (nI n), .int q]))) (41 + 2 * k) 6 2 (.int (nI s)) = some (va_up (va_up h1 (41 + 2 * k + 1) (some (tt_ia 80 g'))) (41 + 2 * k) (some (tt_ob 6 [.ref (41 + 2 * k + 1), .int (nI n), .int (nI s)]))) := by
              rw [pp_put (va_up_self _ _ _) _ (Nat.le_of_ble_eq_true rfl), bx_uu]; rfl
            refine ⟨va_up (va_up h1 (41 + 2 * k + 1) (some (tt_ia 80 g'))) (41 + 2 * k) (some (tt_ob 6 [.ref (41 + 2 * k + 1), .int (nI n), .int (nI s)])), ?_, ?_, fun i hi => by rw [va_up_ne _ _ (by omega), va_up_ne _ _ (by omega)]; exact f3 i (by omega)⟩
            · unfold s_X8_sheet s_X6_renew
              simp only [f1, ca_b f2.1, sh_in f2.1 hk, gg_opt_some, is_in hs, h3, h4, sh_b hS, n0, pp_fr e1 (k := 0) (v := 41 + 2 * k + 1) rfl, p1, q1, q2, pp_bind, pn_10, ↓reduceIte]
            · refine cc_sheet f2 hk (g := g') (q := nI s) (fun i i1 i2 => by rw [va_up_ne _ _ i1, va_up_ne _ _ i2]) ?_ (by rw [va_up_ne _ _ (by omega), va_up_self]) (fun _ => ?_) (fun j _ hjk => ⟨if_neg hjk, if_neg hjk, if_neg hjk⟩)
              · rw [va_up_self]
                simp only [if_true]
                rw [if_neg (by omega)]
              · simp only [if_true]
                exact ⟨trivial, p2⟩
          · obtain ⟨h1, f1, f2, f3⟩ := ml_put hm 0
            obtain ⟨-, ⟨g50, e50, f50⟩, ⟨g51, e51, f51⟩, ⟨g52, e52, f52⟩, -⟩ := id f2.1
            have hmo := ma_o f2.1
            have lp : ∀ (t i fu : Nat) (H : tt_H) (gc : Nat → Int32), pp_mo H → i + t = 80 → t < fu → (∀ j, j < i → gc (80 * k + j) = 0) → ∃ g', s_X9_sheet_L57 fu 49 (nI k) (nI i) (va_up H 52 (some (tt_ia 320 gc))) = some (1, va_up H 52 (some (tt_ia 320 g'))) ∧ (∀ j, j < 80 → g' (80 * k + j) = 0) ∧ ∀ p, (p < 80 * k ∨ 80 * k + 80 ≤ p) → g' p = gc p := by
              intro t
              induction t with
              | zero =>
                intro i fu H gc hmH hi hfu hg
                obtain ⟨fu, rfl⟩ : ∃ z, fu = z + 1 := ⟨fu - 1, by omega⟩
                refine ⟨gc, ?_, fun j hj => hg j (by omega), fun _ _ => rfl⟩
                rw [s_X9_sheet_L57, if_pos (show (80 : Int32) ≤ nI i from nI_le (a := 80) (b := i) (by omega) (by omega))]
              | succ t ih =>
                intro i fu H gc hmH hi hfu hg
                obtain ⟨fu, rfl⟩ : ∃ z, fu = z + 1 := ⟨fu - 1, by omega⟩
                have hmH' : pp_mo (va_up H 52 (some (tt_ia 320 gc))) := hmH.up _ (by decide)
                obtain ⟨g', a1, a2, a3⟩ := ih (i + 1) fu H (upd gc (80 * k + i) 0) hmH (by omega) (by omega) (fun j hj => by
                  by_cases hji : j = i
                  · rw [hji, pk_us]
                  · rw [pk_un (by omega)]; exact hg j (by omega))
                refine ⟨g', ?_, a2, fun p hp => by rw [a3 p hp, pk_un (by omega)]⟩
                rw [s_X9_sheet_L57, if_neg (show ¬ (80 : Int32) ≤ nI i from nI_ge (a := i) (b := 80) (by omega) (by decide)), mo_4 hmH', pp_bind, ix80, pp_is (va_up_self _ _ _) (by omega) (by decide), pp_bind, bx_uu, nI_1]
                exact a1
            have hm2 : pp_mo (va_up (va_up h1 50 (some (tt_ia 4 (upd g50 k (nI s))))) 51 (some (tt_ia 4 (upd g51 k (nI n))))) := (hmo.up _ (by decide)).up _ (by decide)
            obtain ⟨g', a1, a2, a3⟩ := lp 80 0 1000 _ g52 hm2 (by omega) (by omega) (fun j hj => absurd hj (Nat.not_lt_zero j))
            rw [pp_same (by rw [va_up_ne _ _ (by decide), va_up_ne _ _ (by decide)]; exact e52)] at a1
            refine ⟨va_up (va_up (va_up h1 50 (some (tt_ia 4 (upd g50 k (nI s))))) 51 (some (tt_ia 4 (upd g51 k (nI n))))) 52 (some (tt_ia 320 g')), ?_, ?_, fun i hi => by rw [va_up_ne _ _ (by omega), va_up_ne _ _ (by omega), va_up_ne _ _ (by omega)]; exact f3 i (by omega)⟩
            · unfold s_X9_sheet
              simp only [f1, js_in hk, jt_in hs, h3, h4, mo_2 hmo, pp_is e50 hk (by decide), mo_3 (hmo.up _ (show 49 ≠ 50 by decide)), pp_is (show va_up h1 50 (some (tt_ia 4 (upd g50 k (nI s)))) 51 = some (tt_ia 4 g51) by rw [va_up_ne _ _ (by decide)]; exact e51) hk (by decide), pp_bind, pn_10, ↓reduceIte]
              exact a1
            · refine mm_sheets f2 (g50 := upd g50 k (nI s)) (g51 := upd g51 k (nI n)) (g52 := g') (fun i i1 i2 i3 => by rw [va_up_ne _ _ i3, va_up_ne _ _ i2, va_up_ne _ _ i1]) (by rw [va_up_ne _ _ (by decide), va_up_ne _ _ (by decide), va_up_self]) (fun j hj => ?_) (by rw [va_up_ne _ _ (by decide), va_up_self]) (fun j hj h9 => ?_) (va_up_self _ _ _) (fun j hj h9 i hi => ?_)
              · by_cases hjk : j = k
                · simp only [if_pos hjk]; rw [hjk, pk_us, if_neg (by omega)]
                · simp only [if_neg hjk]; rw [pk_un hjk]; exact f50 j hj
              · by_cases hjk : j = k
                · simp only [if_pos hjk]; rw [hjk, pk_us]
                · simp only [if_neg hjk] at h9 ⊢; rw [pk_un hjk]; exact f51 j hj h9
              · by_cases hjk : j = k
                · simp only [if_pos hjk]; rw [hjk]; exact a2 i hi
                · simp only [if_neg hjk] at h9 ⊢; rw [a3 _ (by omega)]; exact f52 j hj h9 i hi
        · refine only (-10 - 4) 4 (fun h ha => ?_) (fun h hm => ?_)
          · obtain ⟨h1, f1, f2, f3⟩ := cl_put ha 0
            obtain ⟨h2, g1, g2, g3⟩ := cl_fails f2 4
            refine ⟨h2, ?_, g2, fun i hi => (g3 i hi).trans (f3 i hi)⟩
            unfold s_X8_sheet
            simp only [f1, ca_b f2.1, sh_in f2.1 hk, gg_opt_some, is_in hs, h3, h4, g1, pp_bind, pn_10, ↓reduceIte]
          · obtain ⟨h1, f1, f2, f3⟩ := ml_put hm 0
            obtain ⟨h2, g1, g2, g3⟩ := ml_fails f2 4
            refine ⟨h2, ?_, g2, fun i hi => (g3 i hi).trans (f3 i hi)⟩
            unfold s_X9_sheet
            simp only [f1, js_in hk, jt_in hs, h3, h4, (ma_o f2.1).b, g1, pp_bind, pn_10, ↓reduceIte]
      · refine only (-2) 0 (fun h ha => ?_) (fun h hm => ?_)
        · obtain ⟨h1, f1, f2, f3⟩ := cl_put ha 0
          refine ⟨h1, ?_, f2, f3⟩
          unfold s_X8_sheet
          simp only [f1, ca_b f2.1, sh_in f2.1 hk, gg_opt_some, is_in hs, h3, pp_bind, pn_10, ↓reduceIte]
        · obtain ⟨h1, f1, f2, f3⟩ := ml_put hm 0
          refine ⟨h1, ?_, f2, f3⟩
          unfold s_X9_sheet
          simp only [f1, js_in hk, jt_in hs, h3, pp_bind, pn_10, ↓reduceIte]
    · refine only (-2) 0 (fun h ha => ?_) (fun h hm => ?_)
      · obtain ⟨h1, f1, f2, f3⟩ := cl_put ha 0
        refine ⟨h1, ?_, f2, f3⟩
        unfold s_X8_sheet
        simp only [f1, ca_b f2.1, sh_in f2.1 hk, gg_opt_some, is_out h2, pp_bind, pn_00, ↓reduceIte]
      · obtain ⟨h1, f1, f2, f3⟩ := ml_put hm 0
        refine ⟨h1, ?_, f2, f3⟩
        unfold s_X9_sheet
        simp only [f1, js_in hk, jt_out h2, pp_bind, pn_10, pn_00, ↓reduceIte]
  · refine only (-1) 0 (fun h ha => ?_) (fun h hm => ?_)
    · obtain ⟨h2, f1, f2, f3⟩ := cl_put ha 0
      refine ⟨h2, ?_, f2, f3⟩
      unfold s_X8_sheet
      simp only [f1, ca_b f2.1, sh_out h1, gg_opt_none, pp_bind]
    · obtain ⟨h2, f1, f2, f3⟩ := ml_put hm 0
      refine ⟨h2, ?_, f2, f3⟩
      unfold s_X9_sheet
      simp only [f1, js_out h1, pp_bind, pn_00, ↓reduceIte]
/-- only the fault changes -/
theorem pp_G.ft {α : Type} {f g : tt_H → Option (α × tt_H)} {h : tt_H} {kn : Nat → Nat} {dc : Nat} {sz : Nat → Nat} {wd : Nat → Nat → Nat} {so sl : Nat → Nat} {sc : Nat → Nat → Int32} {tr ft : Int32} (r : α) (u : Int32) (hV : pp_V (kn, dc, sz, wd, so, sl, sc, tr, ft)) (ha : cc_A (kn, dc, sz, wd, so, sl, sc, tr, ft) h) (hm : mm_A (kn, dc, sz, wd, so, sl, sc, tr, ft) h)
    (hc : ∀ h, cc_A (kn, dc, sz, wd, so, sl, sc, tr, ft) h → ∃ h1, f h = some (r, h1) ∧ cc_A (kn, dc, sz, wd, so, sl, sc, tr, u) h1 ∧ ∀ i, i ≠ 0 → h1 i = h i) (hg : ∀ h, mm_A (kn, dc, sz, wd, so, sl, sc, tr, ft) h → ∃ h1, g h = some (r, h1) ∧ mm_A (kn, dc, sz, wd, so, sl, sc, tr, u) h1 ∧ ∀ i, i ≠ 49 → h1 i = h i) : pp_G f g h := by
  refine pp_G.of (P' := (kn, dc, sz, wd, so, sl, sc, tr, u)) r ha hm hV ?_ (fun h hm => ?_)
  · obtain ⟨h1, e1, e2, e3⟩ := hc h ha
    exact ⟨h1, e1, e2, fun i hi => e3 i (by omega)⟩
  · obtain ⟨h1, e1, e2, e3⟩ := hg h hm
    exact ⟨h1, e1, e2, fun i hi => e3 i (by omega)⟩
def cu_t (s : Nat) (v : Int32) : Int32 := if s = 0 then v.toInt8.toInt32 else if s = 1 then v.toInt16.toInt32 else v
theorem cu_c {h : tt_H} {b s L : Nat} {c : Nat → Int32} (hS : sh_S h b s L c) (h9 : s ≠ 9) (v : Int32) : s_X6_cut b v h = some (cu_t s v, h) := by
  obtain ⟨g, q, e1, e2, e3⟩ := hS
  obtain ⟨e4, -, h3, -⟩ := e3 h9
  unfold s_X6_cut cu_t
  rw [pp_fi e1 (k := 2) (v := q) rfl, pp_bind, pp_bind, e4]
  rcases (show s = 0 ∨ s = 1 ∨ s = 2 by omega) with rfl | rfl | rfl <;> rfl
theorem E_put {h : tt_H} (hI : pp_Inv h) (x1 x2 x3 : Int32) : pp_G (s_X8_put 0 x1 x2 x3) (s_X9_put 49 x1 x2 x3) h := by
  obtain ⟨⟨kn, dc, sz, wd, so, sl, sc, tr, ft⟩, hV, ha, hm⟩ := hI
  rcases pp_rng 4 (by decide) x1 with ⟨k, hk, rfl⟩ | h1
  · by_cases h9 : so k = 9
    · refine pp_G.ft (-10 - 1) 1 hV ha hm (fun h ha => ?_) (fun h hm => ?_)
      · obtain ⟨h1, f1, f2, f3⟩ := cl_put ha 0
        obtain ⟨h2, g1, g2, g3⟩ := cl_fails f2 1
        have hS := sh_of (ft := 0) hV f2.1 hk
        refine ⟨h2, ?_, g2, fun i hi => (g3 i hi).trans (f3 i hi)⟩
        unfold s_X8_put
        simp only [f1, ca_b f2.1, sh_in f2.1 hk, gg_opt_some, sh_b hS, sh_no hS, if_pos h9, g1, pp_bind, pn_10, ↓reduceIte]
      · obtain ⟨h1, f1, f2, f3⟩ := ml_put hm 0
        obtain ⟨h2, g1, g2, g3⟩ := ml_fails f2 1
        refine ⟨h2, ?_, g2, fun i hi => (g3 i hi).trans (f3 i hi)⟩
        unfold s_X9_put
        simp only [f1, js_in hk, mo_2 (ma_o f2.1), ma_so f2.1 hk, if_pos h9, (ma_o f2.1).b, g1, pp_bind, pn_10, ↓reduceIte]
    · obtain ⟨h3, hL⟩ := hV.2.2.2 k hk h9
      have n9 := so_n9 h9 h3
      rcases pp_rng (sl k) (by omega) x2 with ⟨i, hi, rfl⟩ | h2
      · have hV' : pp_V (kn, dc, sz, wd, so, sl, (fun j => if j = k then (fun p => if p = i then cu_t (so k) x3 else sc k p) else sc j), tr, 0) := hV
        refine pp_G.of (P' := (kn, dc, sz, wd, so, sl, (fun j => if j = k then (fun p => if p = i then cu_t (so k) x3 else sc k p) else sc j), tr, 0)) 1 ha hm hV' ?_ (fun h hm => ?_)
        · obtain ⟨h1, f1, f2, f3⟩ := cl_put ha 0
          have hS := sh_of (ft := 0) hV f2.1 hk
          obtain ⟨g, q, e1, e2, e3⟩ := id hS
          have hc := sh_hc hS h9 (i := i) (n := 1) (by omega) (by decide)
          rw [if_pos (show i + 1 ≤ sl k by omega), show nI 1 = (1 : Int32) from rfl] at hc
          refine ⟨va_up h1 (41 + 2 * k + 1) (some (tt_ia 80 (upd g i (cu_t (so k) x3)))), ?_, ?_, fun i hi => by rw [va_up_ne _ _ (by omega)]; exact f3 i (by omega)⟩
          · unfold s_X8_put s_X6_write
            simp only [f1, ca_b f2.1, sh_in f2.1 hk, gg_opt_some, sh_b hS, sh_no hS, if_neg h9, hc, cu_c hS h9, pp_fr e1 (k := 0) (v := 41 + 2 * k + 1) rfl, pp_is e2 (show i < 80 by omega) (by decide), pp_bind, pn_10, pn_00, ↓reduceIte]
          · refine cc_sheet f2 hk (g := upd g i (cu_t (so k) x3)) (q := q) (fun j i1 i2 => va_up_ne _ _ i2) (by rw [va_up_ne _ _ (by omega)]; exact e1) (va_up_self _ _ _) (fun _ => ⟨(e3 h9).1, fun p hp => ?_⟩) (fun j _ hjk => ⟨rfl, rfl, if_neg hjk⟩)
            simp only [if_true]
            by_cases hpi : p = i
            · rw [if_pos hpi, hpi, pk_us]
            · rw [if_neg hpi, pk_un hpi]; exact (e3 h9).2.1 p hp
        · obtain ⟨h1, f1, f2, f3⟩ := ml_put hm 0
          obtain ⟨-, ⟨g50, e50, f50⟩, ⟨g51, e51, f51⟩, ⟨g52, e52, f52⟩, -⟩ := id f2.1
          have hmo := ma_o f2.1
          refine ⟨va_up h1 52 (some (tt_ia 320 (upd g52 (80 * k + i) (cu_t (so k) x3)))), ?_, ?_, fun i hi => by rw [va_up_ne _ _ (by omega)]; exact f3 i (by omega)⟩
          · unfold s_X9_put
            simp only [f1, js_in hk, mo_2 hmo, ma_so f2.1 hk, n9, mo_3 hmo, ma_sl f2.1 hk h9, pi_ins_in hi (show sl k < 2 ^ 31 by omega), mo_4 hmo, ix80, pp_is e52 (show 80 * k + i < 320 by omega) (by decide), pp_bind, pn_10, ↓reduceIte]
            rw [if_neg h9]
            unfold cu_t
            rcases (show so k = 0 ∨ so k = 1 ∨ so k = 2 by omega) with z | z | z <;> rw [z] <;> rfl
          · refine mm_sheets f2 (g50 := g50) (g51 := g51) (g52 := upd g52 (80 * k + i) (cu_t (so k) x3)) (fun i i1 i2 i3 => va_up_ne _ _ i3) (by rw [va_up_ne _ _ (by decide)]; exact e50) f50 (by rw [va_up_ne _ _ (by decide)]; exact e51) f51 (va_up_self _ _ _) (fun j hj h9 p hp => ?_)
            by_cases hjk : j = k
            · simp only [if_pos hjk]
              by_cases hpi : p = i
              · rw [if_pos hpi, hjk, hpi, pk_us]
              · rw [if_neg hpi, hjk, pk_un (by omega)]; rw [hjk] at h9; exact f52 k hk h9 p hp
            · simp only [if_neg hjk]; rw [pk_un (by omega)]; exact f52 j hj h9 p hp
      · refine pp_G.ft (-10 - 3) 3 hV ha hm (fun h ha => ?_) (fun h hm => ?_)
        · obtain ⟨h1, f1, f2, f3⟩ := cl_put ha 0
          obtain ⟨h4, g1, g2, g3⟩ := cl_fails f2 3
          have hS := sh_of (ft := 0) hV f2.1 hk
          have hc : s_X6_hasCells (41 + 2 * k) x2 1 h1 = some (0, h1) := by
            by_cases h0 : x2 < 0
            · exact sh_hcN (Or.inl h0)
            · obtain ⟨i, hi, rfl⟩ := nI_of h0
              have := (nI_leI (show sl k < 2 ^ 31 by omega) hi).mp (h2.resolve_left h0)
              have hc := sh_hc hS h9 (i := i) (n := 1) hi (by decide)
              rw [if_neg (by omega)] at hc
              exact hc
          refine ⟨h4, ?_, g2, fun i hi => (g3 i hi).trans (f3 i hi)⟩
          unfold s_X8_put
          simp only [f1, ca_b f2.1, sh_in f2.1 hk, gg_opt_some, sh_b hS, sh_no hS, if_neg h9, hc, g1, pp_bind, pn_00, ↓reduceIte]
        · obtain ⟨h1, f1, f2, f3⟩ := ml_put hm 0
          obtain ⟨h4, g1, g2, g3⟩ := ml_fails f2 3
          refine ⟨h4, ?_, g2, fun i hi => (g3 i hi).trans (f3 i hi)⟩
          unfold s_X9_put
          simp only [f1, js_in hk, mo_2 (ma_o f2.1), ma_so f2.1 hk, n9, mo_3 (ma_o f2.1), ma_sl f2.1 hk h9, pi_ins_out h2 (show sl k < 2 ^ 31 by omega), (ma_o f2.1).b, g1, pp_bind, pn_10, pn_00, ↓reduceIte]
  · refine pp_G.ft (-1) 0 hV ha hm (fun h ha => ?_) (fun h hm => ?_)
    · obtain ⟨h2, f1, f2, f3⟩ := cl_put ha 0
      refine ⟨h2, ?_, f2, f3⟩
      unfold s_X8_put
      simp only [f1, ca_b f2.1, sh_out h1, gg_opt_none, pp_bind]
    · obtain ⟨h2, f1, f2, f3⟩ := ml_put hm 0
      refine ⟨h2, ?_, f2, f3⟩
      unfold s_X9_put
      simp only [f1, js_out h1, pp_bind, pn_00, ↓reduceIte]
theorem rf_c {h : tt_H} {b s L s' : Nat} {c : Nat → Int32} (hS : sh_S h b s L c) (hs' : s' < 3) : s_X8_readingFault b (nI s') h = some (if s = 9 then 1 else if s = s' then 0 else 2, h) := by
  have hb := fun x => sh_b (α := Int32 × tt_H) hS x
  unfold s_X8_readingFault
  simp only [hb, sh_no hS, pp_bind]
  by_cases h9 : s = 9
  · simp only [if_pos h9, pn_10, ↓reduceIte]
  · obtain ⟨g, q, -, -, e3⟩ := id hS
    have := (e3 h9).2.2.1
    simp only [if_neg h9, sh_so hS h9, pp_bind, ↓reduceIte]
    by_cases hss : s = s'
    · rw [if_pos (by rw [hss]), if_pos hss]
    · rw [if_neg (fun z => hss ((nI_eq (by omega) (by omega)).mp z)), if_neg hss]
theorem E_cell {h : tt_H} (hI : pp_Inv h) (x1 x2 x3 : Int32) : pp_G (s_X8_cell 0 x1 x2 x3) (s_X9_cell 49 x1 x2 x3) h := by
  obtain ⟨⟨kn, dc, sz, wd, so, sl, sc, tr, ft⟩, hV, ha, hm⟩ := hI
  rcases pp_rng 4 (by decide) x1 with ⟨k, hk, rfl⟩ | h1
  · rcases pp_rng 3 (by decide) x3 with ⟨s, hs, rfl⟩ | h3
    · by_cases h9 : so k = 9
      · refine pp_G.ft (-9223372036854775808) 1 hV ha hm (fun h ha => ?_) (fun h hm => ?_)
        · obtain ⟨h1, f1, f2, f3⟩ := cl_put ha 0
          obtain ⟨h2, g1, g2, g3⟩ := cl_put f2 1
          have hr := rf_c (sh_of (ft := 0) hV f2.1 hk) hs
          rw [if_pos h9] at hr
          refine ⟨h2, ?_, g2, fun i hi => (g3 i hi).trans (f3 i hi)⟩
          unfold s_X8_cell
          simp only [f1, ca_b f2.1, sh_in f2.1 hk, gg_opt_some, is_in hs, hr, g1, ca_ft g2.1, pp_bind, pn_10, ↓reduceIte]
        · obtain ⟨h1, f1, f2, f3⟩ := ml_put hm 0
          obtain ⟨h2, g1, g2, g3⟩ := ml_put f2 1
          refine ⟨h2, ?_, g2, fun i hi => (g3 i hi).trans (f3 i hi)⟩
          unfold s_X9_cell s_X9_cell_J50 s_X9_lost
          simp only [f1, js_in hk, jt_in hs, mo_2 (ma_o f2.1), ma_so f2.1 hk, if_pos h9, (ma_o f2.1).b, g1, pp_bind, pn_10, ↓reduceIte]
      · obtain ⟨h3, hL⟩ := hV.2.2.2 k hk h9
        have n9 := so_n9 h9 h3
        by_cases hss : so k = s
        · rcases pp_rng (sl k) (by omega) x2 with ⟨i, hi, rfl⟩ | h2
          · refine pp_G.ft (sc k i).toInt64 0 hV ha hm (fun h ha => ?_) (fun h hm => ?_)
            · obtain ⟨h1, f1, f2, f3⟩ := cl_put ha 0
              obtain ⟨h2, g1, g2, g3⟩ := cl_put f2 0
              have hS := sh_of (ft := 0) hV f2.1 hk
              have hS2 := sh_of (ft := 0) hV g2.1 hk
              have hr := rf_c hS hs
              rw [if_neg h9, if_pos hss] at hr
              have hc := sh_hc hS2 h9 (i := i) (n := 1) (by omega) (by decide)
              rw [if_pos (show i + 1 ≤ sl k by omega), show nI 1 = (1 : Int32) from rfl] at hc
              refine ⟨h2, ?_, g2, fun i hi => (g3 i hi).trans (f3 i hi)⟩
              unfold s_X8_cell
              simp only [f1, ca_b f2.1, sh_in f2.1 hk, gg_opt_some, is_in hs, hr, g1, ca_ft g2.1, sh_b hS2, hc, sh_at hS2 h9 hi, pp_bind, pn_10, pn_00, ↓reduceIte]
            · obtain ⟨h1, f1, f2, f3⟩ := ml_put hm 0
              have e1 : (if so k = 9 then (-9 : Int32) else nI (so k)) = nI s := by rw [if_neg h9, hss]
              refine ⟨h1, ?_, f2, f3⟩
              unfold s_X9_cell s_X9_cell_J50
              simp only [f1, js_in hk, jt_in hs, mo_2 (ma_o f2.1), ma_so f2.1 hk, n9, mo_3 (ma_o f2.1), ma_sl f2.1 hk h9, pi_ins_in hi (show sl k < 2 ^ 31 by omega), mo_4 (ma_o f2.1), ix80, ma_sc f2.1 hk h9 (show i < 80 by omega), pp_bind, pn_10, ↓reduceIte]
              rw [if_pos e1]
          · refine pp_G.ft (-9223372036854775808) 3 hV ha hm (fun h ha => ?_) (fun h hm => ?_)
            · obtain ⟨h1, f1, f2, f3⟩ := cl_put ha 0
              obtain ⟨h4, g1, g2, g3⟩ := cl_put f2 0
              obtain ⟨h5, i1, i2, i3⟩ := cl_put g2 3
              have hS := sh_of (ft := 0) hV f2.1 hk
              have hS2 := sh_of (ft := 0) hV g2.1 hk
              have hr := rf_c hS hs
              rw [if_neg h9, if_pos hss] at hr
              have hc : s_X6_hasCells (41 + 2 * k) x2 1 h4 = some (0, h4) := by
                by_cases h0 : x2 < 0
                · exact sh_hcN (Or.inl h0)
                · obtain ⟨i, hi, rfl⟩ := nI_of h0
                  have := (nI_leI (show sl k < 2 ^ 31 by omega) hi).mp (h2.resolve_left h0)
                  have hc := sh_hc hS2 h9 (i := i) (n := 1) hi (by decide)
                  rw [if_neg (by omega)] at hc
                  exact hc
              refine ⟨h5, ?_, i2, fun i hi => (i3 i hi).trans ((g3 i hi).trans (f3 i hi))⟩
              unfold s_X8_cell
              simp only [f1, ca_b f2.1, sh_in f2.1 hk, gg_opt_some, is_in hs, hr, g1, ca_ft g2.1, sh_b hS2, hc, i1, pp_bind, pn_10, pn_00, ↓reduceIte]
            · obtain ⟨h1, f1, f2, f3⟩ := ml_put hm 0
              obtain ⟨h4, g1, g2, g3⟩ := ml_put f2 3
              have e1 : (if so k = 9 then (-9 : Int32) else nI (so k)) = nI s := by rw [if_neg h9, hss]
              refine ⟨h4, ?_, g2, fun i hi => (g3 i hi).trans (f3 i hi)⟩
              unfold s_X9_cell s_X9_cell_J50 s_X9_lost
              simp only [f1, js_in hk, jt_in hs, mo_2 (ma_o f2.1), ma_so f2.1 hk, n9, mo_3 (ma_o f2.1), ma_sl f2.1 hk h9, pi_ins_out h2 (show sl k < 2 ^ 31 by omega), (ma_o f2.1).b, g1, pp_bind, pn_10, pn_00, ↓reduceIte]
              rw [if_pos e1]
        · refine pp_G.ft (-9223372036854775808) 2 hV ha hm (fun h ha => ?_) (fun h hm => ?_)
          · obtain ⟨h1, f1, f2, f3⟩ := cl_put ha 0
            obtain ⟨h2, g1, g2, g3⟩ := cl_put f2 2
            have hr := rf_c (sh_of (ft := 0) hV f2.1 hk) hs
            rw [if_neg h9, if_neg hss] at hr
            refine ⟨h2, ?_, g2, fun i hi => (g3 i hi).trans (f3 i hi)⟩
            unfold s_X8_cell
            simp only [f1, ca_b f2.1, sh_in f2.1 hk, gg_opt_some, is_in hs, hr, g1, ca_ft g2.1, pp_bind, pn_10, ↓reduceIte]
            rfl
          · obtain ⟨h1, f1, f2, f3⟩ := ml_put hm 0
            obtain ⟨h2, g1, g2, g3⟩ := ml_put f2 2
            have e1 : ¬ (if so k = 9 then (-9 : Int32) else nI (so k)) = nI s := by
              rw [if_neg h9]
              exact fun z => hss ((nI_eq (by omega) (by omega)).mp z)
            refine ⟨h2, ?_, g2, fun i hi => (g3 i hi).trans (f3 i hi)⟩
            unfold s_X9_cell s_X9_lost
            simp only [f1, js_in hk, jt_in hs, mo_2 (ma_o f2.1), ma_so f2.1 hk, n9, (ma_o f2.1).b, g1, pp_bind, pn_10, ↓reduceIte]
            rw [if_neg e1]
    · refine pp_G.ft (-9223372036854775808) 0 hV ha hm (fun h ha => ?_) (fun h hm => ?_)
      · obtain ⟨h2, f1, f2, f3⟩ := cl_put ha 0
        refine ⟨h2, ?_, f2, f3⟩
        unfold s_X8_cell
        simp only [f1, ca_b f2.1, sh_in f2.1 hk, gg_opt_some, is_out h3, pp_bind, pn_00, ↓reduceIte]
      · obtain ⟨h2, f1, f2, f3⟩ := ml_put hm 0
        refine ⟨h2, ?_, f2, f3⟩
        unfold s_X9_cell
        simp only [f1, js_in hk, jt_out h3, pp_bind, pn_10, pn_00, ↓reduceIte]
  · refine pp_G.ft (-9223372036854775808) 0 hV ha hm (fun h ha => ?_) (fun h hm => ?_)
    · obtain ⟨h2, f1, f2, f3⟩ := cl_put ha 0
      refine ⟨h2, ?_, f2, f3⟩
      unfold s_X8_cell
      simp only [f1, ca_b f2.1, sh_out h1, gg_opt_none, pp_bind]
    · obtain ⟨h2, f1, f2, f3⟩ := ml_put hm 0
      refine ⟨h2, ?_, f2, f3⟩
      unfold s_X9_cell
      simp only [f1, js_out h1, pp_bind, pn_00, ↓reduceIte]
