/-! THE LAW'S PUT: it makes up the CRIES, and writes their text -/
def ok {α : Type} (o : Option α) (Q : α → Prop) : Prop := ∃ r, o = some r ∧ Q r
theorem pu_1 (d : Nat) : (1 : Int32) + nI d = nI (1 + d) := by rw [pp_lit 1, nI_add]
theorem pu_97 (w : Nat) : (97 : Int32) + nI w = nI (97 + w) := by rw [pp_lit 97, nI_add]
theorem pu_lt : ∀ w, w < 8 → lt_P (nI (97 + w)) ∧ lw (nI (97 + w)) = w := by decide +kernel
section PU
variable {kn : Nat → Nat} {dc : Nat} {sz0 : Nat → Nat} {wd0 : Nat → Nat → Nat} {tr : Int32} {hh : tt_H} {N Ls : Nat} {xs : Nat → Int32}
def pu_B (kn : Nat → Nat) (dc : Nat) (sz0 : Nat → Nat) (wd0 : Nat → Nat → Nat) (tr : Int32) (hh : tt_H) (N : Nat) (so sl : Nat → Nat) (sc : Nat → Nat → Int32) (ft : Int32) (C : Nat → Int64) (G : Nat → Int32) (h : tt_H) : Prop := pp_V (kn, dc, sz0, wd0, so, sl, sc, tr, ft) ∧ cc_A (kn, dc, sz0, wd0, so, sl, sc, tr, ft) h ∧ so 0 = 0 ∧ sl 0 = 80 ∧ h 49 = some (tt_ja 6 C) ∧ h 50 = some (tt_ia 7 G) ∧ G 0 = nI N ∧ ∀ i, 51 ≤ i → h i = hh i
def pu_D (sz : Nat → Nat) (wd : Nat → Nat → Nat) (d : Nat) (C : Nat → Int64) (G : Nat → Int32) : Prop := ∀ e, e < d → G (1 + e) = nI (sz e) ∧ C e = lN (cN (wd e) (sz e)) ∧ 0 < sz e ∧ sz e ≤ 12 ∧ ∀ k, k < sz e → wd e k < 8
def pu_T (sz0 : Nat → Nat) (wd0 : Nat → Nat → Nat) (sc : Nat → Nat → Int32) (a : Nat) (S : pr_S) : Prop := ∀ c : Nat → Int32, (∀ j, j < a → c j = sc 0 j) → ∀ s S', pr_ok c s a S S' → pr_ok c (a + s) 0 (pr_next (0, sz0, wd0)) S'
def pu_R (sz0 : Nat → Nat) (wd0 : Nat → Nat → Nat) (d a : Nat) (S : pr_S) (sz : Nat → Nat) (wd : Nat → Nat → Nat) : Prop := pr_W S ∧ (d = 0 → a = 0 ∧ S = pr_next (0, sz0, wd0)) ∧ (0 < d → S.1 = d ∧ a + 1 ≤ 13 * d ∧ ∀ e, e < d → S.2.1 e = sz e ∧ ∀ k, k < sz e → S.2.2 e k = wd e k)
theorem pu_B.upC {so sl : Nat → Nat} {sc : Nat → Nat → Int32} {ft : Int32} {C : Nat → Int64} {G : Nat → Int32} {h : tt_H} (hB : pu_B kn dc sz0 wd0 tr hh N so sl sc ft C G h) (C' : Nat → Int64) : pu_B kn dc sz0 wd0 tr hh N so sl sc ft C' G (va_up h 49 (some (tt_ja 6 C'))) := by
  obtain ⟨b1, b2, b3, b4, b5, b6, b7, b8⟩ := hB
  exact ⟨b1, b2.congr (fun i hi => va_up_ne _ _ (by omega)), b3, b4, va_up_self _ _ _, by rw [va_up_ne _ _ (by decide)]; exact b6, b7, fun i hi => by rw [va_up_ne _ _ (by omega)]; exact b8 i hi⟩
theorem pu_B.upG {so sl : Nat → Nat} {sc : Nat → Nat → Int32} {ft : Int32} {C : Nat → Int64} {G : Nat → Int32} {h : tt_H} (hB : pu_B kn dc sz0 wd0 tr hh N so sl sc ft C G h) {G' : Nat → Int32} (hG : G' 0 = G 0) : pu_B kn dc sz0 wd0 tr hh N so sl sc ft C G' (va_up h 50 (some (tt_ia 7 G'))) := by
  obtain ⟨b1, b2, b3, b4, b5, b6, b7, b8⟩ := hB
  exact ⟨b1, b2.congr (fun i hi => va_up_ne _ _ (by omega)), b3, b4, by rw [va_up_ne _ _ (by decide)]; exact b5, va_up_self _ _ _, hG.trans b7, fun i hi => by rw [va_up_ne _ _ (by omega)]; exact b8 i hi⟩
/-- a letter, or what is between, is written at the text's end -/
theorem pu_B.put {so sl : Nat → Nat} {sc : Nat → Nat → Int32} {ft : Int32} {C : Nat → Int64} {G : Nat → Int32} {h : tt_H} (hB : pu_B kn dc sz0 wd0 tr hh N so sl sc ft C G h) {a v : Nat} (ha : a < 80) (hv : v < 128) : ∃ h1, s_X8_put 0 0 (nI a) (nI v) h = some (1, h1) ∧ pu_B kn dc sz0 wd0 tr hh N so sl (fun j => if j = 0 then (fun p => if p = a then nI v else sc 0 p) else sc j) 0 C G h1 := by
  obtain ⟨b1, b2, b3, b4, b5, b6, b7, b8⟩ := hB
  obtain ⟨h1, e1, e2, e3⟩ := K_put b1 b2 b3 b4 ha hv
  exact ⟨h1, e1, b1, e2, b3, b4, by rw [e3 49 (by decide)]; exact b5, by rw [e3 50 (by decide)]; exact b6, b7, fun i hi => by rw [e3 i (by omega)]; exact b8 i hi⟩
theorem pu_T.letter {sc : Nat → Nat → Int32} {a : Nat} {S : pr_S} (hT : pu_T sz0 wd0 sc a S) {w : Nat} (hw : w < 8) (hl : pr_L S < 12) : pu_T sz0 wd0 (fun j => if j = 0 then (fun p => if p = a then nI (97 + w) else sc 0 p) else sc j) (a + 1) (pr_add S w) := by
  intro c hc s S' hok
  have e1 : c a = nI (97 + w) := by rw [hc a (Nat.lt_succ_self a)]; simp
  have e2 : ∀ j, j < a → c j = sc 0 j := fun j hj => by
    rw [hc j (by omega)]
    simp only [if_true]
    rw [if_neg (by omega)]
  obtain ⟨l1, l2⟩ := pu_lt w hw
  have := hT c e2 (s + 1) S' (Or.inl ⟨by rw [e1]; exact l1, hl, by rw [e1, l2]; exact hok⟩)
  rw [show a + 1 + s = a + (s + 1) by omega]
  exact this
theorem pu_T.sep {sc : Nat → Nat → Int32} {a : Nat} {S : pr_S} (hT : pu_T sz0 wd0 sc a S) (hl : 0 < pr_L S) (h6 : S.1 < 6) : pu_T sz0 wd0 (fun j => if j = 0 then (fun p => if p = a then nI 59 else sc 0 p) else sc j) (a + 1) (pr_next S) := by
  intro c hc s S' hok
  have e1 : c a = 59 := by rw [hc a (Nat.lt_succ_self a)]; simp; rfl
  have e2 : ∀ j, j < a → c j = sc 0 j := fun j hj => by
    rw [hc j (by omega)]
    simp only [if_true]
    rw [if_neg (by omega)]
  have := hT c e2 (s + 1) S' (Or.inr ⟨e1, hl, h6, hok⟩)
  rw [show a + 1 + s = a + (s + 1) by omega]
  exact this
/-- the letters of a DAY -/
theorem pu_let (κ : Nat → Int32 → Int32 → Nat → Nat → Int32 → Int32 → Int32 → tt_H → Option (Int32 × tt_H)) (Q : Int32 × tt_H → Prop) {x6 : Int32} {d : Nat} (hdN : d < N) (hN : N ≤ 6) {sz : Nat → Nat} {wd : Nat → Nat → Nat}
    (hκ : ∀ so sl sc ft C G h a S, pu_B kn dc sz0 wd0 tr hh N so sl sc ft C G h → pu_D sz wd (d + 1) C G → pu_R sz0 wd0 (d + 1) a S sz wd → pu_T sz0 wd0 sc a S → ok (κ 0 0 12 49 50 x6 (nI a) (nI (d + 1)) h) Q) :
    ∀ (t k fu a : Nat) (S : pr_S) (so sl : Nat → Nat) (sc : Nat → Nat → Int32) (ft : Int32) (C : Nat → Int64) (G : Nat → Int32) (h : tt_H), k + t = sz d → t < fu → pu_B kn dc sz0 wd0 tr hh N so sl sc ft C G h → pu_D sz wd (d + 1) C G → pr_W S → S.1 = d + 1 → (∀ e, e < d → S.2.1 e = sz e ∧ ∀ k, k < sz e → S.2.2 e k = wd e k) → S.2.1 d = k → (∀ j, j < k → S.2.2 d j = wd d j) → a ≤ 13 * d + k → pu_T sz0 wd0 sc a S → ok (s_L_put_L298 Ls xs κ fu 0 0 12 49 50 x6 (nI a) (nI d) (nI k) h) Q := by
  intro t
  induction t with
  | zero =>
    intro k fu a S so sl sc ft C G h hk hfu hB hD hW hS1 hSe hSd hSw ha hT
    obtain ⟨fu, rfl⟩ : ∃ z, fu = z + 1 := ⟨fu - 1, by omega⟩
    obtain ⟨d1, d2, d3, d4, d5⟩ := hD d (Nat.lt_succ_self d)
    rw [s_L_put_L298, pu_1, pp_il hB.2.2.2.2.2.1 (show 1 + d < 7 by omega) (by decide), pp_bind, d1, if_pos (nI_le (by omega) (by omega)), nI_1]
    refine hκ so sl sc ft C G h a S hB hD ⟨hW, fun z => absurd z (Nat.succ_ne_zero d), fun _ => ⟨hS1, by omega, fun e he => ?_⟩⟩ hT
    by_cases hed : e = d
    · subst hed; exact ⟨by omega, fun j hj => hSw j (by omega)⟩
    · exact hSe e (by omega)
  | succ t ih =>
    intro k fu a S so sl sc ft C G h hk hfu hB hD hW hS1 hSe hSd hSw ha hT
    obtain ⟨fu, rfl⟩ : ∃ z, fu = z + 1 := ⟨fu - 1, by omega⟩
    obtain ⟨d1, d2, d3, d4, d5⟩ := hD d (Nat.lt_succ_self d)
    have h8 := d5 k (by omega)
    have hpl : pr_L S = k := by unfold pr_L; rw [hS1, Nat.add_sub_cancel]; exact hSd
    obtain ⟨h1, e1, B1⟩ := hB.put (a := a) (v := 97 + wd d k) (by omega) (by omega)
    rw [s_L_put_L298, pu_1, pp_il hB.2.2.2.2.2.1 (show 1 + d < 7 by omega) (by decide), pp_bind, d1, if_neg (nI_ge (show k < sz d by omega) (by omega)), pp_jl hB.2.2.2.2.1 (show d < 6 by omega) (by decide), pp_bind, d2, lw_wordf d5 d4 (show k < sz d by omega), pp_bind]
    simp only []
    rw [ca_b hB.2.1.1, pu_97, e1, pp_bind, if_pos rfl, nI_1, nI_1]
    have a1 : (pr_add S (wd d k)).2.1 d = k + 1 := by
      show (if d = S.1 - 1 then S.2.1 (S.1 - 1) + 1 else S.2.1 d) = k + 1
      rw [if_pos (by omega), show S.1 - 1 = d by omega, hSd]
    have a2 : (pr_add S (wd d k)).2.2 d = ins_f k (wd d k) (S.2.2 d) := by
      show (if d = S.1 - 1 then ins_f (S.2.1 (S.1 - 1)) (wd d k) (S.2.2 (S.1 - 1)) else S.2.2 d) = _
      rw [if_pos (by omega), show S.1 - 1 = d by omega, hSd]
    refine ih (k + 1) fu (a + 1) (pr_add S (wd d k)) so sl _ 0 C G h1 (by omega) (by omega) B1 hD (pr_Wa hW h8 (by omega)) hS1 (fun e he => ?_) a1 (fun j hj => ?_) (by omega) (hT.letter h8 (by omega))
    · have b1 : (pr_add S (wd d k)).2.1 e = S.2.1 e := if_neg (by omega)
      have b2 : (pr_add S (wd d k)).2.2 e = S.2.2 e := if_neg (by omega)
      rw [b1, b2]; exact hSe e he
    · rw [a2]
      unfold ins_f
      by_cases hjk : j = k
      · rw [if_neg (by omega), if_pos hjk, hjk]
      · rw [if_pos (by omega)]; exact hSw j (by omega)
/-- what is between, and the letters -/
theorem pu_271 (κ : Nat → Int32 → Int32 → Nat → Nat → Int32 → Int32 → Int32 → tt_H → Option (Int32 × tt_H)) (Q : Int32 × tt_H → Prop) {x6 : Int32} {d : Nat} (hdN : d < N) (hN : N ≤ 6) {sz : Nat → Nat} {wd : Nat → Nat → Nat}
    (hκ : ∀ so sl sc ft C G h a S, pu_B kn dc sz0 wd0 tr hh N so sl sc ft C G h → pu_D sz wd (d + 1) C G → pu_R sz0 wd0 (d + 1) a S sz wd → pu_T sz0 wd0 sc a S → ok (κ 0 0 12 49 50 x6 (nI a) (nI (d + 1)) h) Q)
    {a : Nat} {S : pr_S} {so sl : Nat → Nat} {sc : Nat → Nat → Int32} {ft : Int32} {C : Nat → Int64} {G : Nat → Int32} {h : tt_H} (hB : pu_B kn dc sz0 wd0 tr hh N so sl sc ft C G h) (hD : pu_D sz wd (d + 1) C G) (hR : pu_R sz0 wd0 d a S sz wd) (hT : pu_T sz0 wd0 sc a S) : ok (s_L_put_J271 Ls xs κ 0 0 12 49 50 x6 (nI a) (nI d) h) Q := by
  obtain ⟨hW, r0, r1⟩ := hR
  have d12 := (hD d (Nat.lt_succ_self d)).2.2.2.1
  unfold s_L_put_J271
  by_cases hd0 : d = 0
  · obtain ⟨ea, eS⟩ := r0 hd0
    rw [if_pos (show nI d ≤ 0 by rw [hd0]; decide)]
    unfold s_L_put_J295
    refine pu_let κ Q hdN hN hκ (sz d) 0 1000 a S so sl sc ft C G h (by omega) (by omega) hB hD hW (by rw [eS, hd0]; rfl) (fun e he => absurd he (by omega)) ?_ (fun j hj => absurd hj (Nat.not_lt_zero j)) (by omega) hT
    rw [eS, hd0]; rfl
  · obtain ⟨s1, s2, s3⟩ := r1 (by omega)
    have hpl : 0 < pr_L S := by
      unfold pr_L
      rw [s1, (s3 (d - 1) (by omega)).1]
      exact (hD (d - 1) (by omega)).2.2.1
    obtain ⟨h1, e1, B1⟩ := hB.put (a := a) (v := 59) (by omega) (by decide)
    rw [if_neg (nI_nle (show 0 < d by omega) (by omega)), ca_b hB.2.1.1, show (59 : Int32) = nI 59 from rfl, e1, pp_bind, if_pos rfl, nI_1]
    unfold s_L_put_J295
    refine pu_let κ Q hdN hN hκ (sz d) 0 1000 (a + 1) (pr_next S) so sl _ 0 C G h1 (by omega) (by omega) B1 hD (pr_Wn hW hpl (by omega)) (by show S.1 + 1 = d + 1; omega) (fun e he => ?_) ?_ (fun j hj => absurd hj (Nat.not_lt_zero j)) (by omega) (hT.sep hpl (by omega))
    · have b1 : (pr_next S).2.1 e = S.2.1 e := if_neg (by omega)
      rw [b1]; exact s3 e he
    · show (if d = S.1 then 0 else S.2.1 d) = 0
      rw [if_pos s1.symm]
/-- the WORDS that are added to a DAY's CRY -/
theorem pu_add (κ : Nat → Int32 → Int32 → Nat → Nat → Int32 → Int32 → Int32 → tt_H → Option (Int32 × tt_H)) (Q : Int32 × tt_H → Prop) {x6 x9 : Int32} {d A : Nat} (hdN : d < N) (hN : N ≤ 6) (hA : A ≤ 6) {sz : Nat → Nat} {wd : Nat → Nat → Nat}
    (hκ : ∀ sz wd so sl sc ft C G h a S, pu_B kn dc sz0 wd0 tr hh N so sl sc ft C G h → pu_D sz wd (d + 1) C G → pu_R sz0 wd0 (d + 1) a S sz wd → pu_T sz0 wd0 sc a S → ok (κ 0 0 12 49 50 x6 (nI a) (nI (d + 1)) h) Q)
    {a : Nat} {S : pr_S} {so sl : Nat → Nat} {sc : Nat → Nat → Int32} {ft : Int32} (hR : pu_R sz0 wd0 d a S sz wd) (hT : pu_T sz0 wd0 sc a S) :
    ∀ (t i fu n : Nat) (f : Nat → Nat) (C : Nat → Int64) (G : Nat → Int32) (h : tt_H), A - i = t → i ≤ A → t < fu → pu_B kn dc sz0 wd0 tr hh N so sl sc ft C G h → pu_D sz wd d C G → G (1 + d) = nI n → C d = lN (cN f n) → n ≤ 12 → (∀ k, k < n → f k < 8) → (0 < n ∨ i < A) → ok (s_L_put_L167 Ls xs κ fu 0 0 12 49 50 x6 (nI a) (nI d) x9 (nI A) (nI i) h) Q := by
  have fin : ∀ (n : Nat) (f : Nat → Nat) (C : Nat → Int64) (G : Nat → Int32) (h : tt_H), pu_B kn dc sz0 wd0 tr hh N so sl sc ft C G h → pu_D sz wd d C G → G (1 + d) = nI n → C d = lN (cN f n) → n ≤ 12 → (∀ k, k < n → f k < 8) → 0 < n → ok (s_L_put_J271 Ls xs κ 0 0 12 49 50 x6 (nI a) (nI d) h) Q := by
    intro n f C G h hB hD hG hC h12 hf h0
    refine pu_271 (sz := fun e => if e = d then n else sz e) (wd := fun e => if e = d then f else wd e) κ Q hdN hN (hκ _ _) hB (fun e he => ?_) ⟨hR.1, hR.2.1, fun z => ?_⟩ hT
    · by_cases hed : e = d
      · subst hed
        simp only [if_true]
        exact ⟨hG, hC, h0, h12, hf⟩
      · simp only [if_neg hed]
        exact hD e (by omega)
    · obtain ⟨s1, s2, s3⟩ := hR.2.2 z
      refine ⟨s1, s2, fun e he => ?_⟩
      simp only [if_neg (show ¬ e = d by omega)]
      exact s3 e he
  intro t
  induction t with
  | zero =>
    intro i fu n f C G h ht hi hfu hB hD hG hC h12 hf h0
    obtain ⟨fu, rfl⟩ : ∃ z, fu = z + 1 := ⟨fu - 1, by omega⟩
    rw [s_L_put_L167, if_pos (nI_le (show A ≤ i by omega) (by omega))]
    exact fin n f C G h hB hD hG hC h12 hf (by omega)
  | succ t ih =>
    intro i fu n f C G h ht hi hfu hB hD hG hC h12 hf h0
    obtain ⟨fu, rfl⟩ : ∃ z, fu = z + 1 := ⟨fu - 1, by omega⟩
    rw [s_L_put_L167, if_neg (nI_ge (show i < A by omega) (by omega)), pu_1, pp_il hB.2.2.2.2.2.1 (show 1 + d < 7 by omega) (by decide), pp_bind, hG]
    by_cases hn : n < 12
    · rw [if_neg (show ¬ (12 : Int32) ≤ nI n from nI_ge (a := n) (b := 12) hn (by decide)), pp_bind, nI_1]
      obtain ⟨p, hp, e1⟩ := lw_some (x9 >>> ((4 + nI i) &&& 31)) (n := n + 1) (by omega) (by omega) h
      obtain ⟨j, hj, e2⟩ := lw_some (x6 >>> (5 &&& 31)) (n := 2) (by decide) (by decide) h
      rw [e1, pp_bind]
      simp only []
      rw [show s_L_some (x6 >>> (5 &&& 31)) 2 h = some (nI j, h) from e2, pp_bind]
      simp only []
      have go : ∀ m, 0 < m → m ≤ 8 → ok (s_L_put_J232 Ls xs (s_L_put_L167 Ls xs κ fu) 0 0 12 49 50 x6 (nI a) (nI d) x9 (nI A) (nI i) (nI p) (x9 >>> ((3 + (2 * nI i)) &&& 31)) (nI m) h) Q := by
        intro m m0 m8
        obtain ⟨w, hw, e3⟩ := lw_some (x9 >>> ((3 + (2 * nI i)) &&& 31)) (n := m) m0 (by omega) h
        unfold s_L_put_J232
        rw [e3, pp_bind]
        simp only []
        rw [pp_jl hB.2.2.2.2.1 (show d < 6 by omega) (by decide), pp_bind, hC, lw_with hf h12 (show p ≤ n by omega) (show w < 8 by omega), pp_bind]
        simp only []
        have B1 := hB.upC (vp_updL C d (lN (cN (ins_f p w f) (n + 1))))
        rw [pp_js hB.2.2.2.2.1 (show d < 6 by omega) (by decide), pp_bind, pu_1, pp_il B1.2.2.2.2.2.1 (show 1 + d < 7 by omega) (by decide), pp_bind, pp_is B1.2.2.2.2.2.1 (show 1 + d < 7 by omega) (by decide), pp_bind, hG, nI_1, nI_1]
        have B2 := B1.upG (G' := upd G (1 + d) (nI (n + 1))) (pk_un (by omega))
        refine ih (i + 1) fu (n + 1) (ins_f p w f) _ _ _ (by omega) (by omega) (by omega) B2 (fun e he => ?_) (pk_us) (pk_uLs) (by omega) (fun k hk => ?_) (Or.inl (Nat.succ_pos n))
        · rw [pk_un (by omega), pk_uLn (by omega)]
          exact hD e he
        · unfold ins_f
          by_cases k1 : k < p
          · rw [if_pos k1]; exact hf k (by omega)
          · rw [if_neg k1]
            by_cases k2 : k = p
            · rw [if_pos k2]; omega
            · rw [if_neg k2]; exact hf (k - 1) (by omega)
      by_cases hj0 : nI j = 0
      · rw [if_pos hj0]; exact go 8 (by decide) (by decide)
      · rw [if_neg hj0]; exact go 3 (by decide) (by decide)
    · rw [if_pos (show (12 : Int32) ≤ nI n from nI_le (a := 12) (b := n) (by omega) (by omega))]
      exact fin n f C G h hB hD hG hC h12 hf (by omega)
/-- a DAY is begun: with the CRY ahead, or with nothing -/
theorem pu_91 (κ : Nat → Int32 → Int32 → Nat → Nat → Int32 → Int32 → Int32 → tt_H → Option (Int32 × tt_H)) (Q : Int32 × tt_H → Prop) {x6 x9 : Int32} {d : Nat} (hdN : d < N) (hN : N ≤ 6) {sz : Nat → Nat} {wd : Nat → Nat → Nat}
    (hκ : ∀ sz wd so sl sc ft C G h a S, pu_B kn dc sz0 wd0 tr hh N so sl sc ft C G h → pu_D sz wd (d + 1) C G → pu_R sz0 wd0 (d + 1) a S sz wd → pu_T sz0 wd0 sc a S → ok (κ 0 0 12 49 50 x6 (nI a) (nI (d + 1)) h) Q)
    {a : Nat} {S : pr_S} {so sl : Nat → Nat} {sc : Nat → Nat → Int32} {ft : Int32} {C : Nat → Int64} {G : Nat → Int32} {h : tt_H} (hB : pu_B kn dc sz0 wd0 tr hh N so sl sc ft C G h) (hD : pu_D sz wd d C G) (hR : pu_R sz0 wd0 d a S sz wd) (hT : pu_T sz0 wd0 sc a S) (m : Nat) (hm : m = 0 ∨ (m = 1 ∧ 0 < d)) : ok (s_L_put_J91 Ls xs κ 0 0 12 49 50 x6 (nI a) (nI d) x9 (nI m) h) Q := by
  unfold s_L_put_J91
  rcases hm with rfl | ⟨rfl, hd⟩
  · rw [if_pos (show nI 0 = 0 from rfl)]
    have B1 := hB.upC (vp_updL C d 0)
    have B2 := B1.upG (G' := upd G (1 + d) 0) (pk_un (by omega))
    unfold s_L_put_J113
    rw [pp_js hB.2.2.2.2.1 (show d < 6 by omega) (by decide), pp_bind, if_pos (show nI 0 = 0 from rfl)]
    unfold s_L_put_J134
    rw [pu_1, pp_is B1.2.2.2.2.2.1 (show 1 + d < 7 by omega) (by decide), pp_bind, if_pos (show nI 0 = 0 from rfl)]
    obtain ⟨j, hj, e1⟩ := lw_some (x9 >>> (2 &&& 31)) (n := 6) (by decide) (by decide) (va_up (va_up h 49 (some (tt_ja 6 (vp_updL C d 0)))) 50 (some (tt_ia 7 (upd G (1 + d) 0))))
    rw [show s_L_some (x9 >>> (2 &&& 31)) 6 (va_up (va_up h 49 (some (tt_ja 6 (vp_updL C d 0)))) 50 (some (tt_ia 7 (upd G (1 + d) 0)))) = _ from e1, pp_bind]
    simp only []
    rw [pu_1]
    unfold s_L_put_J162
    exact pu_add κ Q hdN hN (show 1 + j ≤ 6 by omega) hκ hR hT (1 + j) 0 1000 0 (fun _ => 0) _ _ _ (by omega) (by omega) (by omega) B2 (fun e he => by rw [pk_un (by omega), pk_uLn (by omega)]; exact hD e he) pk_us pk_uLs (by decide) (fun k hk => absurd hk (Nat.not_lt_zero k)) (Or.inr (by omega))
  · have n10 : ¬ nI 1 = 0 := by decide
    obtain ⟨c1, c2, c3, c4, c5⟩ := hD (d - 1) (by omega)
    have B1 := hB.upC (vp_updL C d (C (d - 1)))
    have hGd : G d = nI (sz (d - 1)) := by rw [← c1]; congr 1; omega
    have B2 := B1.upG (G' := upd G (1 + d) (G d)) (pk_un (by omega))
    rw [if_neg n10, pp_m1 hd, pp_jl hB.2.2.2.2.1 (show d - 1 < 6 by omega) (by decide), pp_bind]
    unfold s_L_put_J113
    rw [pp_js hB.2.2.2.2.1 (show d < 6 by omega) (by decide), pp_bind, if_neg n10, pp_il B1.2.2.2.2.2.1 (show d < 7 by omega) (by decide), pp_bind]
    unfold s_L_put_J134
    rw [pu_1, pp_is B1.2.2.2.2.2.1 (show 1 + d < 7 by omega) (by decide), pp_bind, if_neg n10]
    obtain ⟨j, hj, e1⟩ := lw_some (x9 >>> (2 &&& 31)) (n := 3) (by decide) (by decide) (va_up (va_up h 49 (some (tt_ja 6 (vp_updL C d (C (d - 1)))))) 50 (some (tt_ia 7 (upd G (1 + d) (G d)))))
    rw [show s_L_some (x9 >>> (2 &&& 31)) 3 (va_up (va_up h 49 (some (tt_ja 6 (vp_updL C d (C (d - 1)))))) 50 (some (tt_ia 7 (upd G (1 + d) (G d))))) = _ from e1, pp_bind]
    simp only []
    unfold s_L_put_J162
    exact pu_add κ Q hdN hN (show j ≤ 6 by omega) hκ hR hT j 0 1000 (sz (d - 1)) (wd (d - 1)) _ _ _ (by omega) (by omega) (by omega) B2 (fun e he => by rw [pk_un (by omega), pk_uLn (by omega)]; exact hD e he) (by rw [pk_us, hGd]) (by rw [pk_uLs, c2]) c4 c5 (Or.inl c3)
/-- the DAYS, one after the other -/
theorem pu_days (hL : Ls ≤ 260) (hN : N ≤ 6) (Q : Int32 × tt_H → Prop) {x6 : Int32}
    (hQ : ∀ sz wd so sl sc ft C G h a S, pu_B kn dc sz0 wd0 tr hh N so sl sc ft C G h → pu_D sz wd N C G → pu_R sz0 wd0 N a S sz wd → pu_T sz0 wd0 sc a S → Q (nI a, h)) :
    ∀ (t d fu : Nat) (sz : Nat → Nat) (wd : Nat → Nat → Nat) (so sl : Nat → Nat) (sc : Nat → Nat → Int32) (ft : Int32) (C : Nat → Int64) (G : Nat → Int32) (h : tt_H) (a : Nat) (S : pr_S), d + t = N → t < fu → pu_B kn dc sz0 wd0 tr hh N so sl sc ft C G h → pu_D sz wd d C G → pu_R sz0 wd0 d a S sz wd → pu_T sz0 wd0 sc a S → ok (s_L_put_L41 Ls xs fu 0 0 12 49 50 x6 (nI a) (nI d) h) Q := by
  intro t
  induction t with
  | zero =>
    intro d fu sz wd so sl sc ft C G h a S hd hfu hB hD hR hT
    obtain ⟨fu, rfl⟩ : ∃ z, fu = z + 1 := ⟨fu - 1, by omega⟩
    obtain rfl : d = N := by omega
    refine ⟨(nI a, h), ?_, hQ _ _ _ _ _ _ _ _ _ _ _ hB hD hR hT⟩
    rw [s_L_put_L41, show (0 : Int32) = nI 0 from rfl, pp_il hB.2.2.2.2.2.1 (show 0 < 7 by decide) (by decide), pp_bind, hB.2.2.2.2.2.2.1, if_pos (nI_le (Nat.le_refl _) (by omega))]
  | succ t ih =>
    intro d fu sz wd so sl sc ft C G h a S hd hfu hB hD hR hT
    obtain ⟨fu, rfl⟩ : ∃ z, fu = z + 1 := ⟨fu - 1, by omega⟩
    have hκ : ∀ sz wd so sl sc ft C G h a S, pu_B kn dc sz0 wd0 tr hh N so sl sc ft C G h → pu_D sz wd (d + 1) C G → pu_R sz0 wd0 (d + 1) a S sz wd → pu_T sz0 wd0 sc a S → ok (s_L_put_L41 Ls xs fu 0 0 12 49 50 x6 (nI a) (nI (d + 1)) h) Q := fun sz wd so sl sc ft C G h a S b1 b2 b3 b4 => ih (d + 1) fu sz wd so sl sc ft C G h a S (by omega) (by omega) b1 b2 b3 b4
    have nz3 : gg_nz 3 = some () := rfl
    have hix : ((0 : Int32) + 1) + (nI d - nI d / 3 * 3) = nI (1 + d % 3) := by
      rw [show (3 : Int32) = nI 3 from rfl, pk_rem (by omega) (by decide) (by decide), show (0 : Int32) + 1 = 1 from by decide, pu_1]
    obtain ⟨v, e1⟩ := H_cell hL xs (k := 1 + d % 3) (by omega) h
    rw [s_L_put_L41, show gg_il h 50 0 = gg_il h 50 (nI 0) from rfl, pp_il hB.2.2.2.2.2.1 (show 0 < 7 by decide) (by decide), pp_bind, hB.2.2.2.2.2.2.1, if_neg (nI_ge (show d < N by omega) (by omega)), nz3, pp_bind, hix, e1, pp_bind, pp_bind]
    simp only []
    by_cases hd0 : nI d ≤ 0
    · rw [if_pos hd0]
      unfold s_L_put_J90
      exact pu_91 _ Q (by omega) hN hκ hB hD hR hT 0 (Or.inl rfl)
    · rw [if_neg hd0]
      have hdp : 0 < d := by
        cases d with
        | zero => exact absurd (by decide) hd0
        | succ d => exact Nat.succ_pos d
      obtain ⟨j, hj, e2⟩ := lw_some (v >>> (((nI d / 3) * 9) &&& 31)) (n := 4) (by decide) (by decide) h
      rw [show s_L_some (v >>> (((nI d / 3) * 9) &&& 31)) 4 h = some (nI j, h) from e2, pp_bind]
      simp only []
      by_cases hj0 : nI j ≤ 0
      · rw [if_pos hj0]
        unfold s_L_put_J90
        exact pu_91 _ Q (by omega) hN hκ hB hD hR hT 0 (Or.inl rfl)
      · rw [if_neg hj0]
        exact pu_91 _ Q (by omega) hN hκ hB hD hR hT 1 (Or.inr ⟨rfl, hdp⟩)
end PU
/-- what PUT leaves -/
theorem H_put {kn : Nat → Nat} {dc : Nat} {sz0 : Nat → Nat} {wd0 : Nat → Nat → Nat} {so sl : Nat → Nat} {sc : Nat → Nat → Int32} {tr ft : Int32} {h : tt_H} {Ls : Nat} {xs : Nat → Int32} (hL : Ls ≤ 260) (hV : pp_V (kn, dc, sz0, wd0, so, sl, sc, tr, ft)) (ha : cc_A (kn, dc, sz0, wd0, so, sl, sc, tr, ft) h) {C : Nat → Int64} {G : Nat → Int32} (h49 : h 49 = some (tt_ja 6 C)) (h50 : h 50 = some (tt_ia 7 G)) :
    ok (s_L_put Ls xs 0 0 12 49 50 h) (fun r => ∃ N a sz wd so sl sc ft C G S, r.1 = nI a ∧ 0 < N ∧ N ≤ 6 ∧ pu_B kn dc sz0 wd0 tr h N so sl sc ft C G r.2 ∧ pu_D sz wd N C G ∧ pu_R sz0 wd0 N a S sz wd ∧ pu_T sz0 wd0 sc a S) := by
  obtain ⟨v, e1⟩ := H_cell hL xs (k := 0) (by decide) h
  obtain ⟨j, hj, e2⟩ := lw_some v (n := 6) (by decide) (by decide) h
  have a1 : cc_A (kn, dc, sz0, wd0, so, sl, sc, tr, ft) (va_up h 50 (some (tt_ia 7 (upd G 0 (nI (1 + j)))))) := ha.congr (fun i hi => va_up_ne _ _ (by omega))
  obtain ⟨so', sl', sc', s1, s2, V2, h2, f1, f2, f3⟩ := K_sheet hV a1
  have B0 : pu_B kn dc sz0 wd0 tr h (1 + j) so' sl' sc' 0 C (upd G 0 (nI (1 + j))) h2 := ⟨V2, f2, s1, s2, by rw [f3 49 (by decide), va_up_ne _ _ (by decide)]; exact h49, by rw [f3 50 (by decide), va_up_self], pk_us, fun i hi => by rw [f3 i (by omega), va_up_ne _ _ (by omega)]⟩
  unfold s_L_put
  rw [show s_L_cell Ls xs 0 h = some (v, h) from e1, pp_bind]
  simp only []
  rw [show s_L_some v 6 h = some (nI j, h) from e2, pp_bind]
  simp only []
  rw [pu_1, show gg_is h 50 0 (nI (1 + j)) = _ from pp_is (k := 0) h50 (by decide) (by decide) (nI (1 + j)), pp_bind, ca_b a1.1, f1, pp_bind, if_pos rfl]
  exact pu_days hL (show 1 + j ≤ 6 by omega) _ (fun sz wd so sl sc ft C G h' a S b1 b2 b3 b4 => ⟨1 + j, a, sz, wd, so, sl, sc, ft, C, G, S, rfl, by omega, by omega, b1, b2, b3, b4⟩) (1 + j) 0 1000 (fun _ => 0) (fun _ _ => 0) so' sl' sc' 0 C _ h2 0 (pr_next (0, sz0, wd0)) (by omega) (by omega) B0 (fun e he => absurd he (Nat.not_lt_zero e)) ⟨pr_W0 sz0 wd0, fun _ => ⟨rfl, rfl⟩, fun z => absurd z (Nat.lt_irrefl 0)⟩ (fun c hc s S' hok => by rw [Nat.zero_add]; exact hok)
