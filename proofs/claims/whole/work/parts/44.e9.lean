
/-! SHORTEST: the words of the first one -/
def fw_W (n1 n2 : Nat) (f1 f2 : Nat → Nat) (i j : Nat) : Nat :=
  if i < n1 then (if j < n2 then (if f1 i = f2 j then f1 i else if wv_L n1 n2 f1 f2 (n1 - (i + 1)) (n2 - j) = wv_L n1 n2 f1 f2 (n1 - i) (n2 - (j + 1)) then (if f2 j < f1 i then f2 j else f1 i) else if wv_L n1 n2 f1 f2 (n1 - (i + 1)) (n2 - j) < wv_L n1 n2 f1 f2 (n1 - i) (n2 - (j + 1)) then f1 i else f2 j) else f1 i) else f2 j
def fw_n (n : Nat) (f : Nat → Nat) (w i : Nat) : Nat := if i < n ∧ f i = w then i + 1 else i
def wo_R (n1 n2 : Nat) (f1 f2 : Nat → Nat) : Nat → Nat → Nat → Int32 → Int32
  | 0, _, _, x => x
  | s + 1, i, j, _ => wo_R n1 n2 f1 f2 s (fw_n n1 f1 (fw_W n1 n2 f1 f2 i j) i) (fw_n n2 f2 (fw_W n1 n2 f1 f2 i j) j) (nI (fw_W n1 n2 f1 f2 i j))
section FW
variable {n1 n2 : Nat} {f1 f2 : Nat → Nat}
theorem wv_Lij {i j : Nat} (hi2 : i < n1) (hj2 : j < n2) : wv_L n1 n2 f1 f2 (n1 - i) (n2 - j) = if f1 i = f2 j then 1 + wv_L n1 n2 f1 f2 (n1 - (i + 1)) (n2 - (j + 1)) else 1 + (if wv_L n1 n2 f1 f2 (n1 - i) (n2 - (j + 1)) < wv_L n1 n2 f1 f2 (n1 - (i + 1)) (n2 - j) then wv_L n1 n2 f1 f2 (n1 - i) (n2 - (j + 1)) else wv_L n1 n2 f1 f2 (n1 - (i + 1)) (n2 - j)) := by
  have ea : n1 - i = n1 - (i + 1) + 1 := by omega
  have eb : n2 - j = n2 - (j + 1) + 1 := by omega
  rw [ea, eb, wv_Ls, show n1 - (n1 - (i + 1) + 1) = i by omega, show n2 - (n2 - (j + 1) + 1) = j by omega]
theorem fw_n1 {n w i : Nat} {f : Nat → Nat} (h : i < n ∧ f i = w) : fw_n n f w i = i + 1 := if_pos h
theorem fw_n0 {n w i : Nat} {f : Nat → Nat} (h : ¬ (i < n ∧ f i = w)) : fw_n n f w i = i := if_neg h
theorem fw_le {n w i : Nat} {f : Nat → Nat} (h : i ≤ n) : fw_n n f w i ≤ n := by
  unfold fw_n; split <;> omega
theorem fw_dec {i j : Nat} (hi : i ≤ n1) (hj : j ≤ n2) (h : i < n1 ∨ j < n2) : wv_L n1 n2 f1 f2 (n1 - i) (n2 - j) = wv_L n1 n2 f1 f2 (n1 - fw_n n1 f1 (fw_W n1 n2 f1 f2 i j) i) (n2 - fw_n n2 f2 (fw_W n1 n2 f1 f2 i j) j) + 1 := by
  by_cases hi2 : i < n1
  · by_cases hj2 : j < n2
    · have hL := wv_Lij (f1 := f1) (f2 := f2) hi2 hj2
      unfold fw_W
      rw [if_pos hi2, if_pos hj2]
      by_cases hf : f1 i = f2 j
      · rw [if_pos hf] at hL ⊢
        rw [fw_n1 ⟨hi2, rfl⟩, fw_n1 ⟨hj2, hf.symm⟩, hL]
        omega
      · rw [if_neg hf] at hL ⊢
        have A : wv_L n1 n2 f1 f2 (n1 - (i + 1)) (n2 - j) ≤ wv_L n1 n2 f1 f2 (n1 - i) (n2 - (j + 1)) → wv_L n1 n2 f1 f2 (n1 - i) (n2 - j) = wv_L n1 n2 f1 f2 (n1 - fw_n n1 f1 (f1 i) i) (n2 - fw_n n2 f2 (f1 i) j) + 1 := fun h1 => by
          rw [fw_n1 ⟨hi2, rfl⟩, fw_n0 (fun z => hf z.2.symm), hL, if_neg (by omega)]; omega
        have B : wv_L n1 n2 f1 f2 (n1 - i) (n2 - (j + 1)) ≤ wv_L n1 n2 f1 f2 (n1 - (i + 1)) (n2 - j) → wv_L n1 n2 f1 f2 (n1 - i) (n2 - j) = wv_L n1 n2 f1 f2 (n1 - fw_n n1 f1 (f2 j) i) (n2 - fw_n n2 f2 (f2 j) j) + 1 := fun h1 => by
          rw [fw_n0 (fun z => hf z.2), fw_n1 ⟨hj2, rfl⟩, hL]
          by_cases h2 : wv_L n1 n2 f1 f2 (n1 - i) (n2 - (j + 1)) < wv_L n1 n2 f1 f2 (n1 - (i + 1)) (n2 - j)
          · rw [if_pos h2]; omega
          · rw [if_neg h2]; omega
        by_cases h1 : wv_L n1 n2 f1 f2 (n1 - (i + 1)) (n2 - j) = wv_L n1 n2 f1 f2 (n1 - i) (n2 - (j + 1))
        · rw [if_pos h1]
          by_cases h2 : f2 j < f1 i
          · rw [if_pos h2]; exact B (by omega)
          · rw [if_neg h2]; exact A (by omega)
        · rw [if_neg h1]
          by_cases h2 : wv_L n1 n2 f1 f2 (n1 - (i + 1)) (n2 - j) < wv_L n1 n2 f1 f2 (n1 - i) (n2 - (j + 1))
          · rw [if_pos h2]; exact A (by omega)
          · rw [if_neg h2]; exact B (by omega)
    · unfold fw_W
      rw [if_pos hi2, if_neg hj2, fw_n1 ⟨hi2, rfl⟩, fw_n0 (fun z => hj2 z.1), wv_L0 _ _ (Or.inr (by omega)), wv_L0 _ _ (Or.inr (by omega))]
      omega
  · have hj2 : j < n2 := by omega
    unfold fw_W
    rw [if_neg hi2, fw_n0 (fun z => hi2 z.1), fw_n1 ⟨hj2, rfl⟩, wv_L0 _ _ (Or.inl (by omega)), wv_L0 _ _ (Or.inl (by omega))]
    omega
end FW
section FWC
variable {h0 h : tt_H} {b1 b2 n1 n2 : Nat} {f1 f2 : Nat → Nat} {gL gC : Nat → Int64}
theorem fw_c (hO : wv_O h0) (hH : wv_H h0 h gL gC) (hK : wv_K n1 n2 f1 f2 gL gC 0 0) (c1 : pp_cry h b1 n1 f1) (c2 : pp_cry h b2 n2 f2) {i j : Nat} (hi : i ≤ n1) (hj : j ≤ n2) (hij : i < n1 ∨ j < n2) :
    s_X7_firstWord 13 b1 (nI i) b2 (nI j) h = some (nI (fw_W n1 n2 f1 f2 i j), h) ∧ fw_W n1 n2 f1 f2 i j < 8 := by
  have l1 := c1.le
  have l2 := c2.le
  have e13 := wv_13 hO hH
  have e14 := wv_14 hO hH
  unfold s_X7_firstWord s_X7_firstWord_J38 fw_W
  simp only [pp_cobj c1, pp_cobj c2, pp_has c1 (show i < 2 ^ 31 by omega), pp_has c2 (show j < 2 ^ 31 by omega), pp_at c1 (show i < 2 ^ 31 by omega), pp_at c2 (show j < 2 ^ 31 by omega), pp_bind]
  by_cases hi2 : i < n1
  · have u1 := c1.lt8 hi2
    simp only [if_pos hi2, pp_w_in hi2, pn_10, ↓reduceIte]
    by_cases hj2 : j < n2
    · have u2 := c2.lt8 hj2
      have f10 := (hK (i + 1) j (by omega) (by omega) (by omega)).1
      have f01 := (hK i (j + 1) (by omega) (by omega) (by omega)).1
      have L1 := wv_le (n1 := n1) (n2 := n2) (f1 := f1) (f2 := f2) (n1 - (i + 1)) (n2 - j)
      have L2 := wv_le (n1 := n1) (n2 := n2) (f1 := f1) (f2 := f2) (n1 - i) (n2 - (j + 1))
      simp only [if_pos hj2, pp_w_in hj2, pn_10, ↓reduceIte]
      by_cases hf : f1 i = f2 j
      · rw [if_pos (by rw [hf]), if_pos hf]
        exact ⟨rfl, u1⟩
      · rw [if_neg (fun z => hf ((nI_eq (by omega) (by omega)).mp z)), if_neg hf]
        simp only [pp_cobj c1, pp_cobj c2, pp_at c1 (show i < 2 ^ 31 by omega), pp_at c2 (show j < 2 ^ 31 by omega), pp_w_in hi2, pp_w_in hj2, pp_fr e13 (k := 0) (v := 14) rfl, pp_obj e14, nI_1, gr_at e14 hH.1 (show i + 1 < 13 by omega) (show j < 13 by omega), gr_at e14 hH.1 (show i < 13 by omega) (show j + 1 < 13 by omega), pp_bind]
        rw [f10, f01]
        by_cases h1 : wv_L n1 n2 f1 f2 (n1 - (i + 1)) (n2 - j) = wv_L n1 n2 f1 f2 (n1 - i) (n2 - (j + 1))
        · rw [if_pos ((lg_cmp_eq _ _).mpr (by rw [h1])), if_pos h1]
          by_cases h2 : f2 j < f1 i
          · rw [if_pos (nI_lt h2 (by omega)), if_pos h2]; exact ⟨rfl, u2⟩
          · rw [if_neg (nI_nlt (by omega) (by omega)), if_neg h2]; exact ⟨rfl, u1⟩
        · rw [if_neg (fun z => h1 ((lN_eq (by omega) (by omega)).mp ((lg_cmp_eq _ _).mp z))), if_neg h1]
          by_cases h2 : wv_L n1 n2 f1 f2 (n1 - (i + 1)) (n2 - j) < wv_L n1 n2 f1 f2 (n1 - i) (n2 - (j + 1))
          · rw [if_neg (fun z => absurd ((lN_le (by omega) (by omega)).mp ((lg_cmp_ge _ _).mp z)) (by omega)), if_pos h2]; exact ⟨rfl, u1⟩
          · rw [if_pos ((lg_cmp_ge _ _).mpr ((lN_le (by omega) (by omega)).mpr (by omega))), if_neg h2]; exact ⟨rfl, u2⟩
    · simp only [if_neg hj2, ↓reduceIte]
      exact ⟨trivial, u1⟩
  · have hj2 : j < n2 := by omega
    simp only [if_neg hi2, pp_w_in hj2, ↓reduceIte]
    exact ⟨trivial, c2.lt8 hj2⟩
theorem pp_wn {n w i : Nat} {f : Nat → Nat} (hw : w < 8) (hf : i < n → f i < 8) : pp_w n f i = nI w ↔ (i < n ∧ f i = w) := by
  constructor
  · intro z; have := (pp_wv hw hf).mp z.symm; exact ⟨this.1, this.2.symm⟩
  · intro z; exact ((pp_wv hw hf).mpr ⟨z.1, z.2.symm⟩).symm
theorem wo_c (hO : wv_O h0) (hH : wv_H h0 h gL gC) (hK : wv_K n1 n2 f1 f2 gL gC 0 0) (c1 : pp_cry h b1 n1 f1) (c2 : pp_cry h b2 n2 f2) {q : Nat} (hq : q < 24) :
    ∀ (s i j k fu : Nat) (x : Int32), k + s = q + 1 → s < fu → i ≤ n1 → j ≤ n2 → s ≤ wv_L n1 n2 f1 f2 (n1 - i) (n2 - j) → s_X7_wordOfFirst_L13 fu 13 b1 b2 (nI q) (nI i) (nI j) x (nI k) h = some (wo_R n1 n2 f1 f2 s i j x, h) := by
  have l1 := c1.le
  have l2 := c2.le
  intro s
  induction s with
  | zero =>
    intro i j k fu x hk hfu hi hj hL
    obtain ⟨fu, rfl⟩ : ∃ z, fu = z + 1 := ⟨fu - 1, by omega⟩
    rw [s_X7_wordOfFirst_L13, if_pos (nI_lt (by omega) (by omega))]
    rfl
  | succ s ih =>
    intro i j k fu x hk hfu hi hj hL
    obtain ⟨fu, rfl⟩ : ∃ z, fu = z + 1 := ⟨fu - 1, by omega⟩
    have hij : i < n1 ∨ j < n2 := by
      by_cases hi2 : i < n1
      · exact Or.inl hi2
      · by_cases hj2 : j < n2
        · exact Or.inr hj2
        · rw [wv_L0 _ _ (Or.inl (by omega))] at hL; omega
    obtain ⟨e1, e2⟩ := fw_c hO hH hK c1 c2 hi hj hij
    have hd := fw_dec (f1 := f1) (f2 := f2) hi hj hij
    have e3 := ih (fw_n n1 f1 (fw_W n1 n2 f1 f2 i j) i) (fw_n n2 f2 (fw_W n1 n2 f1 f2 i j) j) (k + 1) fu (nI (fw_W n1 n2 f1 f2 i j)) (by omega) (by omega) (fw_le hi) (fw_le hj) (by omega)
    rw [s_X7_wordOfFirst_L13, if_neg (nI_nlt (by omega) (by omega)), if_neg (show ¬ (24 : Int32) ≤ nI k from nI_ge (a := k) (b := 24) (by omega) (by decide)), wo_R, ← e3]
    have j56 : ∀ y : Int32, s_X7_wordOfFirst_J56 (s_X7_wordOfFirst_L13 fu) 13 b1 b2 (nI q) (nI j) (nI (fw_W n1 n2 f1 f2 i j)) (nI k) (nI i) y h = s_X7_wordOfFirst_L13 fu 13 b1 b2 (nI q) (nI i + y) (nI (fw_n n2 f2 (fw_W n1 n2 f1 f2 i j) j)) (nI (fw_W n1 n2 f1 f2 i j)) (nI (k + 1)) h := by
      intro y
      unfold s_X7_wordOfFirst_J56 s_X7_wordOfFirst_J77
      simp only [pp_cobj c2, pp_at c2 (show j < 2 ^ 31 by omega), nI_1, pp_bind]
      by_cases hc : j < n2 ∧ f2 j = fw_W n1 n2 f1 f2 i j
      · rw [if_pos ((pp_wn e2 (fun z => c2.lt8 z)).mpr hc), fw_n1 hc]
      · rw [if_neg (fun z => hc ((pp_wn e2 (fun z => c2.lt8 z)).mp z)), fw_n0 hc, Int32.add_zero]
    simp only [pp_obj (wv_13 hO hH), e1, pp_cobj c1, pp_at c1 (show i < 2 ^ 31 by omega), j56, pp_bind]
    by_cases hc : i < n1 ∧ f1 i = fw_W n1 n2 f1 f2 i j
    · rw [if_pos ((pp_wn e2 (fun z => c1.lt8 z)).mpr hc), fw_n1 hc, nI_1]
    · rw [if_neg (fun z => hc ((pp_wn e2 (fun z => c1.lt8 z)).mp z)), fw_n0 hc, Int32.add_zero]
end FWC
section FWM
variable {h0 h : tt_H} {d1 d2 n1 n2 : Nat} {f1 f2 : Nat → Nat} {gY : Nat → Int32} {gC : Nat → Int64}
theorem fw_m (hH : wm_H h0 h gY gC) (hK : wm_K n1 n2 f1 f2 gY gC 0 0) (c1 : pp_m h d1 n1 f1) (c2 : pp_m h d2 n2 f2) {i j : Nat} (hi : i ≤ n1) (hj : j ≤ n2) (hij : i < n1 ∨ j < n2) (fu k : Nat) (xq x : Int32) (hk : ¬ xq < nI k) (hd1 : d1 < 6) (hd2 : d2 < 6) :
    s_X9_wordOf_L12 (fu + 1) 49 (nI d1) (nI d2) xq (nI i) (nI j) x (nI k) h = s_X9_wordOf_L12 fu 49 (nI d1) (nI d2) xq (nI (fw_n n1 f1 (fw_W n1 n2 f1 f2 i j) i)) (nI (fw_n n2 f2 (fw_W n1 n2 f1 f2 i j) j)) (nI (fw_W n1 n2 f1 f2 i j)) (nI (k + 1)) h := by
  have l1 := c1.le
  have l2 := c2.le
  have hmo := c1.1
  have e14 : ∀ (w : Nat), w < 8 → s_X9_wordOf_J212 (s_X9_wordOf_L12 fu) 49 (nI d1) (nI d2) xq (nI i) (nI j) (nI k) (nI w) h = s_X9_wordOf_L12 fu 49 (nI d1) (nI d2) xq (nI (fw_n n1 f1 w i)) (nI (fw_n n2 f2 w j)) (nI w) (nI (k + 1)) h := by
    intro w hw
    have j272 : ∀ (y : Int32) (c : Prop) [Decidable c], (y = if c then 1 else 0) → (∀ z : Int32, (z = if j < n2 ∧ f2 j = w then 1 else 0) → s_X9_wordOf_J272 (s_X9_wordOf_L12 fu) 49 (nI d1) (nI d2) xq (nI i) (nI j) (nI w) (nI k) y z h = s_X9_wordOf_L12 fu 49 (nI d1) (nI d2) xq (if c then nI (i + 1) else nI i) (nI (fw_n n2 f2 w j)) (nI w) (nI (k + 1)) h) := by
      intro y c _ hy z hz
      have j286 : ∀ a b : Int32, s_X9_wordOf_J286 (s_X9_wordOf_L12 fu) 49 (nI d1) (nI d2) xq (nI j) (nI w) (nI k) z a b h = s_X9_wordOf_L12 fu 49 (nI d1) (nI d2) xq (a + b) (nI (fw_n n2 f2 w j)) (nI w) (nI (k + 1)) h := by
        intro a b
        unfold s_X9_wordOf_J286 s_X9_wordOf_J301
        by_cases hc : j < n2 ∧ f2 j = w
        · rw [if_pos hc] at hz
          rw [hz, if_neg (by decide), fw_n1 hc, nI_1, nI_1]
        · rw [if_neg hc] at hz
          rw [hz, if_pos rfl, fw_n0 hc, Int32.add_zero, nI_1]
      unfold s_X9_wordOf_J272
      rw [j286, j286]
      by_cases hc : c
      · rw [if_pos hc] at hy
        rw [hy, if_neg (by decide), if_pos hc, nI_1]
      · rw [if_neg hc] at hy
        rw [hy, if_pos rfl, if_neg hc, Int32.add_zero]
    have j242 : ∀ (y : Int32) (c : Prop) [Decidable c], (y = if c then 1 else 0) → s_X9_wordOf_J242 (s_X9_wordOf_L12 fu) 49 (nI d1) (nI d2) xq (nI i) (nI j) (nI w) (nI k) y h = s_X9_wordOf_L12 fu 49 (nI d1) (nI d2) xq (if c then nI (i + 1) else nI i) (nI (fw_n n2 f2 w j)) (nI w) (nI (k + 1)) h := by
      intro y c _ hy
      unfold s_X9_wordOf_J242 s_X9_wordOf_J271
      rw [mo_7 hmo, pp_bind, pp_mlen c2, pp_bind]
      by_cases hj2 : j < n2
      · have u2 := c2.lt8 hj2
        rw [if_neg (nI_ge hj2 (by omega)), hmo.b, pp_mw c2 hj2, pp_bind]
        simp only []
        by_cases hf : f2 j = w
        · rw [if_pos (by rw [hf])]
          exact j272 y c hy 1 (by rw [if_pos ⟨hj2, hf⟩])
        · rw [if_neg (fun z => hf ((nI_eq (by omega) (by omega)).mp z))]
          exact j272 y c hy 0 (by rw [if_neg (fun z => hf z.2)])
      · rw [if_pos (nI_le (by omega) (by omega))]
        exact j272 y c hy 0 (by rw [if_neg (fun z => hj2 z.1)])
    unfold s_X9_wordOf_J212 s_X9_wordOf_J241
    rw [mo_7 hmo, pp_bind, pp_mlen c1, pp_bind]
    by_cases hi2 : i < n1
    · have u1 := c1.lt8 hi2
      rw [if_neg (nI_ge hi2 (by omega)), hmo.b, pp_mw c1 hi2, pp_bind]
      simp only []
      by_cases hf : f1 i = w
      · rw [if_pos (by rw [hf]), fw_n1 ⟨hi2, hf⟩]
        exact j242 1 True (by rw [if_pos trivial])
      · rw [if_neg (fun z => hf ((nI_eq (by omega) (by omega)).mp z)), fw_n0 (fun z => hf z.2)]
        exact j242 0 False (by rw [if_neg id])
    · rw [if_pos (nI_le (by omega) (by omega)), fw_n0 (fun z => hi2 z.1)]
      exact j242 0 False (by rw [if_neg id])
  have j205 : j < n2 → s_X9_wordOf_J205 (s_X9_wordOf_J212 (s_X9_wordOf_L12 fu)) 49 (nI d1) (nI d2) xq (nI i) (nI j) (nI k) h = s_X9_wordOf_L12 fu 49 (nI d1) (nI d2) xq (nI (fw_n n1 f1 (f2 j) i)) (nI (fw_n n2 f2 (f2 j) j)) (nI (f2 j)) (nI (k + 1)) h := fun hj2 => by
    unfold s_X9_wordOf_J205
    rw [hmo.b, pp_mw c2 hj2, pp_bind]
    exact e14 _ (c2.lt8 hj2)
  have j195 : i < n1 → s_X9_wordOf_J195 (s_X9_wordOf_J212 (s_X9_wordOf_L12 fu)) 49 (nI d1) (nI d2) xq (nI i) (nI j) (nI k) h = s_X9_wordOf_L12 fu 49 (nI d1) (nI d2) xq (nI (fw_n n1 f1 (f1 i) i)) (nI (fw_n n2 f2 (f1 i) j)) (nI (f1 i)) (nI (k + 1)) h := fun hi2 => by
    unfold s_X9_wordOf_J195
    rw [hmo.b, pp_mw c1 hi2, pp_bind]
    exact e14 _ (c1.lt8 hi2)
  rw [s_X9_wordOf_L12, if_neg hk, mo_7 hmo, pp_bind, pp_mlen c1, pp_bind]
  by_cases hi2 : i < n1
  · have u1 := c1.lt8 hi2
    rw [if_neg (nI_ge hi2 (by omega)), pp_bind, pp_mlen c2, pp_bind]
    by_cases hj2 : j < n2
    · have u2 := c2.lt8 hj2
      have f00 := (hK i j (by omega) (by omega) (by omega)).1
      have f10 := (hK (i + 1) j (by omega) (by omega) (by omega)).1
      have f01 := (hK i (j + 1) (by omega) (by omega) (by omega)).1
      have L0 := wv_le (n1 := n1) (n2 := n2) (f1 := f1) (f2 := f2) (n1 - i) (n2 - j)
      have L1 := wv_le (n1 := n1) (n2 := n2) (f1 := f1) (f2 := f2) (n1 - (i + 1)) (n2 - j)
      have L2 := wv_le (n1 := n1) (n2 := n2) (f1 := f1) (f2 := f2) (n1 - i) (n2 - (j + 1))
      have hLs := wv_Lij (f1 := f1) (f2 := f2) hi2 hj2
      have nj : ¬ nI j = nI n2 := fun z => absurd ((nI_eq (by omega) (by omega)).mp z) (by omega)
      have ni : ¬ nI i = nI n1 := fun z => absurd ((nI_eq (by omega) (by omega)).mp z) (by omega)
      unfold fw_W
      rw [if_pos hi2, if_pos hj2, if_neg nj]
      simp only [hmo.b, pp_mw c1 hi2, pp_mw c2 hj2, pp_bind]
      by_cases hf : f1 i = f2 j
      · rw [if_pos (by rw [hf]), if_pos hf]
        unfold s_X9_wordOf_J86 s_X9_wordOf_J91 s_X9_wordOf_J161 s_X9_wordOf_J166
        simp only [mo_7 hmo, pp_mlen c1, pp_mlen c2, nI_ge hj2 (show n2 < 2 ^ 31 by omega), ni, hmo.b, pp_mw c1 hi2, pp_mw c2 hj2, pp_bind, pn_10, ↓reduceIte]
        rw [if_pos (by rw [hf]), if_neg (by rw [hf]; exact nI_nlt (Nat.le_refl _) (by omega))]
        exact j195 hi2
      · have nf : ¬ nI (f1 i) = nI (f2 j) := fun z => hf ((nI_eq (by omega) (by omega)).mp z)
        rw [if_neg hf] at hLs
        rw [if_neg nf, if_neg hf]
        simp only [mo_20 hmo, nI_1, sp_m, pp_il hH.1 (show 13 * (i + 1) + j < 169 by omega) (by decide), pp_il hH.1 (show 13 * i + j < 169 by omega) (by decide), pp_bind]
        rw [f00, f10]
        have j91 : ∀ x8 : Int32, (x8 = if wv_L n1 n2 f1 f2 (n1 - (i + 1)) (n2 - j) ≤ wv_L n1 n2 f1 f2 (n1 - i) (n2 - (j + 1)) then 1 else 0) → s_X9_wordOf_J91 (s_X9_wordOf_L12 fu) 49 (nI d1) (nI d2) xq (nI i) (nI j) (nI k) x8 h = s_X9_wordOf_L12 fu 49 (nI d1) (nI d2) xq (nI (fw_n n1 f1 (if wv_L n1 n2 f1 f2 (n1 - (i + 1)) (n2 - j) = wv_L n1 n2 f1 f2 (n1 - i) (n2 - (j + 1)) then (if f2 j < f1 i then f2 j else f1 i) else if wv_L n1 n2 f1 f2 (n1 - (i + 1)) (n2 - j) < wv_L n1 n2 f1 f2 (n1 - i) (n2 - (j + 1)) then f1 i else f2 j) i)) (nI (fw_n n2 f2 (if wv_L n1 n2 f1 f2 (n1 - (i + 1)) (n2 - j) = wv_L n1 n2 f1 f2 (n1 - i) (n2 - (j + 1)) then (if f2 j < f1 i then f2 j else f1 i) else if wv_L n1 n2 f1 f2 (n1 - (i + 1)) (n2 - j) < wv_L n1 n2 f1 f2 (n1 - i) (n2 - (j + 1)) then f1 i else f2 j) j)) (nI (if wv_L n1 n2 f1 f2 (n1 - (i + 1)) (n2 - j) = wv_L n1 n2 f1 f2 (n1 - i) (n2 - (j + 1)) then (if f2 j < f1 i then f2 j else f1 i) else if wv_L n1 n2 f1 f2 (n1 - (i + 1)) (n2 - j) < wv_L n1 n2 f1 f2 (n1 - i) (n2 - (j + 1)) then f1 i else f2 j)) (nI (k + 1)) h := by
          intro x8 hx8
          unfold s_X9_wordOf_J91 s_X9_wordOf_J161 s_X9_wordOf_J165 s_X9_wordOf_J166
          simp only [mo_7 hmo, mo_20 hmo, pp_mlen c1, pp_mlen c2, nI_ge hj2 (show n2 < 2 ^ 31 by omega), ni, hmo.b, pp_mw c1 hi2, pp_mw c2 hj2, nf, nI_1, sp_m, pp_il hH.1 (show 13 * i + (j + 1) < 169 by omega) (by decide), pp_il hH.1 (show 13 * i + j < 169 by omega) (by decide), pp_bind, pn_10, ↓reduceIte]
          rw [f00, f01]
          by_cases h1 : wv_L n1 n2 f1 f2 (n1 - (i + 1)) (n2 - j) = wv_L n1 n2 f1 f2 (n1 - i) (n2 - (j + 1))
          · rw [if_pos (by omega)] at hx8
            rw [if_neg (by omega)] at hLs
            simp only [if_pos h1]
            rw [if_neg (nI_ge (by omega) (by omega)), hx8, if_neg (by decide)]
            by_cases h2 : f2 j < f1 i
            · rw [if_pos (nI_lt h2 (by omega)), if_pos h2]
              exact j205 hj2
            · rw [if_neg (nI_nlt (by omega) (by omega)), if_neg h2]
              exact j195 hi2
          · simp only [if_neg h1]
            by_cases h2 : wv_L n1 n2 f1 f2 (n1 - (i + 1)) (n2 - j) < wv_L n1 n2 f1 f2 (n1 - i) (n2 - (j + 1))
            · rw [if_pos (by omega)] at hx8
              rw [if_neg (by omega)] at hLs
              simp only [if_pos h2]
              rw [if_pos (nI_le (by omega) (by omega)), hx8, if_neg (by decide)]
              exact j195 hi2
            · rw [if_neg (by omega)] at hx8
              rw [if_pos (by omega)] at hLs
              simp only [if_neg h2]
              rw [if_neg (nI_ge (by omega) (by omega)), hx8, if_pos rfl]
              exact j205 hj2
        by_cases hc : wv_L n1 n2 f1 f2 (n1 - (i + 1)) (n2 - j) ≤ wv_L n1 n2 f1 f2 (n1 - i) (n2 - (j + 1))
        · rw [if_neg (show ¬ wv_L n1 n2 f1 f2 (n1 - i) (n2 - (j + 1)) < wv_L n1 n2 f1 f2 (n1 - (i + 1)) (n2 - j) by omega)] at hLs
          rw [if_neg (nI_ge (by omega) (by omega)), s_X9_wordOf_J86]
          exact j91 1 (by rw [if_pos hc])
        · rw [if_pos (show wv_L n1 n2 f1 f2 (n1 - i) (n2 - (j + 1)) < wv_L n1 n2 f1 f2 (n1 - (i + 1)) (n2 - j) by omega)] at hLs
          rw [if_pos (nI_le (by omega) (by omega)), s_X9_wordOf_J90]
          exact j91 0 (by rw [if_neg hc])
    · unfold fw_W
      rw [if_pos hi2, if_neg hj2, if_pos (show nI j = nI n2 by rw [show j = n2 by omega])]
      unfold s_X9_wordOf_J86 s_X9_wordOf_J91 s_X9_wordOf_J165 s_X9_wordOf_J166
      simp only [mo_7 hmo, pp_mlen c2, nI_le (show n2 ≤ j by omega) (show j < 2 ^ 31 by omega), pp_bind, pn_10, pn_00, ↓reduceIte]
      exact j195 hi2
  · have hj2 : j < n2 := by omega
    unfold fw_W
    rw [if_neg hi2, if_pos (nI_le (by omega) (by omega))]
    unfold s_X9_wordOf_J90 s_X9_wordOf_J91 s_X9_wordOf_J161 s_X9_wordOf_J166
    simp only [mo_7 hmo, pp_mlen c1, pp_mlen c2, nI_ge hj2 (show n2 < 2 ^ 31 by omega), show (nI i = nI n1) = True from eq_true (by rw [show i = n1 by omega]), pp_bind, pn_10, pn_00, ↓reduceIte]
    exact j205 hj2
theorem wo_m (hH : wm_H h0 h gY gC) (hK : wm_K n1 n2 f1 f2 gY gC 0 0) (c1 : pp_m h d1 n1 f1) (c2 : pp_m h d2 n2 f2) {q : Nat} (hq : q < 24) :
    ∀ (s i j k fu : Nat) (x : Int32), k + s = q + 1 → s < fu → i ≤ n1 → j ≤ n2 → s ≤ wv_L n1 n2 f1 f2 (n1 - i) (n2 - j) → s_X9_wordOf_L12 fu 49 (nI d1) (nI d2) (nI q) (nI i) (nI j) x (nI k) h = some (wo_R n1 n2 f1 f2 s i j x, h) := by
  intro s
  induction s with
  | zero =>
    intro i j k fu x hk hfu hi hj hL
    obtain ⟨fu, rfl⟩ : ∃ z, fu = z + 1 := ⟨fu - 1, by omega⟩
    rw [s_X9_wordOf_L12, if_pos (nI_lt (by omega) (by omega))]
    rfl
  | succ s ih =>
    intro i j k fu x hk hfu hi hj hL
    obtain ⟨fu, rfl⟩ : ∃ z, fu = z + 1 := ⟨fu - 1, by omega⟩
    have hij : i < n1 ∨ j < n2 := by
      by_cases hi2 : i < n1
      · exact Or.inl hi2
      · by_cases hj2 : j < n2
        · exact Or.inr hj2
        · rw [wv_L0 _ _ (Or.inl (by omega))] at hL; omega
    have hd := fw_dec (f1 := f1) (f2 := f2) hi hj hij
    rw [fw_m hH hK c1 c2 hi hj hij fu k (nI q) x (nI_nlt (by omega) (by omega)) c1.dlt c2.dlt, wo_R]
    exact ih _ _ (k + 1) fu _ (by omega) (by omega) (fw_le hi) (fw_le hj) (by omega)
end FWM
theorem E_shortest {h : tt_H} (hI : pp_Inv h) (x1 x2 x3 : Int32) : pp_G (s_X8_shortest 0 x1 x2 x3) (s_X9_shortest 49 x1 x2 x3) h := by
  obtain ⟨⟨kn, dc, sz, wd, so, sl, sc, tr, ft⟩, hV, ha, hm⟩ := hI
  have hdc : dc ≤ 6 := hV.2.1
  rcases pp_rng dc (by omega) x1 with ⟨d1, hd1, rfl⟩ | h1
  · have c1 := ca_cry hV ha.1 hd1
    have l1 := c1.le
    rcases pp_rng dc (by omega) x2 with ⟨d2, hd2, rfl⟩ | h2
    · have c2 := ca_cry hV ha.1 hd2
      have l2 := c2.le
      have L0 := wv_le (n1 := sz d1) (n2 := sz d2) (f1 := wd d1) (f2 := wd d2) (sz d1) (sz d2)
      have hO : gg_obj h 13 7 = some [.ref 14, .ref 16] := pp_obj (cl_wO ha.1).1
      by_cases hx : (-1 : Int32) ≤ x3
      · by_cases hx1 : x3 = -1
        · refine pp_G.of (if (-1 : Int32) < nI (wv_L (sz d1) (sz d2) (wd d1) (wd d2) (sz d1) (sz d2)) then wv_C (sz d1) (sz d2) (wd d1) (wd d2) (sz d1) (sz d2) else -9223372036854775808) ha hm hV ?_ (fun h hm => ?_)
          · obtain ⟨h1, gL, gC, e1, e2, e3, e4⟩ := cl_weave ha c1 c2 (by omega) (by omega)
            have e5 := cl_wlen ha.1 e3 e4
            refine ⟨h1, ?_, e2, fun i hi => e3.2.2 i (by omega) (by omega)⟩
            have hO1 : gg_obj h1 13 7 = some [.ref 14, .ref 16] := pp_obj (cl_wO e2.1).1
            unfold s_X8_shortest
            simp only [ca_b ha.1, ca_in hV ha.1 hd1, ca_in hV ha.1 hd2, gg_opt_some, hx1, show (-1 : Int32) ≤ -1 from by decide, ca_6 ha.1, hO, e1, ca_6 e2.1, hO1, e5.1, e5.2, pp_bind, ↓reduceIte]
            by_cases hc : (-1 : Int32) < nI (wv_L (sz d1) (sz d2) (wd d1) (wd d2) (sz d1) (sz d2))
            · rw [if_pos hc, if_pos hc]
            · rw [if_neg hc, if_neg hc]
          · obtain ⟨h1, gY, gC, e1, e2, e3, e4⟩ := ml_lay hV hm hd1 hd2
            refine ⟨h1, ?_, e2, fun i hi => e3.2.2 i (by omega) (by omega)⟩
            have k := e4 0 0 (Nat.zero_le _) (Nat.zero_le _) (Or.inr ⟨rfl, Nat.le_refl _⟩)
            have k0 : gg_il h1 62 0 = some (nI (wv_L (sz d1) (sz d2) (wd d1) (wd d2) (sz d1) (sz d2))) := by rw [show (0 : Int32) = nI 0 from rfl, pp_il e3.1 (by decide) (by decide), k.1]; rfl
            have k1 : gg_jl h1 63 0 = some (wv_C (sz d1) (sz d2) (wd d1) (wd d2) (sz d1) (sz d2)) := by rw [show (0 : Int32) = nI 0 from rfl, pp_jl e3.2.1 (by decide) (by decide), k.2]; rfl
            unfold s_X9_shortest
            simp only [(ma_o hm.1).b, ma_in hV hm.1 hd1, ma_in hV hm.1 hd2, hx1, show (-1 : Int32) ≤ -1 from by decide, e1, mo_20 (ma_o e2.1), mo_21 (ma_o e2.1), k0, k1, pp_bind, pn_10, ↓reduceIte]
            by_cases hc : (-1 : Int32) < nI (wv_L (sz d1) (sz d2) (wd d1) (wd d2) (sz d1) (sz d2))
            · rw [if_pos hc, if_pos hc]
            · rw [if_neg hc, if_neg hc]
        · have h0 : ¬ x3 < 0 := by
            intro z
            rw [Int32.lt_iff_toInt_lt] at z
            rw [Int32.le_iff_toInt_le] at hx
            have e1 : (0 : Int32).toInt = 0 := rfl
            have e2 : (-1 : Int32).toInt = -1 := rfl
            exact hx1 (Int32.toInt_inj.mp (by omega))
          obtain ⟨q, hq, rfl⟩ := nI_of h0
          by_cases hqL : q < wv_L (sz d1) (sz d2) (wd d1) (wd d2) (sz d1) (sz d2)
          · have hlt := nI_lt hqL (show wv_L (sz d1) (sz d2) (wd d1) (wd d2) (sz d1) (sz d2) < 2 ^ 31 by omega)
            refine pp_G.of (wo_R (sz d1) (sz d2) (wd d1) (wd d2) (q + 1) 0 0 0).toInt64 ha hm hV ?_ (fun h hm => ?_)
            · obtain ⟨h1, gL, gC, e1, e2, e3, e4⟩ := cl_weave ha c1 c2 (by omega) (by omega)
              have e5 := cl_wlen ha.1 e3 e4
              refine ⟨h1, ?_, e2, fun i hi => e3.2.2 i (by omega) (by omega)⟩
              have hO1 : gg_obj h1 13 7 = some [.ref 14, .ref 16] := pp_obj (cl_wO e2.1).1
              have e6 : s_X7_wordOfFirst 13 (29 + 2 * d1) (29 + 2 * d2) (nI q) h1 = some (wo_R (sz d1) (sz d2) (wd d1) (wd d2) (q + 1) 0 0 (-9), h1) := wo_c (cl_wO ha.1) e3 e4 (ca_cry hV e2.1 hd1) (ca_cry hV e2.1 hd2) (show q < 24 by omega) (q + 1) 0 0 0 1000 (-9) (by omega) (by omega) (by omega) (by omega) (by rw [Nat.sub_zero, Nat.sub_zero]; omega)
              unfold s_X8_shortest
              simp only [ca_b ha.1, ca_in hV ha.1 hd1, ca_in hV ha.1 hd2, gg_opt_some, hx1, hx, ca_6 ha.1, hO, e1, ca_6 e2.1, hO1, e5.1, hlt, e6, pp_bind, ↓reduceIte]
              rfl
            · obtain ⟨h1, gY, gC, e1, e2, e3, e4⟩ := ml_lay hV hm hd1 hd2
              refine ⟨h1, ?_, e2, fun i hi => e3.2.2 i (by omega) (by omega)⟩
              have k := e4 0 0 (Nat.zero_le _) (Nat.zero_le _) (Or.inr ⟨rfl, Nat.le_refl _⟩)
              have k0 : gg_il h1 62 0 = some (nI (wv_L (sz d1) (sz d2) (wd d1) (wd d2) (sz d1) (sz d2))) := by rw [show (0 : Int32) = nI 0 from rfl, pp_il e3.1 (by decide) (by decide), k.1]; rfl
              have e6 : s_X9_wordOf 49 (nI d1) (nI d2) (nI q) h1 = some (wo_R (sz d1) (sz d2) (wd d1) (wd d2) (q + 1) 0 0 0, h1) := wo_m e3 e4 (ma_day hV e2.1 hd1) (ma_day hV e2.1 hd2) (show q < 24 by omega) (q + 1) 0 0 0 1000 0 (by omega) (by omega) (by omega) (by omega) (by rw [Nat.sub_zero, Nat.sub_zero]; omega)
              unfold s_X9_shortest
              simp only [(ma_o hm.1).b, ma_in hV hm.1 hd1, ma_in hV hm.1 hd2, hx1, hx, e1, mo_20 (ma_o e2.1), k0, hlt, (ma_o e2.1).b, e6, pp_bind, pn_10, ↓reduceIte]
          · have hlt := nI_nlt (show wv_L (sz d1) (sz d2) (wd d1) (wd d2) (sz d1) (sz d2) ≤ q by omega) hq
            refine pp_G.of (-9223372036854775808) ha hm hV ?_ (fun h hm => ?_)
            · obtain ⟨h1, gL, gC, e1, e2, e3, e4⟩ := cl_weave ha c1 c2 (by omega) (by omega)
              have e5 := cl_wlen ha.1 e3 e4
              refine ⟨h1, ?_, e2, fun i hi => e3.2.2 i (by omega) (by omega)⟩
              have hO1 : gg_obj h1 13 7 = some [.ref 14, .ref 16] := pp_obj (cl_wO e2.1).1
              unfold s_X8_shortest
              simp only [ca_b ha.1, ca_in hV ha.1 hd1, ca_in hV ha.1 hd2, gg_opt_some, hx, ca_6 ha.1, hO, e1, ca_6 e2.1, hO1, e5.1, hlt, pp_bind, ↓reduceIte]
            · obtain ⟨h1, gY, gC, e1, e2, e3, e4⟩ := ml_lay hV hm hd1 hd2
              refine ⟨h1, ?_, e2, fun i hi => e3.2.2 i (by omega) (by omega)⟩
              have k := e4 0 0 (Nat.zero_le _) (Nat.zero_le _) (Or.inr ⟨rfl, Nat.le_refl _⟩)
              have k0 : gg_il h1 62 0 = some (nI (wv_L (sz d1) (sz d2) (wd d1) (wd d2) (sz d1) (sz d2))) := by rw [show (0 : Int32) = nI 0 from rfl, pp_il e3.1 (by decide) (by decide), k.1]; rfl
              unfold s_X9_shortest
              simp only [(ma_o hm.1).b, ma_in hV hm.1 hd1, ma_in hV hm.1 hd2, hx, e1, mo_20 (ma_o e2.1), k0, hlt, pp_bind, pn_10, ↓reduceIte]
      · refine pp_G.rd (-9223372036854775808) hV ha hm ?_ (fun h hm => ?_)
        · unfold s_X8_shortest
          simp only [ca_b ha.1, ca_in hV ha.1 hd1, ca_in hV ha.1 hd2, gg_opt_some, hx, pp_bind, ↓reduceIte]
        · unfold s_X9_shortest
          simp only [(ma_o hm.1).b, ma_in hV hm.1 hd1, ma_in hV hm.1 hd2, hx, pp_bind, pn_10, ↓reduceIte]
    · refine pp_G.rd (-9223372036854775808) hV ha hm ?_ (fun h hm => ?_)
      · unfold s_X8_shortest
        simp only [ca_b ha.1, ca_in hV ha.1 hd1, ca_out ha.1 h2, gg_opt_some, gg_opt_none, pp_bind]
      · unfold s_X9_shortest
        simp only [(ma_o hm.1).b, ma_in hV hm.1 hd1, ma_out hm.1 h2, pp_bind, pn_10, pn_00, ↓reduceIte]
  · refine pp_G.rd (-9223372036854775808) hV ha hm ?_ (fun h hm => ?_)
    · unfold s_X8_shortest
      rcases pp_rng dc (by omega) x2 with ⟨d2, hd2, rfl⟩ | h2
      · simp only [ca_b ha.1, ca_out ha.1 h1, ca_in hV ha.1 hd2, gg_opt_none, pp_bind]
      · simp only [ca_b ha.1, ca_out ha.1 h1, ca_out ha.1 h2, gg_opt_none, pp_bind]
    · unfold s_X9_shortest
      simp only [(ma_o hm.1).b, ma_out hm.1 h1, pp_bind, pn_00, ↓reduceIte]
