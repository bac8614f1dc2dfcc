
/-! TABLES of the class (an object b with its row at b + 1), and both shortest and in common -/
theorem pp_cry.cg {h h' : tt_H} {b n : Nat} {f : Nat → Nat} (hc : pp_cry h b n f) (e1 : h' b = h b) (e2 : h' (b + 1) = h (b + 1)) : pp_cry h' b n f := by
  obtain ⟨g, a1, a2, a3⟩ := hc
  exact ⟨g, by rw [e1]; exact a1, by rw [e2]; exact a2, a3⟩
theorem pp_m.cg {h h' : tt_H} {d n : Nat} {f : Nat → Nat} (hc : pp_m h d n f) (e : ∀ i, i ≤ 55 → h' i = h i) : pp_m h' d n f := by
  obtain ⟨⟨ft, tr, dc, at_, rd, pm, po, pt, e0⟩, ln, wr, e1, e2, e3⟩ := hc
  exact ⟨⟨ft, tr, dc, at_, rd, pm, po, pt, by rw [e 49 (by decide)]; exact e0⟩, ln, wr, by rw [e 54 (by decide)]; exact e1, by rw [e 55 (by decide)]; exact e2, e3⟩
section GR
variable {h : tt_H} {b i j : Nat} {g : Nat → Int64}
theorem fa_L1 : (1 : Int64) = lN 1 := rfl
theorem gr_in (hi : i < 13) (hj : j < 13) : s_X4_isInside (nI i) (nI j) h = some (1, h) := by
  unfold s_X4_isInside
  rw [if_neg (nI_pos (by omega)), if_neg (show ¬ (13 : Int32) ≤ nI i from nI_ge (a := i) (b := 13) hi (by decide)), if_neg (nI_pos (by omega)), if_neg (show ¬ (13 : Int32) ≤ nI j from nI_ge (a := j) (b := 13) hj (by decide))]
theorem gr_at (hb : h b = some (tt_ob 4 [.ref (b + 1)])) (hg : h (b + 1) = some (tt_ja 169 g)) (hi : i < 13) (hj : j < 13) : s_X4_at b (nI i) (nI j) h = some (g (i * 13 + j), h) := by
  unfold s_X4_at
  simp only [gr_in hi hj, pp_bind, pn_10, ↓reduceIte]
  rw [pp_fr hb (v := b + 1) rfl, pp_bind, pp_lit 13, pk_mul, nI_add, pp_jl hg (by omega) (by decide), pp_bind]
theorem gr_wr (hb : h b = some (tt_ob 4 [.ref (b + 1)])) (hg : h (b + 1) = some (tt_ja 169 g)) (hi : i < 13) (hj : j < 13) (v : Int64) : s_X4_write b (nI i) (nI j) v h = some ((), va_up h (b + 1) (some (tt_ja 169 (vp_updL g (i * 13 + j) v)))) := by
  unfold s_X4_write
  simp only [gr_in hi hj, pp_bind, pn_10, ↓reduceIte]
  rw [pp_fr hb (v := b + 1) rfl, pp_bind, pp_lit 13, pk_mul, nI_add, pp_js hg (by omega) (by decide), pp_bind]
end GR
def wv_Li (c : Nat) (f2 : Nat → Nat) (n2 a1 : Nat) (prev : Nat → Nat) : Nat → Nat
  | 0 => a1
  | b + 1 => if c = f2 (n2 - (b + 1)) then 1 + prev b else 1 + (if wv_Li c f2 n2 a1 prev b < prev (b + 1) then wv_Li c f2 n2 a1 prev b else prev (b + 1))
def wv_L (n1 n2 : Nat) (f1 f2 : Nat → Nat) : Nat → Nat → Nat
  | 0 => fun b => b
  | a + 1 => wv_Li (f1 (n1 - (a + 1))) f2 n2 (a + 1) (wv_L n1 n2 f1 f2 a)
def wv_Ci (c : Nat) (f2 : Nat → Nat) (n2 : Nat) (pL cL : Nat → Nat) (pC : Nat → Int64) : Nat → Int64
  | 0 => 1
  | b + 1 => if c = f2 (n2 - (b + 1)) then pC b else (if pL (b + 1) ≤ cL b then pC (b + 1) else 0) + (if cL b ≤ pL (b + 1) then wv_Ci c f2 n2 pL cL pC b else 0)
def wv_C (n1 n2 : Nat) (f1 f2 : Nat → Nat) : Nat → Nat → Int64
  | 0 => fun _ => 1
  | a + 1 => wv_Ci (f1 (n1 - (a + 1))) f2 n2 (wv_L n1 n2 f1 f2 a) (wv_L n1 n2 f1 f2 (a + 1)) (wv_C n1 n2 f1 f2 a)
section WV
variable {n1 n2 : Nat} {f1 f2 : Nat → Nat}
theorem wv_Ls (a b : Nat) : wv_L n1 n2 f1 f2 (a + 1) (b + 1) = if f1 (n1 - (a + 1)) = f2 (n2 - (b + 1)) then 1 + wv_L n1 n2 f1 f2 a b else 1 + (if wv_L n1 n2 f1 f2 (a + 1) b < wv_L n1 n2 f1 f2 a (b + 1) then wv_L n1 n2 f1 f2 (a + 1) b else wv_L n1 n2 f1 f2 a (b + 1)) := rfl
theorem wv_Cs (a b : Nat) : wv_C n1 n2 f1 f2 (a + 1) (b + 1) = if f1 (n1 - (a + 1)) = f2 (n2 - (b + 1)) then wv_C n1 n2 f1 f2 a b else (if wv_L n1 n2 f1 f2 a (b + 1) ≤ wv_L n1 n2 f1 f2 (a + 1) b then wv_C n1 n2 f1 f2 a (b + 1) else 0) + (if wv_L n1 n2 f1 f2 (a + 1) b ≤ wv_L n1 n2 f1 f2 a (b + 1) then wv_C n1 n2 f1 f2 (a + 1) b else 0) := rfl
theorem wv_L0 (a b : Nat) (h : a = 0 ∨ b = 0) : wv_L n1 n2 f1 f2 a b = a + b := by
  cases a with
  | zero => exact (Nat.zero_add b).symm
  | succ a =>
    obtain rfl : b = 0 := by omega
    rfl
theorem wv_C0 (a b : Nat) (h : a = 0 ∨ b = 0) : wv_C n1 n2 f1 f2 a b = 1 := by
  cases a with
  | zero => rfl
  | succ a =>
    obtain rfl : b = 0 := by omega
    rfl
theorem wv_le : ∀ a b, wv_L n1 n2 f1 f2 a b ≤ a + b
  | 0, b => by rw [wv_L0 0 b (Or.inl rfl)]; exact Nat.le_refl _
  | a + 1, 0 => by rw [wv_L0 (a + 1) 0 (Or.inr rfl)]; exact Nat.le_refl _
  | a + 1, b + 1 => by
    have i1 := wv_le a b
    have i2 := wv_le a (b + 1)
    rw [wv_Ls]
    split
    · omega
    · split <;> omega
end WV
/-- two rows of the heap, all else as it was -/
def wv_H (h0 h : tt_H) (gL gC : Nat → Int64) : Prop := h 15 = some (tt_ja 169 gL) ∧ h 17 = some (tt_ja 169 gC) ∧ ∀ i, i ≠ 15 → i ≠ 17 → h i = h0 i
section WC
variable {h0 h : tt_H} {b1 b2 n1 n2 : Nat} {f1 f2 : Nat → Nat} {gL gC : Nat → Int64}
def wv_O (h0 : tt_H) : Prop := h0 13 = some (tt_ob 7 [.ref 14, .ref 16]) ∧ h0 14 = some (tt_ob 4 [.ref 15]) ∧ h0 16 = some (tt_ob 4 [.ref 17])
theorem wv_13 (hO : wv_O h0) (hH : wv_H h0 h gL gC) : h 13 = some (tt_ob 7 [.ref 14, .ref 16]) := by rw [hH.2.2 13 (by decide) (by decide)]; exact hO.1
theorem wv_14 (hO : wv_O h0) (hH : wv_H h0 h gL gC) : h 14 = some (tt_ob 4 [.ref 15]) := by rw [hH.2.2 14 (by decide) (by decide)]; exact hO.2.1
theorem wv_16 (hO : wv_O h0) (hH : wv_H h0 h gL gC) : h 16 = some (tt_ob 4 [.ref 17]) := by rw [hH.2.2 16 (by decide) (by decide)]; exact hO.2.2
theorem wv_keep (hO : wv_O h0) (hH : wv_H h0 h gL gC) {i j : Nat} (hi : i < 13) (hj : j < 13) (x y : Int64) : ∃ h1, s_X7_keep 13 (nI i) (nI j) x y h = some ((), h1) ∧ wv_H h0 h1 (vp_updL gL (i * 13 + j) x) (vp_updL gC (i * 13 + j) y) := by
  have e13 := wv_13 hO hH
  have e14 := wv_14 hO hH
  have e16 := wv_16 hO hH
  refine ⟨va_up (va_up h 15 (some (tt_ja 169 (vp_updL gL (i * 13 + j) x)))) 17 (some (tt_ja 169 (vp_updL gC (i * 13 + j) y))), ?_, ?_⟩
  · unfold s_X7_keep
    rw [pp_fr e13 (k := 0) (v := 14) rfl, pp_bind, pp_obj e14, pp_bind, gr_wr e14 hH.1 hi hj, pp_bind, pp_fr (show va_up h (14 + 1) _ 13 = _ by rw [va_up_ne _ _ (by decide)]; exact e13) (k := 1) (v := 16) rfl, pp_bind]
    have e16' : va_up h (14 + 1) (some (tt_ja 169 (vp_updL gL (i * 13 + j) x))) 16 = some (tt_ob 4 [.ref (16 + 1)]) := by rw [va_up_ne _ _ (by decide)]; exact e16
    have e17' : va_up h (14 + 1) (some (tt_ja 169 (vp_updL gL (i * 13 + j) x))) (16 + 1) = some (tt_ja 169 gC) := by rw [va_up_ne _ _ (by decide)]; exact hH.2.1
    rw [pp_obj e16', pp_bind, gr_wr e16' e17' hi hj, pp_bind]
  · exact ⟨by rw [va_up_ne _ _ (by decide), va_up_self], va_up_self _ _ _, fun k h1 h2 => by rw [va_up_ne _ _ h2, va_up_ne _ _ h1]; exact hH.2.2 k h1 h2⟩
/-- the cells that are ready: those from row i on, place j on in row i -/
def wv_K (n1 n2 : Nat) (f1 f2 : Nat → Nat) (gL gC : Nat → Int64) (i j : Nat) : Prop := ∀ x y, x ≤ n1 → y ≤ n2 → (i < x ∨ x = i ∧ j ≤ y) → gL (x * 13 + y) = lN (wv_L n1 n2 f1 f2 (n1 - x) (n2 - y)) ∧ gC (x * 13 + y) = wv_C n1 n2 f1 f2 (n1 - x) (n2 - y)
theorem wv_one (hO : wv_O h0) (hH : wv_H h0 h gL gC) (c1 : pp_cry h0 b1 n1 f1) (c2 : pp_cry h0 b2 n2 f2) (k1 : 29 ≤ b1) (k2 : 29 ≤ b2) {i j : Nat} (hi : i ≤ n1) (hj : j ≤ n2) (hK : wv_K n1 n2 f1 f2 gL gC i (j + 1)) :
    ∃ h1 gL' gC', s_X7_makeAt 13 b1 (nI i) b2 (nI j) h = some ((), h1) ∧ wv_H h0 h1 gL' gC' ∧ wv_K n1 n2 f1 f2 gL' gC' i j := by
  have l1 := c1.le
  have l2 := c2.le
  have e13 := wv_13 hO hH
  have e14 := wv_14 hO hH
  have e16 := wv_16 hO hH
  have c1' : pp_cry h b1 n1 f1 := c1.cg (hH.2.2 _ (by omega) (by omega)) (hH.2.2 _ (by omega) (by omega))
  have c2' : pp_cry h b2 n2 f2 := c2.cg (hH.2.2 _ (by omega) (by omega)) (hH.2.2 _ (by omega) (by omega))
  obtain ⟨h1, k3, k4⟩ := wv_keep hO hH (show i < 13 by omega) (show j < 13 by omega) (lN (wv_L n1 n2 f1 f2 (n1 - i) (n2 - j))) (wv_C n1 n2 f1 f2 (n1 - i) (n2 - j))
  refine ⟨h1, _, _, ?_, k4, fun x y hx hy hxy => ?_⟩
  · have fin : ∀ x y : Int64, x = lN (wv_L n1 n2 f1 f2 (n1 - i) (n2 - j)) → y = wv_C n1 n2 f1 f2 (n1 - i) (n2 - j) → s_X7_keep 13 (nI i) (nI j) x y h = some ((), h1) := by rintro _ _ rfl rfl; exact k3
    have hend : (n1 - i = 0 ∨ n2 - j = 0) → s_X7_makeAt_J17 13 b1 (nI i) b2 (nI j) h = some ((), h1) := fun hz => by
      unfold s_X7_makeAt_J17
      simp only [pp_cobj c1', pp_size c1', pp_cobj c2', pp_size c2', pp_obj e13, pp_bind]
      rw [fin _ _ (by rw [pk_sub hi, nI_add, pk_sub (by omega), nI_l (by omega), wv_L0 _ _ hz, show n1 - i + n2 - j = n1 - i + (n2 - j) by omega]) (by rw [wv_C0 _ _ hz]), pp_bind]
    unfold s_X7_makeAt
    simp only [pp_cobj c1', pp_cobj c2', pp_has c1' (show i < 2 ^ 31 by omega), pp_has c2' (show j < 2 ^ 31 by omega), pp_bind]
    by_cases hi2 : i < n1
    · rw [if_pos hi2, if_neg (by decide)]
      by_cases hj2 : j < n2
      · rw [if_pos hj2, if_neg (by decide)]
        have b1 := c1.lt8 hi2
        have b2 := c2.lt8 hj2
        have f00 := hK (i + 1) (j + 1) (by omega) (by omega) (Or.inl (Nat.lt_succ_self i))
        have f10 := hK (i + 1) j (by omega) (by omega) (Or.inl (Nat.lt_succ_self i))
        have f01 := hK i (j + 1) (by omega) (by omega) (Or.inr ⟨rfl, Nat.le_refl _⟩)
        have ea : n1 - i = n1 - (i + 1) + 1 := by omega
        have eb : n2 - j = n2 - (j + 1) + 1 := by omega
        have L1 := wv_le (n1 := n1) (n2 := n2) (f1 := f1) (f2 := f2) (n1 - (i + 1)) (n2 - j)
        have L2 := wv_le (n1 := n1) (n2 := n2) (f1 := f1) (f2 := f2) (n1 - i) (n2 - (j + 1))
        have hLs : wv_L n1 n2 f1 f2 (n1 - i) (n2 - j) = if f1 i = f2 j then 1 + wv_L n1 n2 f1 f2 (n1 - (i + 1)) (n2 - (j + 1)) else 1 + (if wv_L n1 n2 f1 f2 (n1 - i) (n2 - (j + 1)) < wv_L n1 n2 f1 f2 (n1 - (i + 1)) (n2 - j) then wv_L n1 n2 f1 f2 (n1 - i) (n2 - (j + 1)) else wv_L n1 n2 f1 f2 (n1 - (i + 1)) (n2 - j)) := by
          rw [ea, eb, wv_Ls, show n1 - (n1 - (i + 1) + 1) = i by omega, show n2 - (n2 - (j + 1) + 1) = j by omega]
        have hCs : wv_C n1 n2 f1 f2 (n1 - i) (n2 - j) = if f1 i = f2 j then wv_C n1 n2 f1 f2 (n1 - (i + 1)) (n2 - (j + 1)) else (if wv_L n1 n2 f1 f2 (n1 - (i + 1)) (n2 - j) ≤ wv_L n1 n2 f1 f2 (n1 - i) (n2 - (j + 1)) then wv_C n1 n2 f1 f2 (n1 - (i + 1)) (n2 - j) else 0) + (if wv_L n1 n2 f1 f2 (n1 - i) (n2 - (j + 1)) ≤ wv_L n1 n2 f1 f2 (n1 - (i + 1)) (n2 - j) then wv_C n1 n2 f1 f2 (n1 - i) (n2 - (j + 1)) else 0) := by
          rw [ea, eb, wv_Cs, show n1 - (n1 - (i + 1) + 1) = i by omega, show n2 - (n2 - (j + 1) + 1) = j by omega]
        simp only [pp_cobj c1', pp_cobj c2', pp_at c1' (show i < 2 ^ 31 by omega), pp_at c2' (show j < 2 ^ 31 by omega), pp_bind]
        by_cases hf : f1 i = f2 j
        · rw [if_pos hf] at hLs hCs
          rw [if_pos ((pp_w_eq hi2 hj2 b1 b2).mpr hf)]
          simp only [pp_obj e13, pp_fr e13 (k := 0) (v := 14) rfl, pp_fr e13 (k := 1) (v := 16) rfl, pp_obj e14, pp_obj e16, nI_1, gr_at e14 hH.1 (show i + 1 < 13 by omega) (show j + 1 < 13 by omega), gr_at e16 hH.2.1 (show i + 1 < 13 by omega) (show j + 1 < 13 by omega), pp_bind]
          rw [fin _ _ (by rw [f00.1, hLs, fa_L1, lN_add]) (by rw [f00.2, hCs]), pp_bind]
        · rw [if_neg hf] at hLs hCs
          rw [if_neg (fun z => hf ((pp_w_eq hi2 hj2 b1 b2).mp z))]
          have last : ∀ u v : Int64, u + v = wv_C n1 n2 f1 f2 (n1 - i) (n2 - j) → s_X7_makeAt_J173 13 (nI i) (nI j) (lN (wv_L n1 n2 f1 f2 (n1 - (i + 1)) (n2 - j))) (lN (wv_L n1 n2 f1 f2 (n1 - i) (n2 - (j + 1)))) u v h = some ((), h1) := by
            intro u v huv
            unfold s_X7_makeAt_J173
            simp only [pp_obj e13, pp_bind]
            rw [fin _ _ (by
              rw [hLs]
              by_cases hc : wv_L n1 n2 f1 f2 (n1 - i) (n2 - (j + 1)) < wv_L n1 n2 f1 f2 (n1 - (i + 1)) (n2 - j)
              · rw [if_pos ((lN_lt (by omega) (by omega)).mpr hc), if_pos hc, fa_L1, lN_add]
              · rw [if_neg (fun z => hc ((lN_lt (by omega) (by omega)).mp z)), if_neg hc, fa_L1, lN_add]) huv, pp_bind]
          have mid : ∀ u : Int64, u = (if wv_L n1 n2 f1 f2 (n1 - (i + 1)) (n2 - j) ≤ wv_L n1 n2 f1 f2 (n1 - i) (n2 - (j + 1)) then wv_C n1 n2 f1 f2 (n1 - (i + 1)) (n2 - j) else 0) → s_X7_makeAt_J149 13 (nI i) (nI j) (lN (wv_L n1 n2 f1 f2 (n1 - (i + 1)) (n2 - j))) (lN (wv_L n1 n2 f1 f2 (n1 - i) (n2 - (j + 1)))) u h = some ((), h1) := by
            intro u hu
            unfold s_X7_makeAt_J149
            by_cases hc : wv_L n1 n2 f1 f2 (n1 - i) (n2 - (j + 1)) ≤ wv_L n1 n2 f1 f2 (n1 - (i + 1)) (n2 - j)
            · rw [if_neg (fun z => absurd ((lN_lt (by omega) (by omega)).mp ((lg_cmp_gt _ _).mp z)) (by omega))]
              simp only [pp_fr e13 (k := 1) (v := 16) rfl, pp_obj e16, nI_1, gr_at e16 hH.2.1 (show i < 13 by omega) (show j + 1 < 13 by omega), pp_bind]
              rw [f01.2]
              exact last _ _ (by rw [hCs, hu, if_pos hc])
            · rw [if_pos ((lg_cmp_gt _ _).mpr ((lN_lt (by omega) (by omega)).mpr (by omega)))]
              exact last _ _ (by rw [hCs, hu, if_neg hc])
          simp only [pp_fr e13 (k := 0) (v := 14) rfl, pp_fr e13 (k := 1) (v := 16) rfl, pp_obj e14, pp_obj e16, nI_1, gr_at e14 hH.1 (show i + 1 < 13 by omega) (show j < 13 by omega), gr_at e14 hH.1 (show i < 13 by omega) (show j + 1 < 13 by omega), gr_at e16 hH.2.1 (show i + 1 < 13 by omega) (show j < 13 by omega), pp_bind]
          rw [f10.1, f01.1, f10.2]
          by_cases hc : wv_L n1 n2 f1 f2 (n1 - (i + 1)) (n2 - j) ≤ wv_L n1 n2 f1 f2 (n1 - i) (n2 - (j + 1))
          · rw [if_neg (fun z => absurd ((lN_lt (by omega) (by omega)).mp ((lg_cmp_gt _ _).mp z)) (by omega))]
            exact mid _ (by rw [if_pos hc])
          · rw [if_pos ((lg_cmp_gt _ _).mpr ((lN_lt (by omega) (by omega)).mpr (by omega)))]
            exact mid _ (by rw [if_neg hc])
      · rw [if_neg hj2, if_pos rfl]
        exact hend (Or.inr (by omega))
    · rw [if_neg hi2, if_pos rfl]
      exact hend (Or.inl (by omega))
  · by_cases hxy2 : x = i ∧ y = j
    · obtain ⟨rfl, rfl⟩ := hxy2
      rw [pk_uLs, pk_uLs]
      exact ⟨rfl, rfl⟩
    · have hne : x * 13 + y ≠ i * 13 + j := by omega
      rw [pk_uLn hne, pk_uLn hne]
      exact hK x y hx hy (by omega)
theorem wv_c1 (hO : wv_O h0) (c1 : pp_cry h0 b1 n1 f1) (c2 : pp_cry h0 b2 n2 f2) (k1 : 29 ≤ b1) (k2 : 29 ≤ b2) (κ : Nat → Nat → Nat → Int32 → tt_H → Option (Unit × tt_H)) {i : Nat} (hi : i ≤ n1) :
    ∀ (t fu : Nat) (h : tt_H) (gL gC : Nat → Int64), wv_H h0 h gL gC → wv_K n1 n2 f1 f2 gL gC i t → t ≤ n2 + 1 → t < fu → ∃ h1 gL' gC', s_X7_make_L15 κ fu 13 b1 b2 (nI i) (nI t + (-1)) h = κ 13 b1 b2 (nI i + (-1)) h1 ∧ wv_H h0 h1 gL' gC' ∧ wv_K n1 n2 f1 f2 gL' gC' i 0 := by
  have l2 := c2.le
  intro t
  induction t with
  | zero =>
    intro fu h gL gC hH hK ht hfu
    obtain ⟨fu, rfl⟩ : ∃ z, fu = z + 1 := ⟨fu - 1, by omega⟩
    refine ⟨h, gL, gC, ?_, hH, hK⟩
    rw [s_X7_make_L15, if_pos (show nI 0 + (-1) < 0 by decide)]
  | succ t ih =>
    intro fu h gL gC hH hK ht hfu
    obtain ⟨fu, rfl⟩ : ∃ z, fu = z + 1 := ⟨fu - 1, by omega⟩
    obtain ⟨h1, gL1, gC1, e1, e2, e3⟩ := wv_one hO hH c1 c2 k1 k2 hi (show t ≤ n2 by omega) hK
    obtain ⟨h2, gL2, gC2, e4, e5, e6⟩ := ih fu h1 gL1 gC1 e2 e3 (by omega) (by omega)
    refine ⟨h2, gL2, gC2, ?_, e5, e6⟩
    rw [s_X7_make_L15, pk_m1, if_neg (nI_pos (by omega)), pp_obj (wv_13 hO hH), pp_bind, e1, pp_bind]
    exact e4
theorem wv_c2 (hO : wv_O h0) (c1 : pp_cry h0 b1 n1 f1) (c2 : pp_cry h0 b2 n2 f2) (k1 : 29 ≤ b1) (k2 : 29 ≤ b2) :
    ∀ (t fu : Nat) (h : tt_H) (gL gC : Nat → Int64), wv_H h0 h gL gC → wv_K n1 n2 f1 f2 gL gC t 0 → t ≤ n1 + 1 → t < fu → ∃ h1 gL' gC', s_X7_make_L5 fu 13 b1 b2 (nI t + (-1)) h = some ((), h1) ∧ wv_H h0 h1 gL' gC' ∧ wv_K n1 n2 f1 f2 gL' gC' 0 0 := by
  have l1 := c1.le
  have l2 := c2.le
  intro t
  induction t with
  | zero =>
    intro fu h gL gC hH hK ht hfu
    obtain ⟨fu, rfl⟩ : ∃ z, fu = z + 1 := ⟨fu - 1, by omega⟩
    refine ⟨h, gL, gC, ?_, hH, hK⟩
    rw [s_X7_make_L5, if_pos (show nI 0 + (-1) < 0 by decide)]
  | succ t ih =>
    intro fu h gL gC hH hK ht hfu
    obtain ⟨fu, rfl⟩ : ∃ z, fu = z + 1 := ⟨fu - 1, by omega⟩
    have c2' : pp_cry h b2 n2 f2 := c2.cg (hH.2.2 _ (by omega) (by omega)) (hH.2.2 _ (by omega) (by omega))
    obtain ⟨h1, gL1, gC1, e1, e2, e3⟩ := wv_c1 hO c1 c2 k1 k2 (s_X7_make_L5 fu) (show t ≤ n1 by omega) (n2 + 1) 1000 h gL gC hH (fun x y hx hy hxy => hK x y hx hy (by omega)) (Nat.le_refl _) (by omega)
    obtain ⟨h2, gL2, gC2, e4, e5, e6⟩ := ih fu h1 gL1 gC1 e2 e3 (by omega) (by omega)
    refine ⟨h2, gL2, gC2, ?_, e5, e6⟩
    rw [pk_m1] at e1
    rw [s_X7_make_L5, pk_m1, if_neg (nI_pos (by omega)), pp_cobj c2', pp_bind, pp_size c2', pp_bind]
    exact e1.trans e4
end WC
section WS
variable {kn : Nat → Nat} {dc : Nat} {sz : Nat → Nat} {wd : Nat → Nat → Nat} {so sl : Nat → Nat} {sc : Nat → Nat → Int32} {tr ft : Int32} {h : tt_H} {b1 b2 n1 n2 : Nat} {f1 f2 : Nat → Nat}
theorem cl_wO (ha : cc_I (kn, dc, sz, wd, so, sl, sc, tr, ft) h) : wv_O h := by
  obtain ⟨-, -, -, -, -, -, -, -, -, e13, e14, e16, -⟩ := ha
  exact ⟨e13, e14, e16⟩
theorem cl_weave (ha : cc_A (kn, dc, sz, wd, so, sl, sc, tr, ft) h) (c1 : pp_cry h b1 n1 f1) (c2 : pp_cry h b2 n2 f2) (k1 : 29 ≤ b1) (k2 : 29 ≤ b2) :
    ∃ h1 gL gC, s_X7_make 13 b1 b2 h = some ((), h1) ∧ cc_A (kn, dc, sz, wd, so, sl, sc, tr, ft) h1 ∧ wv_H h h1 gL gC ∧ wv_K n1 n2 f1 f2 gL gC 0 0 := by
  have l1 := c1.le
  obtain ⟨gL, eL⟩ := ha.2.2.1 (15, 169) (by decide)
  obtain ⟨gC, eC⟩ := ha.2.2.1 (17, 169) (by decide)
  obtain ⟨h1, gL1, gC1, e1, e2, e3⟩ := wv_c2 (cl_wO ha.1) c1 c2 k1 k2 (n1 + 1) 1000 h gL gC ⟨eL, eC, fun _ _ _ => rfl⟩ (fun x y hx hy hxy => by omega) (Nat.le_refl _) (by omega)
  refine ⟨h1, gL1, gC1, ?_, ?_, e2, e3⟩
  · unfold s_X7_make
    rw [pk_m1] at e1
    rw [pp_cobj c1, pp_bind, pp_size c1, pp_bind]
    exact e1
  · have : h1 = va_up (va_up h 15 (some (tt_ja 169 gL1))) 17 (some (tt_ja 169 gC1)) := by
      funext i
      by_cases h17 : i = 17
      · rw [h17, va_up_self]; exact e2.2.1
      · rw [va_up_ne _ _ h17]
        by_cases h15 : i = 15
        · rw [h15, va_up_self]; exact e2.1
        · rw [va_up_ne _ _ h15]; exact e2.2.2 i h15 h17
    rw [this]
    exact (ha.upJ (p := 15) (N := 169) (by decide) gL1).upJ (p := 17) (N := 169) (by decide) gC1
theorem cl_wlen (ha : cc_I (kn, dc, sz, wd, so, sl, sc, tr, ft) h) {gL gC : Nat → Int64} {h1 : tt_H} (hH : wv_H h h1 gL gC) (hK : wv_K n1 n2 f1 f2 gL gC 0 0) : s_X7_length 13 h1 = some (nI (wv_L n1 n2 f1 f2 n1 n2), h1) ∧ s_X7_howMany 13 h1 = some (wv_C n1 n2 f1 f2 n1 n2, h1) := by
  have hO := cl_wO ha
  have k := hK 0 0 (Nat.zero_le _) (Nat.zero_le _) (Or.inr ⟨rfl, Nat.le_refl _⟩)
  rw [Nat.sub_zero, Nat.sub_zero] at k
  constructor
  · unfold s_X7_length
    rw [pp_fr (wv_13 hO hH) (k := 0) (v := 14) rfl, pp_bind, pp_obj (wv_14 hO hH), pp_bind, show (0 : Int32) = nI 0 from rfl, gr_at (wv_14 hO hH) hH.1 (by decide) (by decide), pp_bind, k.1, lN_i]
  · unfold s_X7_howMany
    rw [pp_fr (wv_13 hO hH) (k := 1) (v := 16) rfl, pp_bind, pp_obj (wv_16 hO hH), pp_bind, show (0 : Int32) = nI 0 from rfl, gr_at (wv_16 hO hH) hH.2.1 (by decide) (by decide), pp_bind, k.2]
end WS
/-! the model's tables: 62 the lengths, 63 the counts -/
def wm_H (h0 h : tt_H) (gY : Nat → Int32) (gC : Nat → Int64) : Prop := h 62 = some (tt_ia 169 gY) ∧ h 63 = some (tt_ja 169 gC) ∧ ∀ i, i ≠ 62 → i ≠ 63 → h i = h0 i
def wm_K (n1 n2 : Nat) (f1 f2 : Nat → Nat) (gY : Nat → Int32) (gC : Nat → Int64) (i j : Nat) : Prop := ∀ x y, x ≤ n1 → y ≤ n2 → (i < x ∨ x = i ∧ j ≤ y) → gY (13 * x + y) = nI (wv_L n1 n2 f1 f2 (n1 - x) (n2 - y)) ∧ gC (13 * x + y) = wv_C n1 n2 f1 f2 (n1 - x) (n2 - y)
section WM
variable {h0 h : tt_H} {d1 d2 n1 n2 : Nat} {f1 f2 : Nat → Nat} {gY : Nat → Int32} {gC : Nat → Int64}
theorem wm_up (hH : wm_H h0 h gY gC) (gY' : Nat → Int32) (gC' : Nat → Int64) : wm_H h0 (va_up (va_up h 62 (some (tt_ia 169 gY'))) 63 (some (tt_ja 169 gC'))) gY' gC' :=
  ⟨by rw [va_up_ne _ _ (by decide), va_up_self], va_up_self _ _ _, fun k h1 h2 => by rw [va_up_ne _ _ h2, va_up_ne _ _ h1]; exact hH.2.2 k h1 h2⟩
theorem wm_one (hH : wm_H h0 h gY gC) (c1 : pp_m h0 d1 n1 f1) (c2 : pp_m h0 d2 n2 f2) {i j : Nat} (hi : i ≤ n1) (hj : j ≤ n2) (hK : wm_K n1 n2 f1 f2 gY gC i (j + 1)) :
    ∃ h1 gY' gC', s_X9_layOne 49 (nI d1) (nI d2) (nI i) (nI j) h = some ((), h1) ∧ wm_H h0 h1 gY' gC' ∧ wm_K n1 n2 f1 f2 gY' gC' i j := by
  have l1 := c1.le
  have l2 := c2.le
  have c1' : pp_m h d1 n1 f1 := c1.cg (fun k hk => hH.2.2 k (by omega) (by omega))
  have c2' : pp_m h d2 n2 f2 := c2.cg (fun k hk => hH.2.2 k (by omega) (by omega))
  have hmo := c1'.1
  have hmo2 : ∀ g : Nat → Int32, pp_mo (va_up h 62 (some (tt_ia 169 g))) := fun g => hmo.up _ (by decide)
  have e63 : ∀ g : Nat → Int32, va_up h 62 (some (tt_ia 169 g)) 63 = some (tt_ja 169 gC) := fun g => by rw [va_up_ne _ _ (by decide)]; exact hH.2.1
  refine ⟨va_up (va_up h 62 (some (tt_ia 169 (upd gY (13 * i + j) (nI (wv_L n1 n2 f1 f2 (n1 - i) (n2 - j))))))) 63 (some (tt_ja 169 (vp_updL gC (13 * i + j) (wv_C n1 n2 f1 f2 (n1 - i) (n2 - j))))), _, _, ?_, wm_up hH _ _, fun x y hx hy hxy => ?_⟩
  · have hix : 13 * i + j < 169 := by omega
    have hend : (n1 - i = 0 ∨ n2 - j = 0) → s_X9_layOne_J29 49 (nI d1) (nI d2) (nI i) (nI j) (nI (13 * i + j)) h = some ((), va_up (va_up h 62 (some (tt_ia 169 (upd gY (13 * i + j) (nI (wv_L n1 n2 f1 f2 (n1 - i) (n2 - j))))))) 63 (some (tt_ja 169 (vp_updL gC (13 * i + j) (wv_C n1 n2 f1 f2 (n1 - i) (n2 - j)))))) := fun hz => by
      unfold s_X9_layOne_J29
      simp only [mo_20 hmo, mo_7 hmo, pp_mlen c1', pp_mlen c2', pk_sub hi, nI_add, pk_sub (show j ≤ n1 - i + n2 by omega), pp_is hH.1 hix (by decide), mo_21 (hmo2 _), pp_js (e63 _) hix (by decide), pp_bind]
      rw [wv_L0 _ _ hz, wv_C0 _ _ hz, show n1 - i + n2 - j = n1 - i + (n2 - j) by omega]
    unfold s_X9_layOne
    simp only [sp_m, mo_7 hmo, pp_mlen c1', pp_mlen c2', pp_bind]
    by_cases hi2 : i < n1
    · rw [if_neg (fun z => absurd ((nI_eq (by omega) (by omega)).mp z) (by omega))]
      by_cases hj2 : j < n2
      · rw [if_neg (fun z => absurd ((nI_eq (by omega) (by omega)).mp z) (by omega))]
        have b1 := c1.lt8 hi2
        have b2 := c2.lt8 hj2
        have f00 := hK (i + 1) (j + 1) (by omega) (by omega) (Or.inl (Nat.lt_succ_self i))
        have f10 := hK (i + 1) j (by omega) (by omega) (Or.inl (Nat.lt_succ_self i))
        have f01 := hK i (j + 1) (by omega) (by omega) (Or.inr ⟨rfl, Nat.le_refl _⟩)
        have ea : n1 - i = n1 - (i + 1) + 1 := by omega
        have eb : n2 - j = n2 - (j + 1) + 1 := by omega
        have L1 := wv_le (n1 := n1) (n2 := n2) (f1 := f1) (f2 := f2) (n1 - (i + 1)) (n2 - j)
        have L2 := wv_le (n1 := n1) (n2 := n2) (f1 := f1) (f2 := f2) (n1 - i) (n2 - (j + 1))
        have hLs : wv_L n1 n2 f1 f2 (n1 - i) (n2 - j) = if f1 i = f2 j then 1 + wv_L n1 n2 f1 f2 (n1 - (i + 1)) (n2 - (j + 1)) else 1 + (if wv_L n1 n2 f1 f2 (n1 - i) (n2 - (j + 1)) < wv_L n1 n2 f1 f2 (n1 - (i + 1)) (n2 - j) then wv_L n1 n2 f1 f2 (n1 - i) (n2 - (j + 1)) else wv_L n1 n2 f1 f2 (n1 - (i + 1)) (n2 - j)) := by
          rw [ea, eb, wv_Ls, show n1 - (n1 - (i + 1) + 1) = i by omega, show n2 - (n2 - (j + 1) + 1) = j by omega]
        have hCs : wv_C n1 n2 f1 f2 (n1 - i) (n2 - j) = if f1 i = f2 j then wv_C n1 n2 f1 f2 (n1 - (i + 1)) (n2 - (j + 1)) else (if wv_L n1 n2 f1 f2 (n1 - (i + 1)) (n2 - j) ≤ wv_L n1 n2 f1 f2 (n1 - i) (n2 - (j + 1)) then wv_C n1 n2 f1 f2 (n1 - (i + 1)) (n2 - j) else 0) + (if wv_L n1 n2 f1 f2 (n1 - i) (n2 - (j + 1)) ≤ wv_L n1 n2 f1 f2 (n1 - (i + 1)) (n2 - j) then wv_C n1 n2 f1 f2 (n1 - i) (n2 - (j + 1)) else 0) := by
          rw [ea, eb, wv_Cs, show n1 - (n1 - (i + 1) + 1) = i by omega, show n2 - (n2 - (j + 1) + 1) = j by omega]
        simp only [hmo.b, pp_mw c1' hi2, pp_mw c2' hj2, pp_bind]
        by_cases hf : f1 i = f2 j
        · rw [if_pos hf] at hLs hCs
          rw [if_pos (by rw [hf])]
          simp only [mo_20 hmo, nI_1, sp_m, pp_il hH.1 (show 13 * (i + 1) + (j + 1) < 169 by omega) (by decide), pp_is hH.1 hix (by decide), mo_21 (hmo2 _), pp_jl (e63 _) (show 13 * (i + 1) + (j + 1) < 169 by omega) (by decide), pp_js (e63 _) hix (by decide), pp_bind]
          rw [f00.1, f00.2, hLs, hCs, pp_lit 1, nI_add]
        · rw [if_neg hf] at hLs hCs
          rw [if_neg (fun z => hf ((nI_eq (by omega) (by omega)).mp z))]
          have last : ∀ u : Int64, u = (if wv_L n1 n2 f1 f2 (n1 - (i + 1)) (n2 - j) ≤ wv_L n1 n2 f1 f2 (n1 - i) (n2 - (j + 1)) then wv_C n1 n2 f1 f2 (n1 - (i + 1)) (n2 - j) else 0) → s_X9_layOne_J209 49 (nI i) (nI j) (nI (wv_L n1 n2 f1 f2 (n1 - (i + 1)) (n2 - j))) (nI (wv_L n1 n2 f1 f2 (n1 - i) (n2 - (j + 1)))) 63 (nI (13 * i + j)) u (va_up h 62 (some (tt_ia 169 (upd gY (13 * i + j) (nI (wv_L n1 n2 f1 f2 (n1 - i) (n2 - j))))))) = some ((), va_up (va_up h 62 (some (tt_ia 169 (upd gY (13 * i + j) (nI (wv_L n1 n2 f1 f2 (n1 - i) (n2 - j))))))) 63 (some (tt_ja 169 (vp_updL gC (13 * i + j) (wv_C n1 n2 f1 f2 (n1 - i) (n2 - j)))))) := by
            intro u hu
            unfold s_X9_layOne_J209
            by_cases hc : wv_L n1 n2 f1 f2 (n1 - i) (n2 - (j + 1)) ≤ wv_L n1 n2 f1 f2 (n1 - (i + 1)) (n2 - j)
            · rw [if_neg (nI_nlt hc (by omega))]
              simp only [mo_21 (hmo2 _), nI_1, sp_m, pp_jl (e63 _) (show 13 * i + (j + 1) < 169 by omega) (by decide), pp_js (e63 _) hix (by decide), pp_bind]
              rw [f01.2, hCs, hu, if_pos hc]
            · rw [if_pos (nI_lt (by omega) (by omega))]
              simp only [pp_js (e63 _) hix (by decide), pp_bind]
              rw [hCs, hu, if_neg hc]
          have mid : ∀ u : Int32, 1 + u = nI (wv_L n1 n2 f1 f2 (n1 - i) (n2 - j)) → s_X9_layOne_J177 49 (nI i) (nI j) (nI (13 * i + j)) (nI (wv_L n1 n2 f1 f2 (n1 - (i + 1)) (n2 - j))) (nI (wv_L n1 n2 f1 f2 (n1 - i) (n2 - (j + 1)))) 62 (nI (13 * i + j)) 1 u h = some ((), va_up (va_up h 62 (some (tt_ia 169 (upd gY (13 * i + j) (nI (wv_L n1 n2 f1 f2 (n1 - i) (n2 - j))))))) 63 (some (tt_ja 169 (vp_updL gC (13 * i + j) (wv_C n1 n2 f1 f2 (n1 - i) (n2 - j)))))) := by
            intro u hu
            unfold s_X9_layOne_J177
            rw [hu]
            simp only [pp_is hH.1 hix (by decide), mo_21 (hmo2 _), pp_bind]
            by_cases hc : wv_L n1 n2 f1 f2 (n1 - (i + 1)) (n2 - j) ≤ wv_L n1 n2 f1 f2 (n1 - i) (n2 - (j + 1))
            · rw [if_neg (nI_nlt hc (by omega))]
              simp only [nI_1, sp_m, pp_jl (e63 _) (show 13 * (i + 1) + j < 169 by omega) (by decide), pp_bind]
              rw [f10.2]
              exact last _ (by rw [if_pos hc])
            · rw [if_pos (nI_lt (by omega) (by omega))]
              exact last _ (by rw [if_neg hc])
          simp only [mo_20 hmo, nI_1, sp_m, pp_il hH.1 (show 13 * (i + 1) + j < 169 by omega) (by decide), pp_il hH.1 (show 13 * i + (j + 1) < 169 by omega) (by decide), pp_bind]
          rw [f10.1, f01.1]
          by_cases hc : wv_L n1 n2 f1 f2 (n1 - i) (n2 - (j + 1)) ≤ wv_L n1 n2 f1 f2 (n1 - (i + 1)) (n2 - j)
          · rw [if_pos (nI_le hc (by omega))]
            refine mid _ ?_
            rw [pp_lit 1, nI_add, hLs]
            by_cases hc2 : wv_L n1 n2 f1 f2 (n1 - i) (n2 - (j + 1)) < wv_L n1 n2 f1 f2 (n1 - (i + 1)) (n2 - j)
            · rw [if_pos hc2]
            · rw [if_neg hc2, show wv_L n1 n2 f1 f2 (n1 - i) (n2 - (j + 1)) = wv_L n1 n2 f1 f2 (n1 - (i + 1)) (n2 - j) by omega]
          · rw [if_neg (nI_ge (by omega) (by omega))]
            refine mid _ ?_
            rw [pp_lit 1, nI_add, hLs, if_neg (by omega)]
      · rw [if_pos (show nI j = nI n2 by rw [show j = n2 by omega])]
        exact hend (Or.inr (by omega))
    · rw [if_pos (show nI i = nI n1 by rw [show i = n1 by omega])]
      exact hend (Or.inl (by omega))
  · by_cases hxy2 : x = i ∧ y = j
    · obtain ⟨rfl, rfl⟩ := hxy2
      rw [pk_us, pk_uLs]
      exact ⟨rfl, rfl⟩
    · have hne : 13 * x + y ≠ 13 * i + j := by omega
      rw [pk_un hne, pk_uLn hne]
      exact hK x y hx hy (by omega)
theorem wm_1 (c1 : pp_m h0 d1 n1 f1) (c2 : pp_m h0 d2 n2 f2) (κ : Nat → Int32 → Int32 → Int32 → tt_H → Option (Unit × tt_H)) {i : Nat} (hi : i ≤ n1) :
    ∀ (t fu : Nat) (h : tt_H) (gY : Nat → Int32) (gC : Nat → Int64), wm_H h0 h gY gC → wm_K n1 n2 f1 f2 gY gC i t → t ≤ n2 + 1 → t < fu → ∃ h1 gY' gC', s_X9_layYet_L19 κ fu 49 (nI d1) (nI d2) (nI i) (nI t + (-1)) h = κ 49 (nI d1) (nI d2) (nI i + (-1)) h1 ∧ wm_H h0 h1 gY' gC' ∧ wm_K n1 n2 f1 f2 gY' gC' i 0 := by
  have l2 := c2.le
  intro t
  induction t with
  | zero =>
    intro fu h gY gC hH hK ht hfu
    obtain ⟨fu, rfl⟩ : ∃ z, fu = z + 1 := ⟨fu - 1, by omega⟩
    refine ⟨h, gY, gC, ?_, hH, hK⟩
    rw [s_X9_layYet_L19, if_pos (show nI 0 + (-1) < 0 by decide)]
  | succ t ih =>
    intro fu h gY gC hH hK ht hfu
    obtain ⟨fu, rfl⟩ : ∃ z, fu = z + 1 := ⟨fu - 1, by omega⟩
    have c1' : pp_m h d1 n1 f1 := c1.cg (fun k hk => hH.2.2 k (by omega) (by omega))
    obtain ⟨h1, gY1, gC1, e1, e2, e3⟩ := wm_one hH c1 c2 hi (show t ≤ n2 by omega) hK
    obtain ⟨h2, gY2, gC2, e4, e5, e6⟩ := ih fu h1 gY1 gC1 e2 e3 (by omega) (by omega)
    refine ⟨h2, gY2, gC2, ?_, e5, e6⟩
    rw [s_X9_layYet_L19, pk_m1, if_neg (nI_pos (by omega)), c1'.1.b, e1, pp_bind]
    exact e4
theorem wm_2 (c1 : pp_m h0 d1 n1 f1) (c2 : pp_m h0 d2 n2 f2) :
    ∀ (t fu : Nat) (h : tt_H) (gY : Nat → Int32) (gC : Nat → Int64), wm_H h0 h gY gC → wm_K n1 n2 f1 f2 gY gC t 0 → t ≤ n1 + 1 → t < fu → ∃ h1 gY' gC', s_X9_layYet_L7 fu 49 (nI d1) (nI d2) (nI t + (-1)) h = some ((), h1) ∧ wm_H h0 h1 gY' gC' ∧ wm_K n1 n2 f1 f2 gY' gC' 0 0 := by
  have l1 := c1.le
  have l2 := c2.le
  intro t
  induction t with
  | zero =>
    intro fu h gY gC hH hK ht hfu
    obtain ⟨fu, rfl⟩ : ∃ z, fu = z + 1 := ⟨fu - 1, by omega⟩
    refine ⟨h, gY, gC, ?_, hH, hK⟩
    rw [s_X9_layYet_L7, if_pos (show nI 0 + (-1) < 0 by decide)]
  | succ t ih =>
    intro fu h gY gC hH hK ht hfu
    obtain ⟨fu, rfl⟩ : ∃ z, fu = z + 1 := ⟨fu - 1, by omega⟩
    have c2' : pp_m h d2 n2 f2 := c2.cg (fun k hk => hH.2.2 k (by omega) (by omega))
    obtain ⟨h1, gY1, gC1, e1, e2, e3⟩ := wm_1 c1 c2 (s_X9_layYet_L7 fu) (show t ≤ n1 by omega) (n2 + 1) 1000 h gY gC hH (fun x y hx hy hxy => hK x y hx hy (by omega)) (Nat.le_refl _) (by omega)
    obtain ⟨h2, gY2, gC2, e4, e5, e6⟩ := ih fu h1 gY1 gC1 e2 e3 (by omega) (by omega)
    refine ⟨h2, gY2, gC2, ?_, e5, e6⟩
    rw [pk_m1] at e1
    rw [s_X9_layYet_L7, pk_m1, if_neg (nI_pos (by omega)), mo_7 c2'.1, pp_bind, pp_mlen c2', pp_bind]
    exact e1.trans e4
end WM
section WMS
variable {kn : Nat → Nat} {dc : Nat} {sz : Nat → Nat} {wd : Nat → Nat → Nat} {so sl : Nat → Nat} {sc : Nat → Nat → Int32} {tr ft : Int32} {h : tt_H} {d1 d2 : Nat}
theorem ml_lay (hV : pp_V (kn, dc, sz, wd, so, sl, sc, tr, ft)) (hm : mm_A (kn, dc, sz, wd, so, sl, sc, tr, ft) h) (hd1 : d1 < dc) (hd2 : d2 < dc) :
    ∃ h1 gY gC, s_X9_layYet 49 (nI d1) (nI d2) h = some ((), h1) ∧ mm_A (kn, dc, sz, wd, so, sl, sc, tr, ft) h1 ∧ wm_H h h1 gY gC ∧ wm_K (sz d1) (sz d2) (wd d1) (wd d2) gY gC 0 0 := by
  have c1 := ma_day hV hm.1 hd1
  have c2 := ma_day hV hm.1 hd2
  have l1 := c1.le
  obtain ⟨gY, eY⟩ := hm.2.1 (62, 169) (by decide)
  obtain ⟨gC, eC⟩ := hm.2.2 (63, 169) (by decide)
  obtain ⟨h1, gY1, gC1, e1, e2, e3⟩ := wm_2 c1 c2 (sz d1 + 1) 1000 h gY gC ⟨eY, eC, fun _ _ _ => rfl⟩ (fun x y hx hy hxy => by omega) (Nat.le_refl _) (by omega)
  refine ⟨h1, gY1, gC1, ?_, ?_, e2, e3⟩
  · unfold s_X9_layYet
    rw [pk_m1] at e1
    rw [mo_7 c1.1, pp_bind, pp_mlen c1, pp_bind]
    exact e1
  · have : h1 = va_up (va_up h 62 (some (tt_ia 169 gY1))) 63 (some (tt_ja 169 gC1)) := by
      funext i
      by_cases h17 : i = 63
      · rw [h17, va_up_self]; exact e2.2.1
      · rw [va_up_ne _ _ h17]
        by_cases h15 : i = 62
        · rw [h15, va_up_self]; exact e2.1
        · rw [va_up_ne _ _ h15]; exact e2.2.2 i h15 h17
    rw [this]
    exact (hm.upI (p := 62) (N := 169) (by decide) gY1).upJ (p := 63) (N := 169) (by decide) gC1
end WMS
theorem E_both {h : tt_H} (hI : pp_Inv h) (x1 x2 x3 : Int32) : pp_G (s_X8_both 0 x1 x2 x3) (s_X9_both 49 x1 x2 x3) h := by
  obtain ⟨⟨kn, dc, sz, wd, so, sl, sc, tr, ft⟩, hV, ha, hm⟩ := hI
  have hdc : dc ≤ 6 := hV.2.1
  rcases pp_rng dc (by omega) x1 with ⟨d1, hd1, rfl⟩ | h1
  · have c1 := ca_cry hV ha.1 hd1
    have l1 := c1.le
    rcases pp_rng dc (by omega) x2 with ⟨d2, hd2, rfl⟩ | h2
    · have c2 := ca_cry hV ha.1 hd2
      have l2 := c2.le
      rcases pp_rng 2 (by decide) x3 with ⟨q, hq, rfl⟩ | h3
      · refine pp_G.of (if nI q = 0 then nI (sz d1) + nI (sz d2) - nI (wv_L (sz d1) (sz d2) (wd d1) (wd d2) (sz d1) (sz d2)) else nI (wv_L (sz d1) (sz d2) (wd d1) (wd d2) (sz d1) (sz d2))) ha hm hV ?_ (fun h hm => ?_)
        · obtain ⟨h1, gL, gC, e1, e2, e3, e4⟩ := cl_weave ha c1 c2 (by omega) (by omega)
          have e5 := (cl_wlen ha.1 e3 e4).1
          refine ⟨h1, ?_, e2, fun i hi => e3.2.2 i (by omega) (by omega)⟩
          have hO : gg_obj h 13 7 = some [.ref 14, .ref 16] := pp_obj (cl_wO ha.1).1
          have hO1 : gg_obj h1 13 7 = some [.ref 14, .ref 16] := pp_obj (cl_wO e2.1).1
          have c1' := ca_cry hV e2.1 hd1
          have c2' := ca_cry hV e2.1 hd2
          unfold s_X8_both
          simp only [ca_b ha.1, ca_in hV ha.1 hd1, ca_in hV ha.1 hd2, gg_opt_some, if_in hq, ca_6 ha.1, hO, e1, pp_cobj c1', pp_size c1', pp_cobj c2', pp_size c2', ca_6 e2.1, hO1, e5, pp_bind, pn_10, ↓reduceIte]
          by_cases hq0 : nI q = 0
          · rw [if_pos hq0, if_pos hq0]
          · rw [if_neg hq0, if_neg hq0]
        · obtain ⟨h1, gY, gC, e1, e2, e3, e4⟩ := ml_lay hV hm hd1 hd2
          refine ⟨h1, ?_, e2, fun i hi => e3.2.2 i (by omega) (by omega)⟩
          have k := (e4 0 0 (Nat.zero_le _) (Nat.zero_le _) (Or.inr ⟨rfl, Nat.le_refl _⟩)).1
          have k0 : gg_il h1 62 0 = some (nI (wv_L (sz d1) (sz d2) (wd d1) (wd d2) (sz d1) (sz d2))) := by rw [show (0 : Int32) = nI 0 from rfl, pp_il e3.1 (by decide) (by decide), k]; rfl
          unfold s_X9_both
          simp only [(ma_o hm.1).b, ma_in hV hm.1 hd1, ma_in hV hm.1 hd2, j1_in hq, e1, mo_20 (ma_o e2.1), mo_7 (ma_o e2.1), k0, pp_mlen (ma_day hV e2.1 hd1), pp_mlen (ma_day hV e2.1 hd2), pp_bind, pn_10, ↓reduceIte]
          rcases (show q = 0 ∨ q = 1 by omega) with rfl | rfl
          · rfl
          · rfl
      · refine pp_G.rd (-2) hV ha hm ?_ (fun h hm => ?_)
        · unfold s_X8_both
          simp only [ca_b ha.1, ca_in hV ha.1 hd1, ca_in hV ha.1 hd2, gg_opt_some, if_out h3, pp_bind, pn_10, pn_00, ↓reduceIte]
        · unfold s_X9_both
          simp only [(ma_o hm.1).b, ma_in hV hm.1 hd1, ma_in hV hm.1 hd2, j1_out h3, pp_bind, pn_10, pn_00, ↓reduceIte]
    · refine pp_G.rd (-1) hV ha hm ?_ (fun h hm => ?_)
      · unfold s_X8_both
        simp only [ca_b ha.1, ca_in hV ha.1 hd1, ca_out ha.1 h2, gg_opt_some, gg_opt_none, pp_bind]
      · unfold s_X9_both
        simp only [(ma_o hm.1).b, ma_in hV hm.1 hd1, ma_out hm.1 h2, pp_bind, pn_10, pn_00, ↓reduceIte]
  · refine pp_G.rd (-1) hV ha hm ?_ (fun h hm => ?_)
    · unfold s_X8_both
      rcases pp_rng dc (by omega) x2 with ⟨d2, hd2, rfl⟩ | h2
      · simp only [ca_b ha.1, ca_out ha.1 h1, ca_in hV ha.1 hd2, gg_opt_none, pp_bind]
      · simp only [ca_b ha.1, ca_out ha.1 h1, ca_out ha.1 h2, gg_opt_none, pp_bind]
    · unfold s_X9_both
      simp only [(ma_o hm.1).b, ma_out hm.1 h1, pp_bind, pn_00, ↓reduceIte]
