
/-! THREE: the least over the words that go on -/
def th_mn (c : Nat → Bool) (v : Nat → Nat) : Nat → Nat → Nat → Nat
  | 0, _, m => m
  | s + 1, w, m => th_mn c v s (w + 1) (if c w = true ∧ v w < m then v w else m)
theorem mn_le_m (c : Nat → Bool) (v : Nat → Nat) : ∀ s w m, th_mn c v s w m ≤ m
  | 0, _, m => Nat.le_refl m
  | s + 1, w, m => by
    have := mn_le_m c v s (w + 1) (if c w = true ∧ v w < m then v w else m)
    rw [th_mn]
    by_cases hc : c w = true ∧ v w < m
    · rw [if_pos hc] at this ⊢; omega
    · rw [if_neg hc] at this ⊢; exact this
theorem mn_le (c : Nat → Bool) (v : Nat → Nat) : ∀ s w m x, w ≤ x → x < w + s → c x = true → th_mn c v s w m ≤ v x
  | 0, w, m, x, h1, h2, _ => absurd h2 (by omega)
  | s + 1, w, m, x, h1, h2, h3 => by
    rw [th_mn]
    by_cases hx : x = w
    · subst hx
      by_cases hc : v x < m
      · rw [if_pos ⟨h3, hc⟩]; exact mn_le_m c v s (x + 1) (v x)
      · rw [if_neg (fun z => hc z.2)]
        have := mn_le_m c v s (x + 1) m
        omega
    · exact mn_le c v s (w + 1) _ x (by omega) (by omega) h3
theorem mn_is (c : Nat → Bool) (v : Nat → Nat) : ∀ s w m, th_mn c v s w m = m ∨ ∃ x, w ≤ x ∧ x < w + s ∧ c x = true ∧ th_mn c v s w m = v x
  | 0, _, m => Or.inl rfl
  | s + 1, w, m => by
    rw [th_mn]
    by_cases hc : c w = true ∧ v w < m
    · rw [if_pos hc]
      rcases mn_is c v s (w + 1) (v w) with h | ⟨x, h1, h2, h3, h4⟩
      · exact Or.inr ⟨w, Nat.le_refl w, by omega, hc.1, h⟩
      · exact Or.inr ⟨x, by omega, by omega, h3, h4⟩
    · rw [if_neg hc]
      rcases mn_is c v s (w + 1) m with h | ⟨x, h1, h2, h3, h4⟩
      · exact Or.inl h
      · exact Or.inr ⟨x, by omega, by omega, h3, h4⟩
theorem mn_cong {c : Nat → Bool} {v v' : Nat → Nat} : ∀ s w m, (∀ x, w ≤ x → x < w + s → c x = true → v x = v' x) → th_mn c v s w m = th_mn c v' s w m
  | 0, _, _, _ => rfl
  | s + 1, w, m, h => by
    rw [th_mn, th_mn, mn_cong s (w + 1) _ (fun x h1 h2 => h x (by omega) (by omega))]
    by_cases hc : c w = true
    · rw [h w (Nat.le_refl w) (by omega) hc]
    · rw [if_neg (fun z => hc z.1), if_neg (fun z => hc z.1)]
def th_r (n1 n2 n3 i j k : Nat) : Nat := (n1 - i) + (n2 - j) + (n3 - k)
def th_c (n1 n2 n3 : Nat) (f1 f2 f3 : Nat → Nat) (i j k w : Nat) : Bool := decide ((i < n1 ∧ f1 i = w) ∨ (j < n2 ∧ f2 j = w) ∨ (k < n3 ∧ f3 k = w))
def th_V (n1 n2 n3 : Nat) (f1 f2 f3 : Nat → Nat) : Nat → Nat → Nat → Nat → Nat
  | 0, _, _, _ => 0
  | u + 1, i, j, k => if th_r n1 n2 n3 i j k = 0 then 0 else th_mn (th_c n1 n2 n3 f1 f2 f3 i j k) (fun w => 1 + th_V n1 n2 n3 f1 f2 f3 u (fw_n n1 f1 w i) (fw_n n2 f2 w j) (fw_n n3 f3 w k)) 8 0 99
def th_T (n1 n2 n3 : Nat) (f1 f2 f3 : Nat → Nat) (i j k : Nat) : Nat := th_V n1 n2 n3 f1 f2 f3 (th_r n1 n2 n3 i j k) i j k
theorem fw_ge {n w i : Nat} {f : Nat → Nat} : i ≤ fw_n n f w i ∧ fw_n n f w i ≤ i + 1 := by
  unfold fw_n; split <;> omega
section TH
variable {n1 n2 n3 : Nat} {f1 f2 f3 : Nat → Nat}
theorem th_ci {i j k w : Nat} : th_c n1 n2 n3 f1 f2 f3 i j k w = true ↔ (i < n1 ∧ f1 i = w) ∨ (j < n2 ∧ f2 j = w) ∨ (k < n3 ∧ f3 k = w) := decide_eq_true_iff
theorem th_cn {i j k w : Nat} (hc : th_c n1 n2 n3 f1 f2 f3 i j k w = true) : th_r n1 n2 n3 (fw_n n1 f1 w i) (fw_n n2 f2 w j) (fw_n n3 f3 w k) < th_r n1 n2 n3 i j k := by
  have a := fw_ge (n := n1) (w := w) (i := i) (f := f1)
  have b := fw_ge (n := n2) (w := w) (i := j) (f := f2)
  have c := fw_ge (n := n3) (w := w) (i := k) (f := f3)
  unfold th_r
  rcases th_ci.mp hc with h | h | h
  · rw [fw_n1 h]; omega
  · rw [fw_n1 h]; omega
  · rw [fw_n1 h]; omega
theorem th_s1 : ∀ u i j k, th_r n1 n2 n3 i j k ≤ u → th_V n1 n2 n3 f1 f2 f3 (u + 1) i j k = th_V n1 n2 n3 f1 f2 f3 u i j k
  | 0, i, j, k, h => by
    rw [th_V, th_V, if_pos (by omega)]
  | u + 1, i, j, k, h => by
    rw [th_V, th_V]
    by_cases h0 : th_r n1 n2 n3 i j k = 0
    · rw [if_pos h0, if_pos h0]
    · rw [if_neg h0, if_neg h0]
      exact mn_cong 8 0 99 (fun x _ _ hc => by rw [th_s1 u _ _ _ (by have := th_cn hc; omega)])
theorem th_s {i j k : Nat} : ∀ u, th_r n1 n2 n3 i j k ≤ u → th_V n1 n2 n3 f1 f2 f3 u i j k = th_T n1 n2 n3 f1 f2 f3 i j k := by
  intro u
  induction u with
  | zero =>
    intro h
    rw [th_T, show th_r n1 n2 n3 i j k = 0 by omega]
  | succ u ih =>
    intro h
    by_cases hu : th_r n1 n2 n3 i j k = u + 1
    · rw [th_T, hu]
    · rw [th_s1 u i j k (by omega), ih (by omega)]
theorem th_T0 {i j k : Nat} (h : th_r n1 n2 n3 i j k = 0) : th_T n1 n2 n3 f1 f2 f3 i j k = 0 := by rw [th_T, h]; rfl
def th_v (n1 n2 n3 : Nat) (f1 f2 f3 : Nat → Nat) (i j k w : Nat) : Nat := 1 + th_T n1 n2 n3 f1 f2 f3 (fw_n n1 f1 w i) (fw_n n2 f2 w j) (fw_n n3 f3 w k)
theorem th_T1 {i j k : Nat} (h : ¬ th_r n1 n2 n3 i j k = 0) : th_T n1 n2 n3 f1 f2 f3 i j k = th_mn (th_c n1 n2 n3 f1 f2 f3 i j k) (th_v n1 n2 n3 f1 f2 f3 i j k) 8 0 99 := by
  obtain ⟨r, hr⟩ : ∃ r, th_r n1 n2 n3 i j k = r + 1 := ⟨th_r n1 n2 n3 i j k - 1, by omega⟩
  rw [th_T, hr, th_V, if_neg h]
  refine mn_cong 8 0 99 (fun x _ _ hc => ?_)
  have := th_cn hc
  show 1 + _ = 1 + _
  rw [th_s r (by omega)]
theorem th_ex {i j k : Nat} (h1 : ∀ i, i < n1 → f1 i < 8) (h2 : ∀ i, i < n2 → f2 i < 8) (h3 : ∀ i, i < n3 → f3 i < 8) (h : ¬ th_r n1 n2 n3 i j k = 0) : ∃ w, w < 8 ∧ th_c n1 n2 n3 f1 f2 f3 i j k w = true := by
  by_cases a : i < n1
  · exact ⟨f1 i, h1 i a, th_ci.mpr (Or.inl ⟨a, rfl⟩)⟩
  · by_cases b : j < n2
    · exact ⟨f2 j, h2 j b, th_ci.mpr (Or.inr (Or.inl ⟨b, rfl⟩))⟩
    · by_cases c : k < n3
      · exact ⟨f3 k, h3 k c, th_ci.mpr (Or.inr (Or.inr ⟨c, rfl⟩))⟩
      · exact absurd (by unfold th_r; omega) h
theorem th_le (h1 : ∀ i, i < n1 → f1 i < 8) (h2 : ∀ i, i < n2 → f2 i < 8) (h3 : ∀ i, i < n3 → f3 i < 8) : ∀ u i j k, th_V n1 n2 n3 f1 f2 f3 u i j k ≤ u
  | 0, _, _, _ => Nat.le_refl 0
  | u + 1, i, j, k => by
    rw [th_V]
    by_cases h0 : th_r n1 n2 n3 i j k = 0
    · rw [if_pos h0]; omega
    · rw [if_neg h0]
      obtain ⟨w, hw, hc⟩ := th_ex h1 h2 h3 h0
      have a := mn_le _ (fun w => 1 + th_V n1 n2 n3 f1 f2 f3 u (fw_n n1 f1 w i) (fw_n n2 f2 w j) (fw_n n3 f3 w k)) 8 0 99 w (Nat.zero_le w) (by omega) hc
      have b := th_le h1 h2 h3 u (fw_n n1 f1 w i) (fw_n n2 f2 w j) (fw_n n3 f3 w k)
      exact Nat.le_trans a (by show 1 + _ ≤ _; omega)
end TH
/-! the class -/
def sh_o (x y : Option Nat) : Option Nat := match x, y with
  | none, y => y
  | some a, none => some a
  | some a, some b => some (if b < a then b else a)
def en_o (x : Option Nat) : Int64 := match x with
  | none => -9
  | some a => lN a
theorem en_9 {a : Nat} (h : a < 2 ^ 31) : ¬ lN a = -9 := fun z => by
  have h1 := congrArg Int64.toInt z
  rw [lN_toInt h] at h1
  have h2 : (-9 : Int64).toInt = -9 := rfl
  omega
theorem en_lt {a : Nat} (h : a < 2 ^ 31) : (-9 : Int64) < lN a := by
  rw [Int64.lt_iff_toInt_lt, lN_toInt h]
  have h2 : (-9 : Int64).toInt = -9 := rfl
  omega
theorem en_n : lg_cmp (en_o none) (-9) = 0 := (lg_cmp_eq _ _).mpr rfl
theorem en_s {a : Nat} (h : a < 2 ^ 31) : ¬ lg_cmp (en_o (some a)) (-9) = 0 := fun z => en_9 h ((lg_cmp_eq _ _).mp z)
theorem sh_c (x y : Option Nat) (hx : ∀ a, x = some a → a < 2 ^ 31) (hy : ∀ a, y = some a → a < 2 ^ 31) (h : tt_H) : s_X1_shorter (en_o x) (en_o y) h = some (en_o (sh_o x y), h) := by
  unfold s_X1_shorter s_X1_shorter_J16
  cases x with
  | none =>
    rw [if_pos en_n]
    cases y with
    | none => rw [if_neg (by decide)]; rfl
    | some b =>
      have hb := hy b rfl
      show some (if lN b < -9 then (-9 : Int64) else lN b, h) = some (lN b, h)
      rw [if_neg (fun z => absurd (en_lt hb) (Int64.lt_asymm z))]
  | some a =>
    have ha := hx a rfl
    show (if lg_cmp (lN a) (-9) = 0 then _ else _) = _
    rw [if_neg (fun z => en_9 ha ((lg_cmp_eq _ _).mp z))]
    cases y with
    | none =>
      rw [if_pos en_n]
      show some (if (-9 : Int64) < lN a then lN a else -9, h) = some (lN a, h)
      rw [if_pos (en_lt ha)]
    | some b =>
      have hb := hy b rfl
      show (if lg_cmp (lN b) (-9) = 0 then _ else _) = _
      rw [if_neg (fun z => en_9 hb ((lg_cmp_eq _ _).mp z))]
      show some (if lN b < lN a then lN b else lN a, h) = some (lN (if b < a then b else a), h)
      by_cases hc : b < a
      · rw [if_pos ((lN_lt hb ha).mpr hc), if_pos hc]
      · rw [if_neg (fun z => hc ((lN_lt hb ha).mp z)), if_neg hc]
def br_H (h0 h : tt_H) (x y : Nat) (gX gY : Nat → Int64) : Prop := h 18 = some (tt_ob 1 [.ref x, .ref y]) ∧ h x = some (tt_ob 4 [.ref (x + 1)]) ∧ h y = some (tt_ob 4 [.ref (y + 1)]) ∧ h (x + 1) = some (tt_ja 169 gX) ∧ h (y + 1) = some (tt_ja 169 gY) ∧ ((x = 19 ∧ y = 21) ∨ (x = 21 ∧ y = 19)) ∧ ∀ i, i ≠ 18 → i ≠ 20 → i ≠ 22 → h i = h0 i
section BRC
variable {h0 h : tt_H} {b1 b2 b3 n1 n2 n3 x y : Nat} {f1 f2 f3 : Nat → Nat} {gX gY : Nat → Int64}
theorem br_by (hH : br_H h0 h x y gX gY) {i j k w : Nat} (hi : i ≤ n1) (hj : j ≤ n2) (hk : k ≤ n3) (h2 : n2 ≤ 12) (h3 : n3 ≤ 12) (hw : w < 8) (g1 : ∀ i, i < n1 → f1 i < 8) (g2 : ∀ i, i < n2 → f2 i < 8) (g3 : ∀ i, i < n3 → f3 i < 8) :
    s_X1_by 18 (nI w) (pp_w n1 f1 i) (pp_w n2 f2 j) (nI j) (pp_w n3 f3 k) (nI k) h = some (1 + (if i < n1 ∧ f1 i = w then gY (fw_n n2 f2 w j * 13 + fw_n n3 f3 w k) else gX (fw_n n2 f2 w j * 13 + fw_n n3 f3 w k)), h) := by
  obtain ⟨e18, ex, ey, ex1, ey1, hxy, -⟩ := hH
  have lj := fw_le (n := n2) (w := w) (f := f2) hj
  have lk := fw_le (n := n3) (w := w) (f := f3) hk
  have j41 : s_X1_by_J41 18 (nI w) (pp_w n1 f1 i) (nI (fw_n n2 f2 w j)) (nI (fw_n n3 f3 w k)) h = some (1 + (if i < n1 ∧ f1 i = w then gY (fw_n n2 f2 w j * 13 + fw_n n3 f3 w k) else gX (fw_n n2 f2 w j * 13 + fw_n n3 f3 w k)), h) := by
    unfold s_X1_by_J41
    by_cases hc : i < n1 ∧ f1 i = w
    · rw [if_pos ((pp_wn hw (g1 i)).mpr hc), if_pos hc, pp_fr e18 (k := 1) (v := y) rfl, pp_bind, pp_obj ey, pp_bind, gr_at ey ey1 (by omega) (by omega), pp_bind]
    · rw [if_neg (fun z => hc ((pp_wn hw (g1 i)).mp z)), if_neg hc, pp_fr e18 (k := 0) (v := x) rfl, pp_bind, pp_obj ex, pp_bind, gr_at ex ex1 (by omega) (by omega), pp_bind]
  have j24 : s_X1_by_J24 18 (nI w) (pp_w n1 f1 i) (pp_w n3 f3 k) (nI k) (nI (fw_n n2 f2 w j)) h = some (1 + (if i < n1 ∧ f1 i = w then gY (fw_n n2 f2 w j * 13 + fw_n n3 f3 w k) else gX (fw_n n2 f2 w j * 13 + fw_n n3 f3 w k)), h) := by
    unfold s_X1_by_J24
    rw [← j41]
    by_cases hc : k < n3 ∧ f3 k = w
    · rw [if_pos ((pp_wn hw (g3 k)).mpr hc), fw_n1 hc, nI_1]
    · rw [if_neg (fun z => hc ((pp_wn hw (g3 k)).mp z)), fw_n0 hc]
  unfold s_X1_by
  rw [if_neg (fun z => absurd z.symm (pp_neg_ne (by decide) (by omega))), ← j24]
  by_cases hc : j < n2 ∧ f2 j = w
  · rw [if_pos ((pp_wn hw (g2 j)).mpr hc), fw_n1 hc, nI_1]
  · rw [if_neg (fun z => hc ((pp_wn hw (g2 j)).mp z)), fw_n0 hc]
theorem br_by9 (xo xt xj xl xk : Int32) : s_X1_by 18 (-9) xo xt xj xl xk h = some (-9, h) := by unfold s_X1_by; rw [if_pos rfl]
def br_K (n1 n2 n3 : Nat) (f1 f2 f3 : Nat → Nat) (gX gY : Nat → Int64) (i j k : Nat) : Prop := (∀ u v, u ≤ n2 → v ≤ n3 → (j < u ∨ u = j ∧ k ≤ v) → gX (u * 13 + v) = lN (th_T n1 n2 n3 f1 f2 f3 i u v)) ∧ (i < n1 → ∀ u v, u ≤ n2 → v ≤ n3 → gY (u * 13 + v) = lN (th_T n1 n2 n3 f1 f2 f3 (i + 1) u v))
theorem br_at (hH : br_H h0 h x y gX gY) {i j k : Nat} (hi : i ≤ n1) (hj : j ≤ n2) (hk : k ≤ n3) (l1 : n1 ≤ 12) (h2 : n2 ≤ 12) (h3 : n3 ≤ 12) (g1 : ∀ i, i < n1 → f1 i < 8) (g2 : ∀ i, i < n2 → f2 i < 8) (g3 : ∀ i, i < n3 → f3 i < 8) (hK : br_K n1 n2 n3 f1 f2 f3 gX gY i j (k + 1)) :
    s_X1_lengthAt 18 (pp_w n1 f1 i) (pp_w n2 f2 j) (nI j) (pp_w n3 f3 k) (nI k) h = some (lN (th_T n1 n2 n3 f1 f2 f3 i j k), h) := by
  have hb : ∀ w, th_v n1 n2 n3 f1 f2 f3 i j k w ≤ 37 := fun w => by
    have a := th_le g1 g2 g3 (th_r n1 n2 n3 (fw_n n1 f1 w i) (fw_n n2 f2 w j) (fw_n n3 f3 w k)) (fw_n n1 f1 w i) (fw_n n2 f2 w j) (fw_n n3 f3 w k)
    have b : th_r n1 n2 n3 (fw_n n1 f1 w i) (fw_n n2 f2 w j) (fw_n n3 f3 w k) ≤ 36 := by unfold th_r; omega
    have c : th_T n1 n2 n3 f1 f2 f3 (fw_n n1 f1 w i) (fw_n n2 f2 w j) (fw_n n3 f3 w k) ≤ 36 := Nat.le_trans a b
    unfold th_v; omega
  have by1 : ∀ w, w < 8 → th_c n1 n2 n3 f1 f2 f3 i j k w = true → s_X1_by 18 (nI w) (pp_w n1 f1 i) (pp_w n2 f2 j) (nI j) (pp_w n3 f3 k) (nI k) h = some (lN (th_v n1 n2 n3 f1 f2 f3 i j k w), h) := by
    intro w hw hc
    have lj := fw_le (n := n2) (w := w) (f := f2) hj
    have lk := fw_le (n := n3) (w := w) (f := f3) hk
    have ej := fw_ge (n := n2) (w := w) (i := j) (f := f2)
    have ek := fw_ge (n := n3) (w := w) (i := k) (f := f3)
    rw [br_by hH hi hj hk h2 h3 hw g1 g2 g3]
    by_cases h1 : i < n1 ∧ f1 i = w
    · rw [if_pos h1, hK.2 h1.1 _ _ lj lk, fa_L1, lN_add, th_v, fw_n1 h1]
    · rw [if_neg h1, hK.1 _ _ lj lk, fa_L1, lN_add, th_v, fw_n0 h1]
      rcases th_ci.mp hc with h | h | h
      · exact absurd h h1
      · rw [fw_n1 h]; exact Or.inl (Nat.lt_succ_self j)
      · rw [fw_n1 h]; omega
  have by2 : ∀ (n : Nat) (f : Nat → Nat) (p : Nat), (∀ i, i < n → f i < 8) → (p < n → th_c n1 n2 n3 f1 f2 f3 i j k (f p) = true) → s_X1_by 18 (pp_w n f p) (pp_w n1 f1 i) (pp_w n2 f2 j) (nI j) (pp_w n3 f3 k) (nI k) h = some (en_o (if p < n then some (th_v n1 n2 n3 f1 f2 f3 i j k (f p)) else none), h) := by
    intro n f p hf hc
    by_cases hp : p < n
    · rw [pp_w_in hp, if_pos hp, by1 _ (hf p hp) (hc hp)]
      rfl
    · rw [show pp_w n f p = -9 from if_neg hp, if_neg hp, br_by9]
      rfl
  have o1 := by2 n1 f1 i g1 (fun h => th_ci.mpr (Or.inl ⟨h, rfl⟩))
  have o2 := by2 n2 f2 j g2 (fun h => th_ci.mpr (Or.inr (Or.inl ⟨h, rfl⟩)))
  have o3 := by2 n3 f3 k g3 (fun h => th_ci.mpr (Or.inr (Or.inr ⟨h, rfl⟩)))
  have bd : ∀ (n p w : Nat) a, (if p < n then some (th_v n1 n2 n3 f1 f2 f3 i j k w) else none) = some a → a ≤ 37 := by
    intro n p w a ha
    split at ha
    · injection ha with ha; rw [← ha]; exact hb w
    · cases ha
  have bd2 : ∀ x y : Option Nat, (∀ a, x = some a → a ≤ 37) → (∀ a, y = some a → a ≤ 37) → ∀ a, sh_o x y = some a → a ≤ 37 := by
    intro x y hx hy a ha
    cases x with
    | none => exact hy a ha
    | some b =>
      cases y with
      | none => exact hx a ha
      | some d =>
        have h1 := hx b rfl
        have h2 := hy d rfl
        unfold sh_o at ha
        simp only [Option.some.injEq] at ha
        split at ha <;> omega
  have s1 := sh_c (if i < n1 then some (th_v n1 n2 n3 f1 f2 f3 i j k (f1 i)) else none) (if j < n2 then some (th_v n1 n2 n3 f1 f2 f3 i j k (f2 j)) else none) (fun a ha => by have := bd _ _ _ a ha; omega) (fun a ha => by have := bd _ _ _ a ha; omega) h
  have s2 := sh_c (sh_o (if i < n1 then some (th_v n1 n2 n3 f1 f2 f3 i j k (f1 i)) else none) (if j < n2 then some (th_v n1 n2 n3 f1 f2 f3 i j k (f2 j)) else none)) (if k < n3 then some (th_v n1 n2 n3 f1 f2 f3 i j k (f3 k)) else none) (fun a ha => by have := bd2 _ _ (bd _ _ _) (bd _ _ _) a ha; omega) (fun a ha => by have := bd _ _ _ a ha; omega) h
  have e18 := hH.1
  unfold s_X1_lengthAt
  simp only [pp_obj e18, o1, o2, o3, s1, s2, pp_bind]
  by_cases h0 : th_r n1 n2 n3 i j k = 0
  · rw [th_T0 h0]
    unfold th_r at h0
    rw [if_neg (show ¬ i < n1 by omega), if_neg (show ¬ j < n2 by omega), if_neg (show ¬ k < n3 by omega), if_pos (show lg_cmp (en_o (sh_o (sh_o none none) none)) (-9) = 0 from en_n)]
    rfl
  · have m1 : i < n1 → th_T n1 n2 n3 f1 f2 f3 i j k ≤ th_v n1 n2 n3 f1 f2 f3 i j k (f1 i) := fun h => by
      rw [th_T1 h0]; exact mn_le _ _ 8 0 99 _ (Nat.zero_le _) (by have := g1 i h; omega) (th_ci.mpr (Or.inl ⟨h, rfl⟩))
    have m2 : j < n2 → th_T n1 n2 n3 f1 f2 f3 i j k ≤ th_v n1 n2 n3 f1 f2 f3 i j k (f2 j) := fun h => by
      rw [th_T1 h0]; exact mn_le _ _ 8 0 99 _ (Nat.zero_le _) (by have := g2 j h; omega) (th_ci.mpr (Or.inr (Or.inl ⟨h, rfl⟩)))
    have m3 : k < n3 → th_T n1 n2 n3 f1 f2 f3 i j k ≤ th_v n1 n2 n3 f1 f2 f3 i j k (f3 k) := fun h => by
      rw [th_T1 h0]; exact mn_le _ _ 8 0 99 _ (Nat.zero_le _) (by have := g3 k h; omega) (th_ci.mpr (Or.inr (Or.inr ⟨h, rfl⟩)))
    have m4 : (i < n1 ∧ th_T n1 n2 n3 f1 f2 f3 i j k = th_v n1 n2 n3 f1 f2 f3 i j k (f1 i)) ∨ (j < n2 ∧ th_T n1 n2 n3 f1 f2 f3 i j k = th_v n1 n2 n3 f1 f2 f3 i j k (f2 j)) ∨ (k < n3 ∧ th_T n1 n2 n3 f1 f2 f3 i j k = th_v n1 n2 n3 f1 f2 f3 i j k (f3 k)) := by
      rcases mn_is (th_c n1 n2 n3 f1 f2 f3 i j k) (th_v n1 n2 n3 f1 f2 f3 i j k) 8 0 99 with h | ⟨w, -, -, hc, h⟩
      · rw [← th_T1 h0] at h
        obtain ⟨w, hw, hc⟩ := th_ex (i := i) (j := j) (k := k) g1 g2 g3 h0
        have a := mn_le _ (th_v n1 n2 n3 f1 f2 f3 i j k) 8 0 99 w (Nat.zero_le w) (by omega) hc
        rw [← th_T1 h0] at a
        have := hb w
        omega
      · rw [← th_T1 h0] at h
        rcases th_ci.mp hc with ⟨a, rfl⟩ | ⟨a, rfl⟩ | ⟨a, rfl⟩
        · exact Or.inl ⟨a, h⟩
        · exact Or.inr (Or.inl ⟨a, h⟩)
        · exact Or.inr (Or.inr ⟨a, h⟩)
    have b1 := hb (f1 i)
    have b2 := hb (f2 j)
    have b3 := hb (f3 k)
    have fin : ∀ m, m ≤ 37 → m = th_T n1 n2 n3 f1 f2 f3 i j k → (if lg_cmp (en_o (some m)) (-9) = 0 then some ((0 : Int64), h) else some (en_o (some m), h)) = some (lN (th_T n1 n2 n3 f1 f2 f3 i j k), h) := by
      rintro m hm rfl
      rw [if_neg (en_s (show th_T n1 n2 n3 f1 f2 f3 i j k < 2 ^ 31 by omega))]
      rfl
    by_cases q1 : i < n1
    · have m1' := m1 q1
      by_cases q2 : j < n2
      · have m2' := m2 q2
        by_cases q3 : k < n3
        · have m3' := m3 q3
          simp only [if_pos q1, if_pos q2, if_pos q3, sh_o]
          exact fin _ (by split <;> split <;> omega) (by split <;> split <;> omega)
        · simp only [if_pos q1, if_pos q2, if_neg q3, sh_o]
          exact fin _ (by split <;> omega) (by split <;> omega)
      · by_cases q3 : k < n3
        · have m3' := m3 q3
          simp only [if_pos q1, if_neg q2, if_pos q3, sh_o]
          exact fin _ (by split <;> omega) (by split <;> omega)
        · simp only [if_pos q1, if_neg q2, if_neg q3, sh_o]
          exact fin _ (by omega) (by omega)
    · by_cases q2 : j < n2
      · have m2' := m2 q2
        by_cases q3 : k < n3
        · have m3' := m3 q3
          simp only [if_neg q1, if_pos q2, if_pos q3, sh_o]
          exact fin _ (by split <;> omega) (by split <;> omega)
        · simp only [if_neg q1, if_pos q2, if_neg q3, sh_o]
          exact fin _ (by omega) (by omega)
      · have q3 : k < n3 := by omega
        have m3' := m3 q3
        simp only [if_neg q1, if_neg q2, if_pos q3, sh_o]
        exact fin _ (by omega) (by omega)
theorem br_wr (hH : br_H h0 h x y gX gY) (g : Nat → Int64) : br_H h0 (va_up h (x + 1) (some (tt_ja 169 g))) x y g gY := by
  obtain ⟨e18, ex, ey, ex1, ey1, hxy, e⟩ := hH
  exact ⟨by rw [va_up_ne _ _ (by omega)]; exact e18, by rw [va_up_ne _ _ (by omega)]; exact ex, by rw [va_up_ne _ _ (by omega)]; exact ey, va_up_self _ _ _, by rw [va_up_ne _ _ (by omega)]; exact ey1, hxy, fun i h1 h2 h3 => by rw [va_up_ne _ _ (by omega)]; exact e i h1 h2 h3⟩
theorem br_c1 (c1 : pp_cry h0 b1 n1 f1) (c2 : pp_cry h0 b2 n2 f2) (c3 : pp_cry h0 b3 n3 f3) (k1 : 29 ≤ b1 ∧ 29 ≤ b2 ∧ 29 ≤ b3) (κ : Nat → Nat → Nat → Nat → Int32 → Int32 → tt_H → Option (Int32 × tt_H)) {i j : Nat} (hi : i ≤ n1) (hj : j ≤ n2) :
    ∀ (t fu : Nat) (h : tt_H) (gX : Nat → Int64), br_H h0 h x y gX gY → br_K n1 n2 n3 f1 f2 f3 gX gY i j t → t ≤ n3 + 1 → t < fu → ∃ h1 gX', s_X1_length_L48 κ fu 18 b1 b2 b3 (nI i) (nI j) (nI t + (-1)) h = κ 18 b1 b2 b3 (nI i) (nI j + (-1)) h1 ∧ br_H h0 h1 x y gX' gY ∧ br_K n1 n2 n3 f1 f2 f3 gX' gY i j 0 := by
  have l1 := c1.le
  have l2 := c2.le
  have l3 := c3.le
  intro t
  induction t with
  | zero =>
    intro fu h gX hH hK ht hfu
    obtain ⟨fu, rfl⟩ : ∃ z, fu = z + 1 := ⟨fu - 1, by omega⟩
    refine ⟨h, gX, ?_, hH, hK⟩
    rw [s_X1_length_L48, if_pos (show nI 0 + (-1) < 0 by decide)]
  | succ t ih =>
    intro fu h gX hH hK ht hfu
    obtain ⟨fu, rfl⟩ : ∃ z, fu = z + 1 := ⟨fu - 1, by omega⟩
    obtain ⟨e18, ex, ey, ex1, ey1, hxy, e⟩ := id hH
    have c1' : pp_cry h b1 n1 f1 := c1.cg (e _ (by omega) (by omega) (by omega)) (e _ (by omega) (by omega) (by omega))
    have c2' : pp_cry h b2 n2 f2 := c2.cg (e _ (by omega) (by omega) (by omega)) (e _ (by omega) (by omega) (by omega))
    have c3' : pp_cry h b3 n3 f3 := c3.cg (e _ (by omega) (by omega) (by omega)) (e _ (by omega) (by omega) (by omega))
    have ea := br_at hH hi hj (show t ≤ n3 by omega) l1 l2 l3 (fun _ z => c1.lt8 z) (fun _ z => c2.lt8 z) (fun _ z => c3.lt8 z) hK
    obtain ⟨h1, gX1, a1, a2, a3⟩ := ih fu _ _ (br_wr hH (vp_updL gX (j * 13 + t) (lN (th_T n1 n2 n3 f1 f2 f3 i j t)))) ⟨fun u v hu hv huv => by
      by_cases hc : u = j ∧ v = t
      · rw [hc.1, hc.2, pk_uLs]
      · rw [pk_uLn (by omega)]
        exact hK.1 u v hu hv (by omega), hK.2⟩ (by omega) (by omega)
    refine ⟨h1, gX1, ?_, a2, a3⟩
    rw [s_X1_length_L48, pk_m1, if_neg (nI_pos (by omega))]
    simp only [pp_fr e18 (k := 0) (v := x) rfl, pp_obj e18, pp_obj ex, pp_cobj c1', pp_cobj c2', pp_cobj c3', pp_at c1' (show i < 2 ^ 31 by omega), pp_at c2' (show j < 2 ^ 31 by omega), pp_at c3' (show t < 2 ^ 31 by omega), ea, gr_wr ex ex1 (show j < 13 by omega) (show t < 13 by omega), pp_bind]
    exact a1
theorem br_c2 (c1 : pp_cry h0 b1 n1 f1) (c2 : pp_cry h0 b2 n2 f2) (c3 : pp_cry h0 b3 n3 f3) (k1 : 29 ≤ b1 ∧ 29 ≤ b2 ∧ 29 ≤ b3) (κ : Nat → Nat → Nat → Nat → Int32 → tt_H → Option (Int32 × tt_H)) {i : Nat} (hi : i ≤ n1) :
    ∀ (t fu : Nat) (h : tt_H) (gX : Nat → Int64), br_H h0 h x y gX gY → br_K n1 n2 n3 f1 f2 f3 gX gY i t 0 → t ≤ n2 + 1 → t < fu → ∃ h1 gX', s_X1_length_L37 κ fu 18 b1 b2 b3 (nI i) (nI t + (-1)) h = κ 18 b1 b2 b3 (nI i + (-1)) h1 ∧ br_H h0 h1 x y gX' gY ∧ br_K n1 n2 n3 f1 f2 f3 gX' gY i 0 0 := by
  have l1 := c1.le
  have l2 := c2.le
  have l3 := c3.le
  intro t
  induction t with
  | zero =>
    intro fu h gX hH hK ht hfu
    obtain ⟨fu, rfl⟩ : ∃ z, fu = z + 1 := ⟨fu - 1, by omega⟩
    refine ⟨h, gX, ?_, hH, hK⟩
    rw [s_X1_length_L37, if_pos (show nI 0 + (-1) < 0 by decide)]
  | succ t ih =>
    intro fu h gX hH hK ht hfu
    obtain ⟨fu, rfl⟩ : ∃ z, fu = z + 1 := ⟨fu - 1, by omega⟩
    obtain ⟨e18, ex, ey, ex1, ey1, hxy, e⟩ := id hH
    have c3' : pp_cry h b3 n3 f3 := c3.cg (e _ (by omega) (by omega) (by omega)) (e _ (by omega) (by omega) (by omega))
    obtain ⟨h1, gX1, a1, a2, a3⟩ := br_c1 c1 c2 c3 k1 (s_X1_length_L37 κ fu) hi (show t ≤ n2 by omega) (n3 + 1) 1000 h gX hH ⟨fun u v hu hv huv => hK.1 u v hu hv (by omega), hK.2⟩ (Nat.le_refl _) (by omega)
    obtain ⟨h2, gX2, a4, a5, a6⟩ := ih fu h1 gX1 a2 a3 (by omega) (by omega)
    refine ⟨h2, gX2, ?_, a5, a6⟩
    rw [pk_m1] at a1
    rw [s_X1_length_L37, pk_m1, if_neg (nI_pos (by omega)), pp_cobj c3', pp_bind, pp_size c3', pp_bind]
    exact a1.trans a4
theorem br_c3 (c1 : pp_cry h0 b1 n1 f1) (c2 : pp_cry h0 b2 n2 f2) (c3 : pp_cry h0 b3 n3 f3) (k1 : 29 ≤ b1 ∧ 29 ≤ b2 ∧ 29 ≤ b3) :
    ∀ (t fu : Nat) (h : tt_H) (x y : Nat) (gX gY : Nat → Int64), br_H h0 h x y gX gY → (t ≤ n1 → ∀ u v, u ≤ n2 → v ≤ n3 → gX (u * 13 + v) = lN (th_T n1 n2 n3 f1 f2 f3 t u v)) → t ≤ n1 + 1 → (t = 0 → True) → t < fu → ∃ h1 x' y' gX' gY', s_X1_length_L6 fu 18 b1 b2 b3 (nI t + (-1)) h = some (nI (th_T n1 n2 n3 f1 f2 f3 0 0 0), h1) ∧ br_H h0 h1 x' y' gX' gY' := by
  have l1 := c1.le
  have l2 := c2.le
  have l3 := c3.le
  intro t
  induction t with
  | zero =>
    intro fu h x y gX gY hH hK ht _ hfu
    obtain ⟨fu, rfl⟩ : ∃ z, fu = z + 1 := ⟨fu - 1, by omega⟩
    obtain ⟨e18, ex, ey, ex1, ey1, hxy, e⟩ := id hH
    refine ⟨h, x, y, gX, gY, ?_, hH⟩
    rw [s_X1_length_L6, if_pos (show nI 0 + (-1) < 0 by decide), pp_fr e18 (k := 0) (v := x) rfl, pp_bind, pp_obj ex, pp_bind, show (0 : Int32) = nI 0 from rfl, gr_at ex ex1 (by decide) (by decide), pp_bind, hK (Nat.zero_le _) 0 0 (Nat.zero_le _) (Nat.zero_le _), lN_i]
  | succ t ih =>
    intro fu h x y gX gY hH hK ht _ hfu
    obtain ⟨fu, rfl⟩ : ∃ z, fu = z + 1 := ⟨fu - 1, by omega⟩
    obtain ⟨e18, ex, ey, ex1, ey1, hxy, e⟩ := id hH
    have p1 : gg_put h 18 1 1 (.ref x) = some (va_up h 18 (some (tt_ob 1 [.ref x, .ref x]))) := pp_put e18 _ (Nat.le_of_ble_eq_true rfl)
    have p2 : gg_put (va_up h 18 (some (tt_ob 1 [.ref x, .ref x]))) 18 1 0 (.ref y) = some (va_up h 18 (some (tt_ob 1 [.ref y, .ref x]))) := by
      rw [pp_put (va_up_self _ _ _) _ (Nat.le_of_ble_eq_true rfl), bx_uu]; rfl
    have hH2 : br_H h0 (va_up h 18 (some (tt_ob 1 [.ref y, .ref x]))) y x gY gX := ⟨va_up_self _ _ _, by rw [va_up_ne _ _ (by omega)]; exact ey, by rw [va_up_ne _ _ (by omega)]; exact ex, by rw [va_up_ne _ _ (by omega)]; exact ey1, by rw [va_up_ne _ _ (by omega)]; exact ex1, by omega, fun i h1 h2 h3 => by rw [va_up_ne _ _ h1]; exact e i h1 h2 h3⟩
    have c2' : pp_cry (va_up h 18 (some (tt_ob 1 [.ref y, .ref x]))) b2 n2 f2 := c2.cg (hH2.2.2.2.2.2.2 _ (by omega) (by omega) (by omega)) (hH2.2.2.2.2.2.2 _ (by omega) (by omega) (by omega))
    obtain ⟨h1, gX1, a1, a2, a3⟩ := br_c2 c1 c2 c3 k1 (s_X1_length_L6 fu) (show t ≤ n1 by omega) (n2 + 1) 1000 _ gY hH2 ⟨fun u v hu hv huv => by omega, fun ht u v hu hv => hK (by omega) u v hu hv⟩ (Nat.le_refl _) (by omega)
    obtain ⟨h2, x', y', gX2, gY2, a4, a5⟩ := ih fu h1 y x gX1 gX a2 (fun _ u v hu hv => a3.1 u v hu hv (by omega)) (by omega) (fun _ => trivial) (by omega)
    refine ⟨h2, x', y', gX2, gY2, ?_, a5⟩
    rw [pk_m1] at a1
    rw [s_X1_length_L6, pk_m1, if_neg (nI_pos (by omega))]
    simp only [pp_fr e18 (k := 0) (v := x) rfl, pp_fr e18 (k := 1) (v := y) rfl, p1, p2, pp_cobj c2', pp_size c2', pp_bind]
    exact a1.trans a4
end BRC
section BRS
variable {kn : Nat → Nat} {dc : Nat} {sz : Nat → Nat} {wd : Nat → Nat → Nat} {so sl : Nat → Nat} {sc : Nat → Nat → Int32} {tr ft : Int32} {h : tt_H} {b1 b2 b3 n1 n2 n3 : Nat} {f1 f2 f3 : Nat → Nat}
theorem cl_three (ha : cc_A (kn, dc, sz, wd, so, sl, sc, tr, ft) h) (c1 : pp_cry h b1 n1 f1) (c2 : pp_cry h b2 n2 f2) (c3 : pp_cry h b3 n3 f3) (k1 : 29 ≤ b1 ∧ 29 ≤ b2 ∧ 29 ≤ b3) :
    ∃ h1, s_X1_length 18 b1 b2 b3 h = some (nI (th_T n1 n2 n3 f1 f2 f3 0 0 0), h1) ∧ cc_A (kn, dc, sz, wd, so, sl, sc, tr, ft) h1 ∧ ∀ i, 49 ≤ i → h1 i = h i := by
  have l1 := c1.le
  obtain ⟨x, y, e18, hxy⟩ := ha.2.2.2.2.1
  have e19 : h 19 = some (tt_ob 4 [.ref 20]) := by obtain ⟨-, -, -, -, -, -, -, -, -, -, -, -, e, -⟩ := ha.1; exact e
  have e21 : h 21 = some (tt_ob 4 [.ref 22]) := by obtain ⟨-, -, -, -, -, -, -, -, -, -, -, -, -, e, -⟩ := ha.1; exact e
  obtain ⟨g20, e20⟩ := ha.2.2.1 (20, 169) (by decide)
  obtain ⟨g22, e22⟩ := ha.2.2.1 (22, 169) (by decide)
  obtain ⟨gX, gY, hH⟩ : ∃ gX gY, br_H h h x y gX gY := by
    rcases hxy with ⟨rfl, rfl⟩ | ⟨rfl, rfl⟩
    · exact ⟨g20, g22, e18, e19, e21, e20, e22, Or.inl ⟨rfl, rfl⟩, fun _ _ _ _ => rfl⟩
    · exact ⟨g22, g20, e18, e21, e19, e22, e20, Or.inr ⟨rfl, rfl⟩, fun _ _ _ _ => rfl⟩
  obtain ⟨h1, x', y', gX1, gY1, a1, a2⟩ := br_c3 c1 c2 c3 k1 (n1 + 1) 1000 h x y gX gY hH (fun z => by omega) (Nat.le_refl _) (fun _ => trivial) (by omega)
  obtain ⟨f18, fx, fy, fx1, fy1, fxy, f⟩ := a2
  refine ⟨h1, ?_, ⟨ha.1.congr (fun i hi => f i (by unfold cc_main at hi; omega) (by unfold cc_main at hi; omega) (by unfold cc_main at hi; omega)), ?_⟩, fun i hi => f i (by omega) (by omega) (by omega)⟩
  · unfold s_X1_length
    rw [pk_m1] at a1
    rw [pp_cobj c1, pp_bind, pp_size c1, pp_bind]
    exact a1
  · obtain ⟨s1, s2, s3, s4, s5⟩ := ha.2
    refine ⟨fun q hq => ?_, fun q hq => ?_, by rw [f 11 (by decide) (by decide) (by decide)]; exact s3, ⟨x', y', f18, fxy⟩, by rw [f 23 (by decide) (by decide) (by decide)]; exact s5⟩
    · have : q.1 ≠ 18 ∧ q.1 ≠ 20 ∧ q.1 ≠ 22 := by revert q; decide
      rw [f q.1 this.1 this.2.1 this.2.2]; exact s1 q hq
    · by_cases q20 : q.1 = 20 ∨ q.1 = 22
      · have hq2 : q.2 = 169 := by revert q; decide
        rw [hq2]
        rcases q20 with q20 | q20
        · rw [q20]
          rcases fxy with ⟨rfl, rfl⟩ | ⟨rfl, rfl⟩
          · exact ⟨_, fx1⟩
          · exact ⟨_, fy1⟩
        · rw [q20]
          rcases fxy with ⟨rfl, rfl⟩ | ⟨rfl, rfl⟩
          · exact ⟨_, fy1⟩
          · exact ⟨_, fx1⟩
      · have : q.1 ≠ 18 := by revert q; decide
        rw [f q.1 this (fun z => q20 (Or.inl z)) (fun z => q20 (Or.inr z))]; exact s2 q hq
end BRS
/-! the model -/
def tm_K (n1 n2 n3 : Nat) (f1 f2 f3 : Nat → Nat) (g : Nat → Int32) (i j k : Nat) : Prop := ∀ x y z, x ≤ n1 → y ≤ n2 → z ≤ n3 → (i < x ∨ x = i ∧ (j < y ∨ y = j ∧ k ≤ z)) → g (169 * x + 13 * y + z) = nI (th_T n1 n2 n3 f1 f2 f3 x y z)
section TM
variable {h0 : tt_H} {d1 d2 d3 n1 n2 n3 : Nat} {f1 f2 f3 : Nat → Nat}
theorem tm_w (c1 : pp_m h0 d1 n1 f1) (c2 : pp_m h0 d2 n2 f2) (c3 : pp_m h0 d3 n3 f3) {i j k : Nat} (hi : i ≤ n1) (hj : j ≤ n2) (hk : k ≤ n3) {g : Nat → Int32} (h64 : h0 64 = some (tt_ia 2197 g)) (hK : tm_K n1 n2 n3 f1 f2 f3 g i j (k + 1)) (hb : ∀ x y z, x ≤ n1 → y ≤ n2 → z ≤ n3 → th_T n1 n2 n3 f1 f2 f3 x y z ≤ 36) :
    ∀ (s w m fu : Nat), w + s = 8 → s < fu → m ≤ 99 → s_X9_threeYet_L54 fu 49 (nI d1) (nI d2) (nI d3) (nI i) (nI j) (nI k) (nI m) (nI w) h0 = some (nI (th_mn (th_c n1 n2 n3 f1 f2 f3 i j k) (th_v n1 n2 n3 f1 f2 f3 i j k) s w m), h0) := by
  have l1 := c1.le
  have l2 := c2.le
  have l3 := c3.le
  have hmo := c1.1
  intro s
  induction s with
  | zero =>
    intro w m fu hw hfu hm
    obtain ⟨fu, rfl⟩ : ∃ z, fu = z + 1 := ⟨fu - 1, by omega⟩
    rw [s_X9_threeYet_L54, if_pos (show (8 : Int32) ≤ nI w from nI_le (a := 8) (b := w) (by omega) (by omega))]
    rfl
  | succ s ih =>
    intro w m fu hw hfu hm
    obtain ⟨fu, rfl⟩ : ∃ z, fu = z + 1 := ⟨fu - 1, by omega⟩
    have X1 := fw_le (n := n1) (w := w) (f := f1) hi
    have Y1 := fw_le (n := n2) (w := w) (f := f2) hj
    have Z1 := fw_le (n := n3) (w := w) (f := f3) hk
    have X2 := fw_ge (n := n1) (w := w) (i := i) (f := f1)
    have Y2 := fw_ge (n := n2) (w := w) (i := j) (f := f2)
    have Z2 := fw_ge (n := n3) (w := w) (i := k) (f := f3)
    have hv : th_v n1 n2 n3 f1 f2 f3 i j k w ≤ 37 := by
      have := hb _ _ _ X1 Y1 Z1
      unfold th_v; omega
    have hcw : th_c n1 n2 n3 f1 f2 f3 i j k w = true ↔ i + j + k < fw_n n1 f1 w i + fw_n n2 f2 w j + fw_n n3 f3 w k := by
      rw [th_ci]
      constructor
      · rintro (h | h | h) <;> rw [fw_n1 h] <;> omega
      · intro h
        by_cases a : i < n1 ∧ f1 i = w
        · exact Or.inl a
        · by_cases b : j < n2 ∧ f2 j = w
          · exact Or.inr (Or.inl b)
          · by_cases c : k < n3 ∧ f3 k = w
            · exact Or.inr (Or.inr c)
            · rw [fw_n0 a, fw_n0 b, fw_n0 c] at h; omega
    have e0 := ih (w + 1) (if th_c n1 n2 n3 f1 f2 f3 i j k w = true ∧ th_v n1 n2 n3 f1 f2 f3 i j k w < m then th_v n1 n2 n3 f1 f2 f3 i j k w else m) fu (by omega) (by omega) (by split <;> omega)
    rw [show th_mn (th_c n1 n2 n3 f1 f2 f3 i j k) (th_v n1 n2 n3 f1 f2 f3 i j k) (s + 1) w m = th_mn (th_c n1 n2 n3 f1 f2 f3 i j k) (th_v n1 n2 n3 f1 f2 f3 i j k) s (w + 1) (if th_c n1 n2 n3 f1 f2 f3 i j k w = true ∧ th_v n1 n2 n3 f1 f2 f3 i j k w < m then th_v n1 n2 n3 f1 f2 f3 i j k w else m) from rfl, ← e0]
    have j157 : ∀ u : Int32, nI k + u = nI (fw_n n3 f3 w k) → s_X9_threeYet_J157 (s_X9_threeYet_L54 fu) 49 (nI d1) (nI d2) (nI d3) (nI i) (nI j) (nI k) (nI m) (nI w) (nI (fw_n n1 f1 w i)) (nI (fw_n n2 f2 w j)) (nI k) u h0 = s_X9_threeYet_L54 fu 49 (nI d1) (nI d2) (nI d3) (nI i) (nI j) (nI k) (nI (if th_c n1 n2 n3 f1 f2 f3 i j k w = true ∧ th_v n1 n2 n3 f1 f2 f3 i j k w < m then th_v n1 n2 n3 f1 f2 f3 i j k w else m)) (nI (w + 1)) h0 := by
      intro u hu
      unfold s_X9_threeYet_J157 s_X9_threeYet_J217 s_X9_threeYet_J219
      rw [hu, nI_add, nI_add, nI_add, nI_add, nI_1]
      by_cases hc : th_c n1 n2 n3 f1 f2 f3 i j k w = true
      · have hlt := hcw.mp hc
        rw [if_neg (nI_ge (by omega) (by omega)), mo_22 hmo, pp_bind, pp_lit 169, pp_lit 13, pk_mul, pk_mul, nI_add, nI_add, pp_il h64 (by omega) (by decide), pp_bind, hK _ _ _ X1 Y1 Z1 (by omega), pp_lit 1, nI_add]
        rw [show 1 + th_T n1 n2 n3 f1 f2 f3 (fw_n n1 f1 w i) (fw_n n2 f2 w j) (fw_n n3 f3 w k) = th_v n1 n2 n3 f1 f2 f3 i j k w from rfl]
        by_cases hc2 : th_v n1 n2 n3 f1 f2 f3 i j k w < m
        · rw [if_neg (nI_ge hc2 (by omega)), if_pos ⟨hc, hc2⟩]
        · rw [if_pos (nI_le (by omega) (by omega)), if_neg (fun z => hc2 z.2)]
      · rw [if_pos (nI_le (by have := mt hcw.mpr hc; omega) (by omega)), if_neg (fun z => hc z.1)]
    have j124 : ∀ u : Int32, nI j + u = nI (fw_n n2 f2 w j) → s_X9_threeYet_J124 (s_X9_threeYet_L54 fu) 49 (nI d1) (nI d2) (nI d3) (nI i) (nI j) (nI k) (nI m) (nI w) (nI (fw_n n1 f1 w i)) (nI j) u h0 = s_X9_threeYet_L54 fu 49 (nI d1) (nI d2) (nI d3) (nI i) (nI j) (nI k) (nI (if th_c n1 n2 n3 f1 f2 f3 i j k w = true ∧ th_v n1 n2 n3 f1 f2 f3 i j k w < m then th_v n1 n2 n3 f1 f2 f3 i j k w else m)) (nI (w + 1)) h0 := by
      intro u hu
      unfold s_X9_threeYet_J124 s_X9_threeYet_J156
      rw [hu, mo_7 hmo, pp_bind, pp_mlen c3, pp_bind]
      by_cases hk2 : k < n3
      · have u8 := c3.lt8 hk2
        rw [if_neg (nI_ge hk2 (by omega)), hmo.b, pp_mw c3 hk2, pp_bind]
        simp only []
        by_cases hf : f3 k = w
        · rw [if_pos (by rw [hf])]
          exact j157 1 (by rw [fw_n1 ⟨hk2, hf⟩, nI_1])
        · rw [if_neg (fun z => hf ((nI_eq (by omega) (by omega)).mp z))]
          exact j157 0 (by rw [fw_n0 (fun z => hf z.2), Int32.add_zero])
      · rw [if_pos (nI_le (by omega) (by omega))]
        exact j157 0 (by rw [fw_n0 (fun z => hk2 z.1), Int32.add_zero])
    have j91 : ∀ u : Int32, nI i + u = nI (fw_n n1 f1 w i) → s_X9_threeYet_J91 (s_X9_threeYet_L54 fu) 49 (nI d1) (nI d2) (nI d3) (nI i) (nI j) (nI k) (nI m) (nI w) (nI i) u h0 = s_X9_threeYet_L54 fu 49 (nI d1) (nI d2) (nI d3) (nI i) (nI j) (nI k) (nI (if th_c n1 n2 n3 f1 f2 f3 i j k w = true ∧ th_v n1 n2 n3 f1 f2 f3 i j k w < m then th_v n1 n2 n3 f1 f2 f3 i j k w else m)) (nI (w + 1)) h0 := by
      intro u hu
      unfold s_X9_threeYet_J91 s_X9_threeYet_J123
      rw [hu, mo_7 hmo, pp_bind, pp_mlen c2, pp_bind]
      by_cases hk2 : j < n2
      · have u8 := c2.lt8 hk2
        rw [if_neg (nI_ge hk2 (by omega)), hmo.b, pp_mw c2 hk2, pp_bind]
        simp only []
        by_cases hf : f2 j = w
        · rw [if_pos (by rw [hf])]
          exact j124 1 (by rw [fw_n1 ⟨hk2, hf⟩, nI_1])
        · rw [if_neg (fun z => hf ((nI_eq (by omega) (by omega)).mp z))]
          exact j124 0 (by rw [fw_n0 (fun z => hf z.2), Int32.add_zero])
      · rw [if_pos (nI_le (by omega) (by omega))]
        exact j124 0 (by rw [fw_n0 (fun z => hk2 z.1), Int32.add_zero])
    rw [s_X9_threeYet_L54, if_neg (show ¬ (8 : Int32) ≤ nI w from nI_ge (a := w) (b := 8) (by omega) (by decide)), mo_7 hmo, pp_bind, pp_mlen c1, pp_bind]
    unfold s_X9_threeYet_J90
    by_cases hk2 : i < n1
    · have u8 := c1.lt8 hk2
      rw [if_neg (nI_ge hk2 (by omega)), hmo.b, pp_mw c1 hk2, pp_bind]
      simp only []
      by_cases hf : f1 i = w
      · rw [if_pos (by rw [hf])]
        exact j91 1 (by rw [fw_n1 ⟨hk2, hf⟩, nI_1])
      · rw [if_neg (fun z => hf ((nI_eq (by omega) (by omega)).mp z))]
        exact j91 0 (by rw [fw_n0 (fun z => hf z.2), Int32.add_zero])
    · rw [if_pos (nI_le (by omega) (by omega))]
      exact j91 0 (by rw [fw_n0 (fun z => hk2 z.1), Int32.add_zero])
theorem tm_one (c1 : pp_m h0 d1 n1 f1) (c2 : pp_m h0 d2 n2 f2) (c3 : pp_m h0 d3 n3 f3) {i j k : Nat} (hi : i ≤ n1) (hj : j ≤ n2) (hk : k ≤ n3) {g : Nat → Int32} (h64 : h0 64 = some (tt_ia 2197 g)) (hK : tm_K n1 n2 n3 f1 f2 f3 g i j (k + 1)) (hb : ∀ x y z, x ≤ n1 → y ≤ n2 → z ≤ n3 → th_T n1 n2 n3 f1 f2 f3 x y z ≤ 36) :
    s_X9_threeYet 49 (nI d1) (nI d2) (nI d3) (nI i) (nI j) (nI k) h0 = some (nI (th_T n1 n2 n3 f1 f2 f3 i j k), h0) := by
  have l1 := c1.le
  have l2 := c2.le
  have l3 := c3.le
  have hmo := c1.1
  have go : ¬ th_r n1 n2 n3 i j k = 0 → s_X9_threeYet_J37 s_X9_threeYet_J38 49 (nI d1) (nI d2) (nI d3) (nI i) (nI j) (nI k) h0 = some (nI (th_T n1 n2 n3 f1 f2 f3 i j k), h0) := fun h0 => by
    rw [s_X9_threeYet_J37, s_X9_threeYet_J38, if_pos rfl, th_T1 h0]
    exact tm_w c1 c2 c3 hi hj hk h64 hK hb 8 0 99 1000 (by omega) (by omega) (Nat.le_refl _)
  unfold s_X9_threeYet
  simp only [mo_7 hmo, pp_mlen c1, pp_mlen c2, pp_mlen c3, pp_bind]
  by_cases h1 : i = n1
  · rw [if_pos (by rw [h1])]
    by_cases h2 : j = n2
    · rw [if_pos (by rw [h2])]
      by_cases h3 : k = n3
      · rw [if_pos (by rw [h3]), s_X9_threeYet_J38, if_neg (by decide), th_T0 (by unfold th_r; omega)]
        rfl
      · rw [if_neg (fun z => h3 ((nI_eq (by omega) (by omega)).mp z))]
        exact go (by unfold th_r; omega)
    · rw [if_neg (fun z => h2 ((nI_eq (by omega) (by omega)).mp z))]
      exact go (by unfold th_r; omega)
  · rw [if_neg (fun z => h1 ((nI_eq (by omega) (by omega)).mp z))]
    exact go (by unfold th_r; omega)
theorem tm_1 (c1 : pp_m h0 d1 n1 f1) (c2 : pp_m h0 d2 n2 f2) (c3 : pp_m h0 d3 n3 f3) (hb : ∀ x y z, x ≤ n1 → y ≤ n2 → z ≤ n3 → th_T n1 n2 n3 f1 f2 f3 x y z ≤ 36) (κ : Nat → Int32 → Int32 → Int32 → Int32 → Int32 → tt_H → Option (Int32 × tt_H)) {i j : Nat} (hi : i ≤ n1) (hj : j ≤ n2) :
    ∀ (t fu : Nat) (g : Nat → Int32), tm_K n1 n2 n3 f1 f2 f3 g i j t → t ≤ n3 + 1 → t < fu → ∃ g', s_X9_three_L60 κ fu 49 (nI d1) (nI d2) (nI d3) (nI i) (nI j) (nI t + (-1)) (va_up h0 64 (some (tt_ia 2197 g))) = κ 49 (nI d1) (nI d2) (nI d3) (nI i) (nI j + (-1)) (va_up h0 64 (some (tt_ia 2197 g'))) ∧ tm_K n1 n2 n3 f1 f2 f3 g' i j 0 := by
  have l1 := c1.le
  have l2 := c2.le
  have l3 := c3.le
  intro t
  induction t with
  | zero =>
    intro fu g hK ht hfu
    obtain ⟨fu, rfl⟩ : ∃ z, fu = z + 1 := ⟨fu - 1, by omega⟩
    refine ⟨g, ?_, hK⟩
    rw [s_X9_three_L60, if_pos (show nI 0 + (-1) < 0 by decide)]
  | succ t ih =>
    intro fu g hK ht hfu
    obtain ⟨fu, rfl⟩ : ∃ z, fu = z + 1 := ⟨fu - 1, by omega⟩
    have c1' : pp_m (va_up h0 64 (some (tt_ia 2197 g))) d1 n1 f1 := c1.up _ (by decide)
    have c2' : pp_m (va_up h0 64 (some (tt_ia 2197 g))) d2 n2 f2 := c2.up _ (by decide)
    have c3' : pp_m (va_up h0 64 (some (tt_ia 2197 g))) d3 n3 f3 := c3.up _ (by decide)
    have e := tm_one c1' c2' c3' hi hj (show t ≤ n3 by omega) (va_up_self _ _ _) hK hb
    obtain ⟨g', a1, a2⟩ := ih fu (upd g (169 * i + 13 * j + t) (nI (th_T n1 n2 n3 f1 f2 f3 i j t))) (fun x y z hx hy hz hxyz => by
      by_cases hc : x = i ∧ y = j ∧ z = t
      · rw [hc.1, hc.2.1, hc.2.2, pk_us]
      · rw [pk_un (by omega)]; exact hK x y z hx hy hz (by omega)) (by omega) (by omega)
    refine ⟨g', ?_, a2⟩
    rw [s_X9_three_L60, pk_m1, if_neg (nI_pos (by omega)), mo_22 c1'.1, pp_bind, c1'.1.b, e, pp_bind]
    simp only []
    rw [pp_lit 169, pp_lit 13, pk_mul, pk_mul, nI_add, nI_add, pp_is (va_up_self _ _ _) (by omega) (by decide), pp_bind, bx_uu]
    exact a1
theorem tm_2 (c1 : pp_m h0 d1 n1 f1) (c2 : pp_m h0 d2 n2 f2) (c3 : pp_m h0 d3 n3 f3) (hb : ∀ x y z, x ≤ n1 → y ≤ n2 → z ≤ n3 → th_T n1 n2 n3 f1 f2 f3 x y z ≤ 36) (κ : Nat → Int32 → Int32 → Int32 → Int32 → tt_H → Option (Int32 × tt_H)) {i : Nat} (hi : i ≤ n1) :
    ∀ (t fu : Nat) (g : Nat → Int32), tm_K n1 n2 n3 f1 f2 f3 g i t 0 → t ≤ n2 + 1 → t < fu → ∃ g', s_X9_three_L47 κ fu 49 (nI d1) (nI d2) (nI d3) (nI i) (nI t + (-1)) (va_up h0 64 (some (tt_ia 2197 g))) = κ 49 (nI d1) (nI d2) (nI d3) (nI i + (-1)) (va_up h0 64 (some (tt_ia 2197 g'))) ∧ tm_K n1 n2 n3 f1 f2 f3 g' i 0 0 := by
  have l1 := c1.le
  have l2 := c2.le
  have l3 := c3.le
  intro t
  induction t with
  | zero =>
    intro fu g hK ht hfu
    obtain ⟨fu, rfl⟩ : ∃ z, fu = z + 1 := ⟨fu - 1, by omega⟩
    refine ⟨g, ?_, hK⟩
    rw [s_X9_three_L47, if_pos (show nI 0 + (-1) < 0 by decide)]
  | succ t ih =>
    intro fu g hK ht hfu
    obtain ⟨fu, rfl⟩ : ∃ z, fu = z + 1 := ⟨fu - 1, by omega⟩
    have c3' : pp_m (va_up h0 64 (some (tt_ia 2197 g))) d3 n3 f3 := c3.up _ (by decide)
    obtain ⟨g1, a1, a2⟩ := tm_1 c1 c2 c3 hb (s_X9_three_L47 κ fu) hi (show t ≤ n2 by omega) (n3 + 1) 1000 g (fun x y z hx hy hz hxyz => hK x y z hx hy hz (by omega)) (Nat.le_refl _) (by omega)
    obtain ⟨g2, a3, a4⟩ := ih fu g1 a2 (by omega) (by omega)
    refine ⟨g2, ?_, a4⟩
    rw [pk_m1] at a1
    rw [s_X9_three_L47, pk_m1, if_neg (nI_pos (by omega)), mo_7 c3'.1, pp_bind, pp_mlen c3', pp_bind]
    exact a1.trans a3
theorem tm_3 (c1 : pp_m h0 d1 n1 f1) (c2 : pp_m h0 d2 n2 f2) (c3 : pp_m h0 d3 n3 f3) (hb : ∀ x y z, x ≤ n1 → y ≤ n2 → z ≤ n3 → th_T n1 n2 n3 f1 f2 f3 x y z ≤ 36) :
    ∀ (t fu : Nat) (g : Nat → Int32), tm_K n1 n2 n3 f1 f2 f3 g t 0 0 → t ≤ n1 + 1 → t < fu → ∃ g', s_X9_three_L34 fu 49 (nI d1) (nI d2) (nI d3) (nI t + (-1)) (va_up h0 64 (some (tt_ia 2197 g))) = some (nI (th_T n1 n2 n3 f1 f2 f3 0 0 0), va_up h0 64 (some (tt_ia 2197 g'))) := by
  have l1 := c1.le
  have l2 := c2.le
  have l3 := c3.le
  intro t
  induction t with
  | zero =>
    intro fu g hK ht hfu
    obtain ⟨fu, rfl⟩ : ∃ z, fu = z + 1 := ⟨fu - 1, by omega⟩
    have c1' : pp_m (va_up h0 64 (some (tt_ia 2197 g))) d1 n1 f1 := c1.up _ (by decide)
    refine ⟨g, ?_⟩
    rw [s_X9_three_L34, if_pos (show nI 0 + (-1) < 0 by decide), mo_22 c1'.1, pp_bind, show (0 : Int32) = nI 0 from rfl, pp_il (va_up_self _ _ _) (by decide) (by decide), pp_bind]
    have := hK 0 0 0 (Nat.zero_le _) (Nat.zero_le _) (Nat.zero_le _) (by omega)
    rw [← this]
  | succ t ih =>
    intro fu g hK ht hfu
    obtain ⟨fu, rfl⟩ : ∃ z, fu = z + 1 := ⟨fu - 1, by omega⟩
    have c2' : pp_m (va_up h0 64 (some (tt_ia 2197 g))) d2 n2 f2 := c2.up _ (by decide)
    obtain ⟨g1, a1, a2⟩ := tm_2 c1 c2 c3 hb (s_X9_three_L34 fu) (show t ≤ n1 by omega) (n2 + 1) 1000 g (fun x y z hx hy hz hxyz => hK x y z hx hy hz (by omega)) (Nat.le_refl _) (by omega)
    obtain ⟨g2, a3⟩ := ih fu g1 a2 (by omega) (by omega)
    refine ⟨g2, ?_⟩
    rw [pk_m1] at a1
    rw [s_X9_three_L34, pk_m1, if_neg (nI_pos (by omega)), mo_7 c2'.1, pp_bind, pp_mlen c2', pp_bind]
    exact a1.trans a3
end TM
theorem E_three {h : tt_H} (hI : pp_Inv h) (x1 x2 x3 : Int32) : pp_G (s_X8_three 0 x1 x2 x3) (s_X9_three 49 x1 x2 x3) h := by
  obtain ⟨⟨kn, dc, sz, wd, so, sl, sc, tr, ft⟩, hV, ha, hm⟩ := hI
  have hdc : dc ≤ 6 := hV.2.1
  by_cases hall : ∃ d1 d2 d3 : Nat, (d1 < dc ∧ d2 < dc ∧ d3 < dc) ∧ x1 = nI d1 ∧ x2 = nI d2 ∧ x3 = nI d3
  · obtain ⟨d1, d2, d3, ⟨hd1, hd2, hd3⟩, rfl, rfl, rfl⟩ := hall
    refine pp_G.of (nI (th_T (sz d1) (sz d2) (sz d3) (wd d1) (wd d2) (wd d3) 0 0 0)) ha hm hV ?_ (fun h hm => ?_)
    · obtain ⟨h1, e1, e2, e3⟩ := cl_three ha (ca_cry hV ha.1 hd1) (ca_cry hV ha.1 hd2) (ca_cry hV ha.1 hd3) (by omega)
      refine ⟨h1, ?_, e2, e3⟩
      obtain ⟨x, y, e18, -⟩ := ha.2.2.2.2.1
      unfold s_X8_three
      simp only [ca_b ha.1, ca_in hV ha.1 hd1, ca_in hV ha.1 hd2, ca_in hV ha.1 hd3, gg_opt_some, ca_7 ha.1, pp_obj e18, e1, pp_bind]
    · have c1 := ma_day hV hm.1 hd1
      have c2 := ma_day hV hm.1 hd2
      have c3 := ma_day hV hm.1 hd3
      have l1 := c1.le
      have l2 := c2.le
      have l3 := c3.le
      obtain ⟨g, e64⟩ := hm.2.1 (64, 2197) (by decide)
      obtain ⟨g', e1⟩ := tm_3 c1 c2 c3 (fun x y z hx hy hz => by
        have a := th_le (n1 := sz d1) (n2 := sz d2) (n3 := sz d3) (f1 := wd d1) (f2 := wd d2) (f3 := wd d3) (fun _ z => c1.lt8 z) (fun _ z => c2.lt8 z) (fun _ z => c3.lt8 z) (th_r (sz d1) (sz d2) (sz d3) x y z) x y z
        have b : th_r (sz d1) (sz d2) (sz d3) x y z ≤ 36 := by unfold th_r; omega
        exact Nat.le_trans a b) (sz d1 + 1) 1000 g (fun x y z hx hy hz hxyz => by omega) (Nat.le_refl _) (by omega)
      rw [pp_same e64, pk_m1] at e1
      refine ⟨_, ?_, hm.upI (p := 64) (N := 2197) (by decide) g', fun i hi => va_up_ne _ _ (by omega)⟩
      unfold s_X9_three
      simp only [(ma_o hm.1).b, ma_in hV hm.1 hd1, ma_in hV hm.1 hd2, ma_in hV hm.1 hd3, mo_7 (ma_o hm.1), pp_mlen c1, pp_bind, pn_10, ↓reduceIte]
      exact e1
  · refine pp_G.rd (-1) hV ha hm ?_ (fun h hm => ?_)
    · unfold s_X8_three
      rcases pp_rng dc (by omega) x1 with ⟨d1, hd1, rfl⟩ | h1
      · rcases pp_rng dc (by omega) x2 with ⟨d2, hd2, rfl⟩ | h2
        · rcases pp_rng dc (by omega) x3 with ⟨d3, hd3, rfl⟩ | h3
          · exact absurd ⟨d1, d2, d3, ⟨hd1, hd2, hd3⟩, rfl, rfl, rfl⟩ hall
          · simp only [ca_b ha.1, ca_in hV ha.1 hd1, ca_in hV ha.1 hd2, ca_out ha.1 h3, gg_opt_some, gg_opt_none, pp_bind]
        · rcases pp_rng dc (by omega) x3 with ⟨d3, hd3, rfl⟩ | h3
          · simp only [ca_b ha.1, ca_in hV ha.1 hd1, ca_out ha.1 h2, ca_in hV ha.1 hd3, gg_opt_some, gg_opt_none, pp_bind]
          · simp only [ca_b ha.1, ca_in hV ha.1 hd1, ca_out ha.1 h2, ca_out ha.1 h3, gg_opt_some, gg_opt_none, pp_bind]
      · rcases pp_rng dc (by omega) x2 with ⟨d2, hd2, rfl⟩ | h2
        · rcases pp_rng dc (by omega) x3 with ⟨d3, hd3, rfl⟩ | h3
          · simp only [ca_b ha.1, ca_out ha.1 h1, ca_in hV ha.1 hd2, ca_in hV ha.1 hd3, gg_opt_none, pp_bind]
          · simp only [ca_b ha.1, ca_out ha.1 h1, ca_in hV ha.1 hd2, ca_out ha.1 h3, gg_opt_none, pp_bind]
        · rcases pp_rng dc (by omega) x3 with ⟨d3, hd3, rfl⟩ | h3
          · simp only [ca_b ha.1, ca_out ha.1 h1, ca_out ha.1 h2, ca_in hV ha.1 hd3, gg_opt_none, pp_bind]
          · simp only [ca_b ha.1, ca_out ha.1 h1, ca_out ha.1 h2, ca_out ha.1 h3, gg_opt_none, pp_bind]
    · unfold s_X9_three
      rcases pp_rng dc (by omega) x1 with ⟨d1, hd1, rfl⟩ | h1
      · rcases pp_rng dc (by omega) x2 with ⟨d2, hd2, rfl⟩ | h2
        · rcases pp_rng dc (by omega) x3 with ⟨d3, hd3, rfl⟩ | h3
          · exact absurd ⟨d1, d2, d3, ⟨hd1, hd2, hd3⟩, rfl, rfl, rfl⟩ hall
          · simp only [(ma_o hm.1).b, ma_in hV hm.1 hd1, ma_in hV hm.1 hd2, ma_out hm.1 h3, pp_bind, pn_10, pn_00, ↓reduceIte]
        · simp only [(ma_o hm.1).b, ma_in hV hm.1 hd1, ma_out hm.1 h2, pp_bind, pn_10, pn_00, ↓reduceIte]
      · simp only [(ma_o hm.1).b, ma_out hm.1 h1, pp_bind, pn_00, ↓reduceIte]
