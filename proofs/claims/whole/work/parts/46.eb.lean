
/-! LOST DAY, ROOTS: sums -/
def sg (u : Nat → Int64) : Nat → Int64
  | 0 => 0
  | k + 1 => sg u k + u k
theorem sg_cong {u v : Nat → Int64} : ∀ n, (∀ k, k < n → u k = v k) → sg u n = sg v n
  | 0, _ => rfl
  | n + 1, h => by rw [sg, sg, sg_cong n (fun k hk => h k (by omega)), h n (Nat.lt_succ_self n)]
theorem sg_pt {u v : Nat → Int64} {k0 : Nat} {x : Int64} : ∀ n, k0 < n → (∀ k, k < n → v k = if k = k0 then u k + x else u k) → sg v n = sg u n + x
  | 0, h0, _ => absurd h0 (Nat.not_lt_zero _)
  | n + 1, h0, h => by
    rw [sg, sg]
    have e := h n (Nat.lt_succ_self n)
    by_cases hk : n = k0
    · rw [if_pos hk] at e
      rw [e, sg_cong n (v := u) (fun k hk2 => by rw [h k (by omega), if_neg (by omega)]), Int64.add_assoc]
    · rw [if_neg hk] at e
      rw [e, sg_pt n (by omega) (fun k hk2 => h k (by omega))]
      grind
theorem sg_z {u : Nat → Int64} : ∀ n, (∀ k, k < n → u k = 0) → sg u n = 0
  | 0, _ => rfl
  | n + 1, h => by rw [sg, sg_z n (fun k hk => h k (by omega)), h n (Nat.lt_succ_self n)]; rfl
/-- a table of counts, weighed -/
def lo_S (N m : Nat) (g : Nat → Int64) (φ : Nat → Nat → Int64) : Int64 := sg (fun a => sg (fun p => g (a * 13 + p) * φ a p) (m + 1)) (N + 1)
theorem lo_up {N m a p : Nat} {g : Nat → Int64} {c : Int64} (ha : a ≤ N) (hp : p ≤ m) (hm : m < 13) (φ : Nat → Nat → Int64) : lo_S N m (vp_updL g (a * 13 + p) (g (a * 13 + p) + c)) φ = lo_S N m g φ + c * φ a p := by
  unfold lo_S
  refine sg_pt (k0 := a) (N + 1) (by omega) (fun a' ha' => ?_)
  by_cases haa : a' = a
  · rw [if_pos haa]
    refine sg_pt (k0 := p) (m + 1) (by omega) (fun p' hp' => ?_)
    by_cases hpp : p' = p
    · rw [if_pos hpp, haa, hpp, pk_uLs, Int64.add_mul]
    · rw [if_neg hpp, pk_uLn (by omega)]
  · rw [if_neg haa]
    exact sg_cong (m + 1) (fun p' hp' => by rw [pk_uLn (by omega)])
theorem lo_0 {N m : Nat} {g : Nat → Int64} (hg : ∀ a p, a ≤ N → p ≤ m → g (a * 13 + p) = 0) (φ : Nat → Nat → Int64) : lo_S N m g φ = 0 :=
  sg_z (N + 1) (fun a ha => sg_z (m + 1) (fun p hp => by rw [hg a p (by omega) (by omega), Int64.zero_mul]))
/-- the place behind the next such word; 0: none -/
def bh (f : Nat → Nat) (w : Nat) : Nat → Nat → Nat
  | 0, _ => 0
  | s + 1, q => if f q = w then q + 1 else bh f w s (q + 1)
theorem bh_le (f : Nat → Nat) (w : Nat) : ∀ s q, bh f w s q ≤ q + s
  | 0, _ => Nat.zero_le _
  | s + 1, q => by
    rw [bh]
    split
    · omega
    · have := bh_le f w s (q + 1); omega
def lo_L (N : Nat) (f1 f2 : Nat → Nat) (φ : Nat → Nat → Int64) (a s p seen : Nat) : Int64 := sg (fun w => if seen.testBit w = true ∨ bh f2 w s p = 0 then 0 else φ (fw_n N f1 w a) (bh f2 w s p)) 8
theorem lo_L0 {N : Nat} {f1 f2 : Nat → Nat} {φ : Nat → Nat → Int64} {a p seen : Nat} : lo_L N f1 f2 φ a 0 p seen = 0 := sg_z 8 (fun w _ => if_pos (Or.inr rfl))
theorem lo_Ls {N : Nat} {f1 f2 : Nat → Nat} {φ : Nat → Nat → Int64} {a s p seen : Nat} (h : seen.testBit (f2 p) = true) : lo_L N f1 f2 φ a (s + 1) p seen = lo_L N f1 f2 φ a s (p + 1) seen := by
  refine sg_cong 8 (fun w _ => ?_)
  by_cases hw : seen.testBit w = true
  · rw [if_pos (Or.inl hw), if_pos (Or.inl hw)]
  · have hne : f2 p ≠ w := fun z => hw (z ▸ h)
    rw [bh, if_neg hne]
theorem lo_Ln {N : Nat} {f1 f2 : Nat → Nat} {φ : Nat → Nat → Int64} {a s p seen : Nat} (h8 : f2 p < 8) (h : ¬ seen.testBit (f2 p) = true) : lo_L N f1 f2 φ a (s + 1) p seen = lo_L N f1 f2 φ a s (p + 1) (seen ||| 2 ^ f2 p) + φ (fw_n N f1 (f2 p) a) (p + 1) := by
  refine sg_pt (k0 := f2 p) 8 h8 (fun w _ => ?_)
  have hb : (seen ||| 2 ^ f2 p).testBit w = true ↔ seen.testBit w = true ∨ f2 p = w := by
    rw [Nat.testBit_or, Nat.testBit_two_pow, Bool.or_eq_true, decide_eq_true_eq]
  by_cases hw : w = f2 p
  · subst hw
    rw [if_pos rfl, if_pos (show (seen ||| 2 ^ f2 p).testBit (f2 p) = true ∨ bh f2 (f2 p) s (p + 1) = 0 from Or.inl (hb.mpr (Or.inr rfl))), bh, if_pos rfl, if_neg (fun z => z.elim h (by omega)), Int64.zero_add]
  · have hne : ¬ f2 p = w := fun z => hw z.symm
    rw [if_neg hw, bh, if_neg hne]
    by_cases hc : seen.testBit w = true ∨ bh f2 w s (p + 1) = 0
    · rw [if_pos hc, if_pos]
      exact hc.elim (fun z => Or.inl (hb.mpr (Or.inl z))) Or.inr
    · rw [if_neg hc, if_neg]
      rintro (z | z)
      · exact (hb.mp z).elim (fun q => hc (Or.inl q)) (fun q => hw q.symm)
      · exact hc (Or.inr z)
def lo_F (N m : Nat) (f1 f2 : Nat → Nat) (φ : Nat → Nat → Int64) (a p : Nat) : Int64 := lo_L N f1 f2 φ a (m - p) p 0
def lo_I (N m : Nat) (f1 f2 : Nat → Nat) : Nat → (Nat → Nat → Int64) → Nat → Nat → Int64
  | 0, φ => φ
  | k + 1, φ => lo_I N m f1 f2 k (lo_F N m f1 f2 φ)
theorem lo_IF (N m : Nat) (f1 f2 : Nat → Nat) : ∀ k φ, lo_I N m f1 f2 k (lo_F N m f1 f2 φ) = lo_F N m f1 f2 (lo_I N m f1 f2 k φ)
  | 0, _ => rfl
  | k + 1, φ => by rw [lo_I, lo_I, lo_IF N m f1 f2 k]
def lo_d (N : Nat) (a _p : Nat) : Int64 := if a = N then 1 else 0
theorem lo_Sd {N m : Nat} {g : Nat → Int64} : lo_S N m g (lo_d N) = sg (fun p => g (N * 13 + p)) (m + 1) := by
  unfold lo_S
  rw [sg, sg_z N (fun a ha => sg_z (m + 1) (fun p _ => by rw [lo_d, if_neg (by omega), Int64.mul_zero])), Int64.zero_add]
  exact sg_cong (m + 1) (fun p _ => by rw [lo_d, if_pos rfl, Int64.mul_one])
def bt_H (h0 h : tt_H) (x y : Nat) (gX gY : Nat → Int64) : Prop := h 23 = some (tt_ob 0 [.ref x, .ref y]) ∧ h x = some (tt_ob 4 [.ref (x + 1)]) ∧ h y = some (tt_ob 4 [.ref (y + 1)]) ∧ h (x + 1) = some (tt_ja 169 gX) ∧ h (y + 1) = some (tt_ja 169 gY) ∧ ((x = 24 ∧ y = 26) ∨ (x = 26 ∧ y = 24)) ∧ ∀ i, i ≠ 23 → i ≠ 25 → i ≠ 27 → h i = h0 i
section BT
variable {h0 h : tt_H} {b1 b2 n1 n2 x y : Nat} {f1 f2 : Nat → Nat} {gX gY : Nat → Int64}
theorem bt_cry (hH : bt_H h0 h x y gX gY) {b n : Nat} {f : Nat → Nat} (c : pp_cry h0 b n f) (hb : 29 ≤ b ∨ b = 4) : pp_cry h b n f := c.cg (hH.2.2.2.2.2.2 _ (by omega) (by omega) (by omega)) (hH.2.2.2.2.2.2 _ (by omega) (by omega) (by omega))
theorem bt_wrY (hH : bt_H h0 h x y gX gY) (g : Nat → Int64) : bt_H h0 (va_up h (y + 1) (some (tt_ja 169 g))) x y gX g := by
  obtain ⟨e18, ex, ey, ex1, ey1, hxy, e⟩ := hH
  exact ⟨by rw [va_up_ne _ _ (by omega)]; exact e18, by rw [va_up_ne _ _ (by omega)]; exact ex, by rw [va_up_ne _ _ (by omega)]; exact ey, by rw [va_up_ne _ _ (by omega)]; exact ex1, va_up_self _ _ _, hxy, fun i h1 h2 h3 => by rw [va_up_ne _ _ (by omega)]; exact e i h1 h2 h3⟩
theorem bt_wrX (hH : bt_H h0 h x y gX gY) (g : Nat → Int64) : bt_H h0 (va_up h (x + 1) (some (tt_ja 169 g))) x y g gY := by
  obtain ⟨e18, ex, ey, ex1, ey1, hxy, e⟩ := hH
  exact ⟨by rw [va_up_ne _ _ (by omega)]; exact e18, by rw [va_up_ne _ _ (by omega)]; exact ex, by rw [va_up_ne _ _ (by omega)]; exact ey, va_up_self _ _ _, by rw [va_up_ne _ _ (by omega)]; exact ey1, hxy, fun i h1 h2 h3 => by rw [va_up_ne _ _ (by omega)]; exact e i h1 h2 h3⟩
theorem gr_more {h : tt_H} {b i j : Nat} {g : Nat → Int64} (hb : h b = some (tt_ob 4 [.ref (b + 1)])) (hg : h (b + 1) = some (tt_ja 169 g)) (hi : i < 13) (hj : j < 13) (v : Int64) : s_X4_more b (nI i) (nI j) v h = some ((), va_up h (b + 1) (some (tt_ja 169 (vp_updL g (i * 13 + j) (g (i * 13 + j) + v))))) := by
  unfold s_X4_more
  simp only [pp_obj hb, gr_at hb hg hi hj, gr_wr hb hg hi hj, pp_bind]
theorem gf_c (c1 : pp_cry h0 b1 n1 f1) (c2 : pp_cry h0 b2 n2 f2) (k1 : 29 ≤ b1 ∨ b1 = 4) (k2 : 29 ≤ b2 ∨ b2 = 4) {a : Nat} (ha : a ≤ n1) (c : Int64) :
    ∀ (s p fu seen : Nat) (h : tt_H) (gY : Nat → Int64), bt_H h0 h x y gX gY → p + s = n2 → s < fu → ∃ h1 gY', s_X0_goOnFrom_L7 fu 23 b1 (nI a) b2 c (nI seen) (nI p) h = some ((), h1) ∧ bt_H h0 h1 x y gX gY' ∧ ∀ φ, lo_S n1 n2 gY' φ = lo_S n1 n2 gY φ + c * lo_L n1 f1 f2 φ a s p seen := by
  have l1 := c1.le
  have l2 := c2.le
  intro s
  induction s with
  | zero =>
    intro p fu seen h gY hH hp hfu
    obtain ⟨fu, rfl⟩ : ∃ z, fu = z + 1 := ⟨fu - 1, by omega⟩
    have c2' := bt_cry hH c2 k2
    refine ⟨h, gY, ?_, hH, fun φ => by rw [lo_L0, Int64.mul_zero, Int64.add_zero]⟩
    rw [s_X0_goOnFrom_L7]
    simp only [pp_cobj c2', pp_size c2', nI_le (show n2 ≤ p by omega) (show p < 2 ^ 31 by omega), pp_bind, ↓reduceIte]
  | succ s ih =>
    intro p fu seen h gY hH hp hfu
    obtain ⟨fu, rfl⟩ : ∃ z, fu = z + 1 := ⟨fu - 1, by omega⟩
    have c1' := bt_cry hH c1 k1
    have c2' := bt_cry hH c2 k2
    obtain ⟨e23, ex, ey, ex1, ey1, hxy, e⟩ := id hH
    have h8 := c2.lt8 (show p < n2 by omega)
    rw [s_X0_goOnFrom_L7]
    simp only [pp_cobj c2', pp_size c2', nI_ge (show p < n2 by omega) (show n2 < 2 ^ 31 by omega), pp_at c2' (show p < 2 ^ 31 by omega), pp_w_in (show p < n2 by omega), sh_w h8, fa_or, pp_bind, ↓reduceIte]
    by_cases hs : seen.testBit (f2 p) = true
    · obtain ⟨h1, gY1, a1, a2, a3⟩ := ih (p + 1) fu seen h gY hH (by omega) (by omega)
      refine ⟨h1, gY1, ?_, a2, fun φ => by rw [a3, lo_Ls hs]⟩
      rw [if_neg (fun z => by have := (fa_bit (by omega)).mp z; rw [hs] at this; cases this), s_X0_goOnFrom_J75, nI_1]
      exact a1
    · have lm := fw_le (n := n1) (w := f2 p) (f := f1) ha
      obtain ⟨h1, gY1, a1, a2, a3⟩ := ih (p + 1) fu (seen ||| 2 ^ f2 p) _ _ (bt_wrY hH (vp_updL gY (fw_n n1 f1 (f2 p) a * 13 + (p + 1)) (gY (fw_n n1 f1 (f2 p) a * 13 + (p + 1)) + c))) (by omega) (by omega)
      refine ⟨h1, gY1, ?_, a2, fun φ => by rw [a3, lo_up lm (by omega) (by omega), lo_Ln h8 hs, Int64.mul_add]; grind⟩
      rw [if_pos ((fa_bit (by omega)).mpr (by cases hz : seen.testBit (f2 p) with
        | false => rfl
        | true => exact absurd hz hs))]
      have j66 : s_X0_goOnFrom_J66 (s_X0_goOnFrom_J75 (s_X0_goOnFrom_L7 fu)) 23 b1 (nI a) b2 c (nI (seen ||| 2 ^ f2 p)) (nI p) y (nI (fw_n n1 f1 (f2 p) a)) h = some ((), h1) := by
        unfold s_X0_goOnFrom_J66 s_X0_goOnFrom_J75
        rw [pp_obj ey, pp_bind, nI_1, gr_more ey ey1 (by omega) (by omega), pp_bind]
        exact a1
      rw [pp_fr e23 (k := 1) (v := y) rfl, pp_bind, pp_cobj c1', pp_bind, pp_at c1' (show a < 2 ^ 31 by omega), pp_bind]
      simp only []
      by_cases hc : a < n1 ∧ f1 a = f2 p
      · rw [if_pos ((pp_wn h8 (fun z => c1.lt8 z)).mpr hc)]
        rw [fw_n1 hc] at j66
        rw [nI_1]
        exact j66
      · rw [if_neg (fun z => hc ((pp_wn h8 (fun z => c1.lt8 z)).mp z))]
        rw [fw_n0 hc] at j66
        exact j66
theorem go_1 (c1 : pp_cry h0 b1 n1 f1) (c2 : pp_cry h0 b2 n2 f2) (k1 : 29 ≤ b1 ∨ b1 = 4) (k2 : 29 ≤ b2 ∨ b2 = 4) (κ : Nat → Nat → Nat → Int32 → tt_H → Option (Unit × tt_H)) {a : Nat} (ha : a ≤ n1) (B : (Nat → Nat → Int64) → Int64) :
    ∀ (s p fu : Nat) (h : tt_H) (gY : Nat → Int64), bt_H h0 h x y gX gY → p + s = n2 → s < fu → (∀ φ, lo_S n1 n2 gY φ = B φ + sg (fun p => gX (a * 13 + p) * lo_F n1 n2 f1 f2 φ a p) p) → ∃ h1 gY', s_X0_goOn_L20 κ fu 23 b1 b2 (nI a) (nI p) h = κ 23 b1 b2 (nI (a + 1)) h1 ∧ bt_H h0 h1 x y gX gY' ∧ ∀ φ, lo_S n1 n2 gY' φ = B φ + sg (fun p => gX (a * 13 + p) * lo_F n1 n2 f1 f2 φ a p) n2 := by
  have l1 := c1.le
  have l2 := c2.le
  intro s
  induction s with
  | zero =>
    intro p fu h gY hH hp hfu hB
    obtain ⟨fu, rfl⟩ : ∃ z, fu = z + 1 := ⟨fu - 1, by omega⟩
    obtain rfl : p = n2 := by omega
    have c2' := bt_cry hH c2 k2
    refine ⟨h, gY, ?_, hH, hB⟩
    rw [s_X0_goOn_L20]
    simp only [pp_cobj c2', pp_size c2', nI_le (Nat.le_refl p) (show p < 2 ^ 31 by omega), nI_1, pp_bind, ↓reduceIte]
  | succ s ih =>
    intro p fu h gY hH hp hfu hB
    obtain ⟨fu, rfl⟩ : ∃ z, fu = z + 1 := ⟨fu - 1, by omega⟩
    have c2' := bt_cry hH c2 k2
    obtain ⟨e23, ex, ey, ex1, ey1, hxy, e⟩ := id hH
    rw [s_X0_goOn_L20]
    simp only [pp_cobj c2', pp_size c2', nI_ge (show p < n2 by omega) (show n2 < 2 ^ 31 by omega), pp_fr e23 (k := 0) (v := x) rfl, pp_obj ex, gr_at ex ex1 (show a < 13 by omega) (show p < 13 by omega), s_X0_goOn_J59, nI_1, pp_bind, ↓reduceIte]
    by_cases hz : gX (a * 13 + p) = 0
    · obtain ⟨h1, gY1, a1, a2, a3⟩ := ih (p + 1) fu h gY hH (by omega) (by omega) (fun φ => by rw [hB, sg, hz, Int64.zero_mul, Int64.add_zero])
      refine ⟨h1, gY1, ?_, a2, a3⟩
      rw [if_pos ((lg_cmp_eq _ _).mpr hz)]
      exact a1
    · obtain ⟨h1, gY1, a1, a2, a3⟩ := gf_c c1 c2 k1 k2 ha (gX (a * 13 + p)) (n2 - p) p 1000 0 h gY hH (by omega) (by omega)
      obtain ⟨h2, gY2, a4, a5, a6⟩ := ih (p + 1) fu h1 gY1 a2 (by omega) (by omega) (fun φ => by rw [a3, hB, sg, Int64.add_assoc]; rfl)
      refine ⟨h2, gY2, ?_, a5, a6⟩
      rw [if_neg (fun z => hz ((lg_cmp_eq _ _).mp z)), pp_obj e23, pp_bind]
      have a1' : s_X0_goOnFrom 23 b1 (nI a) b2 (nI p) (gX (a * 13 + p)) h = some ((), h1) := a1
      rw [a1', pp_bind]
      exact a4
theorem go_2 (c1 : pp_cry h0 b1 n1 f1) (c2 : pp_cry h0 b2 n2 f2) (k1 : 29 ≤ b1 ∨ b1 = 4) (k2 : 29 ≤ b2 ∨ b2 = 4) :
    ∀ (s a fu : Nat) (h : tt_H) (gY : Nat → Int64), bt_H h0 h x y gX gY → a + s = n1 + 1 → s < fu → (∀ φ, lo_S n1 n2 gY φ = sg (fun a => sg (fun p => gX (a * 13 + p) * lo_F n1 n2 f1 f2 φ a p) n2) a) → ∃ h1 gY', s_X0_goOn_L9 fu 23 b1 b2 (nI a) h = some ((), h1) ∧ bt_H h0 h1 y x gY' gX ∧ ∀ φ, lo_S n1 n2 gY' φ = lo_S n1 n2 gX (lo_F n1 n2 f1 f2 φ) := by
  have l1 := c1.le
  have l2 := c2.le
  intro s
  induction s with
  | zero =>
    intro a fu h gY hH hp hfu hB
    obtain ⟨fu, rfl⟩ : ∃ z, fu = z + 1 := ⟨fu - 1, by omega⟩
    obtain rfl : a = n1 + 1 := by omega
    have c1' := bt_cry hH c1 k1
    obtain ⟨e23, ex, ey, ex1, ey1, hxy, e⟩ := id hH
    have p1 : gg_put h 23 0 0 (.ref y) = some (va_up h 23 (some (tt_ob 0 [.ref y, .ref y]))) := pp_put e23 _ (Nat.le_of_ble_eq_true rfl)
    have p2 : gg_put (va_up h 23 (some (tt_ob 0 [.ref y, .ref y]))) 23 0 1 (.ref x) = some (va_up h 23 (some (tt_ob 0 [.ref y, .ref x]))) := by
      rw [pp_put (va_up_self _ _ _) _ (Nat.le_of_ble_eq_true rfl), bx_uu]; rfl
    refine ⟨va_up h 23 (some (tt_ob 0 [.ref y, .ref x])), gY, ?_, ⟨va_up_self _ _ _, by rw [va_up_ne _ _ (by omega)]; exact ey, by rw [va_up_ne _ _ (by omega)]; exact ex, by rw [va_up_ne _ _ (by omega)]; exact ey1, by rw [va_up_ne _ _ (by omega)]; exact ex1, by omega, fun i h1 h2 h3 => by rw [va_up_ne _ _ h1]; exact e i h1 h2 h3⟩, fun φ => ?_⟩
    · rw [s_X0_goOn_L9]
      simp only [pp_cobj c1', pp_size c1', nI_lt (Nat.lt_succ_self n1) (show n1 + 1 < 2 ^ 31 by omega), pp_fr e23 (k := 0) (v := x) rfl, pp_fr e23 (k := 1) (v := y) rfl, p1, p2, pp_bind, ↓reduceIte]
    · rw [hB]
      refine sg_cong (n1 + 1) (fun a _ => ?_)
      rw [sg, show lo_F n1 n2 f1 f2 φ a n2 = 0 by unfold lo_F; rw [Nat.sub_self, lo_L0], Int64.mul_zero, Int64.add_zero]
  | succ s ih =>
    intro a fu h gY hH hp hfu hB
    obtain ⟨fu, rfl⟩ : ∃ z, fu = z + 1 := ⟨fu - 1, by omega⟩
    have c1' := bt_cry hH c1 k1
    obtain ⟨h1, gY1, a1, a2, a3⟩ := go_1 c1 c2 k1 k2 (s_X0_goOn_L9 fu) (show a ≤ n1 by omega) (fun φ => sg (fun a => sg (fun p => gX (a * 13 + p) * lo_F n1 n2 f1 f2 φ a p) n2) a) n2 0 1000 h gY hH (by omega) (by omega) (fun φ => by rw [hB]; exact (Int64.add_zero _).symm)
    obtain ⟨h2, gY2, a4, a5, a6⟩ := ih (a + 1) fu h1 gY1 a2 (by omega) (by omega) (fun φ => by rw [a3]; rfl)
    refine ⟨h2, gY2, ?_, a5, a6⟩
    rw [s_X0_goOn_L9]
    simp only [pp_cobj c1', pp_size c1', nI_nlt (show a ≤ n1 by omega) (show n1 < 2 ^ 31 by omega), pp_bind, ↓reduceIte]
    exact a1.trans a4
theorem gr_clear {h : tt_H} {b : Nat} {g : Nat → Int64} (hb : h b = some (tt_ob 4 [.ref (b + 1)])) (hg : h (b + 1) = some (tt_ja 169 g)) : ∃ g', s_X4_clear b h = some ((), va_up h (b + 1) (some (tt_ja 169 g'))) ∧ ∀ j, j < 169 → g' j = 0 := by
  obtain ⟨g', e1, e2⟩ := fl_JJ (y := 0) hg (by decide)
  refine ⟨g', ?_, e2⟩
  unfold s_X4_clear
  rw [pp_fr hb (k := 0) (v := b + 1) rfl, pp_bind, e1, pp_bind]
theorem go_c (hH : bt_H h0 h x y gX gY) (c1 : pp_cry h0 b1 n1 f1) (c2 : pp_cry h0 b2 n2 f2) (k1 : 29 ≤ b1 ∨ b1 = 4) (k2 : 29 ≤ b2 ∨ b2 = 4) : ∃ h1 gY', s_X0_goOn 23 b1 b2 h = some ((), h1) ∧ bt_H h0 h1 y x gY' gX ∧ ∀ φ, lo_S n1 n2 gY' φ = lo_S n1 n2 gX (lo_F n1 n2 f1 f2 φ) := by
  have l1 := c1.le
  have l2 := c2.le
  obtain ⟨e23, ex, ey, ex1, ey1, hxy, e⟩ := id hH
  obtain ⟨g', a1, a2⟩ := gr_clear ey ey1
  obtain ⟨h1, gY1, a3, a4, a5⟩ := go_2 (f1 := f1) (f2 := f2) c1 c2 k1 k2 (n1 + 1) 0 1000 _ g' (bt_wrY hH g') (by omega) (by omega) (fun φ => lo_0 (fun a p ha hp => a2 _ (by omega)) φ)
  refine ⟨h1, gY1, ?_, a4, a5⟩
  unfold s_X0_goOn
  rw [pp_fr e23 (k := 1) (v := y) rfl, pp_bind, pp_obj ey, pp_bind, a1, pp_bind]
  exact a3
theorem ct_s (hH : bt_H h0 h x y gX gY) (c1 : pp_cry h0 b1 n1 f1) (c2 : pp_cry h0 b2 n2 f2) (k1 : 29 ≤ b1 ∨ b1 = 4) (k2 : 29 ≤ b2 ∨ b2 = 4) :
    ∀ (s p fu : Nat), p + s = n2 + 1 → s < fu → s_X0_count_L44 fu 23 b1 b2 (sg (fun p => gX (n1 * 13 + p)) p) (nI p) h = some (sg (fun p => gX (n1 * 13 + p)) (n2 + 1), h) := by
  have l1 := c1.le
  have l2 := c2.le
  have c1' := bt_cry hH c1 k1
  have c2' := bt_cry hH c2 k2
  obtain ⟨e23, ex, ey, ex1, ey1, hxy, e⟩ := id hH
  intro s
  induction s with
  | zero =>
    intro p fu hp hfu
    obtain ⟨fu, rfl⟩ : ∃ z, fu = z + 1 := ⟨fu - 1, by omega⟩
    obtain rfl : p = n2 + 1 := by omega
    rw [s_X0_count_L44]
    simp only [pp_cobj c2', pp_size c2', nI_lt (Nat.lt_succ_self n2) (show n2 + 1 < 2 ^ 31 by omega), pp_bind, ↓reduceIte]
  | succ s ih =>
    intro p fu hp hfu
    obtain ⟨fu, rfl⟩ : ∃ z, fu = z + 1 := ⟨fu - 1, by omega⟩
    rw [s_X0_count_L44]
    simp only [pp_cobj c2', pp_size c2', nI_nlt (show p ≤ n2 by omega) (show n2 < 2 ^ 31 by omega), pp_fr e23 (k := 0) (v := x) rfl, pp_cobj c1', pp_size c1', pp_obj ex, gr_at ex ex1 (show n1 < 13 by omega) (show p < 13 by omega), nI_1, pp_bind, ↓reduceIte]
    exact ih (p + 1) fu (by omega) (by omega)
theorem ct_c (c1 : pp_cry h0 b1 n1 f1) (c2 : pp_cry h0 b2 n2 f2) (k1 : 29 ≤ b1 ∨ b1 = 4) (k2 : 29 ≤ b2 ∨ b2 = 4) {n : Nat} (hn : n ≤ 12) :
    ∀ (s k fu x y : Nat) (h : tt_H) (gX gY : Nat → Int64), bt_H h0 h x y gX gY → k + s = n → s < fu → (∀ φ, lo_S n1 n2 gX φ = lo_I n1 n2 f1 f2 k φ 0 0) → ∃ h1 x' y' gX' gY', s_X0_count_L20 fu 23 b1 b2 (nI n) (nI k) h = some (lo_I n1 n2 f1 f2 n (lo_d n1) 0 0, h1) ∧ bt_H h0 h1 x' y' gX' gY' := by
  have l1 := c1.le
  have l2 := c2.le
  intro s
  induction s with
  | zero =>
    intro k fu x y h gX gY hH hk hfu hB
    obtain ⟨fu, rfl⟩ : ∃ z, fu = z + 1 := ⟨fu - 1, by omega⟩
    obtain rfl : k = n := by omega
    refine ⟨h, x, y, gX, gY, ?_, hH⟩
    have e := ct_s hH c1 c2 k1 k2 (n2 + 1) 0 1000 (by omega) (by omega)
    rw [← lo_Sd, hB] at e
    rw [s_X0_count_L20, if_pos (nI_le (Nat.le_refl k) (by omega))]
    exact e
  | succ s ih =>
    intro k fu x y h gX gY hH hk hfu hB
    obtain ⟨fu, rfl⟩ : ∃ z, fu = z + 1 := ⟨fu - 1, by omega⟩
    obtain ⟨h1, gY1, a1, a2, a3⟩ := go_c hH c1 c2 k1 k2
    obtain ⟨h2, x', y', gX2, gY2, a4, a5⟩ := ih (k + 1) fu y x h1 gY1 gX a2 (by omega) (by omega) (fun φ => by rw [a3, hB]; rfl)
    refine ⟨h2, x', y', gX2, gY2, ?_, a5⟩
    rw [s_X0_count_L20, if_neg (nI_ge (by omega) (by omega)), pp_obj hH.1, pp_bind, a1, pp_bind, nI_1]
    exact a4
end BT
section BTS
variable {kn : Nat → Nat} {dc : Nat} {sz : Nat → Nat} {wd : Nat → Nat → Nat} {so sl : Nat → Nat} {sc : Nat → Nat → Int32} {tr ft : Int32} {h : tt_H} {b1 b2 n1 n2 : Nat} {f1 f2 : Nat → Nat}
theorem cl_count (ha : cc_A (kn, dc, sz, wd, so, sl, sc, tr, ft) h) (c1 : pp_cry h b1 n1 f1) (c2 : pp_cry h b2 n2 f2) (k1 : 29 ≤ b1 ∨ b1 = 4) (k2 : 29 ≤ b2 ∨ b2 = 4) {n : Nat} (hn : n ≤ 12) :
    ∃ h1, s_X0_count 23 b1 b2 (nI n) h = some (lo_I n1 n2 f1 f2 n (lo_d n1) 0 0, h1) ∧ cc_A (kn, dc, sz, wd, so, sl, sc, tr, ft) h1 ∧ ∀ i, 49 ≤ i → h1 i = h i := by
  have l1 := c1.le
  have l2 := c2.le
  obtain ⟨x, y, e23, hxy⟩ := ha.2.2.2.2.2
  have e24 : h 24 = some (tt_ob 4 [.ref 25]) := by obtain ⟨-, -, -, -, -, -, -, -, -, -, -, -, -, -, e, -⟩ := ha.1; exact e
  have e26 : h 26 = some (tt_ob 4 [.ref 27]) := by obtain ⟨-, -, -, -, -, -, -, -, -, -, -, -, -, -, -, e⟩ := ha.1; exact e
  obtain ⟨g25, e25⟩ := ha.2.2.1 (25, 169) (by decide)
  obtain ⟨g27, e27⟩ := ha.2.2.1 (27, 169) (by decide)
  obtain ⟨gX, gY, hH⟩ : ∃ gX gY, bt_H h h x y gX gY := by
    rcases hxy with ⟨rfl, rfl⟩ | ⟨rfl, rfl⟩
    · exact ⟨g25, g27, e23, e24, e26, e25, e27, Or.inl ⟨rfl, rfl⟩, fun _ _ _ _ => rfl⟩
    · exact ⟨g27, g25, e23, e26, e24, e27, e25, Or.inr ⟨rfl, rfl⟩, fun _ _ _ _ => rfl⟩
  obtain ⟨-, ex, ey, ex1, ey1, -, -⟩ := id hH
  obtain ⟨g', q1, q2⟩ := gr_clear ex ex1
  have hH1 := bt_wrX hH g'
  obtain ⟨f23, fx, -, fx1, -, -, -⟩ := id hH1
  have hH2 := bt_wrX hH1 (vp_updL g' (0 * 13 + 0) 1)
  rw [bx_uu] at hH2
  obtain ⟨h1, x', y', gX1, gY1, a1, a2⟩ := ct_c c1 c2 k1 k2 hn n 0 1000 x y _ _ gY hH2 (by omega) (by omega) (fun φ => by
    have z := lo_up (N := n1) (m := n2) (g := g') (a := 0) (p := 0) (c := 1) (Nat.zero_le _) (Nat.zero_le _) (by omega) φ
    rw [q2 (0 * 13 + 0) (by decide), Int64.zero_add, lo_0 (fun a p ha hp => q2 _ (by omega)), Int64.zero_add, Int64.one_mul] at z
    exact z)
  obtain ⟨f18, gx, gy, gx1, gy1, fxy, f⟩ := a2
  refine ⟨h1, ?_, ⟨ha.1.congr (fun i hi => f i (by unfold cc_main at hi; omega) (by unfold cc_main at hi; omega) (by unfold cc_main at hi; omega)), ?_⟩, fun i hi => f i (by omega) (by omega) (by omega)⟩
  · have w1 := gr_wr fx fx1 (show 0 < 13 by decide) (show 0 < 13 by decide) 1
    rw [bx_uu, show nI 0 = (0 : Int32) from rfl] at w1
    unfold s_X0_count
    simp only [pp_fr e23 (k := 0) (v := x) rfl, pp_obj ex, q1, pp_fr f23 (k := 0) (v := x) rfl, pp_obj fx, w1, pp_bind]
    exact a1
  · obtain ⟨s1, s2, s3, s4, s5⟩ := ha.2
    refine ⟨fun q hq => ?_, fun q hq => ?_, by rw [f 11 (by decide) (by decide) (by decide)]; exact s3, by rw [f 18 (by decide) (by decide) (by decide)]; exact s4, ⟨x', y', f18, fxy⟩⟩
    · have : q.1 ≠ 23 ∧ q.1 ≠ 25 ∧ q.1 ≠ 27 := by revert q; decide
      rw [f q.1 this.1 this.2.1 this.2.2]; exact s1 q hq
    · by_cases q20 : q.1 = 25 ∨ q.1 = 27
      · have hq2 : q.2 = 169 := by revert q; decide
        rw [hq2]
        rcases q20 with q20 | q20
        · rw [q20]
          rcases fxy with ⟨rfl, rfl⟩ | ⟨rfl, rfl⟩
          · exact ⟨_, gx1⟩
          · exact ⟨_, gy1⟩
        · rw [q20]
          rcases fxy with ⟨rfl, rfl⟩ | ⟨rfl, rfl⟩
          · exact ⟨_, gy1⟩
          · exact ⟨_, gx1⟩
      · have : q.1 ≠ 23 := by revert q; decide
        rw [f q.1 this (fun z => q20 (Or.inl z)) (fun z => q20 (Or.inr z))]; exact s2 q hq
end BTS
/-! the model -/
section BM
variable {h0 h : tt_H} {d1 d2 n1 n2 N : Nat} {f1 f2 g1 : Nat → Nat}
theorem bh_m (c2 : pp_m h d2 n2 f2) {w : Nat} (hw : w < 8) : ∀ (s q fu : Nat), q + s = n2 → s < fu → s_X9_behind_L3 fu 49 (nI d2) (nI w) (nI q) h = some (if bh f2 w s q = 0 then -9 else nI (bh f2 w s q), h) := by
  have l2 := c2.le
  have hmo := c2.1
  intro s
  induction s with
  | zero =>
    intro q fu hq hfu
    obtain ⟨fu, rfl⟩ : ∃ z, fu = z + 1 := ⟨fu - 1, by omega⟩
    rw [s_X9_behind_L3, mo_7 hmo, pp_bind, pp_mlen c2, pp_bind, if_pos (nI_le (by omega) (by omega))]
    rfl
  | succ s ih =>
    intro q fu hq hfu
    obtain ⟨fu, rfl⟩ : ∃ z, fu = z + 1 := ⟨fu - 1, by omega⟩
    have u8 := c2.lt8 (show q < n2 by omega)
    rw [s_X9_behind_L3, mo_7 hmo, pp_bind, pp_mlen c2, pp_bind, if_neg (nI_ge (by omega) (by omega)), hmo.b, pp_mw c2 (by omega), pp_bind, bh]
    simp only []
    by_cases hf : f2 q = w
    · rw [if_pos (by rw [hf]), if_pos hf, if_neg (by omega), nI_1]
    · rw [if_neg (fun z => hf ((nI_eq (by omega) (by omega)).mp z)), if_neg hf, nI_1, ih (q + 1) fu (by omega) (by omega)]
/-- the rows tell φ -/
def bm_R (N m : Nat) (g : Nat → Int64) (φ : Nat → Nat → Int64) : Prop := ∀ a p, a ≤ N → p ≤ m → g (13 * a + p) = φ a p
theorem ln_w (c1 : pp_m h0 d1 n1 g1) (c2 : pp_m h0 d2 n2 f2) (hN : N ≤ n1) (hf1 : ∀ a, a < N → f1 a = g1 a) {g65 : Nat → Int64} {φ : Nat → Nat → Int64} (h65 : h0 65 = some (tt_ja 169 g65)) (hR : bm_R N n2 g65 φ) (κ : Nat → Int32 → Int32 → Int32 → Int32 → Int32 → tt_H → Option (Unit × tt_H)) {a j : Nat} (ha : a ≤ N) (hj : j ≤ n2) (g66 : Nat → Int64) :
    ∀ (s w fu : Nat), w + s = 8 → s < fu → s_X9_lengthen_L29 κ fu 49 (nI d1) (nI d2) (nI N) (nI a) (nI j) (sg (fun w => if (0 : Nat).testBit w = true ∨ bh f2 w (n2 - j) j = 0 then 0 else φ (fw_n N f1 w a) (bh f2 w (n2 - j) j)) w) (nI w) (va_up h0 66 (some (tt_ja 169 g66))) = κ 49 (nI d1) (nI d2) (nI N) (nI a) (nI (j + 1)) (va_up h0 66 (some (tt_ja 169 (vp_updL g66 (13 * a + j) (lo_F N n2 f1 f2 φ a j))))) := by
  have l1 := c1.le
  have l2 := c2.le
  have c1' : pp_m (va_up h0 66 (some (tt_ja 169 g66))) d1 n1 g1 := c1.up _ (by decide)
  have c2' : pp_m (va_up h0 66 (some (tt_ja 169 g66))) d2 n2 f2 := c2.up _ (by decide)
  have hmo := c1'.1
  have h65' : va_up h0 66 (some (tt_ja 169 g66)) 65 = some (tt_ja 169 g65) := by rw [va_up_ne _ _ (by decide)]; exact h65
  intro s
  induction s with
  | zero =>
    intro w fu hw hfu
    obtain ⟨fu, rfl⟩ : ∃ z, fu = z + 1 := ⟨fu - 1, by omega⟩
    obtain rfl : w = 8 := by omega
    rw [s_X9_lengthen_L29, if_pos (by decide), mo_24 hmo, pp_bind, sp_m, pp_bind]
    simp only []
    rw [pp_js (va_up_self _ _ _) (by omega) (by decide), pp_bind, bx_uu, nI_1]
    rfl
  | succ s ih =>
    intro w fu hw hfu
    obtain ⟨fu, rfl⟩ : ∃ z, fu = z + 1 := ⟨fu - 1, by omega⟩
    have hw8 : w < 8 := by omega
    have lm := fw_le (n := N) (w := w) (f := f1) ha
    have lb := bh_le f2 w (n2 - j) j
    have eb : s_X9_behind 49 (nI d2) (nI j) (nI w) (va_up h0 66 (some (tt_ja 169 g66))) = some (if bh f2 w (n2 - j) j = 0 then -9 else nI (bh f2 w (n2 - j) j), va_up h0 66 (some (tt_ja 169 g66))) := bh_m c2' hw8 (n2 - j) j 1000 (by omega) (by omega)
    have e0 := ih (w + 1) fu (by omega) (by omega)
    have j74 : ∀ u : Int32, u = nI (fw_n N f1 w a) → s_X9_lengthen_J74 (s_X9_lengthen_L29 κ fu) 49 (nI d1) (nI d2) (nI N) (nI a) (nI j) (sg (fun w => if (0 : Nat).testBit w = true ∨ bh f2 w (n2 - j) j = 0 then 0 else φ (fw_n N f1 w a) (bh f2 w (n2 - j) j)) w) (nI w) (if bh f2 w (n2 - j) j = 0 then -9 else nI (bh f2 w (n2 - j) j)) u (va_up h0 66 (some (tt_ja 169 g66))) = κ 49 (nI d1) (nI d2) (nI N) (nI a) (nI (j + 1)) (va_up h0 66 (some (tt_ja 169 (vp_updL g66 (13 * a + j) (lo_F N n2 f1 f2 φ a j))))) := by
      rintro u rfl
      rw [sg] at e0
      unfold s_X9_lengthen_J74 s_X9_lengthen_J101
      by_cases hb : bh f2 w (n2 - j) j = 0
      · rw [if_pos (show (0 : Nat).testBit w = true ∨ bh f2 w (n2 - j) j = 0 from Or.inr hb)] at e0
        rw [if_pos hb, if_pos rfl, nI_1]
        exact e0
      · rw [if_neg (show ¬ ((0 : Nat).testBit w = true ∨ bh f2 w (n2 - j) j = 0) from fun z => z.elim (fun q => by rw [Nat.zero_testBit] at q; cases q) hb)] at e0
        rw [if_neg hb, if_neg (fun z => absurd z.symm (pp_neg_ne (by decide) (by omega))), mo_23 hmo, pp_bind, sp_m, pp_bind]
        simp only []
        rw [pp_jl h65' (by omega) (by decide), pp_bind, hR _ _ lm (by omega), nI_1]
        exact e0
    rw [s_X9_lengthen_L29, if_neg (show ¬ (8 : Int32) ≤ nI w from nI_ge (a := w) (b := 8) hw8 (by decide)), hmo.b, eb, pp_bind]
    simp only []
    unfold s_X9_lengthen_J72
    by_cases ha2 : a < N
    · have u8 := c1.lt8 (show a < n1 by omega)
      rw [if_neg (nI_ge ha2 (by omega)), hmo.b, pp_mw c1' (by omega), pp_bind]
      simp only []
      by_cases hf : g1 a = w
      · rw [if_pos (by rw [hf])]
        exact j74 _ (by rw [fw_n1 ⟨ha2, (hf1 a ha2).trans hf⟩, nI_1])
      · rw [if_neg (fun z => hf ((nI_eq (by omega) (by omega)).mp z))]
        exact j74 _ (by rw [fw_n0 (fun z => hf ((hf1 a ha2).symm.trans z.2))])
    · rw [if_pos (nI_le (by omega) (by omega))]
      exact j74 _ (by rw [fw_n0 (fun z => ha2 z.1)])
theorem ln_1 (c1 : pp_m h0 d1 n1 g1) (c2 : pp_m h0 d2 n2 f2) (hN : N ≤ n1) (hf1 : ∀ a, a < N → f1 a = g1 a) {g65 : Nat → Int64} {φ : Nat → Nat → Int64} (h65 : h0 65 = some (tt_ja 169 g65)) (hR : bm_R N n2 g65 φ) (κ : Nat → Int32 → Int32 → Int32 → Int32 → tt_H → Option (Unit × tt_H)) {a : Nat} (ha : a ≤ N) :
    ∀ (s j fu : Nat) (g66 : Nat → Int64), j + s = n2 + 1 → s < fu → (∀ x p, x ≤ N → p ≤ n2 → (x < a ∨ x = a ∧ p < j) → g66 (13 * x + p) = lo_F N n2 f1 f2 φ x p) → ∃ g', s_X9_lengthen_L12 κ fu 49 (nI d1) (nI d2) (nI N) (nI a) (nI j) (va_up h0 66 (some (tt_ja 169 g66))) = κ 49 (nI d1) (nI d2) (nI N) (nI (a + 1)) (va_up h0 66 (some (tt_ja 169 g'))) ∧ ∀ x p, x ≤ N → p ≤ n2 → x < a + 1 → g' (13 * x + p) = lo_F N n2 f1 f2 φ x p := by
  have l1 := c1.le
  have l2 := c2.le
  intro s
  induction s with
  | zero =>
    intro j fu g66 hj hfu hg
    obtain ⟨fu, rfl⟩ : ∃ z, fu = z + 1 := ⟨fu - 1, by omega⟩
    have c2' : pp_m (va_up h0 66 (some (tt_ja 169 g66))) d2 n2 f2 := c2.up _ (by decide)
    refine ⟨g66, ?_, fun x p hx hp hxa => hg x p hx hp (by omega)⟩
    rw [s_X9_lengthen_L12, mo_7 c2'.1, pp_bind, pp_mlen c2', pp_bind, if_pos (nI_lt (by omega) (by omega)), nI_1]
  | succ s ih =>
    intro j fu g66 hj hfu hg
    obtain ⟨fu, rfl⟩ : ∃ z, fu = z + 1 := ⟨fu - 1, by omega⟩
    have c2' : pp_m (va_up h0 66 (some (tt_ja 169 g66))) d2 n2 f2 := c2.up _ (by decide)
    have e := ln_w c1 c2 hN hf1 h65 hR (s_X9_lengthen_L12 κ fu) ha (show j ≤ n2 by omega) g66 8 0 1000 (by omega) (by omega)
    obtain ⟨g', a1, a2⟩ := ih (j + 1) fu (vp_updL g66 (13 * a + j) (lo_F N n2 f1 f2 φ a j)) (by omega) (by omega) (fun x p hx hp hxp => by
      by_cases hc : x = a ∧ p = j
      · rw [hc.1, hc.2, pk_uLs]
      · rw [pk_uLn (by omega)]; exact hg x p hx hp (by omega))
    refine ⟨g', ?_, a2⟩
    rw [s_X9_lengthen_L12, mo_7 c2'.1, pp_bind, pp_mlen c2', pp_bind, if_neg (nI_nlt (by omega) (by omega))]
    exact e.trans a1
theorem ln_cp {g66 : Nat → Int64} (hmo : pp_mo h0) (h66 : h0 66 = some (tt_ja 169 g66)) : ∀ (s k fu : Nat) (g : Nat → Int64), k + s = 169 → s < fu → (∀ i, i < k → g i = g66 i) → ∃ g', s_X9_lengthen_L139 fu 49 (nI k) (va_up h0 65 (some (tt_ja 169 g))) = some ((), va_up h0 65 (some (tt_ja 169 g'))) ∧ ∀ i, i < 169 → g' i = g66 i := by
  intro s
  induction s with
  | zero =>
    intro k fu g hk hfu hg
    obtain ⟨fu, rfl⟩ : ∃ z, fu = z + 1 := ⟨fu - 1, by omega⟩
    refine ⟨g, ?_, fun i hi => hg i (by omega)⟩
    rw [s_X9_lengthen_L139, if_pos (show (169 : Int32) ≤ nI k from nI_le (a := 169) (b := k) (by omega) (by omega))]
  | succ s ih =>
    intro k fu g hk hfu hg
    obtain ⟨fu, rfl⟩ : ∃ z, fu = z + 1 := ⟨fu - 1, by omega⟩
    obtain ⟨g', a1, a2⟩ := ih (k + 1) fu (vp_updL g k (g66 k)) (by omega) (by omega) (fun i hi => by
      by_cases hc : i = k
      · rw [hc, pk_uLs]
      · rw [pk_uLn hc]; exact hg i (by omega))
    refine ⟨g', ?_, a2⟩
    have hmo' : pp_mo (va_up h0 65 (some (tt_ja 169 g))) := hmo.up _ (by decide)
    rw [s_X9_lengthen_L139, if_neg (show ¬ (169 : Int32) ≤ nI k from nI_ge (a := k) (b := 169) (by omega) (by decide)), mo_23 hmo', pp_bind, mo_24 hmo', pp_bind, pp_jl (f := g66) (by rw [va_up_ne _ _ (by decide)]; exact h66) (by omega) (by decide), pp_bind, pp_js (va_up_self _ _ _) (by omega) (by decide), pp_bind, bx_uu, nI_1]
    exact a1
theorem ln_2 (c1 : pp_m h0 d1 n1 g1) (c2 : pp_m h0 d2 n2 f2) (hN : N ≤ n1) (hf1 : ∀ a, a < N → f1 a = g1 a) {g65 : Nat → Int64} {φ : Nat → Nat → Int64} (h65 : h0 65 = some (tt_ja 169 g65)) (hR : bm_R N n2 g65 φ) :
    ∀ (s a fu : Nat) (g66 : Nat → Int64), a + s = N + 1 → s < fu → (∀ x p, x ≤ N → p ≤ n2 → x < a → g66 (13 * x + p) = lo_F N n2 f1 f2 φ x p) → ∃ g1' g2', s_X9_lengthen_L3 fu 49 (nI d1) (nI d2) (nI N) (nI a) (va_up h0 66 (some (tt_ja 169 g66))) = some ((), va_up (va_up h0 66 (some (tt_ja 169 g2'))) 65 (some (tt_ja 169 g1'))) ∧ bm_R N n2 g1' (lo_F N n2 f1 f2 φ) := by
  have l1 := c1.le
  have l2 := c2.le
  intro s
  induction s with
  | zero =>
    intro a fu g66 ha hfu hg
    obtain ⟨fu, rfl⟩ : ∃ z, fu = z + 1 := ⟨fu - 1, by omega⟩
    obtain ⟨g', a1, a2⟩ := ln_cp (h0 := va_up h0 66 (some (tt_ja 169 g66))) (c1.1.up _ (by decide)) (va_up_self _ _ _) 169 0 1000 g65 (by omega) (by omega) (fun i hi => absurd hi (Nat.not_lt_zero i))
    rw [pp_same (by rw [va_up_ne _ _ (by decide)]; exact h65)] at a1
    refine ⟨g', g66, ?_, fun x p hx hp => by rw [a2 _ (by omega)]; exact hg x p hx hp (by omega)⟩
    rw [s_X9_lengthen_L3, if_pos (nI_lt (by omega) (by omega))]
    exact a1
  | succ s ih =>
    intro a fu g66 ha hfu hg
    obtain ⟨fu, rfl⟩ : ∃ z, fu = z + 1 := ⟨fu - 1, by omega⟩
    obtain ⟨g', a1, a2⟩ := ln_1 c1 c2 hN hf1 h65 hR (s_X9_lengthen_L3 fu) (show a ≤ N by omega) (n2 + 1) 0 1000 g66 (by omega) (by omega) (fun x p hx hp hxp => hg x p hx hp (by omega))
    obtain ⟨q1, q2, a3, a4⟩ := ih (a + 1) fu g' (by omega) (by omega) a2
    refine ⟨q1, q2, ?_, a4⟩
    rw [s_X9_lengthen_L3, if_neg (nI_nlt (by omega) (by omega))]
    exact a1.trans a3
def bm_H (h0 h : tt_H) (g65 g66 : Nat → Int64) : Prop := h 65 = some (tt_ja 169 g65) ∧ h 66 = some (tt_ja 169 g66) ∧ ∀ i, i ≠ 65 → i ≠ 66 → h i = h0 i
theorem bw_2 (c1 : pp_m h0 d1 n1 g1) (c2 : pp_m h0 d2 n2 f2) (hN : N ≤ n1) (hf1 : ∀ a, a < N → f1 a = g1 a) {n : Nat} (hn : n ≤ 12) :
    ∀ (s k fu : Nat) (h : tt_H) (g65 g66 : Nat → Int64), bm_H h0 h g65 g66 → k + s = n → s < fu → bm_R N n2 g65 (lo_I N n2 f1 f2 k (lo_d N)) → ∃ h1 g65' g66', s_X9_between_L41 fu 49 (nI d1) (nI d2) (nI N) (nI n) (nI k) h = some (lo_I N n2 f1 f2 n (lo_d N) 0 0, h1) ∧ bm_H h0 h1 g65' g66' := by
  have l1 := c1.le
  have l2 := c2.le
  intro s
  induction s with
  | zero =>
    intro k fu h g65 g66 hH hk hfu hR
    obtain ⟨fu, rfl⟩ : ∃ z, fu = z + 1 := ⟨fu - 1, by omega⟩
    obtain rfl : k = n := by omega
    have c1' : pp_m h d1 n1 g1 := c1.cg (fun i hi => hH.2.2 i (by omega) (by omega))
    refine ⟨h, g65, g66, ?_, hH⟩
    rw [s_X9_between_L41, if_pos (nI_le (Nat.le_refl k) (by omega)), mo_23 c1'.1, pp_bind, show (0 : Int32) = nI 0 from rfl, pp_jl hH.1 (by decide) (by decide), pp_bind]
    have := hR 0 0 (Nat.zero_le _) (Nat.zero_le _)
    rw [← this]
  | succ s ih =>
    intro k fu h g65 g66 hH hk hfu hR
    obtain ⟨fu, rfl⟩ : ∃ z, fu = z + 1 := ⟨fu - 1, by omega⟩
    have c1' : pp_m h d1 n1 g1 := c1.cg (fun i hi => hH.2.2 i (by omega) (by omega))
    have c2' : pp_m h d2 n2 f2 := c2.cg (fun i hi => hH.2.2 i (by omega) (by omega))
    obtain ⟨q1, q2, a1, a2⟩ := ln_2 (f1 := f1) c1' c2' hN hf1 hH.1 hR (N + 1) 0 1000 g66 (by omega) (by omega) (fun x p _ _ hx => absurd hx (Nat.not_lt_zero x))
    rw [pp_same hH.2.1] at a1
    obtain ⟨h2, r1, r2, a3, a4⟩ := ih (k + 1) fu (va_up (va_up h 66 (some (tt_ja 169 q2))) 65 (some (tt_ja 169 q1))) q1 q2 ⟨va_up_self _ _ _, by rw [va_up_ne _ _ (by decide), va_up_self], fun i i1 i2 => by rw [va_up_ne _ _ i1, va_up_ne _ _ i2]; exact hH.2.2 i i1 i2⟩ (by omega) (by omega) (by rw [← lo_IF] at a2; exact a2)
    refine ⟨h2, r1, r2, ?_, a4⟩
    have a1' : s_X9_lengthen 49 (nI d1) (nI d2) (nI N) h = some ((), va_up (va_up h 66 (some (tt_ja 169 q2))) 65 (some (tt_ja 169 q1))) := a1
    rw [s_X9_between_L41, if_neg (nI_ge (by omega) (by omega)), c1'.1.b, a1', pp_bind, nI_1]
    exact a3
theorem bw_1 (hmo : pp_mo h0) (xd1 xd2 xn : Int32) (hN : N ≤ 12) : ∀ (s k fu : Nat) (g : Nat → Int64), k + s = 169 → s < fu → (∀ i, i < k → g i = if i / 13 = N then 1 else 0) → ∃ g', s_X9_between_L3 fu 49 xd1 xd2 (nI N) xn (nI k) (va_up h0 65 (some (tt_ja 169 g))) = s_X9_between_L41 1000 49 xd1 xd2 (nI N) xn 0 (va_up h0 65 (some (tt_ja 169 g'))) ∧ ∀ i, i < 169 → g' i = if i / 13 = N then 1 else 0 := by
  intro s
  induction s with
  | zero =>
    intro k fu g hk hfu hg
    obtain ⟨fu, rfl⟩ : ∃ z, fu = z + 1 := ⟨fu - 1, by omega⟩
    refine ⟨g, ?_, fun i hi => hg i (by omega)⟩
    rw [s_X9_between_L3, if_pos (show (169 : Int32) ≤ nI k from nI_le (a := 169) (b := k) (by omega) (by omega))]
  | succ s ih =>
    intro k fu g hk hfu hg
    obtain ⟨fu, rfl⟩ : ∃ z, fu = z + 1 := ⟨fu - 1, by omega⟩
    have hmo' : pp_mo (va_up h0 65 (some (tt_ja 169 g))) := hmo.up _ (by decide)
    obtain ⟨g', a1, a2⟩ := ih (k + 1) fu (vp_updL g k (if k / 13 = N then 1 else 0)) (by omega) (by omega) (fun i hi => by
      by_cases hc : i = k
      · rw [hc, pk_uLs]
      · rw [pk_uLn hc]; exact hg i (by omega))
    refine ⟨g', ?_, a2⟩
    have w : ∀ v : Int64, v = (if k / 13 = N then 1 else 0) → s_X9_between_J31 (s_X9_between_L3 fu) 49 xd1 xd2 (nI N) xn (nI k) 65 (nI k) v (va_up h0 65 (some (tt_ja 169 g))) = s_X9_between_L41 1000 49 xd1 xd2 (nI N) xn 0 (va_up h0 65 (some (tt_ja 169 g'))) := by
      rintro v rfl
      unfold s_X9_between_J31
      rw [pp_js (va_up_self _ _ _) (by omega) (by decide), pp_bind, bx_uu, nI_1]
      exact a1
    have dv : nI k / 13 = nI (k / 13) := by rw [pp_lit 13]; exact pk_div (by omega) (by omega) (by omega)
    rw [s_X9_between_L3, if_neg (show ¬ (169 : Int32) ≤ nI k from nI_ge (a := k) (b := 169) (by omega) (by decide)), mo_23 hmo', pp_bind, show gg_nz 13 = some () from rfl, pp_bind, dv]
    by_cases hc : k / 13 = N
    · rw [if_pos (by rw [hc])]
      exact w 1 (by rw [if_pos hc])
    · rw [if_neg (fun z => hc ((nI_eq (by omega) (by omega)).mp z))]
      exact w 0 (by rw [if_neg hc])
end BM
section BMS
variable {kn : Nat → Nat} {dc : Nat} {sz : Nat → Nat} {wd : Nat → Nat → Nat} {so sl : Nat → Nat} {sc : Nat → Nat → Int32} {tr ft : Int32} {h : tt_H} {d1 d2 n1 n2 N : Nat} {f1 f2 g1 : Nat → Nat}
theorem ml_btw (hm : mm_A (kn, dc, sz, wd, so, sl, sc, tr, ft) h) (c1 : pp_m h d1 n1 g1) (c2 : pp_m h d2 n2 f2) (hN : N ≤ n1) (hf1 : ∀ a, a < N → f1 a = g1 a) {n : Nat} (hn : n ≤ 12) :
    ∃ h1, s_X9_between 49 (nI d1) (nI d2) (nI N) (nI n) h = some (lo_I N n2 f1 f2 n (lo_d N) 0 0, h1) ∧ mm_A (kn, dc, sz, wd, so, sl, sc, tr, ft) h1 ∧ ∀ i, i < 49 → h1 i = h i := by
  have l1 := c1.le
  have l2 := c2.le
  obtain ⟨g65, e65⟩ := hm.2.2 (65, 169) (by decide)
  obtain ⟨g66, e66⟩ := hm.2.2 (66, 169) (by decide)
  obtain ⟨g', a1, a2⟩ := bw_1 c1.1 (nI d1) (nI d2) (nI n) (show N ≤ 12 by omega) 169 0 1000 g65 (by omega) (by omega) (fun i hi => absurd hi (Nat.not_lt_zero i))
  rw [pp_same e65] at a1
  obtain ⟨h1, q1, q2, a3, a4⟩ := bw_2 (h0 := h) (f1 := f1) c1 c2 hN hf1 hn n 0 1000 (va_up h 65 (some (tt_ja 169 g'))) g' g66 ⟨va_up_self _ _ _, by rw [va_up_ne _ _ (by decide)]; exact e66, fun i i1 i2 => va_up_ne _ _ i1⟩ (by omega) (by omega) (fun a p ha hp => by
    rw [a2 _ (by omega), show (13 * a + p) / 13 = a by omega]; rfl)
  refine ⟨h1, a1.trans a3, ?_, fun i hi => a4.2.2 i (by omega) (by omega)⟩
  have : h1 = va_up (va_up h 65 (some (tt_ja 169 q1))) 66 (some (tt_ja 169 q2)) := by
    funext i
    by_cases i66 : i = 66
    · rw [i66, va_up_self]; exact a4.2.1
    · rw [va_up_ne _ _ i66]
      by_cases i65 : i = 65
      · rw [i65, va_up_self]; exact a4.1
      · rw [va_up_ne _ _ i65]; exact a4.2.2 i i65 i66
  rw [this]
  exact (hm.upJ (p := 65) (N := 169) (by decide) q1).upJ (p := 66) (N := 169) (by decide) q2
end BMS
theorem E_lostDay {h : tt_H} (hI : pp_Inv h) (x1 x2 x3 : Int32) : pp_G (s_X8_lostDay 0 x1 x2 x3) (s_X9_lostDay 49 x1 x2 x3) h := by
  obtain ⟨⟨kn, dc, sz, wd, so, sl, sc, tr, ft⟩, hV, ha, hm⟩ := hI
  have hdc : dc ≤ 6 := hV.2.1
  rcases pp_rng dc (by omega) x1 with ⟨d1, hd1, rfl⟩ | h1
  · have c1 := ca_cry hV ha.1 hd1
    have l1 := c1.le
    rcases pp_rng dc (by omega) x2 with ⟨d2, hd2, rfl⟩ | h2
    · have c2 := ca_cry hV ha.1 hd2
      have l2 := c2.le
      rcases pp_rng 13 (by decide) x3 with ⟨n, hn, rfl⟩ | h3
      · have h0 : ¬ nI n < 0 := nI_pos (by omega)
        have h12 : nI n ≤ 12 := nI_le (b := 12) (by omega) (by decide)
        obtain ⟨x, y, e23, -⟩ := ha.2.2.2.2.2
        refine pp_G.of (lo_I (sz d1) (sz d2) (wd d1) (wd d2) n (lo_d (sz d1)) 0 0) ha hm hV ?_ (fun h hm => ?_)
        · obtain ⟨h1, e1, e2, e3⟩ := cl_count ha c1 c2 (Or.inl (by omega)) (Or.inl (by omega)) (show n ≤ 12 by omega)
          refine ⟨h1, ?_, e2, e3⟩
          unfold s_X8_lostDay
          simp only [ca_b ha.1, ca_in hV ha.1 hd1, ca_in hV ha.1 hd2, gg_opt_some, h0, h12, ca_8 ha.1, pp_obj e23, e1, pp_bind, ↓reduceIte]
        · have m1 := ma_day hV hm.1 hd1
          obtain ⟨h1, e1, e2, e3⟩ := ml_btw hm m1 (ma_day hV hm.1 hd2) (Nat.le_refl (sz d1)) (fun _ _ => rfl) (show n ≤ 12 by omega)
          refine ⟨h1, ?_, e2, e3⟩
          have ji : s_X9_inside (nI n) 0 12 h = some (1, h) := by rw [show (12 : Int32) = nI 13 - 1 by decide, pi_ins_in hn (by decide)]
          unfold s_X9_lostDay
          simp only [(ma_o hm.1).b, ma_in hV hm.1 hd1, ma_in hV hm.1 hd2, ji, mo_7 (ma_o hm.1), pp_mlen m1, e1, pp_bind, pn_10, ↓reduceIte]
      · refine pp_G.rd (-9223372036854775808) hV ha hm ?_ (fun h hm => ?_)
        · unfold s_X8_lostDay
          simp only [ca_b ha.1, ca_in hV ha.1 hd1, ca_in hV ha.1 hd2, gg_opt_some, pp_bind]
          by_cases h0 : x3 < 0
          · rw [if_pos h0]
          · rw [if_neg h0, if_neg (fun z => absurd (Int32.le_trans (h3.resolve_left h0) z) (by decide))]
        · have ji : s_X9_inside x3 0 12 h = some (0, h) := by rw [show (12 : Int32) = nI 13 - 1 by decide, pi_ins_out h3 (by decide)]
          unfold s_X9_lostDay
          simp only [(ma_o hm.1).b, ma_in hV hm.1 hd1, ma_in hV hm.1 hd2, ji, pp_bind, pn_10, pn_00, ↓reduceIte]
    · refine pp_G.rd (-9223372036854775808) hV ha hm ?_ (fun h hm => ?_)
      · unfold s_X8_lostDay
        simp only [ca_b ha.1, ca_in hV ha.1 hd1, ca_out ha.1 h2, gg_opt_some, gg_opt_none, pp_bind]
      · unfold s_X9_lostDay
        simp only [(ma_o hm.1).b, ma_in hV hm.1 hd1, ma_out hm.1 h2, pp_bind, pn_10, pn_00, ↓reduceIte]
  · refine pp_G.rd (-9223372036854775808) hV ha hm ?_ (fun h hm => ?_)
    · unfold s_X8_lostDay
      rcases pp_rng dc (by omega) x2 with ⟨d2, hd2, rfl⟩ | h2
      · simp only [ca_b ha.1, ca_out ha.1 h1, ca_in hV ha.1 hd2, gg_opt_none, pp_bind]
      · simp only [ca_b ha.1, ca_out ha.1 h1, ca_out ha.1 h2, gg_opt_none, pp_bind]
    · unfold s_X9_lostDay
      simp only [(ma_o hm.1).b, ma_out hm.1 h1, pp_bind, pn_00, ↓reduceIte]
theorem E_roots {h : tt_H} (hI : pp_Inv h) (x1 x2 : Int32) : pp_G (s_X8_roots 0 x1 x2) (s_X9_roots 49 x1 x2) h := by
  obtain ⟨⟨kn, dc, sz, wd, so, sl, sc, tr, ft⟩, hV, ha, hm⟩ := hI
  have hdc : dc ≤ 6 := hV.2.1
  rcases pp_rng dc (by omega) x1 with ⟨d1, hd1, rfl⟩ | h1
  · have c1 := ca_cry hV ha.1 hd1
    have l1 := c1.le
    rcases pp_rng 13 (by decide) x2 with ⟨n, hn, rfl⟩ | h3
    · have h0 : ¬ nI n < 0 := nI_pos (by omega)
      have h12 : nI n ≤ 12 := nI_le (b := 12) (by omega) (by decide)
      obtain ⟨x, y, e23, -⟩ := ha.2.2.2.2.2
      refine pp_G.of (lo_I 0 (sz d1) (fun _ => 0) (wd d1) n (lo_d 0) 0 0) ha hm hV ?_ (fun h hm => ?_)
      · obtain ⟨h1, e1, e2, e3⟩ := cl_count ha (ca_none ha.1) c1 (Or.inr rfl) (Or.inl (by omega)) (show n ≤ 12 by omega)
        refine ⟨h1, ?_, e2, e3⟩
        unfold s_X8_roots
        simp only [ca_b ha.1, ca_in hV ha.1 hd1, gg_opt_some, h0, h12, ca_8 ha.1, ca_3 ha.1, pp_obj e23, e1, pp_bind, ↓reduceIte]
      · have m1 := ma_day hV hm.1 hd1
        obtain ⟨h1, e1, e2, e3⟩ := ml_btw (N := 0) (f1 := fun _ => 0) hm m1 m1 (Nat.zero_le _) (fun a ha => absurd ha (Nat.not_lt_zero a)) (show n ≤ 12 by omega)
        refine ⟨h1, ?_, e2, e3⟩
        rw [show nI 0 = (0 : Int32) from rfl] at e1
        have ji : s_X9_inside (nI n) 0 12 h = some (1, h) := by rw [show (12 : Int32) = nI 13 - 1 by decide, pi_ins_in hn (by decide)]
        unfold s_X9_roots
        simp only [(ma_o hm.1).b, ma_in hV hm.1 hd1, ji, e1, pp_bind, pn_10, ↓reduceIte]
    · refine pp_G.rd (-9223372036854775808) hV ha hm ?_ (fun h hm => ?_)
      · unfold s_X8_roots
        simp only [ca_b ha.1, ca_in hV ha.1 hd1, gg_opt_some, pp_bind]
        by_cases h0 : x2 < 0
        · rw [if_pos h0]
        · rw [if_neg h0, if_neg (fun z => absurd (Int32.le_trans (h3.resolve_left h0) z) (by decide))]
      · have ji : s_X9_inside x2 0 12 h = some (0, h) := by rw [show (12 : Int32) = nI 13 - 1 by decide, pi_ins_out h3 (by decide)]
        unfold s_X9_roots
        simp only [(ma_o hm.1).b, ma_in hV hm.1 hd1, ji, pp_bind, pn_10, pn_00, ↓reduceIte]
  · refine pp_G.rd (-9223372036854775808) hV ha hm ?_ (fun h hm => ?_)
    · unfold s_X8_roots
      simp only [ca_b ha.1, ca_out ha.1 h1, gg_opt_none, pp_bind]
    · unfold s_X9_roots
      simp only [(ma_o hm.1).b, ma_out hm.1 h1, pp_bind, pn_00, ↓reduceIte]
