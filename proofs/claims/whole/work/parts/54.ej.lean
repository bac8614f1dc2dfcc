/-! PUT IN: the model -/
theorem sy_lt {kn : Nat → Nat} {st : sy_S} (h : sy_G kn st) : st.1 < 256 := Nat.lt_pow_two_of_testBit (n := 8) st.1 (fun i hi => by
  cases hb : st.1.testBit i with
  | false => rfl
  | true => have := (h.1 i hb).1; omega)
theorem so_bit : ∀ S, S < 256 → ∀ w, w < 8 → ((nI S >>> (nI w &&& 31)) &&& 1 = 1 ↔ S.testBit w = true) := by decide +kernel
def fj_T (kn : Nat → Nat) (w : Nat) (f : Nat → Nat) (n : Nat) (want : Bool) (one two : Nat) : Bool := decide ((sa_W kn w one two f n 0 (false, false, false)).1 = want)
section PUTM
variable {kn : Nat → Nat} {h0 h : tt_H} {ft tr dc at_ rd pm po pt : Int32} {d n w m : Nat} {f : Nat → Nat} {want : Bool}
theorem so_m (k3 : ∀ w, w < 8 → kn w < 3) (c1 : pp_m h0 d n f) (hk0 : kk_I kn h0) (hw : w < 8) {one two : Nat} (ho1 : one % 10 < 8) (ho2 : two % 10 < 8) (hb1 : one = 1000 ∨ one < 200) (hb2 : two = 1000 ∨ two < 200) {g : Nat → Int32} (hH : pf_H h0 h ft tr dc at_ rd pm po pt g) :
    ∃ h1 g1, s_X9_isSo 49 (nI d) (nI w) (dI want) (oI one) (oI two) h = some (dI (fj_T kn w f n want one two), h1) ∧ pf_H h0 h1 ft tr dc at_ rd pm po pt g1 := by
  obtain ⟨h1, g1, a1, a2⟩ := sW_m k3 c1 hk0 ho1 ho2 hb1 hb2 hH
  refine ⟨h1, g1, ?_, a2⟩
  have c1' := pf_m c1 hH
  obtain ⟨ab, hG⟩ := sy_Wab (kn := kn) (f := f) (one := one) (two := two) (w := w) ho1 ho2 hw n 0 (0, false, 9) (sy_G0 kn) (fun j _ hj => c1.lt8 (by omega))
  rw [sy_a0 hw] at ab
  have hb : ((nI (sy_W kn one two f n 0 (0, false, 9)).1 >>> (nI w &&& 31)) &&& 1 = 1 ↔ (sa_W kn w one two f n 0 (false, false, false)).1 = true) := by
    rw [so_bit _ (sy_lt hG) w hw, ← ab]; exact Iff.rfl
  unfold s_X9_isSo s_X9_isSo_J22 fj_T
  rw [c1'.1.b, a1, pp_bind]
  simp only []
  cases hv : (sa_W kn w one two f n 0 (false, false, false)).1 with
  | true =>
    rw [if_pos (hb.mpr hv)]
    cases want with
    | true => rw [if_pos (by decide)]; rfl
    | false => rw [if_neg (by decide)]; rfl
  | false =>
    rw [if_neg (fun z => by rw [hb.mp z] at hv; cases hv)]
    cases want with
    | true => rw [if_neg (by decide)]; rfl
    | false => rw [if_pos (by decide)]; rfl
theorem pf_16 {g : Nat → Int32} (hH : pf_H h0 h ft tr dc at_ rd pm po pt g) (x : Int32) : ∃ h1, gg_put h 49 9 16 (.int x) = some h1 ∧ pf_H h0 h1 ft tr dc at_ rd x po pt g :=
  ⟨_, pp_put hH.1 _ (Nat.le_of_ble_eq_true rfl), va_up_self _ _ _, by rw [va_up_ne _ _ (by decide)]; exact hH.2.1, fun i a b => by rw [va_up_ne _ _ a]; exact hH.2.2 i a b⟩
theorem pf_17 {g : Nat → Int32} (hH : pf_H h0 h ft tr dc at_ rd pm po pt g) (x : Int32) : ∃ h1, gg_put h 49 9 17 (.int x) = some h1 ∧ pf_H h0 h1 ft tr dc at_ rd pm x pt g :=
  ⟨_, pp_put hH.1 _ (Nat.le_of_ble_eq_true rfl), va_up_self _ _ _, by rw [va_up_ne _ _ (by decide)]; exact hH.2.1, fun i a b => by rw [va_up_ne _ _ a]; exact hH.2.2 i a b⟩
theorem pf_18 {g : Nat → Int32} (hH : pf_H h0 h ft tr dc at_ rd pm po pt g) (x : Int32) : ∃ h1, gg_put h 49 9 18 (.int x) = some h1 ∧ pf_H h0 h1 ft tr dc at_ rd pm po x g :=
  ⟨_, pp_put hH.1 _ (Nat.le_of_ble_eq_true rfl), va_up_self _ _ _, by rw [va_up_ne _ _ (by decide)]; exact hH.2.1, fun i a b => by rw [va_up_ne _ _ a]; exact hH.2.2 i a b⟩
theorem pf_f16 {g : Nat → Int32} (hH : pf_H h0 h ft tr dc at_ rd pm po pt g) : gg_fi h 49 9 16 = some pm := pp_fi hH.1 rfl
theorem pq_m10 {o : Nat} (ho : o < 200) : nI o - nI o / 10 * 10 = nI (o % 10) := by rw [pp_lit 10]; exact pk_rem (by omega) (by decide) (by decide)
theorem pq_d10 {o : Nat} (ho : o < 200) : nI o / 10 * 10 = nI (10 * (o / 10)) := by rw [pp_lit 10, pk_div (by omega) (by decide) (by decide), pk_mul, Nat.mul_comm]
theorem pq_8 {o : Nat} : (8 : Int32) ≤ nI (o % 10) ↔ ¬ o % 10 < 8 := by
  have : o % 10 < 10 := Nat.mod_lt _ (by decide)
  by_cases h : o % 10 < 8
  · exact ⟨fun z => absurd z (nI_ge (a := o % 10) (b := 8) h (by decide)), fun z => absurd h z⟩
  · exact ⟨fun _ => h, fun _ => nI_le (a := 8) (b := o % 10) (by omega) (by omega)⟩
theorem pq_oI {o : Nat} (ho : o < 200) : nI o = oI o := (if_neg (by omega)).symm
theorem pq_nz : gg_nz 10 = some () := rfl
/-- behind what was found: the loop over two ends -/
theorem fp_139x {κ : Nat → Int32 → Int32 → Int32 → Int32 → Int32 → tt_H → Option (Unit × tt_H)} {g : Nat → Int32} (hH : pf_H h0 h ft tr dc at_ rd pm po pt g) (hp : pm ≠ -9) (fu : Nat) (x2 x3 x4 x5 x6 : Int32) : s_X9_findPut_L139 κ (fu + 1) 49 (nI d) x2 x3 x4 x5 x6 h = s_X9_findPut_J212 κ 49 (nI d) x2 x3 x4 x5 h := by
  rw [s_X9_findPut_L139, pf_f16 hH, pp_bind, if_neg hp]
  split <;> rfl
theorem fp_139 (k3 : ∀ w, w < 8 → kn w < 3) (c1 : pp_m h0 d n f) (hk0 : kk_I kn h0) (hw : w < 8) (hm : m < 200) {κ : Nat → Int32 → Int32 → Int32 → Int32 → Int32 → tt_H → Option (Unit × tt_H)} {o : Nat} (ho : o < m) (ho8 : o % 10 < 8) : ∀ (s x fu : Nat) (h : tt_H) (g : Nat → Int32), pf_H h0 h ft tr dc at_ rd (-9) (-9) (-9) g → x + s = m → s + 1 < fu →
    ∃ h1 g1, s_X9_findPut_L139 κ fu 49 (nI d) (nI w) (dI want) (nI m) (nI o) (nI x) h = s_X9_findPut_J212 κ 49 (nI d) (nI w) (dI want) (nI m) (nI o) h1 ∧
      ((sc_R (fj_T kn w f n want o) s x = none ∧ pf_H h0 h1 ft tr dc at_ rd (-9) (-9) (-9) g1) ∨ ∃ y, sc_R (fj_T kn w f n want o) s x = some y ∧ pf_H h0 h1 ft tr dc at_ rd 2 (nI o) (nI y) g1) := by
  intro s
  induction s with
  | zero =>
    intro x fu h g hH hx hfu
    obtain ⟨fu, rfl⟩ : ∃ z, fu = z + 1 := ⟨fu - 1, by omega⟩
    refine ⟨h, g, ?_, Or.inl ⟨rfl, hH⟩⟩
    rw [s_X9_findPut_L139, if_pos (nI_le (by omega) (by omega))]
  | succ s ih =>
    intro x fu h g hH hx hfu
    obtain ⟨fu, rfl⟩ : ∃ z, fu = z + 1 := ⟨fu - 1, by omega⟩
    have e0 : s_X9_findPut_L139 κ (fu + 1) 49 (nI d) (nI w) (dI want) (nI m) (nI o) (nI x) h = (if ¬ x % 10 < 8 then s_X9_findPut_L139 κ fu 49 (nI d) (nI w) (dI want) (nI m) (nI o) (nI (x + 1)) h else (s_X9_isSo 49 (nI d) (nI w) (dI want) (oI o) (oI x) h).bind fun w183 => if w183.1 = 0 then s_X9_findPut_L139 κ fu 49 (nI d) (nI w) (dI want) (nI m) (nI o) (nI (x + 1)) w183.2 else (gg_put w183.2 49 9 16 (.int 2)).bind fun h191 => (gg_put h191 49 9 17 (.int (nI o))).bind fun h197 => (gg_put h197 49 9 18 (.int (nI x))).bind fun h203 => s_X9_findPut_L139 κ fu 49 (nI d) (nI w) (dI want) (nI m) (nI o) (nI (x + 1)) h203) := by
      rw [s_X9_findPut_L139, if_neg (nI_ge (by omega) (by omega)), pf_f16 hH, pp_bind, if_pos rfl, pq_nz, pp_bind, pq_m10 (by omega), if_neg (fun z => pq_8.mp z ho8), pp_bind, pq_m10 (by omega), (pf_m c1 hH).1.b, ← pq_oI (show o < 200 by omega), ← pq_oI (show x < 200 by omega)]
      unfold s_X9_findPut_J206
      simp only [nI_1]
      by_cases hx8 : x % 10 < 8
      · rw [if_neg (fun z => pq_8.mp z hx8), if_neg (fun z => z hx8)]
      · rw [if_pos (pq_8.mpr hx8), if_pos hx8]
    rw [e0, sc_R]
    by_cases hx8 : x % 10 < 8
    · rw [if_neg (fun z => z hx8)]
      obtain ⟨h1, g1, a1, a2⟩ := so_m (want := want) k3 c1 hk0 hw ho8 hx8 (Or.inr (by omega)) (Or.inr (by omega)) hH
      rw [a1, pp_bind]
      simp only []
      cases hf : fj_T kn w f n want o x with
      | false =>
        rw [if_pos (show dI false = 0 from rfl), if_neg (fun z => by cases z.2)]
        exact ih (x + 1) fu h1 g1 a2 (by omega) (by omega)
      | true =>
        rw [if_neg (show ¬ dI true = 0 by decide), if_pos ⟨hx8, rfl⟩]
        obtain ⟨h2, b1, b2⟩ := pf_16 a2 2
        obtain ⟨h3, b3, b4⟩ := pf_17 b2 (nI o)
        obtain ⟨h4, b5, b6⟩ := pf_18 b4 (nI x)
        obtain ⟨fu, rfl⟩ : ∃ z, fu = z + 1 := ⟨fu - 1, by omega⟩
        exact ⟨h4, g1, by rw [b1, pp_bind, b3, pp_bind, b5, pp_bind, fp_139x b6 (by decide)], Or.inr ⟨x, rfl, b6⟩⟩
    · rw [if_pos hx8, if_neg (fun z => hx8 z.1)]
      exact ih (x + 1) fu h g hH (by omega) (by omega)
theorem fp_139n (hm : m < 200) {κ : Nat → Int32 → Int32 → Int32 → Int32 → Int32 → tt_H → Option (Unit × tt_H)} {o : Nat} (ho : o < m) (ho8 : ¬ o % 10 < 8) {x2 x3 : Int32} {g : Nat → Int32} (hH : pf_H h0 h ft tr dc at_ rd (-9) (-9) (-9) g) : ∀ (s x fu : Nat), x + s = m → s < fu → s_X9_findPut_L139 κ fu 49 (nI d) x2 x3 (nI m) (nI o) (nI x) h = s_X9_findPut_J212 κ 49 (nI d) x2 x3 (nI m) (nI o) h := by
  intro s
  induction s with
  | zero =>
    intro x fu hx hfu
    obtain ⟨fu, rfl⟩ : ∃ z, fu = z + 1 := ⟨fu - 1, by omega⟩
    rw [s_X9_findPut_L139, if_pos (nI_le (by omega) (by omega))]
  | succ s ih =>
    intro x fu hx hfu
    obtain ⟨fu, rfl⟩ : ∃ z, fu = z + 1 := ⟨fu - 1, by omega⟩
    rw [s_X9_findPut_L139, if_neg (nI_ge (by omega) (by omega)), pf_f16 hH, pp_bind, if_pos rfl, pq_nz, pp_bind, pq_m10 (by omega), if_pos (pq_8.mpr ho8)]
    unfold s_X9_findPut_J206
    rw [nI_1]
    exact ih (x + 1) fu (by omega) (by omega)
theorem fp_113x {g : Nat → Int32} (hH : pf_H h0 h ft tr dc at_ rd pm po pt g) (hp : pm ≠ -9) (fu : Nat) (x2 x3 x4 x5 : Int32) : s_X9_findPut_L113 (fu + 1) 49 (nI d) x2 x3 x4 x5 h = some ((), h) := by
  rw [s_X9_findPut_L113, pf_f16 hH, pp_bind, if_neg hp]
  split <;> rfl
theorem fp_113 (k3 : ∀ w, w < 8 → kn w < 3) (c1 : pp_m h0 d n f) (hk0 : kk_I kn h0) (hw : w < 8) (hm : m < 200) (hm8 : m % 10 = 8) : ∀ (s o fu : Nat) (h : tt_H) (g : Nat → Int32), pf_H h0 h ft tr dc at_ rd (-9) (-9) (-9) g → o + s = m → s + 1 < fu →
    ∃ h1 g1, s_X9_findPut_L113 fu 49 (nI d) (nI w) (dI want) (nI m) (nI o) h = some ((), h1) ∧
      ((sd_R (fj_T kn w f n want) m s o = none ∧ pf_H h0 h1 ft tr dc at_ rd (-9) (-9) (-9) g1) ∨ ∃ q, sd_R (fj_T kn w f n want) m s o = some q ∧ pf_H h0 h1 ft tr dc at_ rd 2 (nI q.1) (nI q.2) g1) := by
  intro s
  induction s with
  | zero =>
    intro o fu h g hH ho hfu
    obtain ⟨fu, rfl⟩ : ∃ z, fu = z + 1 := ⟨fu - 1, by omega⟩
    refine ⟨h, g, ?_, Or.inl ⟨rfl, hH⟩⟩
    rw [s_X9_findPut_L113, if_pos (nI_le (by omega) (by omega))]
  | succ s ih =>
    intro o fu h g hH ho hfu
    obtain ⟨fu, rfl⟩ : ∃ z, fu = z + 1 := ⟨fu - 1, by omega⟩
    have e0 : s_X9_findPut_L113 (fu + 1) 49 (nI d) (nI w) (dI want) (nI m) (nI o) h = s_X9_findPut_L139 (s_X9_findPut_L113 fu) 1000 49 (nI d) (nI w) (dI want) (nI m) (nI o) (nI (10 * (o / 10))) h := by
      rw [s_X9_findPut_L113, if_neg (nI_ge (by omega) (by omega)), pf_f16 hH, pp_bind, if_pos rfl, pq_nz, pp_bind, pq_d10 (by omega)]
    rw [e0]
    by_cases ho8 : o % 10 < 8
    · obtain ⟨h1, g1, a1, a2⟩ := fp_139 (want := want) k3 c1 hk0 hw hm (κ := s_X9_findPut_L113 fu) (show o < m by omega) ho8 (m - 10 * (o / 10)) (10 * (o / 10)) 1000 h g hH (by omega) (by omega)
      rw [a1]
      unfold s_X9_findPut_J212
      rw [nI_1]
      rcases a2 with ⟨a2, a3⟩ | ⟨y, a2, a3⟩
      · rw [sd_0 ho8 a2]
        exact ih (o + 1) fu h1 g1 a3 (by omega) (by omega)
      · rw [sd_1 ho8 a2]
        obtain ⟨fu, rfl⟩ : ∃ z, fu = z + 1 := ⟨fu - 1, by omega⟩
        exact ⟨h1, g1, fp_113x a3 (by decide) fu _ _ _ _, Or.inr ⟨_, rfl, a3⟩⟩
    · rw [fp_139n hm (show o < m by omega) ho8 hH (m - 10 * (o / 10)) (10 * (o / 10)) 1000 (by omega) (by omega), sd_8 ho8]
      unfold s_X9_findPut_J212
      rw [nI_1]
      exact ih (o + 1) fu h g hH (by omega) (by omega)
theorem fp_53x {g : Nat → Int32} (hH : pf_H h0 h ft tr dc at_ rd pm po pt g) (hp : pm ≠ -9) (fu : Nat) (x2 x3 x4 x5 : Int32) : s_X9_findPut_L53 (fu + 1) 49 (nI d) x2 x3 x4 x5 h = some ((), h) := by
  have e : s_X9_findPut_J110 49 (nI d) x2 x3 x4 h = some ((), h) := fp_113x hH hp 999 _ _ _ _
  rw [s_X9_findPut_L53, pf_f16 hH, pp_bind, if_neg hp, e]
  split <;> rfl
theorem fp_53 (k3 : ∀ w, w < 8 → kn w < 3) (c1 : pp_m h0 d n f) (hk0 : kk_I kn h0) (hw : w < 8) (hm : m < 200) : ∀ (s o fu : Nat) (h : tt_H) (g : Nat → Int32), pf_H h0 h ft tr dc at_ rd (-9) (-9) (-9) g → o + s = m → s + 1 < fu →
    (sc_R (fun o => fj_T kn w f n want o 1000) s o = none → ∃ h1 g1, s_X9_findPut_L53 fu 49 (nI d) (nI w) (dI want) (nI m) (nI o) h = s_X9_findPut_J110 49 (nI d) (nI w) (dI want) (nI m) h1 ∧ pf_H h0 h1 ft tr dc at_ rd (-9) (-9) (-9) g1) ∧
    ∀ y, sc_R (fun o => fj_T kn w f n want o 1000) s o = some y → ∃ h1 g1, s_X9_findPut_L53 fu 49 (nI d) (nI w) (dI want) (nI m) (nI o) h = some ((), h1) ∧ pf_H h0 h1 ft tr dc at_ rd 1 (nI y) (-9) g1 := by
  intro s
  induction s with
  | zero =>
    intro o fu h g hH ho hfu
    obtain ⟨fu, rfl⟩ : ∃ z, fu = z + 1 := ⟨fu - 1, by omega⟩
    refine ⟨fun _ => ⟨h, g, ?_, hH⟩, fun y hy => (by cases hy)⟩
    rw [s_X9_findPut_L53, if_pos (nI_le (by omega) (by omega))]
  | succ s ih =>
    intro o fu h g hH ho hfu
    obtain ⟨fu, rfl⟩ : ∃ z, fu = z + 1 := ⟨fu - 1, by omega⟩
    have e0 : s_X9_findPut_L53 (fu + 1) 49 (nI d) (nI w) (dI want) (nI m) (nI o) h = (if ¬ o % 10 < 8 then s_X9_findPut_L53 fu 49 (nI d) (nI w) (dI want) (nI m) (nI (o + 1)) h else (s_X9_isSo 49 (nI d) (nI w) (dI want) (oI o) (oI 1000) h).bind fun w87 => if w87.1 = 0 then s_X9_findPut_L53 fu 49 (nI d) (nI w) (dI want) (nI m) (nI (o + 1)) w87.2 else (gg_put w87.2 49 9 16 (.int 1)).bind fun h95 => (gg_put h95 49 9 17 (.int (nI o))).bind fun h101 => s_X9_findPut_L53 fu 49 (nI d) (nI w) (dI want) (nI m) (nI (o + 1)) h101) := by
      rw [s_X9_findPut_L53, if_neg (nI_ge (by omega) (by omega)), pf_f16 hH, pp_bind, if_pos rfl, pq_nz, pp_bind, pq_m10 (by omega), (pf_m c1 hH).1.b, ← pq_oI (show o < 200 by omega), show oI 1000 = -9 from rfl]
      unfold s_X9_findPut_J104
      simp only [nI_1]
      by_cases hx8 : o % 10 < 8
      · rw [if_neg (fun z => pq_8.mp z hx8), if_neg (fun z => z hx8)]
      · rw [if_pos (pq_8.mpr hx8), if_pos hx8]
    rw [e0, sc_R]
    by_cases hx8 : o % 10 < 8
    · rw [if_neg (show ¬ ¬ o % 10 < 8 from fun z => z hx8)]
      obtain ⟨h1, g1, a1, a2⟩ := so_m (want := want) k3 c1 hk0 hw hx8 (show 1000 % 10 < 8 by decide) (Or.inr (by omega)) (Or.inl rfl) hH
      rw [a1, pp_bind]
      simp only []
      cases hf : fj_T kn w f n want o 1000 with
      | false =>
        rw [if_pos (show dI false = 0 from rfl), if_neg (show ¬ (o % 10 < 8 ∧ false = true) from fun z => by cases z.2)]
        exact ih (o + 1) fu h1 g1 a2 (by omega) (by omega)
      | true =>
        rw [if_neg (show ¬ dI true = 0 by decide), if_pos (show o % 10 < 8 ∧ true = true from ⟨hx8, rfl⟩)]
        refine ⟨fun z => (by cases z), fun y hy => ?_⟩
        cases hy
        obtain ⟨h2, b1, b2⟩ := pf_16 a2 1
        obtain ⟨h3, b3, b4⟩ := pf_17 b2 (nI o)
        obtain ⟨fu, rfl⟩ : ∃ z, fu = z + 1 := ⟨fu - 1, by omega⟩
        exact ⟨h3, g1, by rw [b1, pp_bind, b3, pp_bind, fp_53x b4 (by decide)], b4⟩
    · rw [if_pos (show ¬ o % 10 < 8 from hx8), if_neg (show ¬ (o % 10 < 8 ∧ fj_T kn w f n want o 1000 = true) from fun z => hx8 z.1)]
      exact ih (o + 1) fu h g hH (by omega) (by omega)
/-- what is found: how many, the first, the second -/
def pr_R (kn : Nat → Nat) (w : Nat) (f : Nat → Nat) (n : Nat) (want : Bool) (a b c : Int32) : Prop :=
  (fj_T kn w f n want 1000 1000 = true ∧ a = 0 ∧ b = -9 ∧ c = -9) ∨ (fj_T kn w f n want 1000 1000 = false ∧
    ((∃ y, sc_R (fun o => fj_T kn w f n want o 1000) (10 * n + 8) 0 = some y ∧ a = 1 ∧ b = nI y ∧ c = -9) ∨ (sc_R (fun o => fj_T kn w f n want o 1000) (10 * n + 8) 0 = none ∧
      ((∃ q, sd_R (fj_T kn w f n want) (10 * n + 8) (10 * n + 8) 0 = some q ∧ a = 2 ∧ b = nI q.1 ∧ c = nI q.2) ∨ (sd_R (fj_T kn w f n want) (10 * n + 8) (10 * n + 8) 0 = none ∧ a = -9 ∧ b = -9 ∧ c = -9)))))
theorem fp_m (k3 : ∀ w, w < 8 → kn w < 3) (c1 : pp_m h0 d n f) (hk0 : kk_I kn h0) (hw : w < 8) {g : Nat → Int32} (hH : pf_H h0 h ft tr dc at_ rd pm po pt g) :
    ∃ h1 g1 a b c, s_X9_findPut 49 (nI d) (nI w) (dI want) h = some ((), h1) ∧ pf_H h0 h1 ft tr dc at_ rd a b c g1 ∧ pr_R kn w f n want a b c := by
  have hn := c1.le
  have z8 : 1000 % 10 < 8 := by decide
  obtain ⟨h1, g1, a1, a2⟩ := so_m (want := want) k3 c1 hk0 hw z8 z8 (Or.inl rfl) (Or.inl rfl) hH
  have j21 : ∀ (x : Int32), ∃ h2, s_X9_findPut_J21 49 (nI d) (nI w) (dI want) 49 x h1 = s_X9_findPut_L53 1000 49 (nI d) (nI w) (dI want) (nI (10 * n + 8)) (nI 0) h2 ∧ pf_H h0 h2 ft tr dc at_ rd x (-9) (-9) g1 := by
    intro x
    obtain ⟨h2, b1, b2⟩ := pf_16 a2 x
    obtain ⟨h3, b3, b4⟩ := pf_17 b2 (-9)
    obtain ⟨h4, b5, b6⟩ := pf_18 b4 (-9)
    have c1' := pf_m c1 b6
    refine ⟨h4, ?_, b6⟩
    unfold s_X9_findPut_J21
    rw [b1, pp_bind, b3, pp_bind, b5, pp_bind, mo_7 c1'.1, pp_bind, pp_mlen c1', pp_bind, pp_lit 10, pp_lit 8, pk_mul, nI_add]
    rfl
  have e0 : s_X9_findPut 49 (nI d) (nI w) (dI want) h = (if dI (fj_T kn w f n want 1000 1000) = 0 then s_X9_findPut_J21 49 (nI d) (nI w) (dI want) 49 (-9) h1 else s_X9_findPut_J21 49 (nI d) (nI w) (dI want) 49 0 h1) := by
    unfold s_X9_findPut
    rw [(pf_m c1 hH).1.b, show (-9 : Int32) = oI 1000 from rfl, a1, pp_bind]
  rw [e0]
  cases hT : fj_T kn w f n want 1000 1000 with
  | true =>
    obtain ⟨h2, b1, b2⟩ := j21 0
    rw [if_neg (show ¬ dI true = 0 by decide), b1]
    exact ⟨h2, g1, _, _, _, fp_53x b2 (by decide) 999 _ _ _ _, b2, Or.inl ⟨hT, rfl, rfl, rfl⟩⟩
  | false =>
    obtain ⟨h2, b1, b2⟩ := j21 (-9)
    rw [if_pos (show dI false = 0 from rfl), b1]
    obtain ⟨e1, e2⟩ := fp_53 (want := want) k3 c1 hk0 hw (m := 10 * n + 8) (by omega) (10 * n + 8) 0 1000 h2 g1 b2 (by omega) (by omega)
    cases hs : sc_R (fun o => fj_T kn w f n want o 1000) (10 * n + 8) 0 with
    | some y =>
      obtain ⟨h3, g3, c2, c3⟩ := e2 y hs
      exact ⟨h3, g3, _, _, _, c2, c3, Or.inr ⟨hT, Or.inl ⟨y, hs, rfl, rfl, rfl⟩⟩⟩
    | none =>
      obtain ⟨h3, g3, c2, c3⟩ := e1 hs
      rw [c2]
      obtain ⟨h4, g4, d1, d2⟩ := fp_113 (want := want) k3 c1 hk0 hw (m := 10 * n + 8) (by omega) (by omega) (10 * n + 8) 0 1000 h3 g3 c3 (by omega) (by omega)
      rcases d2 with ⟨d2, d3⟩ | ⟨q, d2, d3⟩
      · exact ⟨h4, g4, _, _, _, d1, d3, Or.inr ⟨hT, Or.inr ⟨hs, Or.inr ⟨d2, rfl, rfl, rfl⟩⟩⟩⟩
      · exact ⟨h4, g4, _, _, _, d1, d3, Or.inr ⟨hT, Or.inr ⟨hs, Or.inl ⟨q, d2, rfl, rfl, rfl⟩⟩⟩⟩
end PUTM
/-! both -/
theorem cc_A.fr12 {P : pp_P} {h h1 : tt_H} (ha : cc_A P h) (e : ∀ i, i ≠ 11 → i ≠ 12 → h1 i = h i) (e1 : ∃ E, h1 11 = some (tt_za 104 E)) (e2 : ∃ g, h1 12 = some (tt_ia 2 g)) : cc_A P h1 := by
  obtain ⟨E, e1⟩ := e1
  obtain ⟨g, e2⟩ := e2
  have : h1 = va_up (va_up h 11 (some (tt_za 104 E))) 12 (some (tt_ia 2 g)) := by
    funext i
    by_cases h12 : i = 12
    · rw [h12, va_up_self]; exact e2
    · rw [va_up_ne _ _ h12]
      by_cases h11 : i = 11
      · rw [h11, va_up_self]; exact e1
      · rw [va_up_ne _ _ h11]; exact e i h11 h12
  rw [this]
  exact (ha.upZ E).upI (by decide) g
section PUTB
variable {kn : Nat → Nat} {dc : Nat} {sz : Nat → Nat} {wd : Nat → Nat → Nat} {so sl : Nat → Nat} {sc : Nat → Nat → Int32} {tr ft : Int32} {h : tt_H} {b n w : Nat} {f : Nat → Nat} {want : Bool}
/-- the class: how many, and what is kept -/
theorem fx_c (hV : pp_V (kn, dc, sz, wd, so, sl, sc, tr, ft)) (ha : cc_A (kn, dc, sz, wd, so, sl, sc, tr, ft) h) (c1 : pp_cry h b n f) (hb : 29 ≤ b) (hw : w < 8) : ∃ h1 A B C g, s_X5_fewest 10 b 1 (nI w) (dI want) h = some (A, h1) ∧ cc_A (kn, dc, sz, wd, so, sl, sc, tr, ft) h1 ∧ (∀ i, 49 ≤ i → h1 i = h i) ∧ pr_R kn w f n want A B C ∧ h1 12 = some (tt_ia 2 g) ∧ (A = 1 ∨ A = 2 → g 0 = B) ∧ (A = 2 → g 1 = C) := by
  have hn := c1.le
  obtain ⟨E0, hE0⟩ := ha.2.2.2.1
  obtain ⟨g0, hg0⟩ := ha.2.1 (12, 2) (by decide)
  have k0 : ez_K (kn, dc, sz, wd, so, sl, sc, tr, ft) b n f h := ⟨ha.1, c1, hb⟩
  obtain ⟨h1, E1, a1, a2, a3, a4⟩ := ez_keep hV hw k0 hE0
  have k1 : ez_R (kn, dc, sz, wd, so, sl, sc, tr, ft) b n f kn w h1 := ⟨k0.fr (fun i hi _ => a3 i hi), ⟨E1, a2, a4⟩, ⟨g0, by rw [a3 12 (by decide)]; exact hg0⟩⟩
  have A1 : cc_A (kn, dc, sz, wd, so, sl, sc, tr, ft) h1 := ha.fr12 (fun i hi _ => a3 i hi) ⟨E1, a2⟩ ⟨g0, by rw [a3 12 (by decide)]; exact hg0⟩
  have T0 : (sa_W kn w 1000 1000 f n 0 (false, false, false)).1 = (sa_E kn w f n 0 (false, false, false)).1 := by rw [sa_WE n 0 _ (fun j _ hj => by omega)]
  have en : s_X5_endsSaid 10 0 0 h1 = some (dI (sa_E kn w f n 0 (false, false, false)).1, h1) := by
    have := ez_Re k1 (Nat.zero_le n) (false, false, false)
    rw [Nat.sub_zero] at this
    exact this
  have e0 : s_X5_fewest 10 b 1 (nI w) (dI want) h = (if dI (sa_E kn w f n 0 (false, false, false)).1 = dI want then some (0, h1) else (s_X5_findOne 10 b 1 (nI w) (dI want) 0 0 0 h1).bind fun w29 => if w29.1 = 0 then (gg_obj w29.2 10 5).bind fun _ => (s_X5_findTwo 10 b 1 (nI w) (dI want) w29.2).bind fun w43 => if w43.1 = 0 then some ((-9), w43.2) else some (2, w43.2) else some (1, w29.2)) := by
    unfold s_X5_fewest
    rw [k0.b, a1, pp_bind]
    simp only []
    rw [k1.1.b, en, pp_bind]
    simp only []
    rw [k1.1.b]
  rw [e0]
  by_cases hT : (sa_E kn w f n 0 (false, false, false)).1 = want
  · rw [if_pos (dI_eq.mpr hT)]
    exact ⟨h1, 0, -9, -9, g0, rfl, A1, fun i hi => a3 i (by omega), Or.inl ⟨decide_eq_true (T0.trans hT), rfl, rfl, rfl⟩, by rw [a3 12 (by decide)]; exact hg0, fun z => absurd z (by decide), fun z => absurd z (by decide)⟩
  · rw [if_neg (fun z => hT (dI_eq.mp z))]
    have hTf : fj_T kn w f n want 1000 1000 = false := decide_eq_false (fun z => hT (T0.symm.trans z))
    obtain ⟨e1, e2⟩ := ez_8 hV hw (want := want) (q := 0) (by decide) k1 n 0 1000 (false, false, false) (by omega) (by omega)
    have eQ : sc_R (ez_Q kn w f want n 0 (false, false, false)) (10 * n + 8) (10 * 0) = sc_R (fun o => fj_T kn w f n want o 1000) (10 * n + 8) 0 := rfl
    rw [eQ] at e1 e2
    cases hs : sc_R (fun o => fj_T kn w f n want o 1000) (10 * n + 8) 0 with
    | some y =>
      obtain ⟨h2, b1, b2⟩ := e1 y hs
      rw [show s_X5_findOne 10 b 1 (nI w) (dI want) 0 0 0 h1 = some (1, h2) from b1, pp_bind, if_neg (show ¬ (1 : Int32) = 0 by decide)]
      obtain ⟨g, g1, b3, rfl, rfl⟩ := b2
      exact ⟨va_up h1 12 (some (tt_ia 2 (upd g 0 (nI y)))), 1, nI y, -9, upd g 0 (nI y), rfl, A1.upI (by decide) _, fun i hi => by rw [va_up_ne _ _ (by omega)]; exact a3 i (by omega), Or.inr ⟨hTf, Or.inl ⟨y, hs, rfl, rfl, rfl⟩⟩, va_up_self _ _ _, fun _ => pk_us, fun z => absurd z (by decide)⟩
    | none =>
      rw [show s_X5_findOne 10 b 1 (nI w) (dI want) 0 0 0 h1 = some (0, h1) from e2 hs, pp_bind, if_pos rfl]
      simp only []
      rw [k1.1.b]
      obtain ⟨d1, d2⟩ := ez_6 hV hw (want := want) (m := 10 * n + 8) rfl k1 n 0 1000 (false, false, false) (by omega) (by omega)
      have eD : sd_R (ez_D kn w f want n 0 (false, false, false)) (10 * n + 8) (10 * n + 8) (10 * 0) = sd_R (fj_T kn w f n want) (10 * n + 8) (10 * n + 8) 0 := rfl
      rw [eD] at d1 d2
      cases hd : sd_R (fj_T kn w f n want) (10 * n + 8) (10 * n + 8) 0 with
      | some q =>
        obtain ⟨h2, b1, b2⟩ := d1 q hd
        rw [show s_X5_findTwo 10 b 1 (nI w) (dI want) h1 = some (1, h2) from b1, pp_bind, if_neg (show ¬ (1 : Int32) = 0 by decide)]
        obtain ⟨g, g1, b3, rfl, b4, b5⟩ := b2
        exact ⟨va_up h1 12 (some (tt_ia 2 g1)), 2, nI q.1, nI q.2, g1, rfl, A1.upI (by decide) _, fun i hi => by rw [va_up_ne _ _ (by omega)]; exact a3 i (by omega), Or.inr ⟨hTf, Or.inr ⟨hs, Or.inl ⟨q, hd, rfl, rfl, rfl⟩⟩⟩, va_up_self _ _ _, fun _ => b4, fun _ => b5⟩
      | none =>
        rw [show s_X5_findTwo 10 b 1 (nI w) (dI want) h1 = some (0, h1) from d2 hd, pp_bind, if_pos rfl]
        exact ⟨h1, -9, -9, -9, g0, rfl, A1, fun i hi => a3 i (by omega), Or.inr ⟨hTf, Or.inr ⟨hs, Or.inr ⟨hd, rfl, rfl, rfl⟩⟩⟩, by rw [a3 12 (by decide)]; exact hg0, fun z => absurd z (by decide), fun z => absurd z (by decide)⟩
end PUTB
theorem pr_un {kn : Nat → Nat} {w : Nat} {f : Nat → Nat} {n : Nat} {want : Bool} {a b c a' b' c' : Int32} (h1 : pr_R kn w f n want a b c) (h2 : pr_R kn w f n want a' b' c') : a = a' ∧ b = b' ∧ c = c' := by
  rcases h1 with ⟨t1, rfl, rfl, rfl⟩ | ⟨t1, ⟨y, s1, rfl, rfl, rfl⟩ | ⟨s1, ⟨q, d1, rfl, rfl, rfl⟩ | ⟨d1, rfl, rfl, rfl⟩⟩⟩ <;>
  rcases h2 with ⟨t2, rfl, rfl, rfl⟩ | ⟨t2, ⟨y', s2, rfl, rfl, rfl⟩ | ⟨s2, ⟨q', d2, rfl, rfl, rfl⟩ | ⟨d2, rfl, rfl, rfl⟩⟩⟩ <;>
  first
  | exact ⟨rfl, rfl, rfl⟩
  | (rw [t1] at t2; cases t2; done)
  | (rw [s1] at s2; cases s2; done)
  | (rw [s1] at s2; cases s2; exact ⟨rfl, rfl, rfl⟩)
  | (rw [d1] at d2; cases d2; done)
  | (rw [d1] at d2; cases d2; exact ⟨rfl, rfl, rfl⟩)
theorem pr_vals {kn : Nat → Nat} {w : Nat} {f : Nat → Nat} {n : Nat} {want : Bool} {a b c : Int32} (h1 : pr_R kn w f n want a b c) : (a = 0 ∧ b = -9 ∧ c = -9) ∨ (a = -9 ∧ b = -9 ∧ c = -9) ∨ (a = 1 ∧ c = -9) ∨ a = 2 := by
  rcases h1 with ⟨t1, rfl, rfl, rfl⟩ | ⟨t1, ⟨y, s1, rfl, rfl, rfl⟩ | ⟨s1, ⟨q, d1, rfl, rfl, rfl⟩ | ⟨d1, rfl, rfl, rfl⟩⟩⟩
  · exact Or.inl ⟨rfl, rfl, rfl⟩
  · exact Or.inr (Or.inr (Or.inl ⟨rfl, rfl⟩))
  · exact Or.inr (Or.inr (Or.inr rfl))
  · exact Or.inr (Or.inl ⟨rfl, rfl, rfl⟩)
theorem pq_3 {x : Int32} (h1 : ¬ x < -1) (h2 : ¬ 1 < x) : x = -1 ∨ x = 0 ∨ x = 1 := by
  rw [Int32.lt_iff_toInt_lt] at h1 h2
  have e1 : (-1 : Int32).toInt = -1 := by decide
  have e2 : (1 : Int32).toInt = 1 := by decide
  rw [e1] at h1
  rw [e2] at h2
  rcases (show x.toInt = -1 ∨ x.toInt = 0 ∨ x.toInt = 1 by omega) with e | e | e
  · exact Or.inl (Int32.toInt_inj.mp (by rw [e, e1]))
  · exact Or.inr (Or.inl (Int32.toInt_inj.mp (by rw [e]; decide)))
  · exact Or.inr (Or.inr (Int32.toInt_inj.mp (by rw [e, e2])))
theorem E_putIn {h : tt_H} (hI : pp_Inv h) (x1 x2 : Int32) (want : Bool) (x4 : Int32) : pp_G (s_X8_putIn 0 x1 x2 (dI want) x4) (s_X9_putIn 49 x1 x2 (dI want) x4) h := by
  obtain ⟨⟨kn, dc, sz, wd, so, sl, sc, tr, ft⟩, hV, ha, hm⟩ := hI
  have hdc : dc ≤ 6 := hV.2.1
  rcases pp_rng dc (by omega) x1 with ⟨d1, hd1, rfl⟩ | h1
  rotate_left
  · refine pp_G.rd (-1) hV ha hm ?_ (fun h hm => ?_)
    · unfold s_X8_putIn
      simp only [ca_b ha.1, ca_out ha.1 h1, gg_opt_none, pp_bind]
    · unfold s_X9_putIn
      simp only [(ma_o hm.1).b, ma_out hm.1 h1, pp_bind, pn_00, ↓reduceIte]
  rcases pp_rng 8 (by decide) x2 with ⟨w, hw, rfl⟩ | h2
  rotate_left
  · refine pp_G.rd (-1) hV ha hm ?_ (fun h hm => ?_)
    · unfold s_X8_putIn
      simp only [ca_b ha.1, ca_in hV ha.1 hd1, gg_opt_some, iw_out h2, pp_bind, pn_00, ↓reduceIte]
    · unfold s_X9_putIn
      simp only [(ma_o hm.1).b, ma_in hV hm.1 hd1, jw_out h2, pp_bind, pn_10, pn_00, ↓reduceIte]
  have h3 := kn_lt hV hw
  have c1 := ca_cry hV ha.1 hd1
  have l1 := c1.le
  by_cases q1 : x4 < -1
  · refine pp_G.rd (-1) hV ha hm ?_ (fun h hm => ?_)
    · unfold s_X8_putIn
      simp only [ca_b ha.1, ca_in hV ha.1 hd1, gg_opt_some, iw_in hw, pp_bind, pn_10, q1, ↓reduceIte]
    · unfold s_X9_putIn
      simp only [(ma_o hm.1).b, ma_in hV hm.1 hd1, jw_in hw, pi_inside, pp_bind, pn_10, pn_00, q1, true_or, ↓reduceIte]
  by_cases q2 : 1 < x4
  · have q3 : ¬ x4 ≤ 1 := fun z => absurd q2 (Int32.not_lt.mpr z)
    refine pp_G.rd (-1) hV ha hm ?_ (fun h hm => ?_)
    · unfold s_X8_putIn
      simp only [ca_b ha.1, ca_in hV ha.1 hd1, gg_opt_some, iw_in hw, pp_bind, pn_10, q1, q3, ↓reduceIte]
    · unfold s_X9_putIn
      simp only [(ma_o hm.1).b, ma_in hV hm.1 hd1, jw_in hw, pi_inside, pp_bind, pn_10, pn_00, q2, or_true, ↓reduceIte]
  have q3 : x4 ≤ 1 := Int32.not_lt.mp q2
  have ci : s_X9_inside x4 (-1) 1 = fun h => some (1, h) := by
    funext h
    rw [pi_inside, if_neg (fun z => z.elim q1 q2)]
  by_cases hk : kn w = 0
  rotate_left
  · have hk0 : ¬ nI (kn w) = 0 := nI_ne0 (by omega) (by omega)
    refine pp_G.rd (-3) hV ha hm ?_ (fun h hm => ?_)
    · unfold s_X8_putIn
      simp only [ca_b ha.1, ca_in hV ha.1 hd1, gg_opt_some, iw_in hw, pp_bind, pn_10, q1, q3, ca_0 ha.1, ca_kind ha.1 hw, hk0, ↓reduceIte]
    · unfold s_X9_putIn
      simp only [(ma_o hm.1).b, ma_in hV hm.1 hd1, jw_in hw, ci, mo_5 (ma_o hm.1), ma_kind hm.1 hw, pp_bind, pn_10, hk0, ↓reduceIte]
  have hk0 : nI (kn w) = 0 := by rw [hk]; rfl
  obtain ⟨h1, A, B, C, g, a1, a2, a3, a4, a5, a6, a7⟩ := fx_c (want := want) hV ha c1 (by omega) hw
  have md : ∀ (R : Int32), (∀ (h2 : tt_H) {at_ rd : Int32}, h2 49 = some (pp_mob ft tr (nI dc) at_ rd A B C) → (if x4 = -1 then (gg_fi h2 49 9 16).bind fun z53 => some (z53, h2) else if x4 = 0 then (gg_fi h2 49 9 17).bind fun z65 => some (z65, h2) else (gg_fi h2 49 9 18).bind fun z72 => some (z72, h2)) = some (R, h2)) → ∀ h, mm_A (kn, dc, sz, wd, so, sl, sc, tr, ft) h → ∃ h2, s_X9_putIn 49 (nI d1) (nI w) (dI want) x4 h = some (R, h2) ∧ mm_A (kn, dc, sz, wd, so, sl, sc, tr, ft) h2 ∧ ∀ i, i < 49 → h2 i = h i := by
    intro R hR h hm
    have c2 := ma_day hV hm.1 hd1
    obtain ⟨⟨at_, rd, pm, po, pt, e49⟩, -, -, -, hkk, -⟩ := id hm.1
    obtain ⟨g60, e60⟩ := hm.2.1 (60, 14) (by decide)
    obtain ⟨h2, g2, A', B', C', b1, b2, b3⟩ := fp_m (want := want) (kn := kn) hV.1 c2 hkk hw (h := h) ⟨e49, e60, fun _ _ _ => rfl⟩
    obtain ⟨rfl, rfl, rfl⟩ := pr_un a4 b3
    refine ⟨h2, ?_, pf_mm hm b2, fun i hi => b2.2.2 i (by omega) (by omega)⟩
    unfold s_X9_putIn
    simp only [(ma_o hm.1).b, ma_in hV hm.1 hd1, jw_in hw, ci, mo_5 (ma_o hm.1), ma_kind hm.1 hw, pp_bind, pn_10, hk0, b1, ↓reduceIte]
    exact hR h2 b2.1
  have cl : ∀ R : Int32, (if x4 = -1 then some (A, h1) else if A ≤ x4 then some (-9, h1) else (s_X5_found 10 x4 h1).bind fun w84 => some (w84.1, w84.2)) = some (R, h1) → s_X8_putIn 0 (nI d1) (nI w) (dI want) x4 h = some (R, h1) := by
    intro R hR
    have k10 : gg_obj h 10 5 = some [.ref 11, .ref 12] := pp_obj (ez_K.o (P := (kn, dc, sz, wd, so, sl, sc, tr, ft)) ⟨ha.1, c1, by omega⟩)
    have k11 : gg_obj h1 10 5 = some [.ref 11, .ref 12] := by
      obtain ⟨-, -, -, -, -, -, -, -, e, -⟩ := a2.1
      exact pp_obj e
    unfold s_X8_putIn
    simp only [ca_b ha.1, ca_in hV ha.1 hd1, gg_opt_some, iw_in hw, pp_bind, pn_10, q1, q3, ca_0 ha.1, ca_kind ha.1 hw, hk0, ca_5 ha.1, k10, a1, ↓reduceIte]
    simp only [ca_5 a2.1, k11, pp_bind]
    exact hR
  have fo : ∀ q, q < 2 → s_X5_found 10 (nI q) h1 = some (g q, h1) := by
    intro q hq
    have f1 : gg_fr h1 10 5 1 = some 12 := by
      obtain ⟨-, -, -, -, -, -, -, -, e, -⟩ := a2.1
      exact pp_fr e rfl
    unfold s_X5_found
    rw [if_neg (nI_pos (by omega)), if_neg (show ¬ (2 : Int32) ≤ nI q from nI_ge (a := q) (b := 2) hq (by decide)), f1, pp_bind, pp_il a5 hq (by decide), pp_bind]
  have fo0 : s_X5_found 10 0 h1 = some (g 0, h1) := fo 0 (by decide)
  have fo1 : s_X5_found 10 1 h1 = some (g 1, h1) := fo 1 (by decide)
  rcases pq_3 q1 q2 with rfl | rfl | rfl
  · exact pp_G.of A ha hm hV ⟨h1, cl A (by rw [if_pos rfl]), a2, a3⟩ (md A (fun h2 _ _ e => by rw [if_pos rfl, pp_fi e rfl]; rfl))
  · refine pp_G.of B ha hm hV ⟨h1, cl B ?_, a2, a3⟩ (md B (fun h2 _ _ e => by rw [if_neg (by decide), if_pos rfl, pp_fi e rfl]; rfl))
    rw [if_neg (by decide)]
    rcases pr_vals a4 with ⟨rfl, rfl, rfl⟩ | ⟨rfl, rfl, rfl⟩ | ⟨rfl, rfl⟩ | rfl
    · rw [if_pos (by decide)]
    · rw [if_pos (by decide)]
    · rw [if_neg (by decide), fo0, pp_bind, a6 (Or.inl rfl)]
    · rw [if_neg (by decide), fo0, pp_bind, a6 (Or.inr rfl)]
  · refine pp_G.of C ha hm hV ⟨h1, cl C ?_, a2, a3⟩ (md C (fun h2 _ _ e => by rw [if_neg (by decide), if_neg (by decide), pp_fi e rfl]; rfl))
    rw [if_neg (by decide)]
    rcases pr_vals a4 with ⟨rfl, rfl, rfl⟩ | ⟨rfl, rfl, rfl⟩ | ⟨rfl, rfl⟩ | rfl
    · rw [if_pos (by decide)]
    · rw [if_pos (by decide)]
    · rw [if_pos (by decide)]
    · rw [if_neg (by decide), fo1, pp_bind, a7 rfl]
