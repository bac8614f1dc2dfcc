theorem al_okq_up {n a k : Nat} {f : Nat → Option Nat} (hf : ∀ j i, f j = some i → i < n) (ha : a < n) : ∀ j i, va_up f k (some a) j = some i → i < n := by
  intro j i h
  by_cases hj : j = k
  · subst hj; rw [va_up_self] at h; cases h; exact ha
  · rw [va_up_ne _ _ hj] at h; exact hf j i h
theorem in_X4_init_X4 : ∀ w ∈ u_ws RX4 TX4 1, w ∈ wsX4_init := by decide +kernel
def C_X4 (b n : Nat) (h : tt_H) : tt_H := va_up (va_up h n (some (tt_ja 169 (fun _ => 0)))) b (some (.inr (4, [.ref n])))
abbrev rm_X4_init : Room := { frames := 1, cells := 1, slots := 169, locals := 20 }
set_option maxHeartbeats 8000000 in
set_option maxRecDepth 100000 in
theorem c_X4_init (l : Launch) {b n : Nat} {h : tt_H} (hw : tt_wf n h) (ho : tt_okh n h) (hbn : b < n ∧ n < 999000) (hb : h b = some (.inr (4, [.null]))) : al_N tt_cl l yX4_init wsX4_init rm_X4_init 1 169 [.ref b] h (fun v h2 => v = none ∧ h2 = C_X4 b n h ∧ tt_wf (n + 1) h2 ∧ tt_okh (n + 1) h2) := by
  obtain ⟨hbn, hn9⟩ := hbn
  refine al_N.of (cc := cX4_init) (maxL := 1) (ret := none) (by decide +kernel) rfl (Nat.le_of_ble_eq_true rfl) rfl ?_
  intro p e s m args below meth c D ca ad n0 sz hwf hE X hini
  have hnn := al_n_eq hwf hw
  subst hnn
  refine tt_aload_n X dX4_init_0 rfl ?_
  refine al_objInit X (by decide +kernel) (by decide +kernel) (by decide +kernel) dX4_init_1 (by decide) (Nat.le_of_ble_eq_true rfl) ?_
  refine tt_aload_n X dX4_init_4 rfl ?_
  refine tt_sipush (v := 169) X dX4_init_5 (by decide) ?_
  refine al_newa (n := n) (ty := .long) X hw ho (by omega) (by exact (List.forall_mem_cons.mpr ⟨(Or.inl (show (b : Nat) < n by omega)), (fun _ hz => absurd hz List.not_mem_nil)⟩)) (by exact (List.forall_mem_cons.mpr ⟨(Or.inl (show (b : Nat) < n by omega)), (fun _ hz => absurd hz List.not_mem_nil)⟩)) 1 rfl (fun _ _ z => z) (by decide +kernel) rfl (N := 169) (a0 := (169, .inr (.inl (fun _ => 0)))) (fun _ => rfl) trivial (fun _ => rfl) (by decide) (by decide) (Nat.le_of_ble_eq_true rfl) (Nat.le_of_ble_eq_true rfl) (Nat.le_of_ble_eq_true rfl) dX4_init_8 (fun q1 => ?_)
  have ho2 : tt_okh (n + 1) _ := al_ok_new (e := tt_ja 169 (fun _ => 0)) ho trivial
  have hw2 : tt_wf (n + 1) _ := tt_wf_new hw (tt_ja 169 (fun _ => 0))
  refine tt_putfF X (fs := [.null]) (by first | rfl | (simp (disch := omega) only [va_up_self, va_up_ne, hb] <;> rfl)) rfl in_X4_init_X4 tyX4 tyX4_ok nmX4 0 (by decide) (by decide +kernel) rfl rfl hini rfl (fun _ => rfl) (fun _ => rfl) (Nat.le_of_ble_eq_true rfl) dX4_init_10 ?_
  have ho3 : tt_okh (n + 1) _ := al_ok_up (e := .inr (4, [.ref n])) ho2 (by exact (List.forall_mem_cons.mpr ⟨(show (n : Nat) < (n + 1) by omega), (fun _ hz => absurd hz List.not_mem_nil)⟩)) b
  have hw3 : tt_wf (n + 1) _ := al_wf_put hw2 (show (b : Nat) < n + 1 by omega) (.inr (4, [.ref n]))
  exact al_vret X rfl dX4_init_13 hw3 (by omega) (by intro i hi; rw [va_up_ne _ _ (by omega)]) ⟨rfl, rfl, hw3, ho3⟩
theorem in_X2_init_X2 : ∀ w ∈ u_ws RX2 TX2 2, w ∈ wsX2_init := by decide +kernel
def C_X2 (b n : Nat) (h : tt_H) : tt_H := va_up (va_up (va_up h n (some (tt_ia 12 (fun _ => 0)))) b (some (.inr (2, [.ref n, .int 0])))) b (some (.inr (2, [.ref n, .int 0])))
abbrev rm_X2_init : Room := { frames := 1, cells := 1, slots := 12, locals := 20 }
set_option maxHeartbeats 8000000 in
set_option maxRecDepth 100000 in
theorem c_X2_init (l : Launch) {b n : Nat} {h : tt_H} (hw : tt_wf n h) (ho : tt_okh n h) (hbn : b < n ∧ n < 999000) (hb : h b = some (.inr (2, [.null, .int 0]))) : al_N tt_cl l yX2_init wsX2_init rm_X2_init 1 12 [.ref b] h (fun v h2 => v = none ∧ h2 = C_X2 b n h ∧ tt_wf (n + 1) h2 ∧ tt_okh (n + 1) h2) := by
  obtain ⟨hbn, hn9⟩ := hbn
  refine al_N.of (cc := cX2_init) (maxL := 1) (ret := none) (by decide +kernel) rfl (Nat.le_of_ble_eq_true rfl) rfl ?_
  intro p e s m args below meth c D ca ad n0 sz hwf hE X hini
  have hnn := al_n_eq hwf hw
  subst hnn
  refine tt_aload_n X dX2_init_0 rfl ?_
  refine al_objInit X (by decide +kernel) (by decide +kernel) (by decide +kernel) dX2_init_1 (by decide) (Nat.le_of_ble_eq_true rfl) ?_
  refine tt_aload_n X dX2_init_4 rfl ?_
  refine tt_bipush (v := 12) X dX2_init_5 (by decide) ?_
  refine al_newa (n := n) (ty := .int) X hw ho (by omega) (by exact (List.forall_mem_cons.mpr ⟨(Or.inl (show (b : Nat) < n by omega)), (fun _ hz => absurd hz List.not_mem_nil)⟩)) (by exact (List.forall_mem_cons.mpr ⟨(Or.inl (show (b : Nat) < n by omega)), (fun _ hz => absurd hz List.not_mem_nil)⟩)) 0 rfl (fun _ _ z => z) (by decide +kernel) rfl (N := 12) (a0 := (12, .inl (fun _ => 0))) (fun _ => rfl) trivial (fun _ => rfl) (by decide) (by decide) (Nat.le_of_ble_eq_true rfl) (Nat.le_of_ble_eq_true rfl) (Nat.le_of_ble_eq_true rfl) dX2_init_7 (fun q1 => ?_)
  have ho2 : tt_okh (n + 1) _ := al_ok_new (e := tt_ia 12 (fun _ => 0)) ho trivial
  have hw2 : tt_wf (n + 1) _ := tt_wf_new hw (tt_ia 12 (fun _ => 0))
  refine tt_putfF X (fs := [.null, .int 0]) (by first | rfl | (simp (disch := omega) only [va_up_self, va_up_ne, hb] <;> rfl)) rfl in_X2_init_X2 tyX2 tyX2_ok nmX2 0 (by decide) (by decide +kernel) rfl rfl hini rfl (fun _ => rfl) (fun _ => rfl) (Nat.le_of_ble_eq_true rfl) dX2_init_9 ?_
  have ho3 : tt_okh (n + 1) _ := al_ok_up (e := .inr (2, [.ref n, .int 0])) ho2 (by exact (List.forall_mem_cons.mpr ⟨(show (n : Nat) < (n + 1) by omega), (List.forall_mem_cons.mpr ⟨trivial, (fun _ hz => absurd hz List.not_mem_nil)⟩)⟩)) b
  have hw3 : tt_wf (n + 1) _ := al_wf_put hw2 (show (b : Nat) < n + 1 by omega) (.inr (2, [.ref n, .int 0]))
  refine tt_aload_n X dX2_init_12 rfl ?_
  refine tt_iconst (v := 0) X dX2_init_13 (by decide) ?_
  refine tt_putf X (fs := [.ref n, .int 0]) (by first | rfl | (simp (disch := omega) only [va_up_self, va_up_ne, hb] <;> rfl)) rfl in_X2_init_X2 tyX2 tyX2_ok nmX2 1 (by decide) (by decide +kernel) rfl rfl (fun _ => rfl) (fun _ => rfl) (Nat.le_of_ble_eq_true rfl) dX2_init_14 ?_
  have ho4 : tt_okh (n + 1) _ := al_ok_up (e := .inr (2, [.ref n, .int 0])) ho3 (by exact (List.forall_mem_cons.mpr ⟨(show (n : Nat) < (n + 1) by omega), (List.forall_mem_cons.mpr ⟨trivial, (fun _ hz => absurd hz List.not_mem_nil)⟩)⟩)) b
  have hw4 : tt_wf (n + 1) _ := al_wf_put hw3 (show (b : Nat) < n + 1 by omega) (.inr (2, [.ref n, .int 0]))
  exact al_vret X rfl dX2_init_17 hw4 (by omega) (by intro i hi; rw [va_up_ne _ _ (by omega)]) ⟨rfl, rfl, hw4, ho4⟩
theorem in_X6_init_X6 : ∀ w ∈ u_ws RX6 TX6 3, w ∈ wsX6_init := by decide +kernel
def C_X6 (b n : Nat) (h : tt_H) : tt_H := va_up (va_up (va_up (va_up h n (some (tt_ia 80 (fun _ => 0)))) b (some (.inr (6, [.ref n, .int 0, .int 0])))) b (some (.inr (6, [.ref n, .int (-1), .int 0])))) b (some (.inr (6, [.ref n, .int (-1), .int 0])))
abbrev rm_X6_init : Room := { frames := 1, cells := 1, slots := 80, locals := 20 }
set_option maxHeartbeats 8000000 in
set_option maxRecDepth 100000 in
theorem c_X6_init (l : Launch) {b n : Nat} {h : tt_H} (hw : tt_wf n h) (ho : tt_okh n h) (hbn : b < n ∧ n < 999000) (hb : h b = some (.inr (6, [.null, .int 0, .int 0]))) : al_N tt_cl l yX6_init wsX6_init rm_X6_init 1 80 [.ref b] h (fun v h2 => v = none ∧ h2 = C_X6 b n h ∧ tt_wf (n + 1) h2 ∧ tt_okh (n + 1) h2) := by
  obtain ⟨hbn, hn9⟩ := hbn
  refine al_N.of (cc := cX6_init) (maxL := 1) (ret := none) (by decide +kernel) rfl (Nat.le_of_ble_eq_true rfl) rfl ?_
  intro p e s m args below meth c D ca ad n0 sz hwf hE X hini
  have hnn := al_n_eq hwf hw
  subst hnn
  refine tt_aload_n X dX6_init_0 rfl ?_
  refine al_objInit X (by decide +kernel) (by decide +kernel) (by decide +kernel) dX6_init_1 (by decide) (Nat.le_of_ble_eq_true rfl) ?_
  refine tt_aload_n X dX6_init_4 rfl ?_
  refine tt_bipush (v := 80) X dX6_init_5 (by decide) ?_
  refine al_newa (n := n) (ty := .int) X hw ho (by omega) (by exact (List.forall_mem_cons.mpr ⟨(Or.inl (show (b : Nat) < n by omega)), (fun _ hz => absurd hz List.not_mem_nil)⟩)) (by exact (List.forall_mem_cons.mpr ⟨(Or.inl (show (b : Nat) < n by omega)), (fun _ hz => absurd hz List.not_mem_nil)⟩)) 0 rfl (fun _ _ z => z) (by decide +kernel) rfl (N := 80) (a0 := (80, .inl (fun _ => 0))) (fun _ => rfl) trivial (fun _ => rfl) (by decide) (by decide) (Nat.le_of_ble_eq_true rfl) (Nat.le_of_ble_eq_true rfl) (Nat.le_of_ble_eq_true rfl) dX6_init_7 (fun q1 => ?_)
  have ho2 : tt_okh (n + 1) _ := al_ok_new (e := tt_ia 80 (fun _ => 0)) ho trivial
  have hw2 : tt_wf (n + 1) _ := tt_wf_new hw (tt_ia 80 (fun _ => 0))
  refine tt_putfF X (fs := [.null, .int 0, .int 0]) (by first | rfl | (simp (disch := omega) only [va_up_self, va_up_ne, hb] <;> rfl)) rfl in_X6_init_X6 tyX6 tyX6_ok nmX6 0 (by decide) (by decide +kernel) rfl rfl hini rfl (fun _ => rfl) (fun _ => rfl) (Nat.le_of_ble_eq_true rfl) dX6_init_9 ?_
  have ho3 : tt_okh (n + 1) _ := al_ok_up (e := .inr (6, [.ref n, .int 0, .int 0])) ho2 (by exact (List.forall_mem_cons.mpr ⟨(show (n : Nat) < (n + 1) by omega), (List.forall_mem_cons.mpr ⟨trivial, (List.forall_mem_cons.mpr ⟨trivial, (fun _ hz => absurd hz List.not_mem_nil)⟩)⟩)⟩)) b
  have hw3 : tt_wf (n + 1) _ := al_wf_put hw2 (show (b : Nat) < n + 1 by omega) (.inr (6, [.ref n, .int 0, .int 0]))
  refine tt_aload_n X dX6_init_12 rfl ?_
  refine tt_iconst (v := (-1)) X dX6_init_13 (by decide) ?_
  refine tt_putf X (fs := [.ref n, .int 0, .int 0]) (by first | rfl | (simp (disch := omega) only [va_up_self, va_up_ne, hb] <;> rfl)) rfl in_X6_init_X6 tyX6 tyX6_ok nmX6 1 (by decide) (by decide +kernel) rfl rfl (fun _ => rfl) (fun _ => rfl) (Nat.le_of_ble_eq_true rfl) dX6_init_14 ?_
  have ho4 : tt_okh (n + 1) _ := al_ok_up (e := .inr (6, [.ref n, .int (-1), .int 0])) ho3 (by exact (List.forall_mem_cons.mpr ⟨(show (n : Nat) < (n + 1) by omega), (List.forall_mem_cons.mpr ⟨trivial, (List.forall_mem_cons.mpr ⟨trivial, (fun _ hz => absurd hz List.not_mem_nil)⟩)⟩)⟩)) b
  have hw4 : tt_wf (n + 1) _ := al_wf_put hw3 (show (b : Nat) < n + 1 by omega) (.inr (6, [.ref n, .int (-1), .int 0]))
  refine tt_aload_n X dX6_init_17 rfl ?_
  refine tt_iconst (v := 0) X dX6_init_18 (by decide) ?_
  refine tt_putf X (fs := [.ref n, .int (-1), .int 0]) (by first | rfl | (simp (disch := omega) only [va_up_self, va_up_ne, hb] <;> rfl)) rfl in_X6_init_X6 tyX6 tyX6_ok nmX6 2 (by decide) (by decide +kernel) rfl rfl (fun _ => rfl) (fun _ => rfl) (Nat.le_of_ble_eq_true rfl) dX6_init_19 ?_
  have ho5 : tt_okh (n + 1) _ := al_ok_up (e := .inr (6, [.ref n, .int (-1), .int 0])) ho4 (by exact (List.forall_mem_cons.mpr ⟨(show (n : Nat) < (n + 1) by omega), (List.forall_mem_cons.mpr ⟨trivial, (List.forall_mem_cons.mpr ⟨trivial, (fun _ hz => absurd hz List.not_mem_nil)⟩)⟩)⟩)) b
  have hw5 : tt_wf (n + 1) _ := al_wf_put hw4 (show (b : Nat) < n + 1 by omega) (.inr (6, [.ref n, .int (-1), .int 0]))
  exact al_vret X rfl dX6_init_22 hw5 (by omega) (by intro i hi; rw [va_up_ne _ _ (by omega)]) ⟨rfl, rfl, hw5, ho5⟩
theorem in_X3_init_X3 : ∀ w ∈ u_ws RX3 TX3 3, w ∈ wsX3_init := by decide +kernel
def C_X3 (b n : Nat) (h : tt_H) : tt_H := va_up (va_up (va_up (va_up (va_up (va_up h n (some (tt_ia 12 (fun _ => 0)))) b (some (.inr (3, [.ref n, .null, .null])))) (n + 1) (some (tt_ia 12 (fun _ => 0)))) b (some (.inr (3, [.ref n, .ref (n + 1), .null])))) (n + 2) (some (tt_ja 13 (fun _ => 0)))) b (some (.inr (3, [.ref n, .ref (n + 1), .ref (n + 2)])))
abbrev rm_X3_init : Room := { frames := 1, cells := 3, slots := 37, locals := 20 }
set_option maxHeartbeats 8000000 in
set_option maxRecDepth 100000 in
theorem c_X3_init (l : Launch) {b n : Nat} {h : tt_H} (hw : tt_wf n h) (ho : tt_okh n h) (hbn : b < n ∧ n < 999000) (hb : h b = some (.inr (3, [.null, .null, .null]))) : al_N tt_cl l yX3_init wsX3_init rm_X3_init 3 37 [.ref b] h (fun v h2 => v = none ∧ h2 = C_X3 b n h ∧ tt_wf (n + 3) h2 ∧ tt_okh (n + 3) h2) := by
  obtain ⟨hbn, hn9⟩ := hbn
  refine al_N.of (cc := cX3_init) (maxL := 1) (ret := none) (by decide +kernel) rfl (Nat.le_of_ble_eq_true rfl) rfl ?_
  intro p e s m args below meth c D ca ad n0 sz hwf hE X hini
  have hnn := al_n_eq hwf hw
  subst hnn
  refine tt_aload_n X dX3_init_0 rfl ?_
  refine al_objInit X (by decide +kernel) (by decide +kernel) (by decide +kernel) dX3_init_1 (by decide) (Nat.le_of_ble_eq_true rfl) ?_
  refine tt_aload_n X dX3_init_4 rfl ?_
  refine tt_bipush (v := 12) X dX3_init_5 (by decide) ?_
  refine al_newa (n := n) (ty := .int) X hw ho (by omega) (by exact (List.forall_mem_cons.mpr ⟨(Or.inl (show (b : Nat) < n by omega)), (fun _ hz => absurd hz List.not_mem_nil)⟩)) (by exact (List.forall_mem_cons.mpr ⟨(Or.inl (show (b : Nat) < n by omega)), (fun _ hz => absurd hz List.not_mem_nil)⟩)) 0 rfl (fun _ _ z => z) (by decide +kernel) rfl (N := 12) (a0 := (12, .inl (fun _ => 0))) (fun _ => rfl) trivial (fun _ => rfl) (by decide) (by decide) (Nat.le_of_ble_eq_true rfl) (Nat.le_of_ble_eq_true rfl) (Nat.le_of_ble_eq_true rfl) dX3_init_7 (fun q1 => ?_)
  have ho2 : tt_okh (n + 1) _ := al_ok_new (e := tt_ia 12 (fun _ => 0)) ho trivial
  have hw2 : tt_wf (n + 1) _ := tt_wf_new hw (tt_ia 12 (fun _ => 0))
  refine tt_putfF X (fs := [.null, .null, .null]) (by first | rfl | (simp (disch := omega) only [va_up_self, va_up_ne, hb] <;> rfl)) rfl in_X3_init_X3 tyX3 tyX3_ok nmX3 0 (by decide) (by decide +kernel) rfl rfl hini rfl (fun _ => rfl) (fun _ => rfl) (Nat.le_of_ble_eq_true rfl) dX3_init_9 ?_
  have ho3 : tt_okh (n + 1) _ := al_ok_up (e := .inr (3, [.ref n, .null, .null])) ho2 (by exact (List.forall_mem_cons.mpr ⟨(show (n : Nat) < (n + 1) by omega), (List.forall_mem_cons.mpr ⟨trivial, (List.forall_mem_cons.mpr ⟨trivial, (fun _ hz => absurd hz List.not_mem_nil)⟩)⟩)⟩)) b
  have hw3 : tt_wf (n + 1) _ := al_wf_put hw2 (show (b : Nat) < n + 1 by omega) (.inr (3, [.ref n, .null, .null]))
  refine tt_aload_n X dX3_init_12 rfl ?_
  refine tt_bipush (v := 12) X dX3_init_13 (by decide) ?_
  refine al_newa (n := (n + 1)) (ty := .int) X hw3 ho3 (by omega) (by exact (List.forall_mem_cons.mpr ⟨(Or.inl (show (b : Nat) < (n + 1) by omega)), (fun _ hz => absurd hz List.not_mem_nil)⟩)) (by exact (List.forall_mem_cons.mpr ⟨(Or.inl (show (b : Nat) < (n + 1) by omega)), (fun _ hz => absurd hz List.not_mem_nil)⟩)) 0 rfl (fun _ _ z => z) (by decide +kernel) rfl (N := 12) (a0 := (12, .inl (fun _ => 0))) (fun _ => rfl) trivial (fun _ => rfl) (by decide) (by decide) (Nat.le_of_ble_eq_true rfl) (Nat.le_of_ble_eq_true rfl) (Nat.le_of_ble_eq_true rfl) dX3_init_15 (fun q4 => ?_)
  have ho5 : tt_okh (n + 2) _ := al_ok_new (e := tt_ia 12 (fun _ => 0)) ho3 trivial
  have hw5 : tt_wf (n + 2) _ := tt_wf_new hw3 (tt_ia 12 (fun _ => 0))
  refine tt_putfF X (fs := [.ref n, .null, .null]) (by first | rfl | (simp (disch := omega) only [va_up_self, va_up_ne, hb] <;> rfl)) rfl in_X3_init_X3 tyX3 tyX3_ok nmX3 1 (by decide) (by decide +kernel) rfl rfl hini rfl (fun _ => rfl) (fun _ => rfl) (Nat.le_of_ble_eq_true rfl) dX3_init_17 ?_
  have ho6 : tt_okh (n + 2) _ := al_ok_up (e := .inr (3, [.ref n, .ref (n + 1), .null])) ho5 (by exact (List.forall_mem_cons.mpr ⟨(show (n : Nat) < (n + 2) by omega), (List.forall_mem_cons.mpr ⟨(show ((n + 1) : Nat) < (n + 2) by omega), (List.forall_mem_cons.mpr ⟨trivial, (fun _ hz => absurd hz List.not_mem_nil)⟩)⟩)⟩)) b
  have hw6 : tt_wf (n + 2) _ := al_wf_put hw5 (show (b : Nat) < n + 2 by omega) (.inr (3, [.ref n, .ref (n + 1), .null]))
  refine tt_aload_n X dX3_init_20 rfl ?_
  refine tt_bipush (v := 13) X dX3_init_21 (by decide) ?_
  refine al_newa (n := (n + 2)) (ty := .long) X hw6 ho6 (by omega) (by exact (List.forall_mem_cons.mpr ⟨(Or.inl (show (b : Nat) < (n + 2) by omega)), (fun _ hz => absurd hz List.not_mem_nil)⟩)) (by exact (List.forall_mem_cons.mpr ⟨(Or.inl (show (b : Nat) < (n + 2) by omega)), (fun _ hz => absurd hz List.not_mem_nil)⟩)) 1 rfl (fun _ _ z => z) (by decide +kernel) rfl (N := 13) (a0 := (13, .inr (.inl (fun _ => 0)))) (fun _ => rfl) trivial (fun _ => rfl) (by decide) (by decide) (Nat.le_of_ble_eq_true rfl) (Nat.le_of_ble_eq_true rfl) (Nat.le_of_ble_eq_true rfl) dX3_init_23 (fun q7 => ?_)
  have ho8 : tt_okh (n + 3) _ := al_ok_new (e := tt_ja 13 (fun _ => 0)) ho6 trivial
  have hw8 : tt_wf (n + 3) _ := tt_wf_new hw6 (tt_ja 13 (fun _ => 0))
  refine tt_putfF X (fs := [.ref n, .ref (n + 1), .null]) (by first | rfl | (simp (disch := omega) only [va_up_self, va_up_ne, hb] <;> rfl)) rfl in_X3_init_X3 tyX3 tyX3_ok nmX3 2 (by decide) (by decide +kernel) rfl rfl hini rfl (fun _ => rfl) (fun _ => rfl) (Nat.le_of_ble_eq_true rfl) dX3_init_25 ?_
  have ho9 : tt_okh (n + 3) _ := al_ok_up (e := .inr (3, [.ref n, .ref (n + 1), .ref (n + 2)])) ho8 (by exact (List.forall_mem_cons.mpr ⟨(show (n : Nat) < (n + 3) by omega), (List.forall_mem_cons.mpr ⟨(show ((n + 1) : Nat) < (n + 3) by omega), (List.forall_mem_cons.mpr ⟨(show ((n + 2) : Nat) < (n + 3) by omega), (fun _ hz => absurd hz List.not_mem_nil)⟩)⟩)⟩)) b
  have hw9 : tt_wf (n + 3) _ := al_wf_put hw8 (show (b : Nat) < n + 3 by omega) (.inr (3, [.ref n, .ref (n + 1), .ref (n + 2)]))
  exact al_vret X rfl dX3_init_28 hw9 (by omega) (by intro i hi; rw [va_up_ne _ _ (by omega), va_up_ne _ _ (by omega), va_up_ne _ _ (by omega)]) ⟨rfl, rfl, hw9, ho9⟩
theorem in_X5_init_X5 : ∀ w ∈ u_ws RX5 TX5 2, w ∈ wsX5_init := by decide +kernel
def C_X5 (b n : Nat) (h : tt_H) : tt_H := va_up (va_up (va_up (va_up h n (some (tt_za 104 (fun _ => 0)))) b (some (.inr (5, [.ref n, .null])))) (n + 1) (some (tt_ia 2 (fun _ => 0)))) b (some (.inr (5, [.ref n, .ref (n + 1)])))
abbrev rm_X5_init : Room := { frames := 1, cells := 2, slots := 106, locals := 20 }
set_option maxHeartbeats 8000000 in
set_option maxRecDepth 100000 in
theorem c_X5_init (l : Launch) {b n : Nat} {h : tt_H} (hw : tt_wf n h) (ho : tt_okh n h) (hbn : b < n ∧ n < 999000) (hb : h b = some (.inr (5, [.null, .null]))) : al_N tt_cl l yX5_init wsX5_init rm_X5_init 2 106 [.ref b] h (fun v h2 => v = none ∧ h2 = C_X5 b n h ∧ tt_wf (n + 2) h2 ∧ tt_okh (n + 2) h2) := by
  obtain ⟨hbn, hn9⟩ := hbn
  refine al_N.of (cc := cX5_init) (maxL := 1) (ret := none) (by decide +kernel) rfl (Nat.le_of_ble_eq_true rfl) rfl ?_
  intro p e s m args below meth c D ca ad n0 sz hwf hE X hini
  have hnn := al_n_eq hwf hw
  subst hnn
  refine tt_aload_n X dX5_init_0 rfl ?_
  refine al_objInit X (by decide +kernel) (by decide +kernel) (by decide +kernel) dX5_init_1 (by decide) (Nat.le_of_ble_eq_true rfl) ?_
  refine tt_aload_n X dX5_init_4 rfl ?_
  refine tt_bipush (v := 104) X dX5_init_5 (by decide) ?_
  refine al_newa (n := n) (ty := .boolean) X hw ho (by omega) (by exact (List.forall_mem_cons.mpr ⟨(Or.inl (show (b : Nat) < n by omega)), (fun _ hz => absurd hz List.not_mem_nil)⟩)) (by exact (List.forall_mem_cons.mpr ⟨(Or.inl (show (b : Nat) < n by omega)), (fun _ hz => absurd hz List.not_mem_nil)⟩)) 2 rfl (fun _ _ z => z) (by decide +kernel) rfl (N := 104) (a0 := (104, .inl (fun _ => 0))) (fun _ => rfl) trivial (fun _ => rfl) (by decide) (by decide) (Nat.le_of_ble_eq_true rfl) (Nat.le_of_ble_eq_true rfl) (Nat.le_of_ble_eq_true rfl) dX5_init_7 (fun q1 => ?_)
  have ho2 : tt_okh (n + 1) _ := al_ok_new (e := tt_za 104 (fun _ => 0)) ho trivial
  have hw2 : tt_wf (n + 1) _ := tt_wf_new hw (tt_za 104 (fun _ => 0))
  refine tt_putfF X (fs := [.null, .null]) (by first | rfl | (simp (disch := omega) only [va_up_self, va_up_ne, hb] <;> rfl)) rfl in_X5_init_X5 tyX5 tyX5_ok nmX5 0 (by decide) (by decide +kernel) rfl rfl hini rfl (fun _ => rfl) (fun _ => rfl) (Nat.le_of_ble_eq_true rfl) dX5_init_9 ?_
  have ho3 : tt_okh (n + 1) _ := al_ok_up (e := .inr (5, [.ref n, .null])) ho2 (by exact (List.forall_mem_cons.mpr ⟨(show (n : Nat) < (n + 1) by omega), (List.forall_mem_cons.mpr ⟨trivial, (fun _ hz => absurd hz List.not_mem_nil)⟩)⟩)) b
  have hw3 : tt_wf (n + 1) _ := al_wf_put hw2 (show (b : Nat) < n + 1 by omega) (.inr (5, [.ref n, .null]))
  refine tt_aload_n X dX5_init_12 rfl ?_
  refine tt_iconst (v := 2) X dX5_init_13 (by decide) ?_
  refine al_newa (n := (n + 1)) (ty := .int) X hw3 ho3 (by omega) (by exact (List.forall_mem_cons.mpr ⟨(Or.inl (show (b : Nat) < (n + 1) by omega)), (fun _ hz => absurd hz List.not_mem_nil)⟩)) (by exact (List.forall_mem_cons.mpr ⟨(Or.inl (show (b : Nat) < (n + 1) by omega)), (fun _ hz => absurd hz List.not_mem_nil)⟩)) 0 rfl (fun _ _ z => z) (by decide +kernel) rfl (N := 2) (a0 := (2, .inl (fun _ => 0))) (fun _ => rfl) trivial (fun _ => rfl) (by decide) (by decide) (Nat.le_of_ble_eq_true rfl) (Nat.le_of_ble_eq_true rfl) (Nat.le_of_ble_eq_true rfl) dX5_init_14 (fun q4 => ?_)
  have ho5 : tt_okh (n + 2) _ := al_ok_new (e := tt_ia 2 (fun _ => 0)) ho3 trivial
  have hw5 : tt_wf (n + 2) _ := tt_wf_new hw3 (tt_ia 2 (fun _ => 0))
  refine tt_putfF X (fs := [.ref n, .null]) (by first | rfl | (simp (disch := omega) only [va_up_self, va_up_ne, hb] <;> rfl)) rfl in_X5_init_X5 tyX5 tyX5_ok nmX5 1 (by decide) (by decide +kernel) rfl rfl hini rfl (fun _ => rfl) (fun _ => rfl) (Nat.le_of_ble_eq_true rfl) dX5_init_16 ?_
  have ho6 : tt_okh (n + 2) _ := al_ok_up (e := .inr (5, [.ref n, .ref (n + 1)])) ho5 (by exact (List.forall_mem_cons.mpr ⟨(show (n : Nat) < (n + 2) by omega), (List.forall_mem_cons.mpr ⟨(show ((n + 1) : Nat) < (n + 2) by omega), (fun _ hz => absurd hz List.not_mem_nil)⟩)⟩)) b
  have hw6 : tt_wf (n + 2) _ := al_wf_put hw5 (show (b : Nat) < n + 2 by omega) (.inr (5, [.ref n, .ref (n + 1)]))
  exact al_vret X rfl dX5_init_19 hw6 (by omega) (by intro i hi; rw [va_up_ne _ _ (by omega), va_up_ne _ _ (by omega)]) ⟨rfl, rfl, hw6, ho6⟩
theorem in_X7_init_X4 : ∀ w ∈ u_ws RX4 TX4 1, w ∈ wsX7_init := by decide +kernel
theorem in_X7_init_X7 : ∀ w ∈ u_ws RX7 TX7 2, w ∈ wsX7_init := by decide +kernel
def C_X7 (b n : Nat) (h : tt_H) : tt_H := va_up (va_up (va_up (va_up (va_up (va_up (va_up (va_up h n (some (.inr (4, [.null])))) (n + 1) (some (tt_ja 169 (fun _ => 0)))) n (some (.inr (4, [.ref (n + 1)])))) b (some (.inr (7, [.ref n, .null])))) (n + 2) (some (.inr (4, [.null])))) (n + 3) (some (tt_ja 169 (fun _ => 0)))) (n + 2) (some (.inr (4, [.ref (n + 3)])))) b (some (.inr (7, [.ref n, .ref (n + 2)])))
abbrev rm_X7_init : Room := { frames := 2, cells := 4, slots := 340, locals := 40 }
set_option maxHeartbeats 8000000 in
set_option maxRecDepth 100000 in
theorem c_X7_init (l : Launch) {b n : Nat} {h : tt_H} (hw : tt_wf n h) (ho : tt_okh n h) (hbn : b < n ∧ n < 998000) (hb : h b = some (.inr (7, [.null, .null]))) : al_N tt_cl l yX7_init wsX7_init rm_X7_init 4 340 [.ref b] h (fun v h2 => v = none ∧ h2 = C_X7 b n h ∧ tt_wf (n + 4) h2 ∧ tt_okh (n + 4) h2) := by
  obtain ⟨hbn, hn9⟩ := hbn
  refine al_N.of (cc := cX7_init) (maxL := 1) (ret := none) (by decide +kernel) rfl (Nat.le_of_ble_eq_true rfl) rfl ?_
  intro p e s m args below meth c D ca ad n0 sz hwf hE X hini
  have hnn := al_n_eq hwf hw
  subst hnn
  refine tt_aload_n X dX7_init_0 rfl ?_
  refine al_objInit X (by decide +kernel) (by decide +kernel) (by decide +kernel) dX7_init_1 (by decide) (Nat.le_of_ble_eq_true rfl) ?_
  refine tt_aload_n X dX7_init_4 rfl ?_
  refine al_new (n := n) X hw ho (by omega) (by exact (List.forall_mem_cons.mpr ⟨(Or.inl (show (b : Nat) < n by omega)), (fun _ hz => absurd hz List.not_mem_nil)⟩)) (by exact (List.forall_mem_cons.mpr ⟨(Or.inl (show (b : Nat) < n by omega)), (fun _ hz => absurd hz List.not_mem_nil)⟩)) (ci := 4) rfl in_X7_init_X4 tyX4 tyX4_ok (by decide +kernel) (by decide +kernel) (by decide +kernel) (fs := [.null]) (fun j hj => by match j, hj with | 0, _ => rfl | j + 1, hj => omega) (fun _ => rfl) (by exact (List.forall_mem_cons.mpr ⟨trivial, (fun _ hz => absurd hz List.not_mem_nil)⟩)) (Nat.le_of_ble_eq_true rfl) (Nat.le_of_ble_eq_true rfl) dX7_init_5 (fun q1 => ?_)
  have ho2 : tt_okh (n + 1) _ := al_ok_new (e := .inr (4, [.null])) ho (by exact (List.forall_mem_cons.mpr ⟨trivial, (fun _ hz => absurd hz List.not_mem_nil)⟩))
  have hw2 : tt_wf (n + 1) _ := tt_wf_new hw (.inr (4, [.null]))
  refine tt_dup X dX7_init_8 rfl ?_
  refine al_callN X hE hw2 (n2 := (n + 2)) (by omega) (by exact (List.forall_mem_cons.mpr ⟨(Or.inl (show (b : Nat) < (n + 1) by omega)), (fun _ hz => absurd hz List.not_mem_nil)⟩)) (by exact (List.forall_mem_cons.mpr ⟨(Or.inl (show (n : Nat) < (n + 1) by omega)), (List.forall_mem_cons.mpr ⟨(Or.inl (show (b : Nat) < (n + 1) by omega)), (fun _ hz => absurd hz List.not_mem_nil)⟩)⟩)) (c_X4_init l (b := n) hw2 ho2 (by omega) (by first | rfl | (simp (disch := omega) only [C_X4, va_up_self, va_up_ne, hb] <;> rfl))) (fun v h hp => ⟨hp.1, hp.2.2.1⟩) (fun hts => ⟨va_cnB 0 hts gX7_init_X4_init_n11 rfl rfl rfl (hE.2.2 (RX7, 11, yX4_init, RX8) (by decide +kernel)) (hts _ (by decide +kernel)) (by decide +kernel) ⟨by decide, by decide⟩, rfl, hts _ (by decide +kernel)⟩) (Nat.le_of_ble_eq_true rfl) dX7_init_9 ⟨Nat.le_of_ble_eq_true rfl, Nat.le_of_ble_eq_true rfl⟩ (fun h3 ad3 hp3 hag3 => ?_)
  obtain ⟨-, rfl, hw3, ho3⟩ := hp3
  refine tt_putfF X (fs := [.null, .null]) (by first | rfl | (simp (disch := omega) only [C_X4, va_up_self, va_up_ne, hb] <;> rfl)) rfl in_X7_init_X7 tyX7 tyX7_ok nmX7 0 (by decide) (by decide +kernel) rfl rfl hini rfl (fun _ => rfl) (fun _ => rfl) (Nat.le_of_ble_eq_true rfl) dX7_init_12 ?_
  have ho4 : tt_okh (n + 2) _ := al_ok_up (e := .inr (7, [.ref n, .null])) ho3 (by exact (List.forall_mem_cons.mpr ⟨(show (n : Nat) < (n + 2) by omega), (List.forall_mem_cons.mpr ⟨trivial, (fun _ hz => absurd hz List.not_mem_nil)⟩)⟩)) b
  have hw4 : tt_wf (n + 2) _ := al_wf_put hw3 (show (b : Nat) < n + 2 by omega) (.inr (7, [.ref n, .null]))
  refine tt_aload_n X dX7_init_15 rfl ?_
  refine al_new (n := (n + 2)) X hw4 ho4 (by omega) (by exact (List.forall_mem_cons.mpr ⟨(Or.inl (show (b : Nat) < (n + 2) by omega)), (fun _ hz => absurd hz List.not_mem_nil)⟩)) (by exact (List.forall_mem_cons.mpr ⟨(Or.inl (show (b : Nat) < (n + 2) by omega)), (fun _ hz => absurd hz List.not_mem_nil)⟩)) (ci := 4) rfl in_X7_init_X4 tyX4 tyX4_ok (by decide +kernel) (by decide +kernel) (by decide +kernel) (fs := [.null]) (fun j hj => by match j, hj with | 0, _ => rfl | j + 1, hj => omega) (fun _ => rfl) (by exact (List.forall_mem_cons.mpr ⟨trivial, (fun _ hz => absurd hz List.not_mem_nil)⟩)) (Nat.le_of_ble_eq_true rfl) (Nat.le_of_ble_eq_true rfl) dX7_init_16 (fun q5 => ?_)
  have ho6 : tt_okh (n + 3) _ := al_ok_new (e := .inr (4, [.null])) ho4 (by exact (List.forall_mem_cons.mpr ⟨trivial, (fun _ hz => absurd hz List.not_mem_nil)⟩))
  have hw6 : tt_wf (n + 3) _ := tt_wf_new hw4 (.inr (4, [.null]))
  refine tt_dup X dX7_init_19 rfl ?_
  refine al_callN X hE hw6 (n2 := (n + 4)) (by omega) (by exact (List.forall_mem_cons.mpr ⟨(Or.inl (show (b : Nat) < (n + 3) by omega)), (fun _ hz => absurd hz List.not_mem_nil)⟩)) (by exact (List.forall_mem_cons.mpr ⟨(Or.inl (show ((n + 2) : Nat) < (n + 3) by omega)), (List.forall_mem_cons.mpr ⟨(Or.inl (show (b : Nat) < (n + 3) by omega)), (fun _ hz => absurd hz List.not_mem_nil)⟩)⟩)) (c_X4_init l (b := (n + 2)) hw6 ho6 (by omega) (by first | rfl | (simp (disch := omega) only [C_X4, va_up_self, va_up_ne, hb] <;> rfl))) (fun v h hp => ⟨hp.1, hp.2.2.1⟩) (fun hts => ⟨va_cnB 0 hts gX7_init_X4_init_n11 rfl rfl rfl (hE.2.2 (RX7, 11, yX4_init, RX8) (by decide +kernel)) (hts _ (by decide +kernel)) (by decide +kernel) ⟨by decide, by decide⟩, rfl, hts _ (by decide +kernel)⟩) (Nat.le_of_ble_eq_true rfl) dX7_init_20 ⟨Nat.le_of_ble_eq_true rfl, Nat.le_of_ble_eq_true rfl⟩ (fun h7 ad7 hp7 hag7 => ?_)
  obtain ⟨-, rfl, hw7, ho7⟩ := hp7
  refine tt_putfF X (fs := [.ref n, .null]) (by first | rfl | (simp (disch := omega) only [C_X4, va_up_self, va_up_ne, hb] <;> rfl)) rfl in_X7_init_X7 tyX7 tyX7_ok nmX7 1 (by decide) (by decide +kernel) rfl rfl hini rfl (fun _ => rfl) (fun _ => rfl) (Nat.le_of_ble_eq_true rfl) dX7_init_23 ?_
  have ho8 : tt_okh (n + 4) _ := al_ok_up (e := .inr (7, [.ref n, .ref (n + 2)])) ho7 (by exact (List.forall_mem_cons.mpr ⟨(show (n : Nat) < (n + 4) by omega), (List.forall_mem_cons.mpr ⟨(show ((n + 2) : Nat) < (n + 4) by omega), (fun _ hz => absurd hz List.not_mem_nil)⟩)⟩)) b
  have hw8 : tt_wf (n + 4) _ := al_wf_put hw7 (show (b : Nat) < n + 4 by omega) (.inr (7, [.ref n, .ref (n + 2)]))
  exact al_vret X rfl dX7_init_26 hw8 (by omega) (by intro i hi; rw [hag7 i (by omega), va_up_ne _ _ (by omega), hag3 i (by omega), va_up_ne _ _ (by omega)]) ⟨rfl, rfl, hw8, ho8⟩
theorem in_X1_init_X1 : ∀ w ∈ u_ws RX1 TX1 2, w ∈ wsX1_init := by decide +kernel
theorem in_X1_init_X4 : ∀ w ∈ u_ws RX4 TX4 1, w ∈ wsX1_init := by decide +kernel
def C_X1 (b n : Nat) (h : tt_H) : tt_H := va_up (va_up (va_up (va_up (va_up (va_up (va_up (va_up h n (some (.inr (4, [.null])))) (n + 1) (some (tt_ja 169 (fun _ => 0)))) n (some (.inr (4, [.ref (n + 1)])))) b (some (.inr (1, [.ref n, .null])))) (n + 2) (some (.inr (4, [.null])))) (n + 3) (some (tt_ja 169 (fun _ => 0)))) (n + 2) (some (.inr (4, [.ref (n + 3)])))) b (some (.inr (1, [.ref n, .ref (n + 2)])))
abbrev rm_X1_init : Room := { frames := 2, cells := 4, slots := 340, locals := 40 }
set_option maxHeartbeats 8000000 in
set_option maxRecDepth 100000 in
theorem c_X1_init (l : Launch) {b n : Nat} {h : tt_H} (hw : tt_wf n h) (ho : tt_okh n h) (hbn : b < n ∧ n < 998000) (hb : h b = some (.inr (1, [.null, .null]))) : al_N tt_cl l yX1_init wsX1_init rm_X1_init 4 340 [.ref b] h (fun v h2 => v = none ∧ h2 = C_X1 b n h ∧ tt_wf (n + 4) h2 ∧ tt_okh (n + 4) h2) := by
  obtain ⟨hbn, hn9⟩ := hbn
  refine al_N.of (cc := cX1_init) (maxL := 1) (ret := none) (by decide +kernel) rfl (Nat.le_of_ble_eq_true rfl) rfl ?_
  intro p e s m args below meth c D ca ad n0 sz hwf hE X hini
  have hnn := al_n_eq hwf hw
  subst hnn
  refine tt_aload_n X dX1_init_0 rfl ?_
  refine al_objInit X (by decide +kernel) (by decide +kernel) (by decide +kernel) dX1_init_1 (by decide) (Nat.le_of_ble_eq_true rfl) ?_
  refine tt_aload_n X dX1_init_4 rfl ?_
  refine al_new (n := n) X hw ho (by omega) (by exact (List.forall_mem_cons.mpr ⟨(Or.inl (show (b : Nat) < n by omega)), (fun _ hz => absurd hz List.not_mem_nil)⟩)) (by exact (List.forall_mem_cons.mpr ⟨(Or.inl (show (b : Nat) < n by omega)), (fun _ hz => absurd hz List.not_mem_nil)⟩)) (ci := 4) rfl in_X1_init_X4 tyX4 tyX4_ok (by decide +kernel) (by decide +kernel) (by decide +kernel) (fs := [.null]) (fun j hj => by match j, hj with | 0, _ => rfl | j + 1, hj => omega) (fun _ => rfl) (by exact (List.forall_mem_cons.mpr ⟨trivial, (fun _ hz => absurd hz List.not_mem_nil)⟩)) (Nat.le_of_ble_eq_true rfl) (Nat.le_of_ble_eq_true rfl) dX1_init_5 (fun q1 => ?_)
  have ho2 : tt_okh (n + 1) _ := al_ok_new (e := .inr (4, [.null])) ho (by exact (List.forall_mem_cons.mpr ⟨trivial, (fun _ hz => absurd hz List.not_mem_nil)⟩))
  have hw2 : tt_wf (n + 1) _ := tt_wf_new hw (.inr (4, [.null]))
  refine tt_dup X dX1_init_8 rfl ?_
  refine al_callN X hE hw2 (n2 := (n + 2)) (by omega) (by exact (List.forall_mem_cons.mpr ⟨(Or.inl (show (b : Nat) < (n + 1) by omega)), (fun _ hz => absurd hz List.not_mem_nil)⟩)) (by exact (List.forall_mem_cons.mpr ⟨(Or.inl (show (n : Nat) < (n + 1) by omega)), (List.forall_mem_cons.mpr ⟨(Or.inl (show (b : Nat) < (n + 1) by omega)), (fun _ hz => absurd hz List.not_mem_nil)⟩)⟩)) (c_X4_init l (b := n) hw2 ho2 (by omega) (by first | rfl | (simp (disch := omega) only [C_X4, va_up_self, va_up_ne, hb] <;> rfl))) (fun v h hp => ⟨hp.1, hp.2.2.1⟩) (fun hts => ⟨va_cnB 0 hts gX1_init_X4_init_n11 rfl rfl rfl (hE.2.2 (RX1, 11, yX4_init, RX8) (by decide +kernel)) (hts _ (by decide +kernel)) (by decide +kernel) ⟨by decide, by decide⟩, rfl, hts _ (by decide +kernel)⟩) (Nat.le_of_ble_eq_true rfl) dX1_init_9 ⟨Nat.le_of_ble_eq_true rfl, Nat.le_of_ble_eq_true rfl⟩ (fun h3 ad3 hp3 hag3 => ?_)
  obtain ⟨-, rfl, hw3, ho3⟩ := hp3
  refine tt_putf X (fs := [.null, .null]) (by first | rfl | (simp (disch := omega) only [C_X4, va_up_self, va_up_ne, hb] <;> rfl)) rfl in_X1_init_X1 tyX1 tyX1_ok nmX1 0 (by decide) (by decide +kernel) rfl rfl (fun _ => rfl) (fun _ => rfl) (Nat.le_of_ble_eq_true rfl) dX1_init_12 ?_
  have ho4 : tt_okh (n + 2) _ := al_ok_up (e := .inr (1, [.ref n, .null])) ho3 (by exact (List.forall_mem_cons.mpr ⟨(show (n : Nat) < (n + 2) by omega), (List.forall_mem_cons.mpr ⟨trivial, (fun _ hz => absurd hz List.not_mem_nil)⟩)⟩)) b
  have hw4 : tt_wf (n + 2) _ := al_wf_put hw3 (show (b : Nat) < n + 2 by omega) (.inr (1, [.ref n, .null]))
  refine tt_aload_n X dX1_init_15 rfl ?_
  refine al_new (n := (n + 2)) X hw4 ho4 (by omega) (by exact (List.forall_mem_cons.mpr ⟨(Or.inl (show (b : Nat) < (n + 2) by omega)), (fun _ hz => absurd hz List.not_mem_nil)⟩)) (by exact (List.forall_mem_cons.mpr ⟨(Or.inl (show (b : Nat) < (n + 2) by omega)), (fun _ hz => absurd hz List.not_mem_nil)⟩)) (ci := 4) rfl in_X1_init_X4 tyX4 tyX4_ok (by decide +kernel) (by decide +kernel) (by decide +kernel) (fs := [.null]) (fun j hj => by match j, hj with | 0, _ => rfl | j + 1, hj => omega) (fun _ => rfl) (by exact (List.forall_mem_cons.mpr ⟨trivial, (fun _ hz => absurd hz List.not_mem_nil)⟩)) (Nat.le_of_ble_eq_true rfl) (Nat.le_of_ble_eq_true rfl) dX1_init_16 (fun q5 => ?_)
  have ho6 : tt_okh (n + 3) _ := al_ok_new (e := .inr (4, [.null])) ho4 (by exact (List.forall_mem_cons.mpr ⟨trivial, (fun _ hz => absurd hz List.not_mem_nil)⟩))
  have hw6 : tt_wf (n + 3) _ := tt_wf_new hw4 (.inr (4, [.null]))
  refine tt_dup X dX1_init_19 rfl ?_
  refine al_callN X hE hw6 (n2 := (n + 4)) (by omega) (by exact (List.forall_mem_cons.mpr ⟨(Or.inl (show (b : Nat) < (n + 3) by omega)), (fun _ hz => absurd hz List.not_mem_nil)⟩)) (by exact (List.forall_mem_cons.mpr ⟨(Or.inl (show ((n + 2) : Nat) < (n + 3) by omega)), (List.forall_mem_cons.mpr ⟨(Or.inl (show (b : Nat) < (n + 3) by omega)), (fun _ hz => absurd hz List.not_mem_nil)⟩)⟩)) (c_X4_init l (b := (n + 2)) hw6 ho6 (by omega) (by first | rfl | (simp (disch := omega) only [C_X4, va_up_self, va_up_ne, hb] <;> rfl))) (fun v h hp => ⟨hp.1, hp.2.2.1⟩) (fun hts => ⟨va_cnB 0 hts gX1_init_X4_init_n11 rfl rfl rfl (hE.2.2 (RX1, 11, yX4_init, RX8) (by decide +kernel)) (hts _ (by decide +kernel)) (by decide +kernel) ⟨by decide, by decide⟩, rfl, hts _ (by decide +kernel)⟩) (Nat.le_of_ble_eq_true rfl) dX1_init_20 ⟨Nat.le_of_ble_eq_true rfl, Nat.le_of_ble_eq_true rfl⟩ (fun h7 ad7 hp7 hag7 => ?_)
  obtain ⟨-, rfl, hw7, ho7⟩ := hp7
  refine tt_putf X (fs := [.ref n, .null]) (by first | rfl | (simp (disch := omega) only [C_X4, va_up_self, va_up_ne, hb] <;> rfl)) rfl in_X1_init_X1 tyX1 tyX1_ok nmX1 1 (by decide) (by decide +kernel) rfl rfl (fun _ => rfl) (fun _ => rfl) (Nat.le_of_ble_eq_true rfl) dX1_init_23 ?_
  have ho8 : tt_okh (n + 4) _ := al_ok_up (e := .inr (1, [.ref n, .ref (n + 2)])) ho7 (by exact (List.forall_mem_cons.mpr ⟨(show (n : Nat) < (n + 4) by omega), (List.forall_mem_cons.mpr ⟨(show ((n + 2) : Nat) < (n + 4) by omega), (fun _ hz => absurd hz List.not_mem_nil)⟩)⟩)) b
  have hw8 : tt_wf (n + 4) _ := al_wf_put hw7 (show (b : Nat) < n + 4 by omega) (.inr (1, [.ref n, .ref (n + 2)]))
  exact al_vret X rfl dX1_init_26 hw8 (by omega) (by intro i hi; rw [hag7 i (by omega), va_up_ne _ _ (by omega), hag3 i (by omega), va_up_ne _ _ (by omega)]) ⟨rfl, rfl, hw8, ho8⟩
theorem in_X0_init_X0 : ∀ w ∈ u_ws RX0 TX0 2, w ∈ wsX0_init := by decide +kernel
theorem in_X0_init_X4 : ∀ w ∈ u_ws RX4 TX4 1, w ∈ wsX0_init := by decide +kernel
def C_X0 (b n : Nat) (h : tt_H) : tt_H := va_up (va_up (va_up (va_up (va_up (va_up (va_up (va_up h n (some (.inr (4, [.null])))) (n + 1) (some (tt_ja 169 (fun _ => 0)))) n (some (.inr (4, [.ref (n + 1)])))) b (some (.inr (0, [.ref n, .null])))) (n + 2) (some (.inr (4, [.null])))) (n + 3) (some (tt_ja 169 (fun _ => 0)))) (n + 2) (some (.inr (4, [.ref (n + 3)])))) b (some (.inr (0, [.ref n, .ref (n + 2)])))
abbrev rm_X0_init : Room := { frames := 2, cells := 4, slots := 340, locals := 40 }
set_option maxHeartbeats 8000000 in
set_option maxRecDepth 100000 in
theorem c_X0_init (l : Launch) {b n : Nat} {h : tt_H} (hw : tt_wf n h) (ho : tt_okh n h) (hbn : b < n ∧ n < 998000) (hb : h b = some (.inr (0, [.null, .null]))) : al_N tt_cl l yX0_init wsX0_init rm_X0_init 4 340 [.ref b] h (fun v h2 => v = none ∧ h2 = C_X0 b n h ∧ tt_wf (n + 4) h2 ∧ tt_okh (n + 4) h2) := by
  obtain ⟨hbn, hn9⟩ := hbn
  refine al_N.of (cc := cX0_init) (maxL := 1) (ret := none) (by decide +kernel) rfl (Nat.le_of_ble_eq_true rfl) rfl ?_
  intro p e s m args below meth c D ca ad n0 sz hwf hE X hini
  have hnn := al_n_eq hwf hw
  subst hnn
  refine tt_aload_n X dX0_init_0 rfl ?_
  refine al_objInit X (by decide +kernel) (by decide +kernel) (by decide +kernel) dX0_init_1 (by decide) (Nat.le_of_ble_eq_true rfl) ?_
  refine tt_aload_n X dX0_init_4 rfl ?_
  refine al_new (n := n) X hw ho (by omega) (by exact (List.forall_mem_cons.mpr ⟨(Or.inl (show (b : Nat) < n by omega)), (fun _ hz => absurd hz List.not_mem_nil)⟩)) (by exact (List.forall_mem_cons.mpr ⟨(Or.inl (show (b : Nat) < n by omega)), (fun _ hz => absurd hz List.not_mem_nil)⟩)) (ci := 4) rfl in_X0_init_X4 tyX4 tyX4_ok (by decide +kernel) (by decide +kernel) (by decide +kernel) (fs := [.null]) (fun j hj => by match j, hj with | 0, _ => rfl | j + 1, hj => omega) (fun _ => rfl) (by exact (List.forall_mem_cons.mpr ⟨trivial, (fun _ hz => absurd hz List.not_mem_nil)⟩)) (Nat.le_of_ble_eq_true rfl) (Nat.le_of_ble_eq_true rfl) dX0_init_5 (fun q1 => ?_)
  have ho2 : tt_okh (n + 1) _ := al_ok_new (e := .inr (4, [.null])) ho (by exact (List.forall_mem_cons.mpr ⟨trivial, (fun _ hz => absurd hz List.not_mem_nil)⟩))
  have hw2 : tt_wf (n + 1) _ := tt_wf_new hw (.inr (4, [.null]))
  refine tt_dup X dX0_init_8 rfl ?_
  refine al_callN X hE hw2 (n2 := (n + 2)) (by omega) (by exact (List.forall_mem_cons.mpr ⟨(Or.inl (show (b : Nat) < (n + 1) by omega)), (fun _ hz => absurd hz List.not_mem_nil)⟩)) (by exact (List.forall_mem_cons.mpr ⟨(Or.inl (show (n : Nat) < (n + 1) by omega)), (List.forall_mem_cons.mpr ⟨(Or.inl (show (b : Nat) < (n + 1) by omega)), (fun _ hz => absurd hz List.not_mem_nil)⟩)⟩)) (c_X4_init l (b := n) hw2 ho2 (by omega) (by first | rfl | (simp (disch := omega) only [C_X4, va_up_self, va_up_ne, hb] <;> rfl))) (fun v h hp => ⟨hp.1, hp.2.2.1⟩) (fun hts => ⟨va_cnB 0 hts gX0_init_X4_init_n9 rfl rfl rfl (hE.2.2 (RX0, 9, yX4_init, RX8) (by decide +kernel)) (hts _ (by decide +kernel)) (by decide +kernel) ⟨by decide, by decide⟩, rfl, hts _ (by decide +kernel)⟩) (Nat.le_of_ble_eq_true rfl) dX0_init_9 ⟨Nat.le_of_ble_eq_true rfl, Nat.le_of_ble_eq_true rfl⟩ (fun h3 ad3 hp3 hag3 => ?_)
  obtain ⟨-, rfl, hw3, ho3⟩ := hp3
  refine tt_putf X (fs := [.null, .null]) (by first | rfl | (simp (disch := omega) only [C_X4, va_up_self, va_up_ne, hb] <;> rfl)) rfl in_X0_init_X0 tyX0 tyX0_ok nmX0 0 (by decide) (by decide +kernel) rfl rfl (fun _ => rfl) (fun _ => rfl) (Nat.le_of_ble_eq_true rfl) dX0_init_12 ?_
  have ho4 : tt_okh (n + 2) _ := al_ok_up (e := .inr (0, [.ref n, .null])) ho3 (by exact (List.forall_mem_cons.mpr ⟨(show (n : Nat) < (n + 2) by omega), (List.forall_mem_cons.mpr ⟨trivial, (fun _ hz => absurd hz List.not_mem_nil)⟩)⟩)) b
  have hw4 : tt_wf (n + 2) _ := al_wf_put hw3 (show (b : Nat) < n + 2 by omega) (.inr (0, [.ref n, .null]))
  refine tt_aload_n X dX0_init_15 rfl ?_
  refine al_new (n := (n + 2)) X hw4 ho4 (by omega) (by exact (List.forall_mem_cons.mpr ⟨(Or.inl (show (b : Nat) < (n + 2) by omega)), (fun _ hz => absurd hz List.not_mem_nil)⟩)) (by exact (List.forall_mem_cons.mpr ⟨(Or.inl (show (b : Nat) < (n + 2) by omega)), (fun _ hz => absurd hz List.not_mem_nil)⟩)) (ci := 4) rfl in_X0_init_X4 tyX4 tyX4_ok (by decide +kernel) (by decide +kernel) (by decide +kernel) (fs := [.null]) (fun j hj => by match j, hj with | 0, _ => rfl | j + 1, hj => omega) (fun _ => rfl) (by exact (List.forall_mem_cons.mpr ⟨trivial, (fun _ hz => absurd hz List.not_mem_nil)⟩)) (Nat.le_of_ble_eq_true rfl) (Nat.le_of_ble_eq_true rfl) dX0_init_16 (fun q5 => ?_)
  have ho6 : tt_okh (n + 3) _ := al_ok_new (e := .inr (4, [.null])) ho4 (by exact (List.forall_mem_cons.mpr ⟨trivial, (fun _ hz => absurd hz List.not_mem_nil)⟩))
  have hw6 : tt_wf (n + 3) _ := tt_wf_new hw4 (.inr (4, [.null]))
  refine tt_dup X dX0_init_19 rfl ?_
  refine al_callN X hE hw6 (n2 := (n + 4)) (by omega) (by exact (List.forall_mem_cons.mpr ⟨(Or.inl (show (b : Nat) < (n + 3) by omega)), (fun _ hz => absurd hz List.not_mem_nil)⟩)) (by exact (List.forall_mem_cons.mpr ⟨(Or.inl (show ((n + 2) : Nat) < (n + 3) by omega)), (List.forall_mem_cons.mpr ⟨(Or.inl (show (b : Nat) < (n + 3) by omega)), (fun _ hz => absurd hz List.not_mem_nil)⟩)⟩)) (c_X4_init l (b := (n + 2)) hw6 ho6 (by omega) (by first | rfl | (simp (disch := omega) only [C_X4, va_up_self, va_up_ne, hb] <;> rfl))) (fun v h hp => ⟨hp.1, hp.2.2.1⟩) (fun hts => ⟨va_cnB 0 hts gX0_init_X4_init_n9 rfl rfl rfl (hE.2.2 (RX0, 9, yX4_init, RX8) (by decide +kernel)) (hts _ (by decide +kernel)) (by decide +kernel) ⟨by decide, by decide⟩, rfl, hts _ (by decide +kernel)⟩) (Nat.le_of_ble_eq_true rfl) dX0_init_20 ⟨Nat.le_of_ble_eq_true rfl, Nat.le_of_ble_eq_true rfl⟩ (fun h7 ad7 hp7 hag7 => ?_)
  obtain ⟨-, rfl, hw7, ho7⟩ := hp7
  refine tt_putf X (fs := [.ref n, .null]) (by first | rfl | (simp (disch := omega) only [C_X4, va_up_self, va_up_ne, hb] <;> rfl)) rfl in_X0_init_X0 tyX0 tyX0_ok nmX0 1 (by decide) (by decide +kernel) rfl rfl (fun _ => rfl) (fun _ => rfl) (Nat.le_of_ble_eq_true rfl) dX0_init_23 ?_
  have ho8 : tt_okh (n + 4) _ := al_ok_up (e := .inr (0, [.ref n, .ref (n + 2)])) ho7 (by exact (List.forall_mem_cons.mpr ⟨(show (n : Nat) < (n + 4) by omega), (List.forall_mem_cons.mpr ⟨(show ((n + 2) : Nat) < (n + 4) by omega), (fun _ hz => absurd hz List.not_mem_nil)⟩)⟩)) b
  have hw8 : tt_wf (n + 4) _ := al_wf_put hw7 (show (b : Nat) < n + 4 by omega) (.inr (0, [.ref n, .ref (n + 2)]))
  exact al_vret X rfl dX0_init_26 hw8 (by omega) (by intro i hi; rw [hag7 i (by omega), va_up_ne _ _ (by omega), hag3 i (by omega), va_up_ne _ _ (by omega)]) ⟨rfl, rfl, hw8, ho8⟩
