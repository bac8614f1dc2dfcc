/-! THE BEGINNING, and the whole law -/
def C_0 : tt_H := va_up (fun _ => none) 0 (some (.inr (8, [.null, .null, .null, .null, .null, .null, .null, .null, .null, .null, .int 0, .int 0, .int 0])))
abbrev P_0 : pp_P := (fun _ => 0, 0, fun _ => 0, fun _ _ => 0, fun _ => 9, fun _ => 0, fun _ _ => 0, 0, 0)
theorem P_0V : pp_V P_0 := ⟨fun w hw => (show (0 : Nat) < 3 by decide), (show (0 : Nat) ≤ 6 by decide), fun d hd => absurd hd (Nat.not_lt_zero d), fun k hk h9 => absurd rfl h9⟩
set_option maxRecDepth 100000 in
set_option maxHeartbeats 4000000 in
theorem lw_inv0 : cc_A P_0 (C_X8 C_0) := by
  refine ⟨⟨rfl, ⟨_, rfl, fun w hw => rfl⟩, ⟨_, rfl, fun d hd => ?_, fun d hd => ?_⟩, ⟨_, rfl, fun k hk => ?_, fun k hk => ?_⟩, fun d hd => ?_, ⟨_, rfl, rfl⟩, fun k hk => ?_, rfl, rfl, rfl, rfl, rfl, rfl, rfl, rfl, rfl⟩, ?_, ?_, ⟨_, rfl⟩, ⟨_, _, rfl, Or.inl ⟨rfl, rfl⟩⟩, ⟨_, _, rfl, Or.inl ⟨rfl, rfl⟩⟩⟩
  · match d, hd with
    | 0, _ => rfl
    | 1, _ => rfl
    | 2, _ => rfl
    | 3, _ => rfl
    | 4, _ => rfl
    | 5, _ => rfl
    | d + 6, hd => omega
  · obtain ⟨j, rfl⟩ : ∃ j, d = j + 6 := ⟨d - 6, by omega⟩
    simp (disch := omega) only [va_up_ne]
  · match k, hk with
    | 0, _ => rfl
    | 1, _ => rfl
    | 2, _ => rfl
    | 3, _ => rfl
    | k + 4, hk => omega
  · obtain ⟨j, rfl⟩ : ∃ j, k = j + 4 := ⟨k - 4, by omega⟩
    simp (disch := omega) only [va_up_ne]
  · match d, hd with
    | 0, _ => exact ⟨_, _, rfl, rfl, fun z => absurd z (Nat.not_lt_zero _)⟩
    | 1, _ => exact ⟨_, _, rfl, rfl, fun z => absurd z (Nat.not_lt_zero _)⟩
    | 2, _ => exact ⟨_, _, rfl, rfl, fun z => absurd z (Nat.not_lt_zero _)⟩
    | 3, _ => exact ⟨_, _, rfl, rfl, fun z => absurd z (Nat.not_lt_zero _)⟩
    | 4, _ => exact ⟨_, _, rfl, rfl, fun z => absurd z (Nat.not_lt_zero _)⟩
    | 5, _ => exact ⟨_, _, rfl, rfl, fun z => absurd z (Nat.not_lt_zero _)⟩
    | d + 6, hd => omega
  · match k, hk with
    | 0, _ => exact ⟨_, _, rfl, rfl, fun z => absurd rfl z⟩
    | 1, _ => exact ⟨_, _, rfl, rfl, fun z => absurd rfl z⟩
    | 2, _ => exact ⟨_, _, rfl, rfl, fun z => absurd rfl z⟩
    | 3, _ => exact ⟨_, _, rfl, rfl, fun z => absurd rfl z⟩
    | k + 4, hk => omega
  · simp only [cc_sI]
    exact List.forall_mem_cons.mpr ⟨⟨_, rfl⟩, List.forall_mem_cons.mpr ⟨⟨_, rfl⟩, List.forall_mem_cons.mpr ⟨⟨_, rfl⟩, List.forall_mem_cons.mpr ⟨⟨_, rfl⟩, fun _ hz => absurd hz List.not_mem_nil⟩⟩⟩⟩
  · simp only [cc_sJ]
    exact List.forall_mem_cons.mpr ⟨⟨_, rfl⟩, List.forall_mem_cons.mpr ⟨⟨_, rfl⟩, List.forall_mem_cons.mpr ⟨⟨_, rfl⟩, List.forall_mem_cons.mpr ⟨⟨_, rfl⟩, List.forall_mem_cons.mpr ⟨⟨_, rfl⟩, List.forall_mem_cons.mpr ⟨⟨_, rfl⟩, List.forall_mem_cons.mpr ⟨⟨_, rfl⟩, fun _ hz => absurd hz List.not_mem_nil⟩⟩⟩⟩⟩⟩⟩
/-- the law's program answers 1 -/
theorem law_ok {Ls : Nat} (hL : Ls ≤ 260) (xs : Nat → Int32) {h : tt_H} (ha : cc_A P_0 h) {C : Nat → Int64} {G : Nat → Int32} (h49 : h 49 = some (tt_ja 6 C)) (h50 : h 50 = some (tt_ia 7 G)) (h51 : h 51 = some (tt_ia 8 (fun _ => 0))) (hn : ∀ i, 52 ≤ i → h i = none) : ok (s_L_law Ls xs 52 h) (fun r => r.1 = 1) := by
  obtain ⟨r, e1, N, a, sz, wd, so, sl, sc, ft, C', G', S, er, n0, n6, B, D, R, T⟩ := H_put (xs := xs) hL P_0V ha h49 h50
  obtain ⟨hW, r0, r1⟩ := R
  obtain ⟨s1, s2, s3⟩ := r1 n0
  have hl : 0 < pr_L S := by
    unfold pr_L
    rw [s1, (s3 (N - 1) (by omega)).1]
    exact (D (N - 1) (by omega)).2.2.1
  have hok := T (fun p => sc 0 (0 + p)) (fun j _ => by rw [Nat.zero_add]) 0 S ⟨hl, rfl⟩
  rw [Nat.add_zero] at hok
  have ha1 : 1 ≤ a := by
    cases a with
    | zero => exact absurd hok.1 (by rw [pr_Ln]; exact Nat.lt_irrefl 0)
    | succ a => omega
  obtain ⟨b1, b2, b3, b4, b5, b6, b7, b8⟩ := B
  obtain ⟨V2, h2, f1, f2, f3⟩ := K_cries b1 b2 b3 b4 (n := a) (by omega) hok
  have B2 : lm_B (fun _ => 0) S.1 S.2.1 S.2.2 so sl sc 0 0 C' G' (fun _ => 0) 52 h2 := by
    refine ⟨V2, f2, by omega, by rw [f3 49 (by decide)]; exact b5, by rw [f3 50 (by decide)]; exact b6, by rw [f3 51 (by decide), b8 51 (by decide)]; exact h51, by rw [s1]; exact b7, fun d hd => ?_, fun w hw => rfl, ⟨by decide, fun i i1 i2 => ?_, fun i hi => by rw [f3 i (by omega), b8 i (by omega)]; exact hn i hi⟩, Nat.le_refl _⟩
    · obtain ⟨d1, d2, d3, d4, d5⟩ := D d (by omega)
      obtain ⟨t1, t2⟩ := s3 d (by omega)
      exact ⟨by rw [t1]; exact d1, by rw [t1, d2, cN_cong (sz d) (fun k hk => t2 k hk)]⟩
    · rcases (show i = 49 ∨ i = 50 ∨ i = 51 by omega) with rfl | rfl | rfl
      · exact ⟨_, by rw [f3 49 (by decide)]; exact b5, oe_ja⟩
      · exact ⟨_, by rw [f3 50 (by decide)]; exact b6, oe_ia⟩
      · exact ⟨_, by rw [f3 51 (by decide), b8 51 (by decide)]; exact h51, oe_ia⟩
  have d6 := B2.d6
  have d0 := B2.2.2.1
  unfold s_L_law
  rw [e1, pp_bind, er, if_neg (show ¬ nI a < (1 : Int32) from nI_nlt (a := a) (b := 1) ha1 (by omega)), ca_b b2.1, f1, pp_bind]
  simp only []
  rw [B2.n, pp_bind, if_pos rfl, B2.b, K_many B2.2.1, pp_bind]
  simp only []
  rw [B2.n, pp_bind, if_pos rfl, show (1 : Int32) = nI 1 from rfl, lo_76 B2 (S.1 - 1) 1 10000 (by omega) (by omega) (by omega)]
  exact lo_130 hL B2
set_option maxHeartbeats 8000000 in
set_option maxRecDepth 100000 in
/-- THE LAW, from its entry -/
theorem whole_start {p : Program} {e : Env} {s : State} {m : MethodId} {below : List Frame} {meth : Method} {c : Code} (l : Launch) (hflags : l.flags = flags0) {b L : Nat} {xs : Nat → Int32} (hL : L ≤ 260) (C0 : lw_At p s m meth c b L xs) : W p l e room_1 s m #[Value.ref b] below meth c s.heap [] 0 0 (lw_Z below #[Value.ref b] s) (entryFrame m ([Value.ref b] : List Value).toArray 18) := by
  obtain ⟨hx, hb, hr, hml, hown, hts, hX, hbl, hlocks, hgv⟩ := id C0
  obtain ⟨D, ca, hK⟩ := lw_known hts
  have hE := lw_E hts
  have X : tt_X tt_cl (lw_K p l e s m below meth c b D ca) code RL ret wsL_law := ⟨hx, hb, hml, hown, fun w hw => hts w (wsL_law_in w hw), hr, hlocks, hK, fun q hq => hq⟩
  have hl := lv_entry ([.ref b]) (n := 18) (Nat.le_of_ble_eq_true rfl)
  rw [lg_entry_eq]
  have hw0 : tt_wf 0 (fun _ => none) := fun i => ⟨fun z => absurd z (Nat.not_lt_zero i), fun z => by cases z⟩
  have ho0 : tt_okh 0 (fun _ => none) := fun i e z => by cases z
  have main : tt_T tt_cl (lw_K p l e s m below meth c b D ca) (fun _ => b) 0 0 0 [(0, .ref 1000000)] [] (fun _ => none) := by
    refine al_new (n := 0) X hw0 ho0 (by decide) (by exact (List.forall_mem_cons.mpr ⟨(Or.inr (show 1000000 ≤ 1000000 by decide)), (fun _ hz => absurd hz List.not_mem_nil)⟩)) (by exact (fun _ hz => absurd hz List.not_mem_nil)) (ci := 8) (C := RX8) (F := TX8) (N := 13) rfl (by decide +kernel) tyX8 tyX8_ok (by decide +kernel) (by decide +kernel) (by decide +kernel) (fs := [.null, .null, .null, .null, .null, .null, .null, .null, .null, .null, .int 0, .int 0, .int 0]) (fun j hj => by match j, hj with | 0, _ => rfl | 1, _ => rfl | 2, _ => rfl | 3, _ => rfl | 4, _ => rfl | 5, _ => rfl | 6, _ => rfl | 7, _ => rfl | 8, _ => rfl | 9, _ => rfl | 10, _ => rfl | 11, _ => rfl | 12, _ => rfl | j + 13, hj => omega) (fun _ => rfl) (by exact (List.forall_mem_cons.mpr ⟨trivial, (List.forall_mem_cons.mpr ⟨trivial, (List.forall_mem_cons.mpr ⟨trivial, (List.forall_mem_cons.mpr ⟨trivial, (List.forall_mem_cons.mpr ⟨trivial, (List.forall_mem_cons.mpr ⟨trivial, (List.forall_mem_cons.mpr ⟨trivial, (List.forall_mem_cons.mpr ⟨trivial, (List.forall_mem_cons.mpr ⟨trivial, (List.forall_mem_cons.mpr ⟨trivial, (List.forall_mem_cons.mpr ⟨trivial, (List.forall_mem_cons.mpr ⟨trivial, (List.forall_mem_cons.mpr ⟨trivial, (fun _ hz => absurd hz List.not_mem_nil)⟩)⟩)⟩)⟩)⟩)⟩)⟩)⟩)⟩)⟩)⟩)⟩)⟩)) (Nat.le_of_ble_eq_true rfl) (Nat.le_of_ble_eq_true rfl) dL_law_0 (fun q1 => ?_)
    have hw1 : tt_wf 1 C_0 := tt_wf_new hw0 _
    have ho1 : tt_okh 1 C_0 := al_ok_new (e := .inr (8, [.null, .null, .null, .null, .null, .null, .null, .null, .null, .null, .int 0, .int 0, .int 0])) ho0 (by exact (List.forall_mem_cons.mpr ⟨trivial, (List.forall_mem_cons.mpr ⟨trivial, (List.forall_mem_cons.mpr ⟨trivial, (List.forall_mem_cons.mpr ⟨trivial, (List.forall_mem_cons.mpr ⟨trivial, (List.forall_mem_cons.mpr ⟨trivial, (List.forall_mem_cons.mpr ⟨trivial, (List.forall_mem_cons.mpr ⟨trivial, (List.forall_mem_cons.mpr ⟨trivial, (List.forall_mem_cons.mpr ⟨trivial, (List.forall_mem_cons.mpr ⟨trivial, (List.forall_mem_cons.mpr ⟨trivial, (List.forall_mem_cons.mpr ⟨trivial, (fun _ hz => absurd hz List.not_mem_nil)⟩)⟩)⟩)⟩)⟩)⟩)⟩)⟩)⟩)⟩)⟩)⟩)⟩))
    refine tt_dup X dL_law_3 rfl ?_
    refine al_call (h := C_0) X hE hw1 (b := 0) (n2 := 49) (by decide) (by exact (List.forall_mem_cons.mpr ⟨(Or.inr (show 1000000 ≤ 1000000 by decide)), (fun _ hz => absurd hz List.not_mem_nil)⟩)) (by exact (List.forall_mem_cons.mpr ⟨(Or.inl (show (0 : Nat) < 1 by decide)), (fun _ hz => absurd hz List.not_mem_nil)⟩)) (c_X8_init l hw1 ho1 ⟨rfl, trivial⟩ rfl) (fun v h hp => ⟨hp.1, hp.2.2.1⟩) (fun hts => cwI 0 hts gL_law_X8_init rfl rfl rfl (hts _ (by decide +kernel)) (hts _ (by decide +kernel)) (hts _ (by decide +kernel)) rfl (by decide +kernel) ⟨Nat.le_of_ble_eq_true rfl, Nat.le_of_ble_eq_true rfl⟩) (Nat.le_of_ble_eq_true rfl) dL_law_4 ⟨Nat.le_of_ble_eq_true rfl, Nat.le_of_ble_eq_true rfl⟩ (fun h2 ad2 hp2 hag2 => ?_)
    obtain ⟨-, rfl, hw2, ho2⟩ := hp2
    refine tt_astore_n X dL_law_7 (Nat.le_of_ble_eq_true rfl) ?_
    refine tt_setL (L2 := [(0, .ref 1000000), (1, .ref 0)]) rfl ?_
    refine tt_bipush (v := 6) X dL_law_8 (by decide) ?_
    refine al_newa (n := 49) (ty := .long) X hw2 ho2 (by decide) (by exact (List.forall_mem_cons.mpr ⟨(Or.inr (show 1000000 ≤ 1000000 by decide)), (List.forall_mem_cons.mpr ⟨(Or.inl (show (0 : Nat) < 49 by decide)), (fun _ hz => absurd hz List.not_mem_nil)⟩)⟩)) (by exact (fun _ hz => absurd hz List.not_mem_nil)) 1 rfl (fun _ _ z => z) (by decide +kernel) rfl (N := 6) (a0 := (6, .inr (.inl (fun _ => 0)))) (fun _ => rfl) trivial (fun _ => rfl) (by decide) (by decide) (Nat.le_of_ble_eq_true rfl) (Nat.le_of_ble_eq_true rfl) (Nat.le_of_ble_eq_true rfl) dL_law_10 (fun q49 => ?_)
    have hw49 : tt_wf 50 _ := tt_wf_new hw2 (tt_ja 6 (fun _ => 0))
    have ho49 : tt_okh 50 _ := al_ok_new (e := tt_ja 6 (fun _ => 0)) ho2 trivial
    refine tt_astore_n X dL_law_12 (Nat.le_of_ble_eq_true rfl) ?_
    refine tt_setL (L2 := [(0, .ref 1000000), (1, .ref 0), (2, .ref 49)]) rfl ?_
    refine tt_bipush (v := 7) X dL_law_13 (by decide) ?_
    refine al_newa (n := 50) (ty := .int) X hw49 ho49 (by decide) (by exact (List.forall_mem_cons.mpr ⟨(Or.inr (show 1000000 ≤ 1000000 by decide)), (List.forall_mem_cons.mpr ⟨(Or.inl (show (0 : Nat) < 50 by decide)), (List.forall_mem_cons.mpr ⟨(Or.inl (show (49 : Nat) < 50 by decide)), (fun _ hz => absurd hz List.not_mem_nil)⟩)⟩)⟩)) (by exact (fun _ hz => absurd hz List.not_mem_nil)) 0 rfl (fun _ _ z => z) (by decide +kernel) rfl (N := 7) (a0 := (7, .inl (fun _ => 0))) (fun _ => rfl) trivial (fun _ => rfl) (by decide) (by decide) (Nat.le_of_ble_eq_true rfl) (Nat.le_of_ble_eq_true rfl) (Nat.le_of_ble_eq_true rfl) dL_law_15 (fun q50 => ?_)
    have hw50 : tt_wf 51 _ := tt_wf_new hw49 (tt_ia 7 (fun _ => 0))
    have ho50 : tt_okh 51 _ := al_ok_new (e := tt_ia 7 (fun _ => 0)) ho49 trivial
    refine tt_astore_n X dL_law_17 (Nat.le_of_ble_eq_true rfl) ?_
    refine tt_setL (L2 := [(0, .ref 1000000), (1, .ref 0), (2, .ref 49), (3, .ref 50)]) rfl ?_
    refine tt_bipush (v := 8) X dL_law_18 (by decide) ?_
    refine al_newa (n := 51) (ty := .int) X hw50 ho50 (by decide) (by exact (List.forall_mem_cons.mpr ⟨(Or.inr (show 1000000 ≤ 1000000 by decide)), (List.forall_mem_cons.mpr ⟨(Or.inl (show (0 : Nat) < 51 by decide)), (List.forall_mem_cons.mpr ⟨(Or.inl (show (49 : Nat) < 51 by decide)), (List.forall_mem_cons.mpr ⟨(Or.inl (show (50 : Nat) < 51 by decide)), (fun _ hz => absurd hz List.not_mem_nil)⟩)⟩)⟩)⟩)) (by exact (fun _ hz => absurd hz List.not_mem_nil)) 0 rfl (fun _ _ z => z) (by decide +kernel) rfl (N := 8) (a0 := (8, .inl (fun _ => 0))) (fun _ => rfl) trivial (fun _ => rfl) (by decide) (by decide) (Nat.le_of_ble_eq_true rfl) (Nat.le_of_ble_eq_true rfl) (Nat.le_of_ble_eq_true rfl) dL_law_20 (fun q51 => ?_)
    have hw51 : tt_wf 52 _ := tt_wf_new hw50 (tt_ia 8 (fun _ => 0))
    have ho51 : tt_okh 52 _ := al_ok_new (e := tt_ia 8 (fun _ => 0)) ho50 trivial
    refine tt_astore X dL_law_22 (Nat.le_of_ble_eq_true rfl) ?_
    refine tt_setL (L2 := [(0, .ref 1000000), (1, .ref 0), (2, .ref 49), (3, .ref 50), (4, .ref 51)]) rfl ?_
    refine tt_widen (k := 52) (n := 5000 + 24 * 52) (Nat.le_of_ble_eq_true rfl) (Nat.le_of_ble_eq_true rfl) ?_
    have hnone : ∀ i, 49 ≤ i → C_X8 C_0 i = none := fun i hi => by
      cases hc : C_X8 C_0 i with
      | none => rfl
      | some x => exact absurd ((hw2 i).mpr (by rw [hc]; rfl)) (by omega)
    have ha : cc_A P_0 (va_up (va_up (va_up (C_X8 C_0) 49 (some (tt_ja 6 (fun _ => 0)))) 50 (some (tt_ia 7 (fun _ => 0)))) 51 (some (tt_ia 8 (fun _ => 0)))) := lw_inv0.congr (fun i hi => by rw [va_up_ne _ _ (by omega), va_up_ne _ _ (by omega), va_up_ne _ _ (by omega)])
    obtain ⟨ρ, hs, hρ⟩ := law_ok hL xs ha (by rw [va_up_ne _ _ (by decide), va_up_ne _ _ (by decide), va_up_self]) (by rw [va_up_ne _ _ (by decide), va_up_self]) (va_up_self _ _ _) (fun i hi => by rw [va_up_ne _ _ (by omega), va_up_ne _ _ (by omega), va_up_ne _ _ (by omega)]; exact hnone i (by omega))
    refine c_L_law X hX hbl hρ (by decide) ?_ hs
    rw [va_up_ne _ _ (by decide), va_up_ne _ _ (by decide), va_up_ne _ _ (by decide), hag2 1000000 (Or.inr (by decide)), va_up_ne _ _ (by decide)]
  exact main 0 s.heap [] _ ⟨hw0, fun k q h => by simp [tt_w] at h, ⟨fun i j p q h => by simp [tt_w] at h, fun k q h => by simp [tt_w] at h⟩, va_S.rf, trivial⟩ hl
set_option maxHeartbeats 4000000 in
theorem lw_walk (l : Launch) (hflags : l.flags = flags0) (b : Addr) (xs : List Int32) : MetFree l x (headSpec (Jvm.Cond.code x code maxLocals ret :: tables_1) room_1) (lw_P b xs) (fun _ _ _ _ _ => True) lw_Q := by
  refine MetFree.of_bodyS (code := code) (maxLocals := maxLocals) (ret := ret) (by decide) ?_ ?_
  · intro args s m h hn
    obtain ⟨meth, c, h1, h2, h3, h4, h5, h6, -, -⟩ := Cond.code_spec hn (atoms_spec (ws := Jvm.Cond.code x code maxLocals ret :: tables_1) h _ List.mem_cons_self)
    exact ⟨meth, c, h1, h2, h3, h4, h5, h6⟩
  · intro p e s m args below meth c s₁ B hml0 hP _
    obtain ⟨rfl, hx, hbd, hgv⟩ := hP
    obtain ⟨scr, harrAt, hlist, hof, hsmall⟩ := hx
    obtain ⟨hcb, hkn, -, -⟩ := State.arrayAt?_spec harrAt
    have hown : s.vm.findClass R_law = some m.cls := findClass_of_methodNamed B.named
    have hts0 : ∀ c ∈ (Jvm.Cond.code x code maxLocals ret :: tables_1), c.before #[Value.ref b] s = true := atoms_spec (ws := Jvm.Cond.code x code maxLocals ret :: tables_1) B.pre
    have hts : ∀ w ∈ lw_tbl, w.before #[Value.ref b] s = true := k2_hts_sels lw_privs (fun w hw => hts0 w (List.mem_cons_of_mem _ hw)) lw_privs_ok
    have hml : c.maxLocals = 18 := B.maxLocals_eq (hts0 _ List.mem_cons_self)
    have X₀ : Stand p l e room_1 s m #[Value.ref b] below meth c s₁ [] 0 0 := Stand.of_body B
    have hh0 : s₁.heap = s.heap := by rw [B.state]; rfl
    have hsz : scr.slots.size = xs.length := by rw [← Array.length_toList, hlist, List.length_map]
    have hval : ∀ j : Nat, j < xs.length → scr.slots[j]? = some (.int (xs.getD j 0)) := fun j hj => by
      rw [← Array.getElem?_toList, hlist]
      simp [hj]
    have hbl : b < s.heap.size := (Array.getElem?_eq_some_iff.mp hcb).1
    have hX : va_X b xs.length (fun j => xs.getD j 0) s s.heap := ⟨scr, hcb, hof, hkn, hsz, hval⟩
    have K : W p l e room_1 s m #[Value.ref b] below meth c s₁.heap [] 0 0 (lw_Z below #[Value.ref b] s) (entryFrame m ([Value.ref b] : List Value).toArray 18) := by
      rw [hh0]
      exact whole_start l hflags hbd ⟨B.exec, B.bytes, B.returns, hml, hown, hts, hX, hbl, B.notSynchronized, hgv⟩
    obtain ⟨t, a1, o, b1, b2, b3⟩ := K s₁ rfl X₀
    exact ⟨t, o, a1, b1, b2, b3⟩
theorem lw_pre_spec {args : Array Value} {s : State} (h : (Jvm.Cond.and given_1 narrow_1).before args s = true) (hr : rest_1_c.before args s = true) : ∃ (b : Addr) (xs : List Int32), lw_P b xs args s := by
  have hs := flat_of_before _ h
  have hq := flat_of_before _ hr
  have hc : (Cond.count 1).before args s = true := hs _ (by decide +kernel)
  have harr : (Cond.arrayOf (.arg 0) .int).before args s = true := hs _ (by decide +kernel)
  have hle : (Cond.le (.length (.arg 0)) (.int 260)).before args s = true := hs _ (by decide +kernel)
  have hlen : (Cond.isInt (.length (.arg 0))).before args s = true := hq _ (by decide +kernel)
  have hall : (Cond.all (.arg 0) (.isInt (.elem (.arg 0) (.index 0)))).before args s = true := hq _ (by decide +kernel)
  obtain ⟨b, xs, hb, hx⟩ := State.ints_of_pre rfl harr hlen hall
  have hsm : xs.length < 2 ^ 31 := hx.choose_spec.2.2.2
  have hev : (Term.length (.arg 0)).eval args s none [] s = some (.int xs.length.toInt32) := hx.length_eval hb
  have hv := Cond.le_ints hev (show (Term.int 260).eval args s none [] s = some (.int 260) from rfl)
  have hd : xs.length.toInt32 ≤ 260 := by
    simpa [Cond.before, Cond.holds, hv] using hle
  have hN : xs.length ≤ 260 := (Int32.ofNat_le_ofNat hsm (by decide)).mp (show Int32.ofNat xs.length ≤ Int32.ofNat 260 from hd)
  exact ⟨b, xs, Cond.one_arg hc (show args[0]? = some (.ref b) from hb), hx, hN, h⟩
theorem lw_comes (l : Launch) (hflags : l.flags = flags0) : Comes l x (Jvm.Cond.code x code maxLocals ret :: tables_1) room_1 (fun tb e args s => Calls_1 tb e args s ∧ rest_1 tb e args s ∧ Pre_1 tb e args s)
    (fun _ _ args s o t => lw_Q args s o t) := by
  intro p e ha hc hk s m args below hf hfit hheap happ hpre
  obtain ⟨b, xs, hP⟩ := lw_pre_spec hpre.2.2 hpre.2.1
  obtain ⟨k, o, h1, h2, h3, hQ⟩ := lw_walk l hflags b xs p e ha hc hk s m args below hf ((Spec.applies_iff_loose hf).mp happ).1 hP trivial
  exact ⟨k, o, h1, h2, h3, hQ⟩
theorem lw_frame {s t : State} {o : Outcome} {args : Array Value} (h : Framed s o t [] 600000 7302250) :
    Framed s o t (fieldLocs frame_1_writes args s ++ arrayLocs frame_1_arrays args s ++ staticLocs frame_1_statics s) 600000 7302250 := h
theorem lw_limb (L : Cond) (hL : ∀ (args : Array Value) (s t : State), L.after args s (.returned (some (.int 1))) t = true) :
    ArmFor flags0 classFile x code maxLocals ret World_1 tables_1 room_1 Calls_1 rest_1 Pre_1
      (fun tb e a s o t => postC L tb e a s o t ∧ Framed s o t (fieldLocs frame_1_writes a s ++ arrayLocs frame_1_arrays a s ++ staticLocs frame_1_statics s) 600000 7302250) := by
  intro l hflags _ _ p e ha hc hk s m args below hf hfit hheap happ hpre
  obtain ⟨k, o, h1, h2, h3, rfl, hF⟩ := lw_comes l hflags p e ha hc hk s m args below hf hfit hheap happ hpre
  exact ⟨k, _, h1, h2, h3, hL args s _, lw_frame hF⟩
theorem i_vc : Claimed_1_1 ∧ Claimed_1_2 := ⟨lw_limb limb_1_1 (fun args s t => by simp [limb_1_1, Cond.after, Cond.holds, Cond.value]), lw_limb limb_1_2 (fun args s t => Cond.after_iff.mpr (by
  first | (rw [show limb_1_2 = Cond.eq .result (.int 1) from rfl, Cond.eq_ints (x := 1) (y := 1) rfl rfl]; simp; done) | (simp [limb_1_2, Cond.value, Term.eval]; done)))⟩
