/-! WHAT MAKES CELLS: constructors. More places: 'ad' grows. -/
theorem al_n_eq {n n0 : Nat} {h : tt_H} (h1 : tt_wf n0 h) (h2 : tt_wf n h) : n = n0 := by
  rcases Nat.lt_trichotomy n n0 with q | q | q
  · exact absurd ((h2 n).mpr ((h1 n).mp q)) (Nat.lt_irrefl n)
  · exact q
  · exact absurd ((h1 n0).mpr ((h2 n0).mp q)) (Nat.lt_irrefl n0)
/-- a value that more places don't change (the script's own place is far away) -/
def al_oq (n : Nat) (v : Value) : Prop := match v with
  | .ref i => i < n ∨ 1000000 ≤ i
  | _ => True
theorem al_v_eq {ad ad' : Nat → Nat} {n n' : Nat} (ha : ∀ i, i < n ∨ n' ≤ i → ad' i = ad i) (hn : n' ≤ 1000000) {v : Value} (hv : al_oq n v) : tt_v ad' v = tt_v ad v := by
  cases v <;> first | rfl | skip
  rename_i i
  refine congrArg Value.ref (ha i ?_)
  rcases hv with q | q
  · exact Or.inl q
  · exact Or.inr (Nat.le_trans hn q)
theorem al_vs_eq {ad ad' : Nat → Nat} {n n' : Nat} (ha : ∀ i, i < n ∨ n' ≤ i → ad' i = ad i) (hn : n' ≤ 1000000) {vs : List Value} (hv : ∀ v ∈ vs, al_oq n v) : vs.map (tt_v ad') = vs.map (tt_v ad) :=
  List.map_congr_left (fun v h => al_v_eq ha hn (hv v h))
theorem al_m_eq {ad ad' : Nat → Nat} {n n' : Nat} (ha : ∀ i, i < n ∨ n' ≤ i → ad' i = ad i) (hn : n' ≤ 1000000) {L : List (Nat × Value)} (hv : ∀ q ∈ L, al_oq n q.2) : tt_m ad' L = tt_m ad L :=
  List.map_congr_left (fun q h => by rw [al_v_eq ha hn (hv q h)])
theorem al_okv_mono {n n' : Nat} (h : n ≤ n') {v : Value} (hv : tt_okv n v) : tt_okv n' v := by
  cases v <;> first | trivial | exact Nat.lt_of_lt_of_le hv h
theorem al_oke_mono {n n' : Nat} (h : n ≤ n') {e : tt_E} (he : tt_oke n e) : tt_oke n' e := by
  obtain ⟨t, k, f | f | f | f | f⟩ | ⟨ci, fs⟩ := e
  · trivial
  · trivial
  · trivial
  · trivial
  · exact fun j i hf => Nat.lt_of_lt_of_le (he j i hf) h
  · exact fun v hv => al_okv_mono h (he v hv)
theorem al_ok_up {n : Nat} {h : tt_H} (ho : tt_okh n h) {e : tt_E} (he : tt_oke n e) (i : Nat) : tt_okh n (va_up h i (some e)) := by
  intro j x hx
  by_cases hj : j = i
  · subst hj; rw [va_up_self] at hx; cases hx; exact he
  · rw [va_up_ne _ _ hj] at hx; exact ho j x hx
theorem al_ok_new {n : Nat} {h : tt_H} (ho : tt_okh n h) {e : tt_E} (he : tt_oke n e) : tt_okh (n + 1) (va_up h n (some e)) :=
  al_ok_up (fun j x hx => al_oke_mono (Nat.le_succ n) (ho j x hx)) (al_oke_mono (Nat.le_succ n) he) n
theorem al_wf_put {n : Nat} {h : tt_H} (hw : tt_wf n h) {i : Nat} (hi : i < n) (e : tt_E) : tt_wf n (va_up h i (some e)) := by
  obtain ⟨e0, h0⟩ := Option.isSome_iff_exists.mp ((hw i).mp hi)
  exact tt_wf_set hw h0
/-- what the tables say of arrays of references, and of private constructors among nest mates -/
def al_nests : List (String × Nat × MethodName × String) := [(RX8, 27, yX2_init, RX8), (RX8, 34, yX3_init, RX8), (RX8, 41, yX5_init, RX8), (RX8, 48, yX7_init, RX8), (RX8, 55, yX1_init, RX8), (RX8, 62, yX0_init, RX8), (RX8, 80, yX6_init, RX8), (RX7, 11, yX4_init, RX8), (RX1, 11, yX4_init, RX8), (RX0, 9, yX4_init, RX8)]
def al_E (U : State) : Prop := va_AO "AddedCries$Cry" U ∧ va_AO "AddedCries$Sheet" U ∧ ∀ q ∈ al_nests, va_Nw (.methodLinkNest q.1 q.2.1 q.2.2.1 q.2.2.2) U
theorem al_E.moved {u U : State} (hW : u.WarmedH U.vm) (h : al_E u) : al_E U := ⟨h.1.moved hW.alike, h.2.1.moved hW.alike, fun q hq => va_Nw.warmM hW (h.2.2 q hq)⟩
theorem al_E.same {u U : State} (hvm : u.vm = U.vm) (h : al_E u) : al_E U := ⟨h.1.moved (hvm ▸ Vm.Alike.refl u.vm), h.2.1.moved (hvm ▸ Vm.Alike.refl u.vm), fun q hq => (h.2.2 q hq).same rfl hvm⟩
/-- a constructor's contract -/
def al_N (cl : List vw_C) (l : Launch) (y : MethodName) (ws : List Cond) (rm : Room) (mc ms : Nat) (vs : List Value) (h : tt_H) (P : Option Value → tt_H → Prop) : Prop :=
  ∀ (D : va_G) (ca ad : Nat → Nat) (n sz : Nat), tt_wf n h → Met l y ws rm (va_Pc (vs.map (tt_v ad)) (fun U => tt_B cl D ca ad n sz h U ∧ al_E U)) (tt_Q cl D ca ad n sz true P) mc ms (tt_A ad n sz)
theorem al_N.of {cl : List vw_C} {l : Launch} {y : MethodName} {ws ws' : List Cond} {rm : Room} {mc ms : Nat} {vs : List Value} {h : tt_H} {P : Option Value → tt_H → Prop} {cc : ByteArray} {maxL : Nat} {ret : Option FieldType} (hy : plainName y.cls = true) (hw : ws = Cond.code y cc maxL ret :: ws') (hsl : (lg_sl vs).length ≤ maxL) (hin : y.name = "<init>")
    (body : ∀ (p : Program) (e : Env) (s : State) (m : MethodId) (args : Array Value) (below : List Frame) (meth : Method) (c : Code) (D : va_G) (ca ad : Nat → Nat) (n sz : Nat), tt_wf n h → al_E s → tt_X cl (p, l, e, rm, s, m, args, below, meth, c, MQ below (tt_Q cl D ca ad n sz true P) args s mc ms (tt_A ad n sz), D, ca, tt_A ad n sz, maxL, none) cc y.cls ret ws → meth.name = "<init>" →
      tt_T cl (p, l, e, rm, s, m, args, below, meth, c, MQ below (tt_Q cl D ca ad n sz true P) args s mc ms (tt_A ad n sz), D, ca, tt_A ad n sz, maxL, none) ad 0 0 0 (tt_args 0 vs) [] h) : al_N cl l y ws rm mc ms vs h P := by
  intro D ca ad n sz hwf
  refine Met.ofW (cc := cc) (maxL := maxL) (ret := ret) hy hw ?_
  intro p e s m args below meth c s₁ B hml hv
  obtain ⟨rfl, ⟨hsz, hP, hK, hD0⟩, hE⟩ := hv
  have hl0 := lv_entry (vs.map (tt_v ad)) (n := maxL) (by
    have : ∀ us : List Value, (lg_sl (us.map (tt_v ad))).length = (lg_sl us).length := by
      intro us
      induction us with
      | nil => rfl
      | cons u us ih => cases u <;> simp [lg_sl, tt_v, Value.category] at ih ⊢ <;> first | exact ih | omega
    rw [this]; exact hsl)
  rw [tt_args_m] at hl0
  rw [lg_entry_eq]
  have hX : tt_X cl (p, l, e, rm, s, m, ((vs.map (tt_v ad)).toArray), below, meth, c, MQ below (tt_Q cl D ca ad n sz true P) (vs.map (tt_v ad)).toArray s mc ms (tt_A ad n sz), D, ca, tt_A ad n sz, maxL, none) cc y.cls ret ws :=
    ⟨B.exec, B.bytes, hml, findClass_of_methodNamed B.named, atoms_spec (ws := ws) B.pre, B.returns, B.notSynchronized, hK, fun q hq => Or.inr (by rw [← hsz]; exact hq)⟩
  exact body p e s m _ below meth c D ca ad n sz hwf hE hX (by rw [← hin]; exact (name_of_methodNamed B.named B.method).1) n s.heap [] _ ⟨hwf, hP, tt_A_D (cl := cl) hD0, va_S.rf, trivial⟩ hl0
section ALR
variable {cl : List vw_C} {p : Program} {l : Launch} {e : Env} {R : Room} {s : State} {m : MethodId} {args : Array Value} {below : List Frame} {meth : Method} {c : Code} {D : va_G} {ca : Nat → ClassId} {A : Nat → Prop} {nL : Nat} {Q : State → Prop} {ad : Nat → Nat} {kc ks pc n : Nat} {L : List (Nat × Value)} {st : List Value} {h : tt_H} {cc : ByteArray} {own : String} {ret : Option FieldType} {Ts : List Cond}
theorem al_objInit (X : tt_X cl (p, l, e, R, s, m, args, below, meth, c, Q, D, ca, A, nL, none) cc own ret Ts) {index b : Nat} (hlink : Cond.methodLink own index objectInit ∈ Ts) (hinst : Cond.instanceMethod objectInit ∈ Ts) (hcode : Cond.code objectInit ⟨#[0xb1]⟩ 1 none ∈ Ts) (hd : decode cc pc = .ok (.invokespecial index, 3)) (hfr : 1 ≤ R.frames) (hloc : (st.map fun v => v.category).sum + 12 ≤ R.locals) (kk : tt_T cl (p, l, e, R, s, m, args, below, meth, c, Q, D, ca, A, nL, none) ad kc ks (pc + 3) L st h) : tt_T cl (p, l, e, R, s, m, args, below, meth, c, Q, D, ca, A, nL, none) ad kc ks pc L (.ref b :: st) h := fun n H locs ls hI hl =>
  W.objInit X.1 X.2.1 X.2.2.2.1 (X.2.2.2.2.1 _ hlink) (X.2.2.2.2.1 _ hinst) (X.2.2.2.2.1 _ hcode) rfl (hl.1.trans X.2.2.1.symm) rfl hd hfr (by show 2 * 0 + _ + 12 ≤ _; rw [tt_cats]; omega) (kk n H locs ls hI hl)
theorem al_push {q : Nat} {H H1 : Heap} {locs : List Loc} {x : tt_E} (hw : tt_wf n h) (ho : tt_okh n h) (hx : tt_oke n x)
    (hP : va_P D cl (tt_w ca ad n h ++ [(q, tt_e ca ad x)]) H1) (hD : va_D A (tt_w ca ad n h ++ [(q, tt_e ca ad x)])) (hS : va_S A s.heap H1 locs) : tt_I cl (p, l, e, R, s, m, args, below, meth, c, Q, D, ca, A, nL, none) (va_up ad n q) (n + 1) (va_up h n (some x)) H1 locs := by
  have e1 := tt_w_new (ca := ca) (ad := ad) hw ho hx q
  exact ⟨tt_wf_new hw x, e1 ▸ hP, e1 ▸ hD, hS, trivial⟩
theorem al_new (X : tt_X cl (p, l, e, R, s, m, args, below, meth, c, Q, D, ca, A, nL, none) cc own ret Ts) (hw : tt_wf n h) (ho : tt_okh n h) (hn : n < 1000000) (hL : ∀ q ∈ L, al_oq n q.2) (hS : ∀ v ∈ st, al_oq n v) {C : String} {F : u_T} {N ci index : Nat} (hc : cl[ci]? = some (C, F, N)) (hin : ∀ w ∈ u_ws C F N, w ∈ Ts) (ty : Nat → FieldType) (hty : ∀ k, k < N → parseFieldDescriptor (F k).2.2.1 = some (ty k)) (hcl : Cond.classLink own index C ∈ Ts) (hins : Cond.instantiable C N ∈ Ts) (hini : Cond.initialized C ∈ Ts) {fs : List Value} (hfs : ∀ j, j < N → defaultValue (ty j) = vp_V fs j) (hz : ∀ ad, fs.map (tt_v ad) = fs) (hok : ∀ v ∈ fs, tt_okv n v) (hcells : kc + 1 ≤ R.cells) (hslots : ks + N ≤ R.slots) (hd : decode cc pc = .ok (.new index, 3))
    (kk : ∀ q, tt_T cl (p, l, e, R, s, m, args, below, meth, c, Q, D, ca, A, nL, none) (va_up ad n q) (kc + 1) (ks + N) (pc + 3) L (.ref n :: st) (va_up h n (some (.inr (ci, fs))))) : tt_T cl (p, l, e, R, s, m, args, below, meth, c, Q, D, ca, A, nL, none) ad kc ks pc L st h := by
  intro n' H locs ls hI hl
  obtain rfl := al_n_eq hw hI.1
  refine va_new X.1 X.2.1 X.2.2.2.2.1 hin ty hty X.2.2.2.1 (X.2.2.2.2.1 _ hcl) (X.2.2.2.2.1 _ hins) (X.2.2.2.2.1 _ hini) X.2.2.2.2.2.2.2.1 hI.2.1 hI.2.2.1 hI.2.2.2.1 X.2.2.2.2.2.2.2.2 hc hfs hcells hslots hd (fun q H1 hP hD hS1 => ?_)
  have hag : ∀ i, i < n' ∨ n' + 1 ≤ i → va_up ad n' q i = ad i := fun i hi => va_up_ne _ _ (by omega)
  have hq : (Sum.inr (ci, fs) : va_E) = tt_e ca ad (.inr (ci, fs)) := by show _ = Sum.inr (ci, _); rw [hz]
  rw [hq] at hP hD
  have h9 := kk q (n' + 1) H1 locs ls (al_push (H := H) hw ho hok hP hD hS1) (by rw [al_m_eq hag (by omega) hL]; exact hl)
  rw [List.map_cons, al_vs_eq hag (by omega) hS] at h9
  rw [show tt_v (va_up ad n' q) (.ref n') = .ref q from congrArg Value.ref (va_up_self _ _ _)] at h9
  exact h9
theorem al_newa (X : tt_X cl (p, l, e, R, s, m, args, below, meth, c, Q, D, ca, A, nL, none) cc own ret Ts) (hw : tt_wf n h) (ho : tt_okh n h) (hn : n < 1000000) (hL : ∀ q ∈ L, al_oq n q.2) (hS : ∀ v ∈ st, al_oq n v) {atype : ArrayType} {ty : FieldType} (t : Nat) (ht : tt_tyl[t]? = some ty) (hpr : ∀ (U : State) (cA : ClassId), va_RA U cA ty → U.vm.findClass ("[" ++ ty.toString) = some cA) (harr : Cond.arrayClass ty ∈ Ts) (hty : newarray.typeOf atype = ty) {k : Int32} {N : Nat} {a0 : vp_A} (ha0 : ∀ ad, tt_a ad a0 = a0) (hok : tt_oka n a0) (ha : ∀ cA : ClassId, vp_cell cA a0 = arrV cA N (fun _ => defaultValue ty)) (hn0 : ¬ k < 0) (hN : k.toNatClampNeg = N) (hbytes : N * componentBytes ty ≤ 536870912) (hcells : kc + 1 ≤ R.cells) (hslots : ks + N ≤ R.slots) (hd : decode cc pc = .ok (.newarray atype, 2))
    (kk : ∀ q, tt_T cl (p, l, e, R, s, m, args, below, meth, c, Q, D, ca, A, nL, none) (va_up ad n q) (kc + 1) (ks + N) (pc + 2) L (.ref n :: st) (va_up h n (some (.inl (t, a0))))) : tt_T cl (p, l, e, R, s, m, args, below, meth, c, Q, D, ca, A, nL, none) ad kc ks pc L (.int k :: st) h := by
  intro n' H locs ls hI hl
  obtain rfl := al_n_eq hw hI.1
  refine va_newa X.1 X.2.1 (by rw [hty]; exact X.2.2.2.2.1 _ harr) hty X.2.2.2.2.2.2.2.1 hI.2.1 hI.2.2.1 hI.2.2.2.1 X.2.2.2.2.2.2.2.2 ha hn0 hN hbytes hcells hslots hd (fun q cA H1 hK hP hD hS1 => ?_)
  have hag : ∀ i, i < n' ∨ n' + 1 ≤ i → va_up ad n' q i = ad i := fun i hi => va_up_ne _ _ (by omega)
  have hcA : cA = ca t := by
    have h1 := hpr s cA (hK.2 5 (cA, ty) rfl).2
    have h2 := hpr s (ca t) (X.2.2.2.2.2.2.2.1.2 t _ (tt_tys_at ca ht)).2
    exact Option.some.inj (h1.symm.trans h2)
  have hq : (Sum.inl (cA, a0) : va_E) = tt_e ca ad (.inl (t, a0)) := by rw [hcA]; show _ = Sum.inl (ca t, _); rw [ha0]
  rw [hq] at hP hD
  have h9 := kk q (n' + 1) H1 locs ls (al_push (H := H) (x := .inl (t, a0)) hw ho hok hP hD hS1) (by rw [al_m_eq hag (by omega) hL]; exact hl)
  rw [List.map_cons, al_vs_eq hag (by omega) hS] at h9
  rw [show tt_v (va_up ad n' q) (.ref n') = .ref q from congrArg Value.ref (va_up_self _ _ _)] at h9
  exact h9
theorem al_newq (X : tt_X cl (p, l, e, R, s, m, args, below, meth, c, Q, D, ca, A, nL, none) cc own ret Ts) (hw : tt_wf n h) (ho : tt_okh n h) (hn : n < 1000000) (hL : ∀ q ∈ L, al_oq n q.2) (hS : ∀ v ∈ st, al_oq n v) {C : String} {index : Nat} (t : Nat) (ht : tt_tyl[t]? = some (.object C)) (hcl : Cond.classLink own index C ∈ Ts) (hover : va_AO C s) {k : Int32} {N : Nat} (hn0 : ¬ k < 0) (hN : k.toNatClampNeg = N) (hbytes : N * 4 ≤ 536870912) (hcells : kc + 1 ≤ R.cells) (hslots : ks + N ≤ R.slots) (hd : decode cc pc = .ok (.anewarray index, 3))
    (kk : ∀ q, tt_T cl (p, l, e, R, s, m, args, below, meth, c, Q, D, ca, A, nL, none) (va_up ad n q) (kc + 1) (ks + N) (pc + 3) L (.ref n :: st) (va_up h n (some (tt_qa t N (fun _ => none))))) : tt_T cl (p, l, e, R, s, m, args, below, meth, c, Q, D, ca, A, nL, none) ad kc ks pc L (.int k :: st) h := by
  intro n' H locs ls hI hl
  obtain rfl := al_n_eq hw hI.1
  refine va_newq X.1 X.2.1 X.2.2.2.1 (X.2.2.2.2.1 _ hcl) hover X.2.2.2.2.2.2.2.1 hI.2.1 hI.2.2.1 hI.2.2.2.1 X.2.2.2.2.2.2.2.2 hn0 hN hbytes hcells hslots hd (fun q cA H1 hK hP hD hS1 => ?_)
  have hag : ∀ i, i < n' ∨ n' + 1 ≤ i → va_up ad n' q i = ad i := fun i hi => va_up_ne _ _ (by omega)
  have hcA : cA = ca t := by
    obtain ⟨_, _, _, _, _, h1⟩ := (hK.2 5 (cA, .object C) rfl).2
    obtain ⟨_, _, _, _, _, h2⟩ := (X.2.2.2.2.2.2.2.1.2 t _ (tt_tys_at ca ht)).2
    exact Option.some.inj (h1.symm.trans h2)
  have hq : (Sum.inl (cA, (N, .inr (.inr (.inr (.inr (fun _ => none)))))) : va_E) = tt_e ca ad (tt_qa t N (fun _ => none)) := by rw [hcA]; rfl
  rw [hq] at hP hD
  have h9 := kk q (n' + 1) H1 locs ls (al_push (H := H) (x := tt_qa t N (fun _ => none)) hw ho (fun j i hf => by cases hf) hP hD hS1) (by rw [al_m_eq hag (by omega) hL]; exact hl)
  rw [List.map_cons, al_vs_eq hag (by omega) hS] at h9
  rw [show tt_v (va_up ad n' q) (.ref n') = .ref q from congrArg Value.ref (va_up_self _ _ _)] at h9
  exact h9
variable {y : MethodName} {bytes : ByteArray} {maxL mc ms index : Nat} {ws : List Cond} {rm : Room} {P : Option Value → tt_H → Prop}
/-- a constructor's call -/
theorem al_call (X : tt_X cl (p, l, e, R, s, m, args, below, meth, c, Q, D, ca, A, nL, none) cc own ret Ts) (hE : al_E s) (hw : tt_wf n h) {b n2 : Nat} (hn2 : n ≤ n2 ∧ n2 < 1000000) (hL : ∀ q ∈ L, al_oq n q.2) (hS : ∀ v ∈ st, al_oq n v) (hM : al_N cl l y ws rm mc ms [.ref b] h P) (hP2 : ∀ v h', P v h' → v = none ∧ tt_wf n2 h') (cw : (∀ w ∈ Ts, w.before args s = true) → CallB R s args own index y bytes maxL none ws rm mc ms 0 ∧ y.name = "<init>" ∧ (Cond.instanceMethod y).before args s = true) (hW : (st.map fun v => v.category).sum ≤ 8) (hd : decode cc pc = .ok (.invokespecial index, 3)) (hf : kc + mc ≤ R.cells ∧ ks + ms ≤ R.slots)
    (kk : ∀ (h' : tt_H) (ad' : Nat → Nat), P none h' → (∀ i, i < n ∨ n2 ≤ i → ad' i = ad i) → tt_T cl (p, l, e, R, s, m, args, below, meth, c, Q, D, ca, A, nL, none) ad' (kc + mc) (ks + ms) (pc + 3) L st h') : tt_T cl (p, l, e, R, s, m, args, below, meth, c, Q, D, ca, A, nL, none) ad kc ks pc L (.ref b :: st) h := by
  intro n' H locs ls hI hl
  obtain rfl := al_n_eq hw hI.1
  refine tt_back (st0 := .ref b :: st) (st := st) (mc := mc) (ms := ms) (al := true) (P := P) (ar := (Value.ref (ad b) :: []).toArray) hI X.2.2.2.2.2.2.2.2 (Or.inr rfl) ?_ (fun v h' ad' n2' H' locs' hp _ _ hag hI' => ?_)
  · have hpr : PreS s H (va_Pc (([.ref b] : List Value).map (tt_v ad)) (fun U => tt_B cl D ca ad n' H.size h U ∧ al_E U)) (([.ref b] : List Value).map (tt_v ad)) :=
      ⟨fun a U g mk q => ⟨q.1, ⟨q.2.1.1, q.2.1.2.1, va_K.moved (u := U) (U := U.calling g mk a) (Vm.Alike.refl U.vm) q.2.1.2.2.1, q.2.1.2.2.2⟩, al_E.same (u := U) (U := U.calling g mk a) rfl q.2.2⟩, fun U hU hW => ⟨rfl, ⟨by rw [hU], by rw [hU]; exact hI.2.1, va_K.moved hW.alike X.2.2.2.2.2.2.2.1, hI.2.2.1.weaken (fun _ _ _ _ => trivial)⟩, hE.moved hW⟩⟩
    exact va_runI (b := ad b) (As := []) (rest := st.map (tt_v ad)) ⟨X.1, X.2.1, X.2.2.1, X.2.2.2.1, X.2.2.2.2.1⟩ (hM D ca ad n' H.size hI.1) (cw X.2.2.2.2.1) hpr rfl rfl hl.1 rfl (by show 2 * 0 + _ ≤ 8; rw [tt_cats]; omega) hd hf
  · obtain ⟨rfl, hw2⟩ := hP2 v h' hp
    obtain rfl := al_n_eq hw2 hI'.1
    have h9 := kk h' ad' hp hag n2' H' locs' ls hI' (by rw [al_m_eq hag (by omega) hL]; exact hl)
    rw [al_vs_eq hag (by omega) hS] at h9
    exact h9
/-- a nest mate's private constructor's call -/
theorem al_callN (X : tt_X cl (p, l, e, R, s, m, args, below, meth, c, Q, D, ca, A, nL, none) cc own ret Ts) (hE : al_E s) (hw : tt_wf n h) {b n2 : Nat} {host : String} (hn2 : n ≤ n2 ∧ n2 < 1000000) (hL : ∀ q ∈ L, al_oq n q.2) (hS : ∀ v ∈ st, al_oq n v) (hM : al_N cl l y ws rm mc ms [.ref b] h P) (hP2 : ∀ v h', P v h' → v = none ∧ tt_wf n2 h') (cw : (∀ w ∈ Ts, w.before args s = true) → va_CN R s args own index y host bytes maxL none ws rm mc ms 0 ∧ y.name = "<init>" ∧ (Cond.instanceMethod y).before args s = true) (hW : (st.map fun v => v.category).sum ≤ 8) (hd : decode cc pc = .ok (.invokespecial index, 3)) (hf : kc + mc ≤ R.cells ∧ ks + ms ≤ R.slots)
    (kk : ∀ (h' : tt_H) (ad' : Nat → Nat), P none h' → (∀ i, i < n ∨ n2 ≤ i → ad' i = ad i) → tt_T cl (p, l, e, R, s, m, args, below, meth, c, Q, D, ca, A, nL, none) ad' (kc + mc) (ks + ms) (pc + 3) L st h') : tt_T cl (p, l, e, R, s, m, args, below, meth, c, Q, D, ca, A, nL, none) ad kc ks pc L (.ref b :: st) h := by
  intro n' H locs ls hI hl
  obtain rfl := al_n_eq hw hI.1
  refine tt_back (st0 := .ref b :: st) (st := st) (mc := mc) (ms := ms) (al := true) (P := P) (ar := (Value.ref (ad b) :: []).toArray) hI X.2.2.2.2.2.2.2.2 (Or.inr rfl) ?_ (fun v h' ad' n2' H' locs' hp _ _ hag hI' => ?_)
  · have hpr : PreS s H (va_Pc (([.ref b] : List Value).map (tt_v ad)) (fun U => tt_B cl D ca ad n' H.size h U ∧ al_E U)) (([.ref b] : List Value).map (tt_v ad)) :=
      ⟨fun a U g mk q => ⟨q.1, ⟨q.2.1.1, q.2.1.2.1, va_K.moved (u := U) (U := U.calling g mk a) (Vm.Alike.refl U.vm) q.2.1.2.2.1, q.2.1.2.2.2⟩, al_E.same (u := U) (U := U.calling g mk a) rfl q.2.2⟩, fun U hU hW => ⟨rfl, ⟨by rw [hU], by rw [hU]; exact hI.2.1, va_K.moved hW.alike X.2.2.2.2.2.2.2.1, hI.2.2.1.weaken (fun _ _ _ _ => trivial)⟩, hE.moved hW⟩⟩
    exact va_runIN (b := ad b) (As := []) (rest := st.map (tt_v ad)) ⟨X.1, X.2.1, X.2.2.1, X.2.2.2.1, X.2.2.2.2.1⟩ (hM D ca ad n' H.size hI.1) (cw X.2.2.2.2.1) hpr rfl rfl hl.1 rfl (by show 2 * 0 + _ ≤ 8; rw [tt_cats]; omega) hd hf
  · obtain ⟨rfl, hw2⟩ := hP2 v h' hp
    obtain rfl := al_n_eq hw2 hI'.1
    have h9 := kk h' ad' hp hag n2' H' locs' ls hI' (by rw [al_m_eq hag (by omega) hL]; exact hl)
    rw [al_vs_eq hag (by omega) hS] at h9
    exact h9
end ALR
section ALE
variable {cl : List vw_C} {p : Program} {l : Launch} {e : Env} {R : Room} {s : State} {m : MethodId} {args : Array Value} {below : List Frame} {meth : Method} {c : Code} {D : va_G} {ca : Nat → ClassId} {nL : Nat} {ad ad0 : Nat → Nat} {pc n0 n2 sz mc ms : Nat} {L : List (Nat × Value)} {h : tt_H} {cc : ByteArray} {own : String} {ret : Option FieldType} {Ts : List Cond} {P : Option Value → tt_H → Prop}
theorem al_vret (X : tt_X cl (p, l, e, R, s, m, args, below, meth, c, MQ below (tt_Q cl D ca ad0 n0 sz true P) args s mc ms (tt_A ad0 n0 sz), D, ca, tt_A ad0 n0 sz, nL, none) cc own ret Ts) (hr : ret = none) (hd : decode cc pc = .ok (.return_, 1)) (hw : tt_wf n2 h) (hn : n0 ≤ n2) (hag : ∀ i, i < n0 ∨ n2 ≤ i → ad i = ad0 i) (hP : P none h) : tt_T cl (p, l, e, R, s, m, args, below, meth, c, MQ below (tt_Q cl D ca ad0 n0 sz true P) args s mc ms (tt_A ad0 n0 sz), D, ca, tt_A ad0 n0 sz, nL, none) ad mc ms pc L [] h := by
  intro n H locs ls hI hl
  obtain rfl := al_n_eq hw hI.1
  exact W.vret X.1 X.2.1 (by rw [X.2.2.2.2.2.1, hr]) (tt_end (v := none) hI hP ⟨hn, (fun q => by cases q), hag⟩) hI.2.2.2.1.2.2 hd X.2.2.2.2.2.2.1
end ALE
