/-! MORE ROWS: longs by shifts and bits, an int constant; THE SCRIPT, which is place 1000000, read and never written; a guard at what makes cells -/
section TTX
variable {cl : List vw_C} {K : tt_K} {ad : Nat → Nat} {kc ks pc : Nat} {L : List (Nat × Value)} {st : List Value} {h : tt_H} {cc : ByteArray} {own : String} {ret : Option FieldType} {Ts : List Cond}
theorem tt_ldc (X : tt_X cl K cc own ret Ts) {index : Nat} {v : Int32} (hcn : Jvm.Cond.constant own index v ∈ Ts) (hd : decode cc pc = .ok (.ldc index, 2)) (kk : tt_T cl K ad kc ks (pc + 2) L (.int v :: st) h) : tt_T cl K ad kc ks pc L st h := by
  obtain ⟨p, l, e, R, s, m, args, below, meth, c, Q, D, ca, A, nL, nz⟩ := K
  exact fun n H locs ls hI hl => lv_ldc X.1 X.2.1 X.2.2.2.1 (X.2.2.2.2.1 _ hcn) hd (kk n H locs ls hI hl)
theorem tt_land (X : tt_X cl K cc own ret Ts) {x y : Int64} (hd : decode cc pc = .ok (.land, 1)) (kk : tt_T cl K ad kc ks (pc + 1) L (.long (x &&& y) :: st) h) : tt_T cl K ad kc ks pc L (.long y :: .long x :: st) h := by
  obtain ⟨p, l, e, R, s, m, args, below, meth, c, Q, D, ca, A, nL, nz⟩ := K
  exact fun n H locs ls hI hv => lv_land X.1 X.2.1 hd (kk n H locs ls hI hv)
theorem tt_lor (X : tt_X cl K cc own ret Ts) {x y : Int64} (hd : decode cc pc = .ok (.lor, 1)) (kk : tt_T cl K ad kc ks (pc + 1) L (.long (x ||| y) :: st) h) : tt_T cl K ad kc ks pc L (.long y :: .long x :: st) h := by
  obtain ⟨p, l, e, R, s, m, args, below, meth, c, Q, D, ca, A, nL, nz⟩ := K
  exact fun n H locs ls hI hv => lv_lor X.1 X.2.1 hd (kk n H locs ls hI hv)
theorem tt_lshl (X : tt_X cl K cc own ret Ts) {x : Int64} {y : Int32} (hd : decode cc pc = .ok (.lshl, 1)) (kk : tt_T cl K ad kc ks (pc + 1) L (.long (x <<< (y.toInt64 &&& 63)) :: st) h) : tt_T cl K ad kc ks pc L (.int y :: .long x :: st) h := by
  obtain ⟨p, l, e, R, s, m, args, below, meth, c, Q, D, ca, A, nL, nz⟩ := K
  exact fun n H locs ls hI hv => lv_lshl X.1 X.2.1 hd rfl (kk n H locs ls hI hv)
theorem tt_lshr (X : tt_X cl K cc own ret Ts) {x : Int64} {y : Int32} (hd : decode cc pc = .ok (.lshr, 1)) (kk : tt_T cl K ad kc ks (pc + 1) L (.long (x >>> (y.toInt64 &&& 63)) :: st) h) : tt_T cl K ad kc ks pc L (.int y :: .long x :: st) h := by
  obtain ⟨p, l, e, R, s, m, args, below, meth, c, Q, D, ca, A, nL, nz⟩ := K
  exact fun n H locs ls hI hv => lv_lshr X.1 X.2.1 hd rfl (kk n H locs ls hI hv)
/-- the script: where it lies, how long it is, what it holds; nothing of it may be written -/
def tt_Y (K : tt_K) (ad : Nat → Nat) (Ls : Nat) (xs : Nat → Int32) : Prop := match K with
  | (_, _, _, _, s, _, _, _, _, _, _, _, _, A, _, _) => va_X (ad 1000000) Ls xs s s.heap ∧ ad 1000000 < s.heap.size ∧ ¬ A (ad 1000000)
theorem zr_sl (X : tt_X cl K cc own ret Ts) {Ls : Nat} {xs : Nat → Int32} (Y : tt_Y K ad Ls xs) {i z : Int32} (e : gg_ix i Ls (xs i.toNatClampNeg) = some z) (hd : decode cc pc = .ok (.iaload, 1)) (kk : tt_T cl K ad kc ks (pc + 1) L (.int z :: st) h) : tt_T cl K ad kc ks pc L (.int i :: .ref 1000000 :: st) h := by
  obtain ⟨p, l, e', R, s, m, args, below, meth, c, Q, D, ca, A, nL, nz⟩ := K
  obtain ⟨e3, rfl⟩ := gg_ix_ok e
  exact fun n H locs ls hI hl => va_sld X.1 X.2.1 Y.1 Y.2.1 Y.2.2 hI.2.2.2.1 e3 hd (kk n H locs ls hI hl)
theorem zr_slen (X : tt_X cl K cc own ret Ts) {Ls : Nat} {xs : Nat → Int32} (Y : tt_Y K ad Ls xs) (hd : decode cc pc = .ok (.arraylength, 1)) (kk : tt_T cl K ad kc ks (pc + 1) L (.int (nI Ls) :: st) h) : tt_T cl K ad kc ks pc L (.ref 1000000 :: st) h := by
  obtain ⟨p, l, e', R, s, m, args, below, meth, c, Q, D, ca, A, nL, nz⟩ := K
  exact fun n H locs ls hI hl => va_slen X.1 X.2.1 Y.1 Y.2.1 Y.2.2 hI.2.2.2.1 hd (kk n H locs ls hI hl)
end TTX
/-- a contract of a method that is given the script, too -/
def tt_BY (cl : List vw_C) (D : va_G) (ca ad : Nat → Nat) (n sz : Nat) (h : tt_H) (Ls : Nat) (xs : Nat → Int32) (U : State) : Prop := tt_B cl D ca ad n sz h U ∧ va_X (ad 1000000) Ls xs U U.heap ∧ ad 1000000 < sz ∧ ∀ i, i < n → ad i ≠ ad 1000000
def tt_MY (cl : List vw_C) (l : Launch) (y : MethodName) (ws : List Cond) (rm : Room) (Ls : Nat) (xs : Nat → Int32) (vs : List Value) (h : tt_H) (P : Option Value → tt_H → Prop) : Prop :=
  ∀ (D : va_G) (ca ad : Nat → Nat) (n sz : Nat), tt_wf n h → Met l y ws rm (va_Pc (vs.map (tt_v ad)) (tt_BY cl D ca ad n sz h Ls xs)) (tt_Q cl D ca ad n sz false P) 0 0 (tt_A ad n sz)
theorem tt_MY.of0 {cl : List vw_C} {l : Launch} {y : MethodName} {ws ws' : List Cond} {rm : Room} {Ls : Nat} {xs : Nat → Int32} {vs : List Value} {h : tt_H} {P : Option Value → tt_H → Prop} {cc : ByteArray} {maxL : Nat} {ret : Option FieldType} (hy : plainName y.cls = true) (hw : ws = Cond.code y cc maxL ret :: ws') (hsl : (lg_sl vs).length ≤ maxL)
    (body : ∀ (p : Program) (e : Env) (s : State) (m : MethodId) (args : Array Value) (below : List Frame) (meth : Method) (c : Code) (D : va_G) (ca ad : Nat → Nat) (n sz : Nat), tt_wf n h → s.heap.size = sz → tt_Y (p, l, e, rm, s, m, args, below, meth, c, MQ below (tt_Q cl D ca ad n sz false P) args s 0 0 (tt_A ad n sz), D, ca, tt_A ad n sz, maxL, some n) ad Ls xs → tt_X cl (p, l, e, rm, s, m, args, below, meth, c, MQ below (tt_Q cl D ca ad n sz false P) args s 0 0 (tt_A ad n sz), D, ca, tt_A ad n sz, maxL, some n) cc y.cls ret ws → (y.name = "<init>" → meth.name = "<init>") →
      tt_T cl (p, l, e, rm, s, m, args, below, meth, c, MQ below (tt_Q cl D ca ad n sz false P) args s 0 0 (tt_A ad n sz), D, ca, tt_A ad n sz, maxL, some n) ad 0 0 0 (tt_args 0 vs) [] h) : tt_MY cl l y ws rm Ls xs vs h P := by
  intro D ca ad n sz hwf
  refine Met.ofW (cc := cc) (maxL := maxL) (ret := ret) hy hw ?_
  intro p e s m args below meth c s₁ B hml hv
  obtain ⟨rfl, ⟨hsz, hP, hK, hD0⟩, hXs, hbl, hne⟩ := hv
  have hl0 := lv_entry (vs.map (tt_v ad)) (n := maxL) (by
    have : ∀ us : List Value, (lg_sl (us.map (tt_v ad))).length = (lg_sl us).length := by
      intro us
      induction us with
      | nil => rfl
      | cons u us ih => cases u <;> simp [lg_sl, tt_v, Value.category] at ih ⊢ <;> first | exact ih | omega
    rw [this]; exact hsl)
  rw [tt_args_m] at hl0
  rw [lg_entry_eq]
  have hX : tt_X cl (p, l, e, rm, s, m, ((vs.map (tt_v ad)).toArray), below, meth, c, MQ below (tt_Q cl D ca ad n sz false P) (vs.map (tt_v ad)).toArray s 0 0 (tt_A ad n sz), D, ca, tt_A ad n sz, maxL, some n) cc y.cls ret ws :=
    ⟨B.exec, B.bytes, hml, findClass_of_methodNamed B.named, atoms_spec (ws := ws) B.pre, B.returns, B.notSynchronized, hK, fun q hq => Or.inr (by rw [← hsz]; exact hq)⟩
  have hY : tt_Y (p, l, e, rm, s, m, ((vs.map (tt_v ad)).toArray), below, meth, c, MQ below (tt_Q cl D ca ad n sz false P) (vs.map (tt_v ad)).toArray s 0 0 (tt_A ad n sz), D, ca, tt_A ad n sz, maxL, some n) ad Ls xs :=
    ⟨hXs, by rw [hsz]; exact hbl, fun z => by
      rcases z with ⟨i, hi, hq⟩ | z
      · exact hne i hi hq.symm
      · omega⟩
  exact body p e s m _ below meth c D ca ad n sz hwf hsz hY hX (fun hi => by rw [← hi]; exact (name_of_methodNamed B.named B.method).1) n s.heap [] _ ⟨hwf, hP, tt_A_D (cl := cl) hD0, va_S.rf, rfl⟩ hl0
section TTYC
variable {cl : List vw_C} {p : Program} {l : Launch} {e : Env} {R : Room} {s : State} {m : MethodId} {args : Array Value} {below : List Frame} {meth : Method} {c : Code} {D : va_G} {ca : Nat → ClassId} {A : Nat → Prop} {nL : Nat} {nz : Option Nat} {Q : State → Prop} {ad : Nat → Nat} {kc ks pc : Nat} {L : List (Nat × Value)} {st : List Value} {h : tt_H} {cc : ByteArray} {own : String} {ret : Option FieldType} {Ts : List Cond}
variable {y : MethodName} {bytes : ByteArray} {maxL k index : Nat} {rt : Option FieldType} {ws : List Cond} {rm : Room} {As : List Value}
theorem zr_callSY {Ls : Nat} {xs : Nat → Int32} (X : tt_X cl (p, l, e, R, s, m, args, below, meth, c, Q, D, ca, A, nL, nz) cc own ret Ts) (Y : tt_Y (p, l, e, R, s, m, args, below, meth, c, Q, D, ca, A, nL, nz) ad Ls xs) {v : Option Value} {h1 : tt_H} (hM : tt_MY cl l y ws rm Ls xs As h (tt_ret v h1)) (cw : (∀ w ∈ Ts, w.before args s = true) → CallB R s args own index y bytes maxL rt ws rm 0 0 k ∧ (Cond.static y).before args s = true) (hn : As.length = k) {st0 : List Value} (hst : st0 = As.reverse ++ st) (hW : (st.map fun v => v.category).sum ≤ 8) (hd : decode cc pc = .ok (.invokestatic index, 3)) (hf : kc ≤ R.cells ∧ ks ≤ R.slots)
    (kk : tt_T cl (p, l, e, R, s, m, args, below, meth, c, Q, D, ca, A, nL, nz) ad kc ks (pc + 3) L (v.toList ++ st) h1) : tt_T cl (p, l, e, R, s, m, args, below, meth, c, Q, D, ca, A, nL, nz) ad kc ks pc L st0 h := by
  intro n H locs ls hI hl
  subst hst
  refine tt_back (st := st) (mc := 0) (ms := 0) (al := false) (P := tt_ret v h1) (ar := (As.map (tt_v ad)).toArray) hI X.2.2.2.2.2.2.2.2 (Or.inl rfl) ?_ (fun v' h' ad' n' H' locs' hp _ hal _ hI' => ?_)
  · have hpr : PreS s H (va_Pc (As.map (tt_v ad)) (tt_BY cl D ca ad n H.size h Ls xs)) (As.map (tt_v ad)) := by
      refine ⟨fun a U g mk q => ⟨q.1, ⟨q.2.1.1, q.2.1.2.1, va_K.moved (u := U) (U := U.calling g mk a) (Vm.Alike.refl U.vm) q.2.1.2.2.1, q.2.1.2.2.2⟩, va_X.moved (u := U) (U := U.calling g mk a) (Vm.Alike.refl U.vm) q.2.2.1, q.2.2.2⟩, fun U hU hW => ⟨rfl, ⟨by rw [hU], by rw [hU]; exact hI.2.1, va_K.moved hW.alike X.2.2.2.2.2.2.2.1, hI.2.2.1.weaken (fun _ _ _ _ => trivial)⟩, ?_, Nat.lt_of_lt_of_le Y.2.1 hI.2.2.2.1.1, fun i hi hq => Y.2.2 ?_⟩⟩
      · rw [hU]
        exact va_X.moved hW.alike (va_X.kept Y.1 (hI.2.2.2.1.2.1 _ Y.2.1 Y.2.2))
      · rw [← hq]
        exact hI.2.2.1.2 i _ (by rw [tt_w_at, if_pos hi])
    exact va_runS (As := As.map (tt_v ad)) (rest := st.map (tt_v ad)) ⟨X.1, X.2.1, X.2.2.1, X.2.2.2.1, X.2.2.2.2.1⟩ (hM D ca ad n H.size hI.1) (cw X.2.2.2.2.1) hpr rfl (by rw [List.length_map]; exact hn) hl.1 (by rw [← List.map_reverse, ← List.map_append]) (by show 2 * 0 + _ ≤ 8; rw [tt_cats]; omega) hd hf
  · obtain ⟨rfl, rfl⟩ := hp
    obtain ⟨rfl, rfl⟩ := hal rfl
    have h9 := kk n' H' locs' ls hI' hl
    rw [List.map_append] at h9
    rw [show (v'.map (tt_v ad')).toList = v'.toList.map (tt_v ad') from by cases v' <;> rfl]
    exact h9
end TTYC
/-- the guard at what makes cells: how many places there are, all that is held is of them -/
def gg_rf (nn : Nat) : List Nat → Prop
  | [] => True
  | r :: t => (r < nn ∨ 1000000 ≤ r) ∧ gg_rf nn t
noncomputable def gg_new (nn : Nat) (rs : List Nat) (h : tt_H) : Option Unit := @ite (Option Unit) (tt_wf nn h ∧ tt_okh nn h ∧ nn < 100000 ∧ gg_rf nn rs) (Classical.propDecidable _) (some ()) none
theorem gg_new_ok {nn : Nat} {rs : List Nat} {h : tt_H} {u : Unit} (e : gg_new nn rs h = some u) : tt_wf nn h ∧ tt_okh nn h ∧ nn < 100000 ∧ gg_rf nn rs := by
  unfold gg_new at e
  by_cases hc : tt_wf nn h ∧ tt_okh nn h ∧ nn < 100000 ∧ gg_rf nn rs
  · exact hc
  · rw [if_neg hc] at e; cases e
theorem gg_new_of {nn : Nat} {rs : List Nat} {h : tt_H} (hc : tt_wf nn h ∧ tt_okh nn h ∧ nn < 100000 ∧ gg_rf nn rs) : gg_new nn rs h = some () := by
  unfold gg_new; rw [if_pos hc]
