/-! THE CLAIM OUT OF ONE WALK OF THE LAW'S BODY. Your part is whole_start (and what it stands on); all else here is the same for every law, but numbers. -/
def R_law : String := "AddedCriesLaw"
def lw_P (b : Addr) (xs : List Int32) (args : Array Value) (s : State) : Prop := args = #[.ref b] ∧ s.IntsAt b xs ∧ xs.length ≤ 260 ∧ (Jvm.Cond.and given_1 narrow_1).before args s = true
def lw_Q (_ : Array Value) (s : State) (o : Outcome) (t : State) : Prop := o = .returned (some (.int 1)) ∧ Framed s o t [] 600000 7302250
def lw_Z (below : List Frame) (a : Array Value) (s : State) : State → Prop := fun t => ∃ o, t.status = .running ∧ Ended t below o ∧ lw_Q a s o t
/-- the law's own end, with 1 on the stack, nothing written that was there before, its room as the claim has it -/
theorem lw_ret {p : Program} {l : Launch} {e : Env} {s : State} {m : MethodId} {below : List Frame} {meth : Method} {c : Code} {b : Nat} (hx : p.tables.exec = Jvm.exec) (hb : c.code = code) (hr : meth.sig.returnType = ret) (hlocks : meth.locks = false) {pc : Nat} {H : Heap} {ls : Array Slot} (hdg : decode code pc = .ok (.ireturn, 1)) : W p l e room_1 s m #[Value.ref b] below meth c H [] 600000 7302250 (lw_Z below #[Value.ref b] s) (F0 m pc ls [.int 1]) := by
  intro T hT X
  obtain ⟨fs, hret, hrun, hended, hW, hframe⟩ := X.leave (v := some (.int 1)) (hlocks := hlocks) (fun h => by rw [hr] at h; cases h)
  have hmeth' : T.vm.method? m = some meth := X.method'
  refine ⟨T.setFrames fs, ?_, .returned (some (.int 1)), hrun, hended, rfl, ⟨_, rfl⟩, hW, hframe⟩
  jvm_step X.here [X.here.top, hx, hb, hdg, hmeth', hr, ret, narrow_b1]
  (try refine ⟨rfl, ?_⟩); (try refine ⟨rfl, ?_⟩)
  first | (intro acts; rw [hret _ acts rfl rfl rfl]) | rw [hret _ _ rfl rfl rfl]
  exact Steps.refl _
/-- what holds at the law's entry: the machine, the code, the tables' words (any of lw_tbl by 'hts w (by decide +kernel)'), the script of L ints xs at the cell b, what the Statement gives of the start (any of its parts by flat_of_before) -/
def lw_At (p : Program) (s : State) (m : MethodId) (meth : Method) (c : Code) (b L : Nat) (xs : Nat → Int32) : Prop :=
  p.tables.exec = Jvm.exec ∧ c.code = code ∧ meth.sig.returnType = ret ∧ c.maxLocals = 18 ∧ s.vm.findClass R_law = some m.cls ∧ (∀ w ∈ lw_tbl, w.before #[Value.ref b] s = true) ∧ va_X b L xs s s.heap ∧ b < s.heap.size ∧ meth.locks = false ∧ (Jvm.Cond.and given_1 narrow_1).before #[Value.ref b] s = true
/-! THE LAW'S WALK, as rows over the toy heap: the script is place 1000000 -/
abbrev lw_K (p : Program) (l : Launch) (e : Env) (s : State) (m : MethodId) (below : List Frame) (meth : Method) (c : Code) (b : Nat) (D : va_G) (ca : Nat → ClassId) : tt_K := (p, l, e, room_1, s, m, #[Value.ref b], below, meth, c, lw_Z below #[Value.ref b] s, D, ca, (fun q => s.heap.size ≤ q), 18, none)
section LWR
variable {p : Program} {l : Launch} {e : Env} {s : State} {m : MethodId} {below : List Frame} {meth : Method} {c : Code} {b : Nat} {D : va_G} {ca : Nat → ClassId} {ad : Nat → Nat} {kc ks pc L : Nat} {xs : Nat → Int32} {st : List Value} {h : tt_H} {LL : List (Nat × Value)} {Ts : List Cond}
/-- the law's end -/
theorem lw_fin (X : tt_X tt_cl (lw_K p l e s m below meth c b D ca) code RL ret Ts) (hd : decode code pc = .ok (.ireturn, 1)) : tt_T tt_cl (lw_K p l e s m below meth c b D ca) ad 600000 7302250 pc LL [.int 1] h := by
  intro n H locs ls hI hl
  exact va_forget (fun q hq => hI.2.2.2.1.2.2 q hq) (lw_ret X.1 X.2.1 X.2.2.2.2.2.1 X.2.2.2.2.2.2.1 hd)
theorem lw_room {nn : Nat} (h : nn ≤ 100000) : nn ≤ room_1.cells ∧ 5000 + 24 * nn ≤ room_1.slots := ⟨by show nn ≤ 600000; omega, by show 5000 + 24 * nn ≤ 7302250; omega⟩
theorem lw_Y (hX : va_X b L xs s s.heap) (hbl : b < s.heap.size) (hb : ad 1000000 = b) : tt_Y (lw_K p l e s m below meth c b D ca) ad L xs := by
  show va_X (ad 1000000) L xs s s.heap ∧ ad 1000000 < s.heap.size ∧ ¬ (s.heap.size ≤ ad 1000000)
  rw [hb]
  exact ⟨hX, hbl, Nat.not_le.mpr hbl⟩
theorem lw_out {nn : Nat} (X : tt_X tt_cl (lw_K p l e s m below meth c b D ca) code RL ret Ts) (hd : decode code pc = .ok (.ireturn, 1)) {x : Int32} {ρ : Int32 × tt_H} (hs : some (x, h) = some ρ) (hρ : ρ.1 = 1) (hnn : nn ≤ 100000) : tt_T tt_cl (lw_K p l e s m below meth c b D ca) ad nn (5000 + 24 * nn) pc LL [.int x] h := by
  have e1 : (x, h) = ρ := Option.some.inj hs
  have e2 : x = 1 := by rw [← e1] at hρ; exact hρ
  subst e2
  exact tt_widen (k := 600000) (n := 7302250) (by omega) (by omega) (lw_fin X hd)
end LWR
theorem lw_arr {s : State} {A : Array Value} {ty : FieldType} (h : (Cond.arrayClass ty).before A s = true) (hr : ∀ cA, va_RA s cA ty = (s.vm.findClass ("[" ++ ty.toString) = some cA)) : ∃ cA, ArrOfT s cA ty ∧ va_RA s cA ty := by
  obtain ⟨cA, k, comp, h1, h2, h3⟩ := Cond.arrayClass_spec h
  exact ⟨cA, fun n z => ⟨(fun k h => by cases h), k, h2, comp, h3⟩, by rw [hr]; exact h1⟩
theorem lw_arq {s : State} {A : Array Value} {C : String} (h : (Cond.arrayOver (.object C)).before A s = true) : ∃ cA, ArrOfT s cA (.object C) ∧ va_RA s cA (.object C) := by
  obtain ⟨comp, cA, k, h1, -, h3, h4, h5⟩ := Cond.arrayOver_spec h
  exact ⟨cA, fun n z => ⟨(fun k h => by cases h), k, h3, comp, h4⟩, k, comp, h3, h4, h1, h5⟩
theorem in_law_X0 : ∀ w ∈ u_ws RX0 TX0 2, w ∈ lw_tbl := inT_wsX00
theorem in_law_X1 : ∀ w ∈ u_ws RX1 TX1 2, w ∈ lw_tbl := inT_wsX10
theorem in_law_X2 : ∀ w ∈ u_ws RX2 TX2 2, w ∈ lw_tbl := inT_wsX20
theorem in_law_X3 : ∀ w ∈ u_ws RX3 TX3 3, w ∈ lw_tbl := inT_wsX30
theorem in_law_X4 : ∀ w ∈ u_ws RX4 TX4 1, w ∈ lw_tbl := inT_wsX40
theorem in_law_X5 : ∀ w ∈ u_ws RX5 TX5 2, w ∈ lw_tbl := inT_wsX50
theorem in_law_X6 : ∀ w ∈ u_ws RX6 TX6 3, w ∈ lw_tbl := inT_wsX60
theorem in_law_X7 : ∀ w ∈ u_ws RX7 TX7 2, w ∈ lw_tbl := inT_wsX70
theorem in_law_X8 : ∀ w ∈ u_ws RX8 TX8 13, w ∈ lw_tbl := inT_wsX80
theorem lw_known {s : State} {b : Nat} (hts : ∀ w ∈ lw_tbl, w.before #[Value.ref b] s = true) : ∃ (D : va_G) (ca : Nat → ClassId), va_K D tt_cl (tt_tys ca) s := by
  obtain ⟨c0, iS0, hKn0⟩ := u_known (C := RX0) (T := TX0) (N := 2) (n := 2) hts in_law_X0 (hts (.instantiable RX0 2) (by decide +kernel))
  obtain ⟨c1, iS1, hKn1⟩ := u_known (C := RX1) (T := TX1) (N := 2) (n := 2) hts in_law_X1 (hts (.instantiable RX1 2) (by decide +kernel))
  obtain ⟨c2, iS2, hKn2⟩ := u_known (C := RX2) (T := TX2) (N := 2) (n := 2) hts in_law_X2 (hts (.instantiable RX2 2) (by decide +kernel))
  obtain ⟨c3, iS3, hKn3⟩ := u_known (C := RX3) (T := TX3) (N := 3) (n := 3) hts in_law_X3 (hts (.instantiable RX3 3) (by decide +kernel))
  obtain ⟨c4, iS4, hKn4⟩ := u_known (C := RX4) (T := TX4) (N := 1) (n := 1) hts in_law_X4 (hts (.instantiable RX4 1) (by decide +kernel))
  obtain ⟨c5, iS5, hKn5⟩ := u_known (C := RX5) (T := TX5) (N := 2) (n := 2) hts in_law_X5 (hts (.instantiable RX5 2) (by decide +kernel))
  obtain ⟨c6, iS6, hKn6⟩ := u_known (C := RX6) (T := TX6) (N := 3) (n := 3) hts in_law_X6 (hts (.instantiable RX6 3) (by decide +kernel))
  obtain ⟨c7, iS7, hKn7⟩ := u_known (C := RX7) (T := TX7) (N := 2) (n := 2) hts in_law_X7 (hts (.instantiable RX7 2) (by decide +kernel))
  obtain ⟨c8, iS8, hKn8⟩ := u_known (C := RX8) (T := TX8) (N := 13) (n := 13) hts in_law_X8 (hts (.instantiable RX8 13) (by decide +kernel))
  obtain ⟨a0, ha0⟩ := lw_arr (ty := .int) (hts (.arrayClass .int) (by decide +kernel)) (fun _ => rfl)
  obtain ⟨a1, ha1⟩ := lw_arr (ty := .long) (hts (.arrayClass .long) (by decide +kernel)) (fun _ => rfl)
  obtain ⟨a2, ha2⟩ := lw_arr (ty := .boolean) (hts (.arrayClass .boolean) (by decide +kernel)) (fun _ => rfl)
  obtain ⟨a3, ha3⟩ := lw_arq (C := "AddedCries$Cry") (hts (.arrayOver (.object "AddedCries$Cry")) (by decide +kernel))
  obtain ⟨a4, ha4⟩ := lw_arq (C := "AddedCries$Sheet") (hts (.arrayOver (.object "AddedCries$Sheet")) (by decide +kernel))
  refine ⟨(fun k => if k = 0 then c0 else if k = 1 then c1 else if k = 2 then c2 else if k = 3 then c3 else if k = 4 then c4 else if k = 5 then c5 else if k = 6 then c6 else if k = 7 then c7 else c8, fun k => if k = 0 then iS0 else if k = 1 then iS1 else if k = 2 then iS2 else if k = 3 then iS3 else if k = 4 then iS4 else if k = 5 then iS5 else if k = 6 then iS6 else if k = 7 then iS7 else iS8), fun k => if k = 0 then a0 else if k = 1 then a1 else if k = 2 then a2 else if k = 3 then a3 else a4, fun k q hq => ?_, fun k q hq => ?_⟩
  · match k, hq with
    | 0, hq => cases hq; exact hKn0
    | 1, hq => cases hq; exact hKn1
    | 2, hq => cases hq; exact hKn2
    | 3, hq => cases hq; exact hKn3
    | 4, hq => cases hq; exact hKn4
    | 5, hq => cases hq; exact hKn5
    | 6, hq => cases hq; exact hKn6
    | 7, hq => cases hq; exact hKn7
    | 8, hq => cases hq; exact hKn8
    | k + 9, hq => simp [tt_cl] at hq
  · match k, hq with
    | 0, hq => cases hq; exact ha0
    | 1, hq => cases hq; exact ha1
    | 2, hq => cases hq; exact ha2
    | 3, hq => cases hq; exact ha3
    | 4, hq => cases hq; exact ha4
    | k + 5, hq => simp [tt_tys] at hq
theorem lw_E {s : State} {b : Nat} (hts : ∀ w ∈ lw_tbl, w.before #[Value.ref b] s = true) : al_E s := by
  refine ⟨va_AO.of (hts (.arrayOver (.object "AddedCries$Cry")) (by decide +kernel)), va_AO.of (hts (.arrayOver (.object "AddedCries$Sheet")) (by decide +kernel)), fun q hq => ?_⟩
  have hall : ∀ q ∈ al_nests, Cond.methodLinkNest q.1 q.2.1 q.2.2.1 q.2.2.2 ∈ lw_tbl := by decide +kernel
  exact va_Nw.of rfl (hts _ (hall q hq))
