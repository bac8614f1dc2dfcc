/-! THE CLAIM OUT OF ONE WALK OF THE LAW'S BODY. Your part is whole_start (and what it stands on); all else here is the same for every law, but numbers. -/
def R_law : String := "AddedCriesLaw"
def lw_P (b : Addr) (xs : List Int32) (args : Array Value) (s : State) : Prop := args = #[.ref b] ∧ s.IntsAt b xs ∧ xs.length ≤ 3072 ∧ (Jvm.Cond.and given_1 narrow_1).before args s = true
def lw_Q (_ : Array Value) (s : State) (o : Outcome) (t : State) : Prop := o = .returned (some (.int 1)) ∧ Framed s o t [] 600000 7302250
def lw_Z (below : List Frame) (a : Array Value) (s : State) : State → Prop := fun t => ∃ o, t.status = .running ∧ Ended t below o ∧ lw_Q a s o t
/-- the law's own end, with 1 on the stack, nothing written that was there before, its room as the claim has it -/
theorem lw_ret {p : Program} {l : Launch} {e : Env} {s : State} {m : MethodId} {below : List Frame} {meth : Method} {c : Code} {b : Nat} (hx : p.tables.exec = Jvm.exec) (hb : c.code = code) (hr : meth.sig.returnType = ret) (hlocks : meth.locks = false) {pc : Nat} {H : Heap} {ls : Array Slot} (hdg : decode code pc = .ok (.ireturn, 1)) : W p l e room_1 s m #[Value.ref b] below meth c H [] 600000 7302250 (lw_Z below #[Value.ref b] s) (F0 m pc ls [.int 1]) := by
  intro T hT X
  obtain ⟨fs, hret, hrun, hended, hW, hframe⟩ := X.leave (v := some (.int 1)) (hlocks := hlocks) (fun h => by rw [hr] at h; cases h)
  have hmeth' : T.vm.method? m = some meth := X.method'
  refine ⟨T.setFrames fs, ?_, .returned (some (.int 1)), hrun, hended, rfl, ⟨_, rfl⟩, hW, hframe⟩
  jvm_step X.here [X.here.top, hx, hb, hdg, hmeth', hr, ret, narrow_b1]
  (try refine ⟨rfl, ?_⟩); (try refine ⟨rfl, ?_⟩)
  first | (intro acts; rw [hret _ acts rfl rfl rfl]) | rw [hret _ _ rfl rfl rfl]
  exact Steps.refl _
/-- what holds at the law's entry: the machine, the code, the tables' words (any of lw_tbl by 'hts w (by decide +kernel)'), the script of L ints xs at the cell b, what the Statement gives of the start (any of its parts by flat_of_before) -/
def lw_At (p : Program) (s : State) (m : MethodId) (meth : Method) (c : Code) (b L : Nat) (xs : Nat → Int32) : Prop :=
  p.tables.exec = Jvm.exec ∧ c.code = code ∧ meth.sig.returnType = ret ∧ c.maxLocals = 4 ∧ s.vm.findClass R_law = some m.cls ∧ (∀ w ∈ lw_tbl, w.before #[Value.ref b] s = true) ∧ va_X b L xs s s.heap ∧ b < s.heap.size ∧ meth.locks = false ∧ (Jvm.Cond.and given_1 narrow_1).before #[Value.ref b] s = true
/-! THE LAW'S WALK, as rows over the toy heap: the script is place 1000000 -/
abbrev lw_K (p : Program) (l : Launch) (e : Env) (s : State) (m : MethodId) (below : List Frame) (meth : Method) (c : Code) (b : Nat) (D : va_G) (ca : Nat → ClassId) : tt_K := (p, l, e, room_1, s, m, #[Value.ref b], below, meth, c, lw_Z below #[Value.ref b] s, D, ca, (fun q => s.heap.size ≤ q), 4, none)
abbrev lw_Lc (i : Nat) : List (Nat × Value) := [(0, .ref 1000000), (1, .ref 0), (2, .ref 49), (3, .int (nI i))]
theorem lw_obj {h : tt_H} (hI : pp_Inv h) : ∃ fs, gg_obj h 0 8 = some fs := by
  obtain ⟨⟨kn, dc, sz, wd, so, sl, sc, tr, ft⟩, -, ha, -⟩ := hI
  exact ⟨_, pp_obj ha.1.1⟩
section LWR
variable {p : Program} {l : Launch} {e : Env} {s : State} {m : MethodId} {below : List Frame} {meth : Method} {c : Code} {b : Nat} {D : va_G} {ca : Nat → ClassId} {ad : Nat → Nat} {kc ks pc L : Nat} {xs : Nat → Int32} {st : List Value} {h : tt_H} {LL : List (Nat × Value)} {Ts : List Cond}
theorem lw_sld (X : tt_X tt_cl (lw_K p l e s m below meth c b D ca) code RL ret Ts) (hX : va_X b L xs s s.heap) (hbl : b < s.heap.size) (hb : ad 1000000 = b) {i : Int32} (hin : vp_in i L) (hd : decode code pc = .ok (.iaload, 1)) (kk : tt_T tt_cl (lw_K p l e s m below meth c b D ca) ad kc ks (pc + 1) LL (.int (xs i.toNatClampNeg) :: st) h) : tt_T tt_cl (lw_K p l e s m below meth c b D ca) ad kc ks pc LL (.int i :: .ref 1000000 :: st) h := by
  intro n H locs ls hI hl
  show W p l e room_1 s m #[Value.ref b] below meth c H locs kc ks (lw_Z below #[Value.ref b] s) (F0 m pc ls (.int i :: .ref (ad 1000000) :: st.map (tt_v ad)))
  rw [hb]
  exact va_sld X.1 X.2.1 hX hbl (Nat.not_le.mpr hbl) hI.2.2.2.1 hin hd (kk n H locs ls hI hl)
theorem lw_slen (X : tt_X tt_cl (lw_K p l e s m below meth c b D ca) code RL ret Ts) (hX : va_X b L xs s s.heap) (hbl : b < s.heap.size) (hb : ad 1000000 = b) (hd : decode code pc = .ok (.arraylength, 1)) (kk : tt_T tt_cl (lw_K p l e s m below meth c b D ca) ad kc ks (pc + 1) LL (.int (nI L) :: st) h) : tt_T tt_cl (lw_K p l e s m below meth c b D ca) ad kc ks pc LL (.ref 1000000 :: st) h := by
  intro n H locs ls hI hl
  show W p l e room_1 s m #[Value.ref b] below meth c H locs kc ks (lw_Z below #[Value.ref b] s) (F0 m pc ls (.ref (ad 1000000) :: st.map (tt_v ad)))
  rw [hb]
  exact va_slen X.1 X.2.1 hX hbl (Nat.not_le.mpr hbl) hI.2.2.2.1 hd (kk n H locs ls hI hl)
/-- a word of the script, by the loop's number -/
theorem lw_arg {i k pc2 : Nat} {n : Int} (X : tt_X tt_cl (lw_K p l e s m below meth c b D ca) code RL ret Ts) (hX : va_X b L xs s s.heap) (hbl : b < s.heap.size) (hb : ad 1000000 = b) (hL : L ≤ 3072) (hi : i + 6 ≤ L) (hk : k < 6) (d0 : decode code pc = .ok (.aload_n 0, 1)) (d1 : decode code (pc + 1) = .ok (.iload_n 3, 1)) (d2 : decode code (pc + 1 + 1) = .ok (.iconst n, 1)) (hn : Int32.ofInt n = nI k) (d3 : decode code (pc + 1 + 1 + 1) = .ok (.iadd, 1)) (d4 : decode code (pc + 1 + 1 + 1 + 1) = .ok (.iaload, 1)) (hp : pc + 1 + 1 + 1 + 1 + 1 = pc2)
    (kk : tt_T tt_cl (lw_K p l e s m below meth c b D ca) ad kc ks pc2 (lw_Lc i) (.int (xs (i + k)) :: st) h) : tt_T tt_cl (lw_K p l e s m below meth c b D ca) ad kc ks pc (lw_Lc i) st h := by
  subst hp
  refine tt_aload_n X d0 rfl ?_
  refine tt_iload_n X d1 rfl ?_
  refine tt_iconst (v := nI k) X d2 hn ?_
  refine tt_iadd X d3 ?_
  rw [nI_add]
  refine lw_sld X hX hbl hb (vp_in_nI (by omega) (by omega)) d4 ?_
  rw [nI_clamp (by omega)]
  exact kk
/-- a word of the script, as a boolean -/
theorem lw_bool {x : Int32} {o1 o2 : Int} {pc1 pc2 : Nat} (X : tt_X tt_cl (lw_K p l e s m below meth c b D ca) code RL ret Ts) (d0 : decode code pc = .ok (.ifCond .eq o1, 3)) (t1 : (pc : Int) + o1 = (pc1 : Int)) (d1 : decode code (pc + 3) = .ok (.iconst 1, 1)) (d2 : decode code (pc + 3 + 1) = .ok (.goto o2, 3)) (t2 : ((pc + 3 + 1 : Nat) : Int) + o2 = (pc2 : Int)) (d3 : decode code pc1 = .ok (.iconst 0, 1)) (hp : pc1 + 1 = pc2)
    (kk : tt_T tt_cl (lw_K p l e s m below meth c b D ca) ad kc ks pc2 LL (.int (dI (decide (x ≠ 0))) :: st) h) : tt_T tt_cl (lw_K p l e s m below meth c b D ca) ad kc ks pc LL (.int x :: st) h := by
  refine tt_if_eq X d0 t1 (fun q => ?_) (fun q => ?_)
  · refine tt_iconst (v := 0) X d3 (by decide) ?_
    rw [show dI (decide (x ≠ 0)) = 0 from by rw [decide_eq_false (fun z => z q)]; rfl] at kk
    rw [hp]
    exact kk
  · refine tt_iconst (v := 1) X d1 (by decide) ?_
    rw [show dI (decide (x ≠ 0)) = 1 from by rw [decide_eq_true q]; rfl] at kk
    exact tt_goto X d2 t2 kk
theorem lw_tin {K : tt_K} {cc : ByteArray} {own : String} {rr : Option FieldType} (X : tt_X tt_cl K cc own rr Ts) {dflt lo hi : Int} {offs : Array Int} {len : Nat} {x : Int32} {off : Int} {tgt : Nat} (hd : decode cc pc = .ok (.tableswitch dflt lo hi offs, len)) (h1 : ¬ x.toInt < lo) (h2 : ¬ hi < x.toInt) (ho : offs[(x.toInt - lo).toNat]? = some off) (ht : (pc : Int) + off = (tgt : Int)) (kk : tt_T tt_cl K ad kc ks tgt LL st h) : tt_T tt_cl K ad kc ks pc LL (.int x :: st) h := by
  obtain ⟨p, l, e, R, s, m, args, below, meth, c, Q, D, ca, A, nL, nz⟩ := K
  exact fun n H locs ls hI hl => lv_tableIn X.1 X.2.1 hd h1 h2 ho ht (kk n H locs ls hI hl)
theorem lw_tout {K : tt_K} {cc : ByteArray} {own : String} {rr : Option FieldType} (X : tt_X tt_cl K cc own rr Ts) {dflt lo hi : Int} {offs : Array Int} {len : Nat} {x : Int32} {tgt : Nat} (hd : decode cc pc = .ok (.tableswitch dflt lo hi offs, len)) (h1 : x.toInt < lo ∨ hi < x.toInt) (ht : (pc : Int) + dflt = (tgt : Int)) (kk : tt_T tt_cl K ad kc ks tgt LL st h) : tt_T tt_cl K ad kc ks pc LL (.int x :: st) h := by
  obtain ⟨p, l, e, R, s, m, args, below, meth, c, Q, D, ca, A, nL, nz⟩ := K
  exact fun n H locs ls hI hl => lv_tableOut X.1 X.2.1 hd h1 ht (kk n H locs ls hI hl)
/-- the law's end -/
theorem lw_fin (X : tt_X tt_cl (lw_K p l e s m below meth c b D ca) code RL ret Ts) (hd : decode code pc = .ok (.ireturn, 1)) : tt_T tt_cl (lw_K p l e s m below meth c b D ca) ad 600000 7302250 pc LL [.int 1] h := by
  intro n H locs ls hI hl
  exact va_forget (fun q hq => hI.2.2.2.1.2.2 q hq) (lw_ret X.1 X.2.1 X.2.2.2.2.2.1 X.2.2.2.2.2.2.1 hd)
end LWR
