/-! THE TOY HEAP: places (numbers) instead of addresses. A cell at a place is an object (class number, values) or an array (type number, contents); a reference is the number of a place. 'ad' gives each place its address, 'ca' each array type its class. -/
abbrev tt_E : Type := (Nat × vp_A) ⊕ (Nat × List Value)
abbrev tt_H : Type := Nat → Option tt_E
abbrev tt_ia (N : Nat) (f : Nat → Int32) : tt_E := .inl (0, (N, .inl f))
abbrev tt_ja (N : Nat) (f : Nat → Int64) : tt_E := .inl (1, (N, .inr (.inl f)))
abbrev tt_za (N : Nat) (f : Nat → Int32) : tt_E := .inl (2, (N, .inl f))
abbrev tt_qa (t N : Nat) (f : Nat → Option Nat) : tt_E := .inl (t, (N, .inr (.inr (.inr (.inr f)))))
abbrev tt_ob (ci : Nat) (fs : List Value) : tt_E := .inr (ci, fs)
def tt_tyl : List FieldType := [.int, .long, .boolean, .object "AddedCries$Cry", .object "AddedCries$Sheet"]
def tt_tys (ca : Nat → ClassId) : List (ClassId × FieldType) := [(ca 0, .int), (ca 1, .long), (ca 2, .boolean), (ca 3, .object "AddedCries$Cry"), (ca 4, .object "AddedCries$Sheet")]
def tt_v (ad : Nat → Nat) (v : Value) : Value := match v with
  | .ref i => .ref (ad i)
  | w => w
def tt_a (ad : Nat → Nat) (a : vp_A) : vp_A := match a with
  | (n, .inr (.inr (.inr (.inr f)))) => (n, .inr (.inr (.inr (.inr (fun j => (f j).map ad)))))
  | b => b
def tt_e (ca ad : Nat → Nat) (e : tt_E) : va_E := match e with
  | .inl (t, a) => .inl (ca t, tt_a ad a)
  | .inr (ci, fs) => .inr (ci, fs.map (tt_v ad))
def tt_w (ca ad : Nat → Nat) (n : Nat) (h : tt_H) : va_W := (List.range n).map (fun i => (ad i, tt_e ca ad ((h i).getD (.inr (0, [])))))
def tt_wf (n : Nat) (h : tt_H) : Prop := ∀ i, i < n ↔ (h i).isSome = true
def tt_A (ad : Nat → Nat) (n sz : Nat) : Nat → Prop := fun q => (∃ i, i < n ∧ q = ad i) ∨ sz ≤ q
theorem tt_v_cat (ad : Nat → Nat) (v : Value) : (tt_v ad v).category = v.category := by cases v <;> rfl
theorem tt_cats (ad : Nat → Nat) (st : List Value) : ((st.map (tt_v ad)).map fun v => v.category) = st.map fun v => v.category := by
  rw [List.map_map]
  exact List.map_congr_left (fun v _ => tt_v_cat ad v)
theorem tt_lt {n : Nat} {h : tt_H} (hw : tt_wf n h) {i : Nat} {e : tt_E} (hi : h i = some e) : i < n := (hw i).mpr (by rw [hi]; rfl)
theorem tt_w_len (ca ad : Nat → Nat) (n : Nat) (h : tt_H) : (tt_w ca ad n h).length = n := by simp [tt_w]
theorem tt_w_at (ca ad : Nat → Nat) (n : Nat) (h : tt_H) (i : Nat) : (tt_w ca ad n h)[i]? = if i < n then some (ad i, tt_e ca ad ((h i).getD (.inr (0, [])))) else none := by
  unfold tt_w
  rw [List.getElem?_map]
  by_cases hi : i < n
  · rw [if_pos hi, List.getElem?_range hi]; rfl
  · rw [if_neg hi, List.getElem?_eq_none (by simp; omega)]; rfl
theorem tt_w_get {ca ad : Nat → Nat} {n : Nat} {h : tt_H} (hw : tt_wf n h) {i : Nat} {e : tt_E} (hi : h i = some e) : (tt_w ca ad n h)[i]? = some (ad i, tt_e ca ad e) := by
  rw [tt_w_at, if_pos (tt_lt hw hi), hi]; rfl
theorem tt_w_set {ca ad : Nat → Nat} {n : Nat} {h : tt_H} (hw : tt_wf n h) {i : Nat} {e0 e : tt_E} (hi : h i = some e0) : (tt_w ca ad n h).set i (ad i, tt_e ca ad e) = tt_w ca ad n (va_up h i (some e)) := by
  apply List.ext_getElem?
  intro j
  have hl : i < (tt_w ca ad n h).length := by rw [tt_w_len]; exact tt_lt hw hi
  by_cases hj : i = j
  · subst hj
    rw [List.getElem?_set_self hl, tt_w_at, if_pos (tt_lt hw hi), va_up_self]; rfl
  · rw [List.getElem?_set_ne hj, tt_w_at, tt_w_at, va_up_ne _ _ (Ne.symm hj)]
theorem tt_wf_set {n : Nat} {h : tt_H} (hw : tt_wf n h) {i : Nat} {e0 e : tt_E} (hi : h i = some e0) : tt_wf n (va_up h i (some e)) := by
  intro j
  by_cases hj : j = i
  · subst hj
    rw [va_up_self]
    exact ⟨fun _ => rfl, fun _ => tt_lt hw hi⟩
  · rw [va_up_ne _ _ hj]; exact hw j
/-! a place's cells speak of places below n alone: then more addresses change nothing -/
def tt_okv (n : Nat) (v : Value) : Prop := match v with
  | .ref i => i < n
  | _ => True
def tt_oka (n : Nat) (a : vp_A) : Prop := match a with
  | (_, .inr (.inr (.inr (.inr f)))) => ∀ j i, f j = some i → i < n
  | _ => True
def tt_oke (n : Nat) (e : tt_E) : Prop := match e with
  | .inl (_, a) => tt_oka n a
  | .inr (_, fs) => ∀ v ∈ fs, tt_okv n v
def tt_okh (n : Nat) (h : tt_H) : Prop := ∀ i e, h i = some e → tt_oke n e
theorem tt_v_eq {ad ad' : Nat → Nat} {n : Nat} (ha : ∀ i, i < n → ad' i = ad i) {v : Value} (hv : tt_okv n v) : tt_v ad' v = tt_v ad v := by
  cases v <;> first | rfl | exact congrArg Value.ref (ha _ hv)
theorem tt_vs_eq {ad ad' : Nat → Nat} {n : Nat} (ha : ∀ i, i < n → ad' i = ad i) {vs : List Value} (hv : ∀ v ∈ vs, tt_okv n v) : vs.map (tt_v ad') = vs.map (tt_v ad) :=
  List.map_congr_left (fun v h => tt_v_eq ha (hv v h))
theorem tt_a_eq {ad ad' : Nat → Nat} {n : Nat} (ha : ∀ i, i < n → ad' i = ad i) {a : vp_A} (hv : tt_oka n a) : tt_a ad' a = tt_a ad a := by
  obtain ⟨k, f | f | f | f | f⟩ := a <;> try rfl
  show (k, _) = (k, _)
  congr 5
  funext j
  cases hf : f j with
  | none => rfl
  | some i => exact congrArg some (ha i (hv j i hf))
theorem tt_e_eq {ca ad ad' : Nat → Nat} {n : Nat} (ha : ∀ i, i < n → ad' i = ad i) {e : tt_E} (hv : tt_oke n e) : tt_e ca ad' e = tt_e ca ad e := by
  obtain ⟨t, a⟩ | ⟨ci, fs⟩ := e
  · show Sum.inl (ca t, _) = Sum.inl (ca t, _)
    rw [tt_a_eq ha hv]
  · show Sum.inr (ci, _) = Sum.inr (ci, _)
    rw [tt_vs_eq ha hv]
theorem tt_w_eq {ca ad ad' : Nat → Nat} {n : Nat} {h : tt_H} (hw : tt_wf n h) (ho : tt_okh n h) (ha : ∀ i, i < n → ad' i = ad i) : tt_w ca ad' n h = tt_w ca ad n h := by
  apply List.ext_getElem?
  intro i
  rw [tt_w_at, tt_w_at]
  by_cases hi : i < n
  · rw [if_pos hi, if_pos hi, ha i hi]
    obtain ⟨e, he⟩ := Option.isSome_iff_exists.mp ((hw i).mp hi)
    rw [he]
    show some (_, tt_e ca ad' e) = some (_, tt_e ca ad e)
    rw [tt_e_eq ha (ho i e he)]
  · rw [if_neg hi, if_neg hi]
theorem tt_wf_new {n : Nat} {h : tt_H} (hw : tt_wf n h) (e : tt_E) : tt_wf (n + 1) (va_up h n (some e)) := by
  intro j
  by_cases hj : j = n
  · subst hj
    rw [va_up_self]
    exact ⟨fun _ => rfl, fun _ => Nat.lt_succ_self _⟩
  · rw [va_up_ne _ _ hj, ← hw j]; omega
theorem tt_w_new {ca ad : Nat → Nat} {n : Nat} {h : tt_H} (hw : tt_wf n h) (ho : tt_okh n h) {e : tt_E} (he : tt_oke n e) (q : Nat) : tt_w ca (va_up ad n q) (n + 1) (va_up h n (some e)) = tt_w ca ad n h ++ [(q, tt_e ca ad e)] := by
  apply List.ext_getElem?
  intro i
  have hag : ∀ i, i < n → va_up ad n q i = ad i := fun i hi => va_up_ne _ _ (by omega)
  rw [tt_w_at]
  by_cases hi : i < n
  · rw [if_pos (by omega), List.getElem?_append_left (by rw [tt_w_len]; exact hi), tt_w_at, if_pos hi, hag i hi, va_up_ne _ _ (by omega)]
    obtain ⟨e1, he1⟩ := Option.isSome_iff_exists.mp ((hw i).mp hi)
    rw [he1]
    show some (_, tt_e ca _ e1) = some (_, tt_e ca ad e1)
    rw [tt_e_eq hag (ho i e1 he1)]
  · rw [List.getElem?_append_right (by rw [tt_w_len]; omega), tt_w_len]
    by_cases hin : i = n
    · subst hin
      rw [if_pos (by omega), Nat.sub_self, va_up_self, va_up_self]
      show some (q, tt_e ca _ e) = some (q, tt_e ca ad e)
      rw [tt_e_eq hag he]
    · rw [if_neg (by omega), List.getElem?_eq_none (by simp; omega)]
/-! THE LOCALS: a list by their numbers, in order -/
def tt_ins (i : Nat) (v : Value) : List (Nat × Value) → List (Nat × Value)
  | [] => [(i, v)]
  | q :: r => match Nat.decLt i q.1 with
    | isTrue _ => (i, v) :: q :: r
    | isFalse _ => q :: tt_ins i v r
def tt_cl1 (i : Nat) : List (Nat × Value) → List (Nat × Value)
  | [] => []
  | q :: r => if (!(q.1 == i) && !(q.1 + 1 == i && q.2.category == 2)) = true then q :: tt_cl1 i r else tt_cl1 i r
def tt_cl2 (i : Nat) : List (Nat × Value) → List (Nat × Value)
  | [] => []
  | q :: r => if (!(q.1 == i) && (!(q.1 == i + 1) && !(q.1 + 1 == i && q.2.category == 2))) = true then q :: tt_cl2 i r else tt_cl2 i r
def tt_put (i : Nat) (v : Value) (L : List (Nat × Value)) : List (Nat × Value) := tt_ins i v (tt_cl1 i L)
def tt_put2 (i : Nat) (v : Value) (L : List (Nat × Value)) : List (Nat × Value) := tt_ins i v (tt_cl2 i L)
theorem tt_ins_mem {i : Nat} {v : Value} : ∀ {L : List (Nat × Value)} {q : Nat × Value}, q ∈ tt_ins i v L → q = (i, v) ∨ q ∈ L
  | [], q, h => Or.inl (List.mem_singleton.mp h)
  | a :: r, q, h => by
    unfold tt_ins at h
    cases hd : Nat.decLt i a.1 with
    | isTrue _ =>
      rw [hd] at h
      rcases List.mem_cons.mp h with h | h
      · exact Or.inl h
      · exact Or.inr h
    | isFalse _ =>
      rw [hd] at h
      rcases List.mem_cons.mp h with h | h
      · exact Or.inr (by rw [h]; exact List.mem_cons_self)
      · rcases tt_ins_mem h with h | h
        · exact Or.inl h
        · exact Or.inr (List.mem_cons_of_mem _ h)
theorem tt_cl1_mem {i : Nat} : ∀ {L : List (Nat × Value)} {q : Nat × Value}, q ∈ tt_cl1 i L → q ∈ L.filter (fun q => !(q.1 == i) && !(q.1 + 1 == i && q.2.category == 2))
  | [], q, h => h
  | a :: r, q, h => by
    unfold tt_cl1 at h
    by_cases hc : (!(a.1 == i) && !(a.1 + 1 == i && a.2.category == 2)) = true
    · rw [if_pos hc] at h
      rw [List.filter_cons_of_pos (by exact hc)]
      rcases List.mem_cons.mp h with h | h
      · rw [h]; exact List.mem_cons_self
      · exact List.mem_cons_of_mem _ (tt_cl1_mem h)
    · rw [if_neg hc] at h
      rw [List.filter_cons_of_neg (by exact hc)]
      exact tt_cl1_mem h
theorem tt_cl2_mem {i : Nat} : ∀ {L : List (Nat × Value)} {q : Nat × Value}, q ∈ tt_cl2 i L → q ∈ L.filter (fun q => !(q.1 == i) && (!(q.1 == i + 1) && !(q.1 + 1 == i && q.2.category == 2)))
  | [], q, h => h
  | a :: r, q, h => by
    unfold tt_cl2 at h
    by_cases hc : (!(a.1 == i) && (!(a.1 == i + 1) && !(a.1 + 1 == i && a.2.category == 2))) = true
    · rw [if_pos hc] at h
      rw [List.filter_cons_of_pos (by exact hc)]
      rcases List.mem_cons.mp h with h | h
      · rw [h]; exact List.mem_cons_self
      · exact List.mem_cons_of_mem _ (tt_cl2_mem h)
    · rw [if_neg hc] at h
      rw [List.filter_cons_of_neg (by exact hc)]
      exact tt_cl2_mem h
def tt_m (ad : Nat → Nat) (L : List (Nat × Value)) : List (Nat × Value) := L.map (fun q => (q.1, tt_v ad q.2))
theorem tt_look {ls : Array Slot} {nL : Nat} {ad : Nat → Nat} {L : List (Nat × Value)} (h : lv_has ls nL (tt_m ad L)) {i : Nat} {v : Value} (hl : L.lookup i = some v) : ls[i]? = some (.val (tt_v ad v)) := by
  refine h.2.2 (i, tt_v ad v) (List.mem_map.mpr ⟨(i, v), ?_, rfl⟩)
  clear h
  induction L with
  | nil => cases hl
  | cons a r ih =>
    obtain ⟨k, w⟩ := a
    by_cases hk : i == k
    · rw [List.lookup_cons] at hl
      rw [hk] at hl
      cases hl
      rw [beq_iff_eq.mp hk]
      exact List.mem_cons_self
    · rw [List.lookup_cons] at hl
      simp only [hk] at hl
      exact List.mem_cons_of_mem _ (ih hl)
theorem tt_st1 {ls : Array Slot} {nL : Nat} {ad : Nat → Nat} {L : List (Nat × Value)} {i : Nat} {v : Value} (h : lv_has ls nL ((i, tt_v ad v) :: (tt_m ad L).filter (fun q => !(q.1 == i) && !(q.1 + 1 == i && q.2.category == 2)))) : lv_has ls nL (tt_m ad (tt_put i v L)) := by
  refine ⟨h.1, h.2.1, fun q hq => h.2.2 q ?_⟩
  obtain ⟨q0, h0, rfl⟩ := List.mem_map.mp hq
  rcases tt_ins_mem h0 with h0 | h0
  · subst h0; exact List.mem_cons_self
  · refine List.mem_cons_of_mem _ (List.mem_filter.mpr ?_)
    obtain ⟨m1, m2⟩ := List.mem_filter.mp (tt_cl1_mem h0)
    exact ⟨List.mem_map.mpr ⟨q0, m1, rfl⟩, by rw [tt_v_cat]; exact m2⟩
theorem tt_st2 {ls : Array Slot} {nL : Nat} {ad : Nat → Nat} {L : List (Nat × Value)} {i : Nat} {v : Value} (h : lv_has ls nL ((i, tt_v ad v) :: (tt_m ad L).filter (fun q => !(q.1 == i) && (!(q.1 == i + 1) && !(q.1 + 1 == i && q.2.category == 2))))) : lv_has ls nL (tt_m ad (tt_put2 i v L)) := by
  refine ⟨h.1, h.2.1, fun q hq => h.2.2 q ?_⟩
  obtain ⟨q0, h0, rfl⟩ := List.mem_map.mp hq
  rcases tt_ins_mem h0 with h0 | h0
  · subst h0; exact List.mem_cons_self
  · refine List.mem_cons_of_mem _ (List.mem_filter.mpr ?_)
    obtain ⟨m1, m2⟩ := List.mem_filter.mp (tt_cl2_mem h0)
    exact ⟨List.mem_map.mpr ⟨q0, m1, rfl⟩, by rw [tt_v_cat]; exact m2⟩
def tt_args : Nat → List Value → List (Nat × Value)
  | _, [] => []
  | i, v :: vs => (i, v) :: tt_args (if v.category = 2 then i + 2 else i + 1) vs
theorem tt_args_m (ad : Nat → Nat) : ∀ (vs : List Value) (i : Nat), lv_args i (vs.map (tt_v ad)) = tt_m ad (tt_args i vs)
  | [], _ => rfl
  | v :: vs, i => by
    show (i, tt_v ad v) :: lv_args _ (vs.map (tt_v ad)) = (i, tt_v ad v) :: tt_m ad (tt_args _ vs)
    rw [tt_v_cat, tt_args_m ad vs]
/-! THE JUDGEMENT. K: the machine around (program, launch, environment, room, the state at entry, method, arguments, frames below, the method's row, its code, what is wanted, the classes, the array classes, what may be written, how many locals) -/
abbrev tt_K : Type := Program × Launch × Env × Room × State × MethodId × Array Value × List Frame × Method × Code × (State → Prop) × va_G × (Nat → ClassId) × (Nat → Prop) × Nat × Option Nat
def tt_nk (nz : Option Nat) (n : Nat) : Prop := match nz with
  | some n0 => n = n0
  | none => True
def tt_I (cl : List vw_C) (K : tt_K) (ad : Nat → Nat) (n : Nat) (h : tt_H) (H : Heap) (locs : List Loc) : Prop := match K with
  | (_, _, _, _, s, _, _, _, _, _, _, D, ca, A, _, nz) => tt_wf n h ∧ va_P D cl (tt_w ca ad n h) H ∧ va_D A (tt_w ca ad n h) ∧ va_S A s.heap H locs ∧ tt_nk nz n
def tt_T (cl : List vw_C) (K : tt_K) (ad : Nat → Nat) (kc ks pc : Nat) (L : List (Nat × Value)) (st : List Value) (h : tt_H) : Prop := match K with
  | (p, l, e, R, s, m, args, below, meth, c, Q, D, ca, A, nL, nz) => ∀ (n : Nat) (H : Heap) (locs : List Loc) (ls : Array Slot), tt_I cl (p, l, e, R, s, m, args, below, meth, c, Q, D, ca, A, nL, nz) ad n h H locs → lv_has ls nL (tt_m ad L) → W p l e R s m args below meth c H locs kc ks Q (F0 m pc ls (st.map (tt_v ad)))
/-- what is known of the machine around -/
def tt_X (cl : List vw_C) (K : tt_K) (cc : ByteArray) (own : String) (ret : Option FieldType) (Ts : List Cond) : Prop := match K with
  | (p, _, _, _, s, m, args, _, meth, c, _, D, ca, A, nL, _) => p.tables.exec = Jvm.exec ∧ c.code = cc ∧ c.maxLocals = nL ∧ s.vm.findClass own = some m.cls ∧ (∀ w ∈ Ts, w.before args s = true) ∧ meth.sig.returnType = ret ∧ meth.locks = false ∧ va_K D cl (tt_tys ca) s ∧ (∀ q : Nat, s.heap.size ≤ q → A q)
def tt_nL (K : tt_K) : Nat := match K with
  | (_, _, _, _, _, _, _, _, _, _, _, _, _, _, nL, _) => nL
def tt_mn (K : tt_K) : String := match K with
  | (_, _, _, _, _, _, _, _, meth, _, _, _, _, _, _, _) => meth.name
def tt_R (K : tt_K) : Room := match K with
  | (_, _, _, R, _, _, _, _, _, _, _, _, _, _, _, _) => R
section TTR
variable {cl : List vw_C} {K : tt_K} {ad : Nat → Nat} {kc ks pc : Nat} {L : List (Nat × Value)} {st : List Value} {h : tt_H} {cc : ByteArray} {own : String} {ret : Option FieldType} {Ts : List Cond}
theorem tt_iconst (X : tt_X cl K cc own ret Ts) {n : Int} {v : Int32} (hd : decode cc pc = .ok (.iconst n, 1)) (hv : Int32.ofInt n = v) (kk : tt_T cl K ad kc ks (pc + 1) L (.int v :: st) h) : tt_T cl K ad kc ks pc L st h := by
  obtain ⟨p, l, e, R, s, m, args, below, meth, c, Q, D, ca, A, nL, nz⟩ := K
  exact fun n H locs ls hI hl => lv_iconst X.1 X.2.1 hd hv (kk n H locs ls hI hl)
theorem tt_bipush (X : tt_X cl K cc own ret Ts) {n : Int} {v : Int32} (hd : decode cc pc = .ok (.bipush n, 2)) (hv : (Int8.ofInt n).toInt32 = v) (kk : tt_T cl K ad kc ks (pc + 2) L (.int v :: st) h) : tt_T cl K ad kc ks pc L st h := by
  obtain ⟨p, l, e, R, s, m, args, below, meth, c, Q, D, ca, A, nL, nz⟩ := K
  exact fun n H locs ls hI hl => lv_bipush X.1 X.2.1 hd hv (kk n H locs ls hI hl)
theorem tt_sipush (X : tt_X cl K cc own ret Ts) {n : Int} {v : Int32} (hd : decode cc pc = .ok (.sipush n, 3)) (hv : (Int16.ofInt n).toInt32 = v) (kk : tt_T cl K ad kc ks (pc + 3) L (.int v :: st) h) : tt_T cl K ad kc ks pc L st h := by
  obtain ⟨p, l, e, R, s, m, args, below, meth, c, Q, D, ca, A, nL, nz⟩ := K
  exact fun n H locs ls hI hl => lv_sipush X.1 X.2.1 hd hv (kk n H locs ls hI hl)
theorem tt_lconst (X : tt_X cl K cc own ret Ts) {n : Fin 2} {v : Int64} (hd : decode cc pc = .ok (.lconst n, 1)) (hv : Int64.ofNat (n : Nat) = v) (kk : tt_T cl K ad kc ks (pc + 1) L (.long v :: st) h) : tt_T cl K ad kc ks pc L st h := by
  obtain ⟨p, l, e, R, s, m, args, below, meth, c, Q, D, ca, A, nL, nz⟩ := K
  exact fun n H locs ls hI hl => lv_lconst X.1 X.2.1 hd hv (kk n H locs ls hI hl)
theorem tt_ldc2 (X : tt_X cl K cc own ret Ts) {index : Nat} {v : Int64} (hcn : Jvm.Cond.constantLong own index v ∈ Ts) (hd : decode cc pc = .ok (.ldc2_w index, 3)) (kk : tt_T cl K ad kc ks (pc + 3) L (.long v :: st) h) : tt_T cl K ad kc ks pc L st h := by
  obtain ⟨p, l, e, R, s, m, args, below, meth, c, Q, D, ca, A, nL, nz⟩ := K
  exact fun n H locs ls hI hl => lv_ldc2 X.1 X.2.1 X.2.2.2.1 (X.2.2.2.2.1 _ hcn) hd (kk n H locs ls hI hl)
theorem tt_iload_n (X : tt_X cl K cc own ret Ts) {k : Fin 4} {x : Int32} (hd : decode cc pc = .ok (.iload_n k, 1)) (hl : L.lookup (k : Nat) = some (.int x)) (kk : tt_T cl K ad kc ks (pc + 1) L (.int x :: st) h) : tt_T cl K ad kc ks pc L st h := by
  obtain ⟨p, l, e, R, s, m, args, below, meth, c, Q, D, ca, A, nL, nz⟩ := K
  exact fun n H locs ls hI hv => lv_iload_n X.1 X.2.1 hd rfl (tt_look hv hl) (kk n H locs ls hI hv)
theorem tt_iload (X : tt_X cl K cc own ret Ts) {i : Nat} {x : Int32} (hd : decode cc pc = .ok (.iload i, 2)) (hl : L.lookup i = some (.int x)) (kk : tt_T cl K ad kc ks (pc + 2) L (.int x :: st) h) : tt_T cl K ad kc ks pc L st h := by
  obtain ⟨p, l, e, R, s, m, args, below, meth, c, Q, D, ca, A, nL, nz⟩ := K
  exact fun n H locs ls hI hv => lv_iload X.1 X.2.1 hd (tt_look hv hl) (kk n H locs ls hI hv)
theorem tt_lload_n (X : tt_X cl K cc own ret Ts) {k : Fin 4} {x : Int64} (hd : decode cc pc = .ok (.lload_n k, 1)) (hl : L.lookup (k : Nat) = some (.long x)) (kk : tt_T cl K ad kc ks (pc + 1) L (.long x :: st) h) : tt_T cl K ad kc ks pc L st h := by
  obtain ⟨p, l, e, R, s, m, args, below, meth, c, Q, D, ca, A, nL, nz⟩ := K
  exact fun n H locs ls hI hv => lv_lload_n X.1 X.2.1 hd rfl (tt_look hv hl) (kk n H locs ls hI hv)
theorem tt_lload (X : tt_X cl K cc own ret Ts) {i : Nat} {x : Int64} (hd : decode cc pc = .ok (.lload i, 2)) (hl : L.lookup i = some (.long x)) (kk : tt_T cl K ad kc ks (pc + 2) L (.long x :: st) h) : tt_T cl K ad kc ks pc L st h := by
  obtain ⟨p, l, e, R, s, m, args, below, meth, c, Q, D, ca, A, nL, nz⟩ := K
  exact fun n H locs ls hI hv => lv_lload X.1 X.2.1 hd (tt_look hv hl) (kk n H locs ls hI hv)
theorem tt_aload_n (X : tt_X cl K cc own ret Ts) {k : Fin 4} {x : Nat} (hd : decode cc pc = .ok (.aload_n k, 1)) (hl : L.lookup (k : Nat) = some (.ref x)) (kk : tt_T cl K ad kc ks (pc + 1) L (.ref x :: st) h) : tt_T cl K ad kc ks pc L st h := by
  obtain ⟨p, l, e, R, s, m, args, below, meth, c, Q, D, ca, A, nL, nz⟩ := K
  exact fun n H locs ls hI hv => lv_aload_n X.1 X.2.1 hd rfl (tt_look hv hl) (kk n H locs ls hI hv)
theorem tt_aload (X : tt_X cl K cc own ret Ts) {i : Nat} {x : Nat} (hd : decode cc pc = .ok (.aload i, 2)) (hl : L.lookup i = some (.ref x)) (kk : tt_T cl K ad kc ks (pc + 2) L (.ref x :: st) h) : tt_T cl K ad kc ks pc L st h := by
  obtain ⟨p, l, e, R, s, m, args, below, meth, c, Q, D, ca, A, nL, nz⟩ := K
  exact fun n H locs ls hI hv => lv_aload X.1 X.2.1 hd (tt_look hv hl) (kk n H locs ls hI hv)
theorem tt_look_at {ad : Nat → Nat} {L : List (Nat × Value)} {i : Nat} {v : Value} (hl : L.lookup i = some v) : ∃ k : Nat, (tt_m ad L)[k]? = some (i, tt_v ad v) := by
  refine List.getElem?_of_mem (List.mem_map.mpr ⟨(i, v), ?_, rfl⟩)
  induction L with
  | nil => cases hl
  | cons a r ih =>
    obtain ⟨k, w⟩ := a
    by_cases hk : i == k
    · rw [List.lookup_cons] at hl
      rw [hk] at hl
      cases hl
      rw [beq_iff_eq.mp hk]
      exact List.mem_cons_self
    · rw [List.lookup_cons] at hl
      simp only [hk] at hl
      exact List.mem_cons_of_mem _ (ih hl)
theorem tt_tys_at (ca : Nat → ClassId) {t : Nat} {ty : FieldType} (ht : tt_tyl[t]? = some ty) : (tt_tys ca)[t]? = some (ca t, ty) := by
  match t, ht with
  | 0, ht => cases ht; rfl
  | 1, ht => cases ht; rfl
  | 2, ht => cases ht; rfl
  | 3, ht => cases ht; rfl
  | 4, ht => cases ht; rfl
  | t + 5, ht => simp [tt_tyl] at ht
theorem tt_istore_n (X : tt_X cl K cc own ret Ts) {k : Fin 4} {x : Int32} (hd : decode cc pc = .ok (.istore_n k, 1)) (hn : (k : Nat) < tt_nL K) (kk : tt_T cl K ad kc ks (pc + 1) (tt_put (k : Nat) (.int x) L) st h) : tt_T cl K ad kc ks pc L (.int x :: st) h := by
  obtain ⟨p, l, e, R, s, m, args, below, meth, c, Q, D, ca, A, nL, nz⟩ := K
  exact fun n H locs ls hI hv => lv_istore_n X.1 X.2.1 hd rfl hv hn rfl (fun ls' hv' => kk n H locs ls' hI (tt_st1 (v := .int x) hv'))
theorem tt_istore (X : tt_X cl K cc own ret Ts) {i : Nat} {x : Int32} (hd : decode cc pc = .ok (.istore i, 2)) (hn : i < tt_nL K) (kk : tt_T cl K ad kc ks (pc + 2) (tt_put i (.int x) L) st h) : tt_T cl K ad kc ks pc L (.int x :: st) h := by
  obtain ⟨p, l, e, R, s, m, args, below, meth, c, Q, D, ca, A, nL, nz⟩ := K
  exact fun n H locs ls hI hv => lv_istore X.1 X.2.1 hd hv hn rfl (fun ls' hv' => kk n H locs ls' hI (tt_st1 (v := .int x) hv'))
theorem tt_lstore_n (X : tt_X cl K cc own ret Ts) {k : Fin 4} {x : Int64} (hd : decode cc pc = .ok (.lstore_n k, 1)) (hn : (k : Nat) + 1 < tt_nL K) (kk : tt_T cl K ad kc ks (pc + 1) (tt_put2 (k : Nat) (.long x) L) st h) : tt_T cl K ad kc ks pc L (.long x :: st) h := by
  obtain ⟨p, l, e, R, s, m, args, below, meth, c, Q, D, ca, A, nL, nz⟩ := K
  exact fun n H locs ls hI hv => lv_lstore_n X.1 X.2.1 hd rfl hv hn rfl (fun ls' hv' => kk n H locs ls' hI (tt_st2 (v := .long x) hv'))
theorem tt_lstore (X : tt_X cl K cc own ret Ts) {i : Nat} {x : Int64} (hd : decode cc pc = .ok (.lstore i, 2)) (hn : i + 1 < tt_nL K) (kk : tt_T cl K ad kc ks (pc + 2) (tt_put2 i (.long x) L) st h) : tt_T cl K ad kc ks pc L (.long x :: st) h := by
  obtain ⟨p, l, e, R, s, m, args, below, meth, c, Q, D, ca, A, nL, nz⟩ := K
  exact fun n H locs ls hI hv => lv_lstore X.1 X.2.1 hd hv hn rfl (fun ls' hv' => kk n H locs ls' hI (tt_st2 (v := .long x) hv'))
theorem tt_astore_n (X : tt_X cl K cc own ret Ts) {k : Fin 4} {x : Nat} (hd : decode cc pc = .ok (.astore_n k, 1)) (hn : (k : Nat) < tt_nL K) (kk : tt_T cl K ad kc ks (pc + 1) (tt_put (k : Nat) (.ref x) L) st h) : tt_T cl K ad kc ks pc L (.ref x :: st) h := by
  obtain ⟨p, l, e, R, s, m, args, below, meth, c, Q, D, ca, A, nL, nz⟩ := K
  exact fun n H locs ls hI hv => lv_astore_n X.1 X.2.1 hd rfl hv hn rfl (fun ls' hv' => kk n H locs ls' hI (tt_st1 (v := .ref x) hv'))
theorem tt_astore (X : tt_X cl K cc own ret Ts) {i : Nat} {x : Nat} (hd : decode cc pc = .ok (.astore i, 2)) (hn : i < tt_nL K) (kk : tt_T cl K ad kc ks (pc + 2) (tt_put i (.ref x) L) st h) : tt_T cl K ad kc ks pc L (.ref x :: st) h := by
  obtain ⟨p, l, e, R, s, m, args, below, meth, c, Q, D, ca, A, nL, nz⟩ := K
  exact fun n H locs ls hI hv => lv_astore X.1 X.2.1 hd hv hn rfl (fun ls' hv' => kk n H locs ls' hI (tt_st1 (v := .ref x) hv'))
theorem tt_iinc (X : tt_X cl K cc own ret Ts) {i : Nat} {n : Int} {x v : Int32} (hd : decode cc pc = .ok (.iinc i n, 3)) (hl : L.lookup i = some (.int x)) (hz : x + Int32.ofInt n = v) (hn : i < tt_nL K) (kk : tt_T cl K ad kc ks (pc + 3) (tt_put i (.int v) L) st h) : tt_T cl K ad kc ks pc L st h := by
  obtain ⟨p, l, e, R, s, m, args, below, meth, c, Q, D, ca, A, nL, nz⟩ := K
  intro n0 H locs ls hI hv
  obtain ⟨k, hk⟩ := tt_look_at (ad := ad) hl
  exact lv_iinc X.1 X.2.1 hd hv hk hz hn rfl (fun ls' hv' => kk n0 H locs ls' hI (tt_st1 (v := .int v) hv'))
theorem tt_iadd (X : tt_X cl K cc own ret Ts) {x y : Int32} (hd : decode cc pc = .ok (.iadd, 1)) (kk : tt_T cl K ad kc ks (pc + 1) L (.int (x + y) :: st) h) : tt_T cl K ad kc ks pc L (.int y :: .int x :: st) h := by
  obtain ⟨p, l, e, R, s, m, args, below, meth, c, Q, D, ca, A, nL, nz⟩ := K
  exact fun n H locs ls hI hv => lv_iadd X.1 X.2.1 hd (kk n H locs ls hI hv)
theorem tt_isub (X : tt_X cl K cc own ret Ts) {x y : Int32} (hd : decode cc pc = .ok (.isub, 1)) (kk : tt_T cl K ad kc ks (pc + 1) L (.int (x - y) :: st) h) : tt_T cl K ad kc ks pc L (.int y :: .int x :: st) h := by
  obtain ⟨p, l, e, R, s, m, args, below, meth, c, Q, D, ca, A, nL, nz⟩ := K
  exact fun n H locs ls hI hv => lv_isub X.1 X.2.1 hd (kk n H locs ls hI hv)
theorem tt_imul (X : tt_X cl K cc own ret Ts) {x y : Int32} (hd : decode cc pc = .ok (.imul, 1)) (kk : tt_T cl K ad kc ks (pc + 1) L (.int (x * y) :: st) h) : tt_T cl K ad kc ks pc L (.int y :: .int x :: st) h := by
  obtain ⟨p, l, e, R, s, m, args, below, meth, c, Q, D, ca, A, nL, nz⟩ := K
  exact fun n H locs ls hI hv => lv_imul X.1 X.2.1 hd (kk n H locs ls hI hv)
theorem tt_iand (X : tt_X cl K cc own ret Ts) {x y : Int32} (hd : decode cc pc = .ok (.iand, 1)) (kk : tt_T cl K ad kc ks (pc + 1) L (.int (x &&& y) :: st) h) : tt_T cl K ad kc ks pc L (.int y :: .int x :: st) h := by
  obtain ⟨p, l, e, R, s, m, args, below, meth, c, Q, D, ca, A, nL, nz⟩ := K
  exact fun n H locs ls hI hv => lv_iand X.1 X.2.1 hd (kk n H locs ls hI hv)
theorem tt_ior (X : tt_X cl K cc own ret Ts) {x y : Int32} (hd : decode cc pc = .ok (.ior, 1)) (kk : tt_T cl K ad kc ks (pc + 1) L (.int (x ||| y) :: st) h) : tt_T cl K ad kc ks pc L (.int y :: .int x :: st) h := by
  obtain ⟨p, l, e, R, s, m, args, below, meth, c, Q, D, ca, A, nL, nz⟩ := K
  exact fun n H locs ls hI hv => lv_ior X.1 X.2.1 hd (kk n H locs ls hI hv)
theorem tt_ixor (X : tt_X cl K cc own ret Ts) {x y : Int32} (hd : decode cc pc = .ok (.ixor, 1)) (kk : tt_T cl K ad kc ks (pc + 1) L (.int (x ^^^ y) :: st) h) : tt_T cl K ad kc ks pc L (.int y :: .int x :: st) h := by
  obtain ⟨p, l, e, R, s, m, args, below, meth, c, Q, D, ca, A, nL, nz⟩ := K
  exact fun n H locs ls hI hv => lv_ixor X.1 X.2.1 hd (kk n H locs ls hI hv)
theorem tt_ishl (X : tt_X cl K cc own ret Ts) {x y : Int32} (hd : decode cc pc = .ok (.ishl, 1)) (kk : tt_T cl K ad kc ks (pc + 1) L (.int (x <<< (y &&& 31)) :: st) h) : tt_T cl K ad kc ks pc L (.int y :: .int x :: st) h := by
  obtain ⟨p, l, e, R, s, m, args, below, meth, c, Q, D, ca, A, nL, nz⟩ := K
  exact fun n H locs ls hI hv => lv_ishl X.1 X.2.1 hd (kk n H locs ls hI hv)
theorem tt_ishr (X : tt_X cl K cc own ret Ts) {x y : Int32} (hd : decode cc pc = .ok (.ishr, 1)) (kk : tt_T cl K ad kc ks (pc + 1) L (.int (x >>> (y &&& 31)) :: st) h) : tt_T cl K ad kc ks pc L (.int y :: .int x :: st) h := by
  obtain ⟨p, l, e, R, s, m, args, below, meth, c, Q, D, ca, A, nL, nz⟩ := K
  exact fun n H locs ls hI hv => lv_ishr X.1 X.2.1 hd (kk n H locs ls hI hv)
theorem tt_ladd (X : tt_X cl K cc own ret Ts) {x y : Int64} (hd : decode cc pc = .ok (.ladd, 1)) (kk : tt_T cl K ad kc ks (pc + 1) L (.long (x + y) :: st) h) : tt_T cl K ad kc ks pc L (.long y :: .long x :: st) h := by
  obtain ⟨p, l, e, R, s, m, args, below, meth, c, Q, D, ca, A, nL, nz⟩ := K
  exact fun n H locs ls hI hv => lv_ladd X.1 X.2.1 hd (kk n H locs ls hI hv)
theorem tt_lsub (X : tt_X cl K cc own ret Ts) {x y : Int64} (hd : decode cc pc = .ok (.lsub, 1)) (kk : tt_T cl K ad kc ks (pc + 1) L (.long (x - y) :: st) h) : tt_T cl K ad kc ks pc L (.long y :: .long x :: st) h := by
  obtain ⟨p, l, e, R, s, m, args, below, meth, c, Q, D, ca, A, nL, nz⟩ := K
  exact fun n H locs ls hI hv => lv_lsub X.1 X.2.1 hd (kk n H locs ls hI hv)
theorem tt_idiv (X : tt_X cl K cc own ret Ts) {x y : Int32} (hd : decode cc pc = .ok (.idiv, 1)) (hne : ¬ y = 0) (kk : tt_T cl K ad kc ks (pc + 1) L (.int (x / y) :: st) h) : tt_T cl K ad kc ks pc L (.int y :: .int x :: st) h := by
  obtain ⟨p, l, e, R, s, m, args, below, meth, c, Q, D, ca, A, nL, nz⟩ := K
  exact fun n H locs ls hI hv => lv_idiv X.1 X.2.1 hd hne (kk n H locs ls hI hv)
theorem tt_irem (X : tt_X cl K cc own ret Ts) {x y : Int32} (hd : decode cc pc = .ok (.irem, 1)) (hne : ¬ y = 0) (kk : tt_T cl K ad kc ks (pc + 1) L (.int (x - x / y * y) :: st) h) : tt_T cl K ad kc ks pc L (.int y :: .int x :: st) h := by
  obtain ⟨p, l, e, R, s, m, args, below, meth, c, Q, D, ca, A, nL, nz⟩ := K
  exact fun n H locs ls hI hv => lv_irem X.1 X.2.1 hd hne (kk n H locs ls hI hv)
theorem tt_lcmp (X : tt_X cl K cc own ret Ts) {x y : Int64} (hd : decode cc pc = .ok (.lcmp, 1)) (kk : tt_T cl K ad kc ks (pc + 1) L (.int (lg_cmp x y) :: st) h) : tt_T cl K ad kc ks pc L (.long y :: .long x :: st) h := by
  obtain ⟨p, l, e, R, s, m, args, below, meth, c, Q, D, ca, A, nL, nz⟩ := K
  exact fun n H locs ls hI hv => W.lcmp X.1 X.2.1 hd (kk n H locs ls hI hv)
theorem tt_i2l (X : tt_X cl K cc own ret Ts) {x : Int32} (hd : decode cc pc = .ok (.i2l, 1)) (kk : tt_T cl K ad kc ks (pc + 1) L (.long (x.toInt64) :: st) h) : tt_T cl K ad kc ks pc L (.int x :: st) h := by
  obtain ⟨p, l, e, R, s, m, args, below, meth, c, Q, D, ca, A, nL, nz⟩ := K
  exact fun n H locs ls hI hv => lv_i2l X.1 X.2.1 hd rfl (kk n H locs ls hI hv)
theorem tt_l2i (X : tt_X cl K cc own ret Ts) {x : Int64} (hd : decode cc pc = .ok (.l2i, 1)) (kk : tt_T cl K ad kc ks (pc + 1) L (.int (x.toInt32) :: st) h) : tt_T cl K ad kc ks pc L (.long x :: st) h := by
  obtain ⟨p, l, e, R, s, m, args, below, meth, c, Q, D, ca, A, nL, nz⟩ := K
  exact fun n H locs ls hI hv => lv_l2i X.1 X.2.1 hd rfl (kk n H locs ls hI hv)
theorem tt_i2b (X : tt_X cl K cc own ret Ts) {x : Int32} (hd : decode cc pc = .ok (.i2b, 1)) (kk : tt_T cl K ad kc ks (pc + 1) L (.int (x.toInt8.toInt32) :: st) h) : tt_T cl K ad kc ks pc L (.int x :: st) h := by
  obtain ⟨p, l, e, R, s, m, args, below, meth, c, Q, D, ca, A, nL, nz⟩ := K
  exact fun n H locs ls hI hv => lv_i2b X.1 X.2.1 hd rfl (kk n H locs ls hI hv)
theorem tt_i2s (X : tt_X cl K cc own ret Ts) {x : Int32} (hd : decode cc pc = .ok (.i2s, 1)) (kk : tt_T cl K ad kc ks (pc + 1) L (.int (x.toInt16.toInt32) :: st) h) : tt_T cl K ad kc ks pc L (.int x :: st) h := by
  obtain ⟨p, l, e, R, s, m, args, below, meth, c, Q, D, ca, A, nL, nz⟩ := K
  exact fun n H locs ls hI hv => lv_i2s X.1 X.2.1 hd rfl (kk n H locs ls hI hv)
theorem tt_dup (X : tt_X cl K cc own ret Ts) {a : Value} (hd : decode cc pc = .ok (.dup, 1)) (ha : a.category = 1) (kk : tt_T cl K ad kc ks (pc + 1) L (a :: a :: st) h) : tt_T cl K ad kc ks pc L (a :: st) h := by
  obtain ⟨p, l, e, R, s, m, args, below, meth, c, Q, D, ca, A, nL, nz⟩ := K
  exact fun n H locs ls hI hv => lv_dup X.1 X.2.1 hd (by rw [tt_v_cat]; exact ha) (kk n H locs ls hI hv)
theorem tt_pop (X : tt_X cl K cc own ret Ts) {a : Value} (hd : decode cc pc = .ok (.pop, 1)) (ha : a.category = 1) (kk : tt_T cl K ad kc ks (pc + 1) L st h) : tt_T cl K ad kc ks pc L (a :: st) h := by
  obtain ⟨p, l, e, R, s, m, args, below, meth, c, Q, D, ca, A, nL, nz⟩ := K
  exact fun n H locs ls hI hv => lv_pop X.1 X.2.1 hd (by rw [tt_v_cat]; exact ha) (kk n H locs ls hI hv)
theorem tt_dup2 (X : tt_X cl K cc own ret Ts) {a b : Value} (hd : decode cc pc = .ok (.dup2, 1)) (ha : a.category = 1) (hb : b.category = 1) (kk : tt_T cl K ad kc ks (pc + 1) L (a :: b :: a :: b :: st) h) : tt_T cl K ad kc ks pc L (a :: b :: st) h := by
  obtain ⟨p, l, e, R, s, m, args, below, meth, c, Q, D, ca, A, nL, nz⟩ := K
  exact fun n H locs ls hI hv => lv_dup2_11 X.1 X.2.1 hd (by rw [tt_v_cat]; exact ha) (by rw [tt_v_cat]; exact hb) (kk n H locs ls hI hv)
theorem tt_if_eq (X : tt_X cl K cc own ret Ts) {x : Int32} {off : Int} {tgt : Nat} (hd : decode cc pc = .ok (.ifCond .eq off, 3)) (ht : (pc : Int) + off = (tgt : Int)) (kt : x = 0 → tt_T cl K ad kc ks tgt L st h) (kf : ¬ x = 0 → tt_T cl K ad kc ks (pc + 3) L st h) : tt_T cl K ad kc ks pc L (.int x :: st) h := by
  obtain ⟨p, l, e, R, s, m, args, below, meth, c, Q, D, ca, A, nL, nz⟩ := K
  exact fun n H locs ls hI hv => lv_if_eq X.1 X.2.1 hd ht (fun q => kt q n H locs ls hI hv) (fun q => kf q n H locs ls hI hv)
theorem tt_icmp_eq (X : tt_X cl K cc own ret Ts) {x y : Int32} {off : Int} {tgt : Nat} (hd : decode cc pc = .ok (.if_icmp .eq off, 3)) (ht : (pc : Int) + off = (tgt : Int)) (kt : x = y → tt_T cl K ad kc ks tgt L st h) (kf : ¬ x = y → tt_T cl K ad kc ks (pc + 3) L st h) : tt_T cl K ad kc ks pc L (.int y :: .int x :: st) h := by
  obtain ⟨p, l, e, R, s, m, args, below, meth, c, Q, D, ca, A, nL, nz⟩ := K
  exact fun n H locs ls hI hv => lv_icmp_eq X.1 X.2.1 hd ht (fun q => kt q n H locs ls hI hv) (fun q => kf q n H locs ls hI hv)
theorem tt_if_ne (X : tt_X cl K cc own ret Ts) {x : Int32} {off : Int} {tgt : Nat} (hd : decode cc pc = .ok (.ifCond .ne off, 3)) (ht : (pc : Int) + off = (tgt : Int)) (kt : ¬ x = 0 → tt_T cl K ad kc ks tgt L st h) (kf : x = 0 → tt_T cl K ad kc ks (pc + 3) L st h) : tt_T cl K ad kc ks pc L (.int x :: st) h := by
  obtain ⟨p, l, e, R, s, m, args, below, meth, c, Q, D, ca, A, nL, nz⟩ := K
  exact fun n H locs ls hI hv => lv_if_ne X.1 X.2.1 hd ht (fun q => kt q n H locs ls hI hv) (fun q => kf q n H locs ls hI hv)
theorem tt_icmp_ne (X : tt_X cl K cc own ret Ts) {x y : Int32} {off : Int} {tgt : Nat} (hd : decode cc pc = .ok (.if_icmp .ne off, 3)) (ht : (pc : Int) + off = (tgt : Int)) (kt : ¬ x = y → tt_T cl K ad kc ks tgt L st h) (kf : x = y → tt_T cl K ad kc ks (pc + 3) L st h) : tt_T cl K ad kc ks pc L (.int y :: .int x :: st) h := by
  obtain ⟨p, l, e, R, s, m, args, below, meth, c, Q, D, ca, A, nL, nz⟩ := K
  exact fun n H locs ls hI hv => lv_icmp_ne X.1 X.2.1 hd ht (fun q => kt q n H locs ls hI hv) (fun q => kf q n H locs ls hI hv)
theorem tt_if_lt (X : tt_X cl K cc own ret Ts) {x : Int32} {off : Int} {tgt : Nat} (hd : decode cc pc = .ok (.ifCond .lt off, 3)) (ht : (pc : Int) + off = (tgt : Int)) (kt : x < 0 → tt_T cl K ad kc ks tgt L st h) (kf : ¬ x < 0 → tt_T cl K ad kc ks (pc + 3) L st h) : tt_T cl K ad kc ks pc L (.int x :: st) h := by
  obtain ⟨p, l, e, R, s, m, args, below, meth, c, Q, D, ca, A, nL, nz⟩ := K
  exact fun n H locs ls hI hv => lv_if_lt X.1 X.2.1 hd ht (fun q => kt q n H locs ls hI hv) (fun q => kf q n H locs ls hI hv)
theorem tt_icmp_lt (X : tt_X cl K cc own ret Ts) {x y : Int32} {off : Int} {tgt : Nat} (hd : decode cc pc = .ok (.if_icmp .lt off, 3)) (ht : (pc : Int) + off = (tgt : Int)) (kt : x < y → tt_T cl K ad kc ks tgt L st h) (kf : ¬ x < y → tt_T cl K ad kc ks (pc + 3) L st h) : tt_T cl K ad kc ks pc L (.int y :: .int x :: st) h := by
  obtain ⟨p, l, e, R, s, m, args, below, meth, c, Q, D, ca, A, nL, nz⟩ := K
  exact fun n H locs ls hI hv => lv_icmp_lt X.1 X.2.1 hd ht (fun q => kt q n H locs ls hI hv) (fun q => kf q n H locs ls hI hv)
theorem tt_if_ge (X : tt_X cl K cc own ret Ts) {x : Int32} {off : Int} {tgt : Nat} (hd : decode cc pc = .ok (.ifCond .ge off, 3)) (ht : (pc : Int) + off = (tgt : Int)) (kt : 0 ≤ x → tt_T cl K ad kc ks tgt L st h) (kf : ¬ 0 ≤ x → tt_T cl K ad kc ks (pc + 3) L st h) : tt_T cl K ad kc ks pc L (.int x :: st) h := by
  obtain ⟨p, l, e, R, s, m, args, below, meth, c, Q, D, ca, A, nL, nz⟩ := K
  exact fun n H locs ls hI hv => lv_if_ge X.1 X.2.1 hd ht (fun q => kt q n H locs ls hI hv) (fun q => kf q n H locs ls hI hv)
theorem tt_icmp_ge (X : tt_X cl K cc own ret Ts) {x y : Int32} {off : Int} {tgt : Nat} (hd : decode cc pc = .ok (.if_icmp .ge off, 3)) (ht : (pc : Int) + off = (tgt : Int)) (kt : y ≤ x → tt_T cl K ad kc ks tgt L st h) (kf : ¬ y ≤ x → tt_T cl K ad kc ks (pc + 3) L st h) : tt_T cl K ad kc ks pc L (.int y :: .int x :: st) h := by
  obtain ⟨p, l, e, R, s, m, args, below, meth, c, Q, D, ca, A, nL, nz⟩ := K
  exact fun n H locs ls hI hv => lv_icmp_ge X.1 X.2.1 hd ht (fun q => kt q n H locs ls hI hv) (fun q => kf q n H locs ls hI hv)
theorem tt_if_gt (X : tt_X cl K cc own ret Ts) {x : Int32} {off : Int} {tgt : Nat} (hd : decode cc pc = .ok (.ifCond .gt off, 3)) (ht : (pc : Int) + off = (tgt : Int)) (kt : 0 < x → tt_T cl K ad kc ks tgt L st h) (kf : ¬ 0 < x → tt_T cl K ad kc ks (pc + 3) L st h) : tt_T cl K ad kc ks pc L (.int x :: st) h := by
  obtain ⟨p, l, e, R, s, m, args, below, meth, c, Q, D, ca, A, nL, nz⟩ := K
  exact fun n H locs ls hI hv => lv_if_gt X.1 X.2.1 hd ht (fun q => kt q n H locs ls hI hv) (fun q => kf q n H locs ls hI hv)
theorem tt_icmp_gt (X : tt_X cl K cc own ret Ts) {x y : Int32} {off : Int} {tgt : Nat} (hd : decode cc pc = .ok (.if_icmp .gt off, 3)) (ht : (pc : Int) + off = (tgt : Int)) (kt : y < x → tt_T cl K ad kc ks tgt L st h) (kf : ¬ y < x → tt_T cl K ad kc ks (pc + 3) L st h) : tt_T cl K ad kc ks pc L (.int y :: .int x :: st) h := by
  obtain ⟨p, l, e, R, s, m, args, below, meth, c, Q, D, ca, A, nL, nz⟩ := K
  exact fun n H locs ls hI hv => lv_icmp_gt X.1 X.2.1 hd ht (fun q => kt q n H locs ls hI hv) (fun q => kf q n H locs ls hI hv)
theorem tt_if_le (X : tt_X cl K cc own ret Ts) {x : Int32} {off : Int} {tgt : Nat} (hd : decode cc pc = .ok (.ifCond .le off, 3)) (ht : (pc : Int) + off = (tgt : Int)) (kt : x ≤ 0 → tt_T cl K ad kc ks tgt L st h) (kf : ¬ x ≤ 0 → tt_T cl K ad kc ks (pc + 3) L st h) : tt_T cl K ad kc ks pc L (.int x :: st) h := by
  obtain ⟨p, l, e, R, s, m, args, below, meth, c, Q, D, ca, A, nL, nz⟩ := K
  exact fun n H locs ls hI hv => lv_if_le X.1 X.2.1 hd ht (fun q => kt q n H locs ls hI hv) (fun q => kf q n H locs ls hI hv)
theorem tt_icmp_le (X : tt_X cl K cc own ret Ts) {x y : Int32} {off : Int} {tgt : Nat} (hd : decode cc pc = .ok (.if_icmp .le off, 3)) (ht : (pc : Int) + off = (tgt : Int)) (kt : x ≤ y → tt_T cl K ad kc ks tgt L st h) (kf : ¬ x ≤ y → tt_T cl K ad kc ks (pc + 3) L st h) : tt_T cl K ad kc ks pc L (.int y :: .int x :: st) h := by
  obtain ⟨p, l, e, R, s, m, args, below, meth, c, Q, D, ca, A, nL, nz⟩ := K
  exact fun n H locs ls hI hv => lv_icmp_le X.1 X.2.1 hd ht (fun q => kt q n H locs ls hI hv) (fun q => kf q n H locs ls hI hv)
theorem tt_goto (X : tt_X cl K cc own ret Ts) {off : Int} {tgt : Nat} (hd : decode cc pc = .ok (.goto off, 3)) (ht : (pc : Int) + off = (tgt : Int)) (kk : tt_T cl K ad kc ks tgt L st h) : tt_T cl K ad kc ks pc L st h := by
  obtain ⟨p, l, e, R, s, m, args, below, meth, c, Q, D, ca, A, nL, nz⟩ := K
  exact fun n H locs ls hI hv => lv_goto X.1 X.2.1 hd ht (kk n H locs ls hI hv)
theorem tt_null (X : tt_X cl K cc own ret Ts) (hd : decode cc pc = .ok (.aconst_null, 1)) (kk : tt_T cl K ad kc ks (pc + 1) L (.null :: st) h) : tt_T cl K ad kc ks pc L st h := by
  obtain ⟨p, l, e, R, s, m, args, below, meth, c, Q, D, ca, A, nL, nz⟩ := K
  exact fun n H locs ls hI hv => lv_null X.1 X.2.1 hd (kk n H locs ls hI hv)
theorem tt_aload_nN (X : tt_X cl K cc own ret Ts) {k : Fin 4} (hd : decode cc pc = .ok (.aload_n k, 1)) (hl : L.lookup (k : Nat) = some .null) (kk : tt_T cl K ad kc ks (pc + 1) L (.null :: st) h) : tt_T cl K ad kc ks pc L st h := by
  obtain ⟨p, l, e, R, s, m, args, below, meth, c, Q, D, ca, A, nL, nz⟩ := K
  exact fun n H locs ls hI hv => lv_aload_nN X.1 X.2.1 hd rfl (tt_look hv hl) (kk n H locs ls hI hv)
theorem tt_aloadN (X : tt_X cl K cc own ret Ts) {i : Nat} (hd : decode cc pc = .ok (.aload i, 2)) (hl : L.lookup i = some .null) (kk : tt_T cl K ad kc ks (pc + 2) L (.null :: st) h) : tt_T cl K ad kc ks pc L st h := by
  obtain ⟨p, l, e, R, s, m, args, below, meth, c, Q, D, ca, A, nL, nz⟩ := K
  exact fun n H locs ls hI hv => lv_aloadN X.1 X.2.1 hd (tt_look hv hl) (kk n H locs ls hI hv)
theorem tt_astore_nN (X : tt_X cl K cc own ret Ts) {k : Fin 4} (hd : decode cc pc = .ok (.astore_n k, 1)) (hn : (k : Nat) < tt_nL K) (kk : tt_T cl K ad kc ks (pc + 1) (tt_put (k : Nat) .null L) st h) : tt_T cl K ad kc ks pc L (.null :: st) h := by
  obtain ⟨p, l, e, R, s, m, args, below, meth, c, Q, D, ca, A, nL, nz⟩ := K
  exact fun n H locs ls hI hv => lv_astore_nN X.1 X.2.1 hd rfl hv hn rfl (fun ls' hv' => kk n H locs ls' hI (tt_st1 (v := .null) hv'))
theorem tt_astoreN (X : tt_X cl K cc own ret Ts) {i : Nat} (hd : decode cc pc = .ok (.astore i, 2)) (hn : i < tt_nL K) (kk : tt_T cl K ad kc ks (pc + 2) (tt_put i .null L) st h) : tt_T cl K ad kc ks pc L (.null :: st) h := by
  obtain ⟨p, l, e, R, s, m, args, below, meth, c, Q, D, ca, A, nL, nz⟩ := K
  exact fun n H locs ls hI hv => lv_astoreN X.1 X.2.1 hd hv hn rfl (fun ls' hv' => kk n H locs ls' hI (tt_st1 (v := .null) hv'))
theorem tt_ifnull (X : tt_X cl K cc own ret Ts) {x : Nat} {off : Int} (hd : decode cc pc = .ok (.ifnull off, 3)) (kk : tt_T cl K ad kc ks (pc + 3) L st h) : tt_T cl K ad kc ks pc L (.ref x :: st) h := by
  obtain ⟨p, l, e, R, s, m, args, below, meth, c, Q, D, ca, A, nL, nz⟩ := K
  exact fun n H locs ls hI hv => lv_ifnull X.1 X.2.1 hd (kk n H locs ls hI hv)
theorem tt_ifnullN (X : tt_X cl K cc own ret Ts) {off : Int} {tgt : Nat} (hd : decode cc pc = .ok (.ifnull off, 3)) (ht : (pc : Int) + off = (tgt : Int)) (kk : tt_T cl K ad kc ks tgt L st h) : tt_T cl K ad kc ks pc L (.null :: st) h := by
  obtain ⟨p, l, e, R, s, m, args, below, meth, c, Q, D, ca, A, nL, nz⟩ := K
  exact fun n H locs ls hI hv => lv_ifnullN X.1 X.2.1 hd ht (kk n H locs ls hI hv)
theorem tt_ifnonnull (X : tt_X cl K cc own ret Ts) {x : Nat} {off : Int} {tgt : Nat} (hd : decode cc pc = .ok (.ifnonnull off, 3)) (ht : (pc : Int) + off = (tgt : Int)) (kk : tt_T cl K ad kc ks tgt L st h) : tt_T cl K ad kc ks pc L (.ref x :: st) h := by
  obtain ⟨p, l, e, R, s, m, args, below, meth, c, Q, D, ca, A, nL, nz⟩ := K
  exact fun n H locs ls hI hv => lv_ifnonnull X.1 X.2.1 hd ht (kk n H locs ls hI hv)
theorem tt_ifnonnullN (X : tt_X cl K cc own ret Ts) {off : Int} (hd : decode cc pc = .ok (.ifnonnull off, 3)) (kk : tt_T cl K ad kc ks (pc + 3) L st h) : tt_T cl K ad kc ks pc L (.null :: st) h := by
  obtain ⟨p, l, e, R, s, m, args, below, meth, c, Q, D, ca, A, nL, nz⟩ := K
  exact fun n H locs ls hI hv => lv_ifnonnullN X.1 X.2.1 hd (kk n H locs ls hI hv)
def tt_keep (is : List Nat) : List (Nat × Value) → List (Nat × Value)
  | [] => []
  | q :: r => if is.contains q.1 = true then q :: tt_keep is r else tt_keep is r
theorem tt_keep_mem {is : List Nat} : ∀ {L : List (Nat × Value)} {q : Nat × Value}, q ∈ tt_keep is L → q ∈ L
  | [], q, h => h
  | a :: r, q, h => by
    unfold tt_keep at h
    by_cases hc : is.contains a.1 = true
    · rw [if_pos hc] at h
      rcases List.mem_cons.mp h with h | h
      · rw [h]; exact List.mem_cons_self
      · exact List.mem_cons_of_mem _ (tt_keep_mem h)
    · rw [if_neg hc] at h
      exact List.mem_cons_of_mem _ (tt_keep_mem h)
theorem tt_drop (is : List Nat) (kk : tt_T cl K ad kc ks pc (tt_keep is L) st h) : tt_T cl K ad kc ks pc L st h := by
  obtain ⟨p, l, e, R, s, m, args, below, meth, c, Q, D, ca, A, nL, nz⟩ := K
  exact fun n H locs ls hI hv => kk n H locs ls hI ⟨hv.1, hv.2.1, fun q hq => hv.2.2 q (by
    obtain ⟨q0, h0, rfl⟩ := List.mem_map.mp hq
    exact List.mem_map.mpr ⟨q0, tt_keep_mem h0, rfl⟩)⟩
theorem tt_getf (X : tt_X cl K cc own ret Ts) {b ci : Nat} {fs : List Value} {C ref : String} {F : u_T} {N index : Nat} (hb : h b = some (.inr (ci, fs))) (hc : cl[ci]? = some (C, F, N)) (hin : ∀ w ∈ u_ws C F N, w ∈ Ts) (k : Nat) (hk : k < N) (hlink : Cond.fieldLink own index ref (F k).2.1 (F k).2.2.1 ∈ Ts) (hown : (F k).1 = ref) {v : Value} (hv : fs[k]? = some v) (hd : decode cc pc = .ok (.getfield index, 3)) (kk : tt_T cl K ad kc ks (pc + 3) L (v :: st) h) : tt_T cl K ad kc ks pc L (.ref b :: st) h := by
  obtain ⟨p, l, e, R, s, m, args, below, meth, c, Q, D, ca, A, nL, nz⟩ := K
  intro n H locs ls hI hl
  exact va_get X.1 X.2.1 X.2.2.2.2.1 hin X.2.2.2.1 X.2.2.2.2.2.2.2.1 hI.2.1 b (tt_w_get hI.1 hb) hc k hk (X.2.2.2.2.1 _ hlink) (fun x hx => by rw [← hown]; exact hx) (v := tt_v ad v) (by rw [List.getElem?_map, hv]; rfl) hd (kk n H locs ls hI hl)
theorem tt_putf (X : tt_X cl K cc own ret Ts) {b ci : Nat} {fs : List Value} {C ref : String} {F : u_T} {N index : Nat} (hb : h b = some (.inr (ci, fs))) (hc : cl[ci]? = some (C, F, N)) (hin : ∀ w ∈ u_ws C F N, w ∈ Ts) (ty0 : Nat → FieldType) (hty : ∀ k, k < N → parseFieldDescriptor (F k).2.2.1 = some (ty0 k)) (hnm : ∀ a, a < N → ∀ b, b < N → a ≠ b → (F a).2.1 ≠ (F b).2.1) (k : Nat) (hk : k < N) (hlink : Cond.fieldLink own index ref (F k).2.1 (F k).2.2.1 ∈ Ts) (hown : (F k).1 = ref) (hfin : (F k).2.2.2 = false) {v : Value} (hn : ∀ ad, narrow (ty0 k) (tt_v ad v) = tt_v ad v) (hfit : ∀ ad, fits (ty0 k) (tt_v ad v) = true) (hl : k < fs.length) (hd : decode cc pc = .ok (.putfield index, 3)) (kk : tt_T cl K ad kc ks (pc + 3) L st (va_up h b (some (.inr (ci, fs.set k v))))) : tt_T cl K ad kc ks pc L (v :: .ref b :: st) h := by
  obtain ⟨p, l, e, R, s, m, args, below, meth, c, Q, D, ca, A, nL, nz⟩ := K
  intro n H locs ls hI hl2
  refine va_put X.1 X.2.1 X.2.2.2.2.1 hin ty0 hty hnm X.2.2.2.1 X.2.2.2.2.2.2.2.1 hI.2.1 hI.2.2.1 hI.2.2.2.1 b (tt_w_get hI.1 hb) hc k hk (X.2.2.2.2.1 _ hlink) (fun x hx => by rw [← hown]; exact hx) hfin (v := tt_v ad v) (hty k hk) (hn ad) (hfit ad) (by rw [List.length_map]; exact hl) hd (fun H1 locs1 hP hD hS => ?_)
  rw [show (Sum.inr (ci, (fs.map (tt_v ad)).set k (tt_v ad v)) : va_E) = tt_e ca ad (.inr (ci, fs.set k v)) from by show _ = Sum.inr (ci, _); rw [List.map_set], tt_w_set hI.1 hb] at hP hD
  exact kk n H1 locs1 ls ⟨tt_wf_set hI.1 hb, hP, hD, hS, hI.2.2.2.2⟩ hl2
theorem tt_putfF (X : tt_X cl K cc own ret Ts) {b ci : Nat} {fs : List Value} {C ref : String} {F : u_T} {N index : Nat} (hb : h b = some (.inr (ci, fs))) (hc : cl[ci]? = some (C, F, N)) (hin : ∀ w ∈ u_ws C F N, w ∈ Ts) (ty0 : Nat → FieldType) (hty : ∀ k, k < N → parseFieldDescriptor (F k).2.2.1 = some (ty0 k)) (hnm : ∀ a, a < N → ∀ b, b < N → a ≠ b → (F a).2.1 ≠ (F b).2.1) (k : Nat) (hk : k < N) (hlink : Cond.fieldLink own index ref (F k).2.1 (F k).2.2.1 ∈ Ts) (hown : (F k).1 = ref) (hfin : (F k).2.2.2 = true) (hini : tt_mn K = "<init>") (hdecl : (F k).1 = own) {v : Value} (hn : ∀ ad, narrow (ty0 k) (tt_v ad v) = tt_v ad v) (hfit : ∀ ad, fits (ty0 k) (tt_v ad v) = true) (hl : k < fs.length) (hd : decode cc pc = .ok (.putfield index, 3)) (kk : tt_T cl K ad kc ks (pc + 3) L st (va_up h b (some (.inr (ci, fs.set k v))))) : tt_T cl K ad kc ks pc L (v :: .ref b :: st) h := by
  obtain ⟨p, l, e, R, s, m, args, below, meth, c, Q, D, ca, A, nL, nz⟩ := K
  intro n H locs ls hI hl2
  refine va_putF X.1 X.2.1 X.2.2.2.2.1 hin ty0 hty hnm X.2.2.2.1 X.2.2.2.2.2.2.2.1 hI.2.1 hI.2.2.1 hI.2.2.2.1 b (tt_w_get hI.1 hb) hc k hk (X.2.2.2.2.1 _ hlink) (fun x hx => by rw [← hown]; exact hx) hfin hini hdecl (v := tt_v ad v) (hty k hk) (hn ad) (hfit ad) (by rw [List.length_map]; exact hl) hd (fun H1 locs1 hP hD hS => ?_)
  rw [show (Sum.inr (ci, (fs.map (tt_v ad)).set k (tt_v ad v)) : va_E) = tt_e ca ad (.inr (ci, fs.set k v)) from by show _ = Sum.inr (ci, _); rw [List.map_set], tt_w_set hI.1 hb] at hP hD
  exact kk n H1 locs1 ls ⟨tt_wf_set hI.1 hb, hP, hD, hS, hI.2.2.2.2⟩ hl2
theorem tt_iald (X : tt_X cl K cc own ret Ts) {b N : Nat} {f : Nat → Int32} {i : Int32} (hb : h b = some (tt_ia N f)) (hin : vp_in i N) (hd : decode cc pc = .ok (.iaload, 1)) (kk : tt_T cl K ad kc ks (pc + 1) L (.int (f i.toNatClampNeg) :: st) h) : tt_T cl K ad kc ks pc L (.int i :: .ref b :: st) h := by
  obtain ⟨p, l, e, R, s, m, args, below, meth, c, Q, D, ca, A, nL, nz⟩ := K
  intro n H locs ls hI hl
  exact va_iald X.1 X.2.1 X.2.2.2.2.2.2.2.1 hI.2.1 b 0 (tt_w_get hI.1 hb) rfl hin hd (kk n H locs ls hI hl)
theorem tt_zald (X : tt_X cl K cc own ret Ts) {b N : Nat} {f : Nat → Int32} {i : Int32} (hb : h b = some (tt_za N f)) (hin : vp_in i N) (hd : decode cc pc = .ok (.baload, 1)) (kk : tt_T cl K ad kc ks (pc + 1) L (.int (f i.toNatClampNeg) :: st) h) : tt_T cl K ad kc ks pc L (.int i :: .ref b :: st) h := by
  obtain ⟨p, l, e, R, s, m, args, below, meth, c, Q, D, ca, A, nL, nz⟩ := K
  intro n H locs ls hI hl
  exact va_zald X.1 X.2.1 X.2.2.2.2.2.2.2.1 hI.2.1 b 2 (tt_w_get hI.1 hb) rfl hin hd (kk n H locs ls hI hl)
theorem tt_lald (X : tt_X cl K cc own ret Ts) {b N : Nat} {f : Nat → Int64} {i : Int32} (hb : h b = some (tt_ja N f)) (hin : vp_in i N) (hd : decode cc pc = .ok (.laload, 1)) (kk : tt_T cl K ad kc ks (pc + 1) L (.long (f i.toNatClampNeg) :: st) h) : tt_T cl K ad kc ks pc L (.int i :: .ref b :: st) h := by
  obtain ⟨p, l, e, R, s, m, args, below, meth, c, Q, D, ca, A, nL, nz⟩ := K
  intro n H locs ls hI hl
  exact va_lald X.1 X.2.1 X.2.2.2.2.2.2.2.1 hI.2.1 b 1 (tt_w_get hI.1 hb) rfl hin hd (kk n H locs ls hI hl)
theorem tt_iast (X : tt_X cl K cc own ret Ts) {b N : Nat} {f : Nat → Int32} {i : Int32} {x : Int32} (hb : h b = some (tt_ia N f)) (hin : vp_in i N) (hd : decode cc pc = .ok (.iastore, 1)) (kk : tt_T cl K ad kc ks (pc + 1) L st (va_up h b (some (tt_ia N (upd f i.toNatClampNeg x))))) : tt_T cl K ad kc ks pc L (.int x :: .int i :: .ref b :: st) h := by
  obtain ⟨p, l, e, R, s, m, args, below, meth, c, Q, D, ca, A, nL, nz⟩ := K
  intro n H locs ls hI hl
  refine va_iast X.1 X.2.1 X.2.2.2.2.2.2.2.1 hI.2.1 hI.2.2.1 hI.2.2.2.1 b 0 (tt_w_get hI.1 hb) rfl hin hd (fun H1 locs1 hP hD hS => ?_)
  have hq := tt_w_set (ca := ca) (ad := ad) (e := tt_ia N (upd f i.toNatClampNeg x)) hI.1 hb
  exact kk n H1 locs1 ls ⟨tt_wf_set hI.1 hb, hq ▸ hP, hq ▸ hD, hS, hI.2.2.2.2⟩ hl
theorem tt_zast (X : tt_X cl K cc own ret Ts) {b N : Nat} {f : Nat → Int32} {i : Int32} {x : Int32} (hb : h b = some (tt_za N f)) (hin : vp_in i N) (hd : decode cc pc = .ok (.bastore, 1)) (kk : tt_T cl K ad kc ks (pc + 1) L st (va_up h b (some (tt_za N (upd f i.toNatClampNeg (vp_nar .boolean x)))))) : tt_T cl K ad kc ks pc L (.int x :: .int i :: .ref b :: st) h := by
  obtain ⟨p, l, e, R, s, m, args, below, meth, c, Q, D, ca, A, nL, nz⟩ := K
  intro n H locs ls hI hl
  refine va_zast X.1 X.2.1 X.2.2.2.2.2.2.2.1 hI.2.1 hI.2.2.1 hI.2.2.2.1 b 2 (tt_w_get hI.1 hb) rfl hin hd (fun H1 locs1 hP hD hS => ?_)
  have hq := tt_w_set (ca := ca) (ad := ad) (e := tt_za N (upd f i.toNatClampNeg (vp_nar .boolean x))) hI.1 hb
  exact kk n H1 locs1 ls ⟨tt_wf_set hI.1 hb, hq ▸ hP, hq ▸ hD, hS, hI.2.2.2.2⟩ hl
theorem tt_last (X : tt_X cl K cc own ret Ts) {b N : Nat} {f : Nat → Int64} {i : Int32} {x : Int64} (hb : h b = some (tt_ja N f)) (hin : vp_in i N) (hd : decode cc pc = .ok (.lastore, 1)) (kk : tt_T cl K ad kc ks (pc + 1) L st (va_up h b (some (tt_ja N (vp_updL f i.toNatClampNeg x))))) : tt_T cl K ad kc ks pc L (.long x :: .int i :: .ref b :: st) h := by
  obtain ⟨p, l, e, R, s, m, args, below, meth, c, Q, D, ca, A, nL, nz⟩ := K
  intro n H locs ls hI hl
  refine va_last X.1 X.2.1 X.2.2.2.2.2.2.2.1 hI.2.1 hI.2.2.1 hI.2.2.2.1 b 1 (tt_w_get hI.1 hb) rfl hin hd (fun H1 locs1 hP hD hS => ?_)
  have hq := tt_w_set (ca := ca) (ad := ad) (e := tt_ja N (vp_updL f i.toNatClampNeg x)) hI.1 hb
  exact kk n H1 locs1 ls ⟨tt_wf_set hI.1 hb, hq ▸ hP, hq ▸ hD, hS, hI.2.2.2.2⟩ hl
theorem tt_alen (X : tt_X cl K cc own ret Ts) {b t : Nat} {x : vp_A} {ty : FieldType} {v : Int32} (hb : h b = some (.inl (t, x))) (ht : tt_tyl[t]? = some ty) (hz : Int32.ofNat x.1 = v) (hd : decode cc pc = .ok (.arraylength, 1)) (kk : tt_T cl K ad kc ks (pc + 1) L (.int v :: st) h) : tt_T cl K ad kc ks pc L (.ref b :: st) h := by
  obtain ⟨p, l, e, R, s, m, args, below, meth, c, Q, D, ca, A, nL, nz⟩ := K
  intro n H locs ls hI hl
  refine va_alen X.1 X.2.1 X.2.2.2.2.2.2.2.1 hI.2.1 b t (tt_w_get hI.1 hb) (ty := ty) (tt_tys_at ca ht) ?_ hd (kk n H locs ls hI hl)
  obtain ⟨k, f | f | f | f | f⟩ := x <;> exact hz
theorem tt_aldq (X : tt_X cl K cc own ret Ts) {b t N : Nat} {C : String} {f : Nat → Option Nat} {i : Int32} {a : Nat} (hb : h b = some (tt_qa t N f)) (ht : tt_tyl[t]? = some (.object C)) (hin : vp_in i N) (ha : f i.toNatClampNeg = some a) (hd : decode cc pc = .ok (.aaload, 1)) (kk : tt_T cl K ad kc ks (pc + 1) L (.ref a :: st) h) : tt_T cl K ad kc ks pc L (.int i :: .ref b :: st) h := by
  obtain ⟨p, l, e, R, s, m, args, below, meth, c, Q, D, ca, A, nL, nz⟩ := K
  intro n H locs ls hI hl
  refine va_aldq X.1 X.2.1 X.2.2.2.2.2.2.2.1 hI.2.1 b t (tt_w_get hI.1 hb) (C := C) (tt_tys_at ca ht) hin hd ?_
  rw [ha]
  exact kk n H locs ls hI hl
theorem tt_astq (X : tt_X cl K cc own ret Ts) {b t N a ci : Nat} {C : String} {F : u_T} {M : Nat} {fs : List Value} {f : Nat → Option Nat} {i : Int32} (hb : h b = some (tt_qa t N f)) (ht : tt_tyl[t]? = some (.object C)) (ha : h a = some (.inr (ci, fs))) (hc : cl[ci]? = some (C, F, M)) (hin : vp_in i N) (hd : decode cc pc = .ok (.aastore, 1)) (kk : tt_T cl K ad kc ks (pc + 1) L st (va_up h b (some (tt_qa t N (va_up f i.toNatClampNeg (some a)))))) : tt_T cl K ad kc ks pc L (.ref a :: .int i :: .ref b :: st) h := by
  obtain ⟨p, l, e, R, s, m, args, below, meth, c, Q, D, ca, A, nL, nz⟩ := K
  intro n H locs ls hI hl
  refine va_astq X.1 X.2.1 X.2.2.2.2.2.2.2.1 hI.2.1 hI.2.2.1 hI.2.2.2.1 b t a ci (r := (C, F, M)) (tt_w_get hI.1 hb) (tt_tys_at ca ht) (tt_w_get hI.1 ha) hc hin hd (fun H1 locs1 hP hD hS => ?_)
  have hq := tt_w_set (ca := ca) (ad := ad) (e := tt_qa t N (va_up f i.toNatClampNeg (some a))) hI.1 hb
  have he : (tt_e ca ad (tt_qa t N (va_up f i.toNatClampNeg (some a)))) = .inl (ca t, N, .inr (.inr (.inr (.inr (va_up (fun j => (f j).map ad) i.toNatClampNeg (some (ad a))))))) := by
    show Sum.inl (ca t, N, _) = Sum.inl (ca t, N, _)
    congr 7
    funext j
    by_cases hj : j = i.toNatClampNeg
    · subst hj; rw [va_up_self, va_up_self]; rfl
    · rw [va_up_ne _ _ hj, va_up_ne _ _ hj]
  rw [he] at hq
  exact kk n H1 locs1 ls ⟨tt_wf_set hI.1 hb, hq ▸ hP, hq ▸ hD, hS, hI.2.2.2.2⟩ hl
theorem tt_widen {k n : Nat} (h1 : kc ≤ k) (h2 : ks ≤ n) (kk : tt_T cl K ad k n pc L st h) : tt_T cl K ad kc ks pc L st h := by
  obtain ⟨p, l, e, R, s, m, args, below, meth, c, Q, D, ca, A, nL, nz⟩ := K
  exact fun n0 H locs ls hI hl => W.widen h1 h2 (kk n0 H locs ls hI hl)
end TTR
/-! CONTRACTS over the toy heap: on arguments vs and heap h, method y returns v and leaves h' with P v h'. al: whether it may make cells -/
def tt_B (cl : List vw_C) (D : va_G) (ca ad : Nat → Nat) (n sz : Nat) (h : tt_H) (U : State) : Prop := U.heap.size = sz ∧ va_P D cl (tt_w ca ad n h) U.heap ∧ va_K D cl (tt_tys ca) U ∧ va_D (fun _ => True) (tt_w ca ad n h)
def tt_Q (cl : List vw_C) (D : va_G) (ca ad : Nat → Nat) (n sz : Nat) (al : Bool) (P : Option Value → tt_H → Prop) : Array Value → State → Outcome → State → Prop := fun _ st oc t =>
  (∃ (v : Option Value) (h' : tt_H) (ad' : Nat → Nat) (n' : Nat), oc = .returned (v.map (tt_v ad')) ∧ P v h' ∧ n ≤ n' ∧ (al = false → n' = n ∧ ad' = ad) ∧ (∀ i, i < n ∨ n' ≤ i → ad' i = ad i) ∧ tt_wf n' h' ∧ va_P D cl (tt_w ca ad' n' h') t.heap ∧ va_D (tt_A ad n sz) (tt_w ca ad' n' h')) ∧ va_F (tt_A ad n sz) st t
def tt_M (cl : List vw_C) (l : Launch) (y : MethodName) (ws : List Cond) (rm : Room) (mc ms : Nat) (al : Bool) (vs : List Value) (h : tt_H) (P : Option Value → tt_H → Prop) : Prop :=
  ∀ (D : va_G) (ca ad : Nat → Nat) (n sz : Nat), tt_wf n h → Met l y ws rm (va_Pc (vs.map (tt_v ad)) (tt_B cl D ca ad n sz h)) (tt_Q cl D ca ad n sz al P) mc ms (tt_A ad n sz)
theorem tt_M.mono {cl : List vw_C} {l : Launch} {y : MethodName} {ws : List Cond} {rm : Room} {mc ms : Nat} {al : Bool} {vs : List Value} {h : tt_H} {P P' : Option Value → tt_H → Prop} (hM : tt_M cl l y ws rm mc ms al vs h P) (hP : ∀ v h', P v h' → P' v h') : tt_M cl l y ws rm mc ms al vs h P' := by
  intro D ca ad n sz hw p e ha hc hk s m args below hf happ hpre hK
  obtain ⟨k, o, h1, h2, h3, ⟨⟨v, h', ad', n', r1, r2, r3⟩, r4⟩, h5⟩ := hM D ca ad n sz hw p e ha hc hk s m args below hf happ hpre hK
  exact ⟨k, o, h1, h2, h3, ⟨⟨v, h', ad', n', r1, hP v h' r2, r3⟩, r4⟩, h5⟩
theorem tt_A_D {cl : List vw_C} {ca ad : Nat → Nat} {n sz : Nat} {h : tt_H} (hD : va_D (fun _ => True) (tt_w ca ad n h)) : va_D (tt_A ad n sz) (tt_w ca ad n h) := by
  refine ⟨hD.1, fun k q hk => ?_⟩
  rw [tt_w_at] at hk
  by_cases hkn : k < n
  · rw [if_pos hkn] at hk
    cases hk
    exact Or.inl ⟨k, hkn, rfl⟩
  · rw [if_neg hkn] at hk
    cases hk
/-- a method by its body's walk -/
theorem tt_M.of {cl : List vw_C} {l : Launch} {y : MethodName} {ws ws' : List Cond} {rm : Room} {mc ms : Nat} {al : Bool} {vs : List Value} {h : tt_H} {P : Option Value → tt_H → Prop} {cc : ByteArray} {maxL : Nat} {ret : Option FieldType} (hy : plainName y.cls = true) (hw : ws = Cond.code y cc maxL ret :: ws') (hsl : (lg_sl vs).length ≤ maxL)
    (body : ∀ (p : Program) (e : Env) (s : State) (m : MethodId) (args : Array Value) (below : List Frame) (meth : Method) (c : Code) (D : va_G) (ca ad : Nat → Nat) (n sz : Nat), tt_wf n h → s.heap.size = sz → tt_X cl (p, l, e, rm, s, m, args, below, meth, c, MQ below (tt_Q cl D ca ad n sz al P) args s mc ms (tt_A ad n sz), D, ca, tt_A ad n sz, maxL, if al then none else some n) cc y.cls ret ws → (y.name = "<init>" → meth.name = "<init>") →
      tt_T cl (p, l, e, rm, s, m, args, below, meth, c, MQ below (tt_Q cl D ca ad n sz al P) args s mc ms (tt_A ad n sz), D, ca, tt_A ad n sz, maxL, if al then none else some n) ad 0 0 0 (tt_args 0 vs) [] h) : tt_M cl l y ws rm mc ms al vs h P := by
  intro D ca ad n sz hwf
  refine Met.ofW (cc := cc) (maxL := maxL) (ret := ret) hy hw ?_
  intro p e s m args below meth c s₁ B hml hv
  obtain ⟨rfl, hsz, hP, hK, hD0⟩ := hv
  have hl0 := lv_entry (vs.map (tt_v ad)) (n := maxL) (by
    have : ∀ us : List Value, (lg_sl (us.map (tt_v ad))).length = (lg_sl us).length := by
      intro us
      induction us with
      | nil => rfl
      | cons u us ih => cases u <;> simp [lg_sl, tt_v, Value.category] at ih ⊢ <;> first | exact ih | omega
    rw [this]; exact hsl)
  rw [tt_args_m] at hl0
  rw [lg_entry_eq]
  have hX : tt_X cl (p, l, e, rm, s, m, ((vs.map (tt_v ad)).toArray), below, meth, c, MQ below (tt_Q cl D ca ad n sz al P) (vs.map (tt_v ad)).toArray s mc ms (tt_A ad n sz), D, ca, tt_A ad n sz, maxL, if al then none else some n) cc y.cls ret ws :=
    ⟨B.exec, B.bytes, hml, findClass_of_methodNamed B.named, atoms_spec (ws := ws) B.pre, B.returns, B.notSynchronized, hK, fun q hq => Or.inr (by rw [← hsz]; exact hq)⟩
  exact body p e s m _ below meth c D ca ad n sz hwf hsz hX (fun hi => by rw [← hi]; exact (name_of_methodNamed B.named B.method).1) n s.heap [] _ ⟨hwf, hP, tt_A_D (cl := cl) hD0, va_S.rf, by cases al <;> trivial⟩ hl0
section TTC
variable {cl : List vw_C} {p : Program} {l : Launch} {e : Env} {R : Room} {s : State} {m : MethodId} {args : Array Value} {below : List Frame} {meth : Method} {c : Code} {D : va_G} {ca : Nat → ClassId} {A : Nat → Prop} {nL : Nat} {nz : Option Nat} {Q : State → Prop} {ad : Nat → Nat} {kc ks pc : Nat} {L : List (Nat × Value)} {st : List Value} {h : tt_H} {cc : ByteArray} {own : String} {ret : Option FieldType} {Ts : List Cond}
/-- what a call's return gives -/
theorem tt_back {n : Nat} {H : Heap} {locs : List Loc} {mc ms : Nat} {al : Bool} {P : Option Value → tt_H → Prop} {ls : Array Slot} {st0 : List Value} {ar : Array Value} (hI : tt_I cl (p, l, e, R, s, m, args, below, meth, c, Q, D, ca, A, nL, nz) ad n h H locs) (hA : ∀ q : Nat, s.heap.size ≤ q → A q) (hal : al = false ∨ nz = none)
    (hr : va_Run p l e R s m args below meth c H locs kc ks mc ms (F0 m pc ls (st0.map (tt_v ad))) (st.map (tt_v ad)) (tt_Q cl D ca ad n H.size al P ar) (tt_A ad n H.size))
    (kk : ∀ (v : Option Value) (h' : tt_H) (ad' : Nat → Nat) (n' : Nat) (H' : Heap) (locs' : List Loc), P v h' → n ≤ n' → (al = false → n' = n ∧ ad' = ad) → (∀ i, i < n ∨ n' ≤ i → ad' i = ad i) → tt_I cl (p, l, e, R, s, m, args, below, meth, c, Q, D, ca, A, nL, nz) ad' n' h' H' locs' → W p l e R s m args below meth c H' locs' (kc + mc) (ks + ms) Q (F0 m (pc + 3) ls ((v.map (tt_v ad')).toList ++ st.map (tt_v ad)))) :
    W p l e R s m args below meth c H locs kc ks Q (F0 m pc ls (st0.map (tt_v ad))) := by
  obtain ⟨hwf, hP, hD, hS, hnk⟩ := hI
  have hAA : ∀ q, tt_A ad n H.size q → A q := by
    intro q hq
    rcases hq with ⟨i, hi, rfl⟩ | hq
    · exact hD.2 i _ (by rw [tt_w_at, if_pos hi])
    · exact hA q (Nat.le_trans hS.1 hq)
  intro T hT X
  obtain ⟨v, st₀, t, T', L', g0, X', hL, e1, e2, ⟨⟨v2, h', ad', n', ho, hp, r1, r2, r3, r4, r5, r6⟩, hz, hk⟩, st'⟩ := hr T hT X
  cases ho
  rw [g0] at hz hk
  obtain ⟨t2, a1, b1⟩ := kk v2 h' ad' n' T'.heap (locs ++ L') hp r1 r2 r3 ⟨r4, by rw [e1]; exact r5, r6.weaken (fun _ _ _ hq => hAA _ hq), ⟨Nat.le_trans hS.1 (by rw [e1]; exact hz), fun q h1 h2 => by rw [e1, hk q (Nat.lt_of_lt_of_le h1 hS.1) (fun z => h2 (hAA q z))]; exact hS.2.1 q h1 h2, fun q hq => by
      rcases List.mem_append.mp hq with h | h
      · exact hS.2.2 q h
      · exact hAA _ (hL q h)⟩, by
        rcases hal with q | q
        · rw [(r2 q).1]; exact hnk
        · rw [q]; trivial⟩ T' rfl X'
  exact ⟨t2, st' t2 a1, b1⟩
theorem tt_pre {n : Nat} {H : Heap} {locs : List Loc} {vs : List Value} (hI : tt_I cl (p, l, e, R, s, m, args, below, meth, c, Q, D, ca, A, nL, nz) ad n h H locs) (hK : va_K D cl (tt_tys ca) s) : PreS s H (va_Pc (vs.map (tt_v ad)) (tt_B cl D ca ad n H.size h)) (vs.map (tt_v ad)) :=
  ⟨fun a U g mk q => ⟨q.1, q.2.1, q.2.2.1, va_K.moved (u := U) (U := U.calling g mk a) (Vm.Alike.refl U.vm) q.2.2.2.1, q.2.2.2.2⟩, fun U hU hW => ⟨rfl, by rw [hU], by rw [hU]; exact hI.2.1, va_K.moved hW.alike hK, hI.2.2.1.weaken (fun _ _ _ _ => trivial)⟩⟩
variable {y : MethodName} {bytes : ByteArray} {maxL mc ms k index : Nat} {rt : Option FieldType} {ws : List Cond} {rm : Room} {P : Option Value → tt_H → Prop} {As : List Value}
/-- a call of an instance's method that makes no cell -/
theorem tt_callV (X : tt_X cl (p, l, e, R, s, m, args, below, meth, c, Q, D, ca, A, nL, nz) cc own ret Ts) {b ci : Nat} {fs : List Value} {C : String} {F : u_T} {N : Nat} (hb : h b = some (.inr (ci, fs))) (hc : cl[ci]? = some (C, F, N)) (hM : tt_M cl l y ws rm 0 0 false (.ref b :: As) h P) (cw : (∀ w ∈ Ts, w.before args s = true) → CallW R s args own C index y bytes maxL rt ws rm 0 0 k) (hn : As.length = k) {st0 : List Value} (hst : st0 = As.reverse ++ .ref b :: st) (hW : (st.map fun v => v.category).sum ≤ 8) (hd : decode cc pc = .ok (.invokevirtual index, 3)) (hf : kc ≤ R.cells ∧ ks ≤ R.slots)
    (kk : ∀ v h', P v h' → tt_T cl (p, l, e, R, s, m, args, below, meth, c, Q, D, ca, A, nL, nz) ad kc ks (pc + 3) L (v.toList ++ st) h') : tt_T cl (p, l, e, R, s, m, args, below, meth, c, Q, D, ca, A, nL, nz) ad kc ks pc L st0 h := by
  intro n H locs ls hI hl
  subst hst
  refine tt_back (st := st) (mc := 0) (ms := 0) (al := false) (P := P) (ar := (Value.ref (ad b) :: As.map (tt_v ad)).toArray) hI X.2.2.2.2.2.2.2.2 (Or.inl rfl) ?_ (fun v h' ad' n' H' locs' hp _ hal _ hI' => ?_)
  · have hpr := tt_pre (vs := .ref b :: As) hI X.2.2.2.2.2.2.2.1
    exact va_runV (b := ad b) (As := As.map (tt_v ad)) (rest := st.map (tt_v ad)) ⟨X.1, X.2.1, X.2.2.1, X.2.2.2.1, X.2.2.2.2.1⟩ (hM D ca ad n H.size hI.1) (cw X.2.2.2.2.1) ⟨hpr.1, va_recv X.2.2.2.2.2.2.2.1 hI.2.1 hc (tt_w_get hI.1 hb), hpr.2⟩ rfl (by rw [List.length_map]; exact hn) hl.1 (by rw [← List.map_reverse]; show (_ ++ _ :: _).map _ = _; rw [List.map_append]; rfl) (by show 2 * 0 + _ ≤ 8; rw [tt_cats]; omega) hd hf
  · obtain ⟨rfl, rfl⟩ := hal rfl
    have h9 := kk v h' hp n' H' locs' ls hI' hl
    rw [List.map_append] at h9
    rw [show (v.map (tt_v ad')).toList = v.toList.map (tt_v ad') from by cases v <;> rfl]
    exact h9
/-- a call of a static method that makes no cell -/
theorem tt_callS (X : tt_X cl (p, l, e, R, s, m, args, below, meth, c, Q, D, ca, A, nL, nz) cc own ret Ts) (hM : tt_M cl l y ws rm 0 0 false As h P) (cw : (∀ w ∈ Ts, w.before args s = true) → CallB R s args own index y bytes maxL rt ws rm 0 0 k ∧ (Cond.static y).before args s = true) (hn : As.length = k) {st0 : List Value} (hst : st0 = As.reverse ++ st) (hW : (st.map fun v => v.category).sum ≤ 8) (hd : decode cc pc = .ok (.invokestatic index, 3)) (hf : kc ≤ R.cells ∧ ks ≤ R.slots)
    (kk : ∀ v h', P v h' → tt_T cl (p, l, e, R, s, m, args, below, meth, c, Q, D, ca, A, nL, nz) ad kc ks (pc + 3) L (v.toList ++ st) h') : tt_T cl (p, l, e, R, s, m, args, below, meth, c, Q, D, ca, A, nL, nz) ad kc ks pc L st0 h := by
  intro n H locs ls hI hl
  subst hst
  refine tt_back (st := st) (mc := 0) (ms := 0) (al := false) (P := P) (ar := (As.map (tt_v ad)).toArray) hI X.2.2.2.2.2.2.2.2 (Or.inl rfl) ?_ (fun v h' ad' n' H' locs' hp _ hal _ hI' => ?_)
  · have hpr := tt_pre (vs := As) hI X.2.2.2.2.2.2.2.1
    exact va_runS (As := As.map (tt_v ad)) (rest := st.map (tt_v ad)) ⟨X.1, X.2.1, X.2.2.1, X.2.2.2.1, X.2.2.2.2.1⟩ (hM D ca ad n H.size hI.1) (cw X.2.2.2.2.1) hpr rfl (by rw [List.length_map]; exact hn) hl.1 (by rw [← List.map_reverse, ← List.map_append]) (by show 2 * 0 + _ ≤ 8; rw [tt_cats]; omega) hd hf
  · obtain ⟨rfl, rfl⟩ := hal rfl
    have h9 := kk v h' hp n' H' locs' ls hI' hl
    rw [List.map_append] at h9
    rw [show (v.map (tt_v ad')).toList = v.toList.map (tt_v ad') from by cases v <;> rfl]
    exact h9
end TTC
/-! THE ENDS -/
section TTE
variable {cl : List vw_C} {p : Program} {l : Launch} {e : Env} {R : Room} {s : State} {m : MethodId} {args : Array Value} {below : List Frame} {meth : Method} {c : Code} {D : va_G} {ca : Nat → ClassId} {nL : Nat} {nz : Option Nat} {ad ad0 : Nat → Nat} {kc ks pc n0 sz : Nat} {L : List (Nat × Value)} {h : tt_H} {cc : ByteArray} {own : String} {ret : Option FieldType} {Ts : List Cond} {al : Bool} {P : Option Value → tt_H → Prop}
theorem tt_end {v : Option Value} {n : Nat} {H : Heap} {locs : List Loc} {Q : State → Prop} (hI : tt_I cl (p, l, e, R, s, m, args, below, meth, c, Q, D, ca, tt_A ad0 n0 sz, nL, nz) ad n h H locs) (hP : P v h) (hg : n0 ≤ n ∧ (al = false → n = n0 ∧ ad = ad0) ∧ ∀ i, i < n0 ∨ n ≤ i → ad i = ad0 i) : ∀ t : State, t.heap = H → s.WarmedH t.vm → tt_Q cl D ca ad0 n0 sz al P args s (.returned (v.map (tt_v ad))) t := fun t ht _ =>
  ⟨⟨v, h, ad, n, rfl, hP, hg.1, hg.2.1, hg.2.2, hI.1, by rw [ht]; exact hI.2.1, hI.2.2.1⟩, hI.2.2.2.1.F ht⟩
end TTE
section TTF
variable {cl : List vw_C} {p : Program} {l : Launch} {e : Env} {R : Room} {s : State} {m : MethodId} {args : Array Value} {below : List Frame} {meth : Method} {c : Code} {D : va_G} {ca : Nat → ClassId} {nL : Nat} {ad : Nat → Nat} {pc n0 sz : Nat} {L : List (Nat × Value)} {h : tt_H} {cc : ByteArray} {own : String} {ret : Option FieldType} {Ts : List Cond} {P : Option Value → tt_H → Prop}
theorem tt_iret (X : tt_X cl (p, l, e, R, s, m, args, below, meth, c, MQ below (tt_Q cl D ca ad n0 sz false P) args s 0 0 (tt_A ad n0 sz), D, ca, tt_A ad n0 sz, nL, some n0) cc own ret Ts) {x : Int32} (hr : ret = some .int) (hd : decode cc pc = .ok (.ireturn, 1)) (hP : P (some (.int x)) h) : tt_T cl (p, l, e, R, s, m, args, below, meth, c, MQ below (tt_Q cl D ca ad n0 sz false P) args s 0 0 (tt_A ad n0 sz), D, ca, tt_A ad n0 sz, nL, some n0) ad 0 0 pc L [.int x] h := by
  intro n H locs ls hI hl
  have hnn : n = n0 := hI.2.2.2.2
  exact W.iret X.1 X.2.1 (by rw [X.2.2.2.2.2.1, hr]) (tt_end (v := some (.int x)) hI hP ⟨by omega, fun _ => ⟨hnn, rfl⟩, fun _ _ => rfl⟩) hI.2.2.2.1.2.2 hd X.2.2.2.2.2.2.1
theorem tt_zret (X : tt_X cl (p, l, e, R, s, m, args, below, meth, c, MQ below (tt_Q cl D ca ad n0 sz false P) args s 0 0 (tt_A ad n0 sz), D, ca, tt_A ad n0 sz, nL, some n0) cc own ret Ts) {x : Int32} (hr : ret = some .boolean) (hx : narrow .boolean (.int x) = .int x) (hd : decode cc pc = .ok (.ireturn, 1)) (hP : P (some (.int x)) h) : tt_T cl (p, l, e, R, s, m, args, below, meth, c, MQ below (tt_Q cl D ca ad n0 sz false P) args s 0 0 (tt_A ad n0 sz), D, ca, tt_A ad n0 sz, nL, some n0) ad 0 0 pc L [.int x] h := by
  intro n H locs ls hI hl
  have hnn : n = n0 := hI.2.2.2.2
  exact W.zret X.1 X.2.1 (by rw [X.2.2.2.2.2.1, hr]) hx (tt_end (v := some (.int x)) hI hP ⟨by omega, fun _ => ⟨hnn, rfl⟩, fun _ _ => rfl⟩) hI.2.2.2.1.2.2 hd X.2.2.2.2.2.2.1
theorem tt_lret (X : tt_X cl (p, l, e, R, s, m, args, below, meth, c, MQ below (tt_Q cl D ca ad n0 sz false P) args s 0 0 (tt_A ad n0 sz), D, ca, tt_A ad n0 sz, nL, some n0) cc own ret Ts) {x : Int64} (hr : ret = some .long) (hd : decode cc pc = .ok (.lreturn, 1)) (hP : P (some (.long x)) h) : tt_T cl (p, l, e, R, s, m, args, below, meth, c, MQ below (tt_Q cl D ca ad n0 sz false P) args s 0 0 (tt_A ad n0 sz), D, ca, tt_A ad n0 sz, nL, some n0) ad 0 0 pc L [.long x] h := by
  intro n H locs ls hI hl
  have hnn : n = n0 := hI.2.2.2.2
  exact W.lret X.1 X.2.1 (by rw [X.2.2.2.2.2.1, hr]) (tt_end (v := some (.long x)) hI hP ⟨by omega, fun _ => ⟨hnn, rfl⟩, fun _ _ => rfl⟩) hI.2.2.2.1.2.2 hd X.2.2.2.2.2.2.1
theorem tt_vret (X : tt_X cl (p, l, e, R, s, m, args, below, meth, c, MQ below (tt_Q cl D ca ad n0 sz false P) args s 0 0 (tt_A ad n0 sz), D, ca, tt_A ad n0 sz, nL, some n0) cc own ret Ts) (hr : ret = none) (hd : decode cc pc = .ok (.return_, 1)) (hP : P none h) : tt_T cl (p, l, e, R, s, m, args, below, meth, c, MQ below (tt_Q cl D ca ad n0 sz false P) args s 0 0 (tt_A ad n0 sz), D, ca, tt_A ad n0 sz, nL, some n0) ad 0 0 pc L [] h := by
  intro n H locs ls hI hl
  have hnn : n = n0 := hI.2.2.2.2
  exact W.vret X.1 X.2.1 (by rw [X.2.2.2.2.2.1, hr]) (tt_end (v := none) hI hP ⟨by omega, fun _ => ⟨hnn, rfl⟩, fun _ _ => rfl⟩) hI.2.2.2.1.2.2 hd X.2.2.2.2.2.2.1
theorem tt_aret (X : tt_X cl (p, l, e, R, s, m, args, below, meth, c, MQ below (tt_Q cl D ca ad n0 sz false P) args s 0 0 (tt_A ad n0 sz), D, ca, tt_A ad n0 sz, nL, some n0) cc own ret Ts) {C : String} {v : Value} (hv : v = .null ∨ ∃ a, v = .ref a) (hr : ret = some (.object C)) (hd : decode cc pc = .ok (.areturn, 1)) (hP : P (some v) h) : tt_T cl (p, l, e, R, s, m, args, below, meth, c, MQ below (tt_Q cl D ca ad n0 sz false P) args s 0 0 (tt_A ad n0 sz), D, ca, tt_A ad n0 sz, nL, some n0) ad 0 0 pc L [v] h := by
  intro n H locs ls hI hl
  have hnn : n = n0 := hI.2.2.2.2
  refine W.aret (v := tt_v ad v) X.1 X.2.1 (by rw [X.2.2.2.2.2.1, hr]) (Or.inl ⟨C, rfl⟩) ?_ (tt_end (v := some v) hI hP ⟨by omega, fun _ => ⟨hnn, rfl⟩, fun _ _ => rfl⟩) hI.2.2.2.1.2.2 hd X.2.2.2.2.2.2.1
  rcases hv with rfl | ⟨a, rfl⟩
  · exact Or.inl rfl
  · exact Or.inr ⟨ad a, rfl⟩
end TTF
