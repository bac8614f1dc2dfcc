section
/-! THE TOY HEAP: places (numbers) instead of addresses. A cell at a place is an object (class number, values) or an array (type number, contents); a reference is the number of a place. 'ad' gives each place its address, 'ca' each array type its class. -/
abbrev tt_E : Type := (Nat × vp_A) ⊕ (Nat × List Value)
abbrev tt_H : Type := Nat → Option tt_E
abbrev tt_ia (N : Nat) (f : Nat → Int32) : tt_E := .inl (0, (N, .inl f))
abbrev tt_ja (N : Nat) (f : Nat → Int64) : tt_E := .inl (1, (N, .inr (.inl f)))
abbrev tt_za (N : Nat) (f : Nat → Int32) : tt_E := .inl (2, (N, .inl f))
abbrev tt_qa (t N : Nat) (f : Nat → Option Nat) : tt_E := .inl (t, (N, .inr (.inr (.inr (.inr f)))))
abbrev tt_ob (ci : Nat) (fs : List Value) : tt_E := .inr (ci, fs)
def tt_tyl : List FieldType := [.int, .long, .boolean, .object "AddedCries$Cry", .object "AddedCries$Sheet"]
def tt_tys (ca : Nat → ClassId) : List (ClassId × FieldType) := [(ca 0, .int), (ca 1, .long), (ca 2, .boolean), (ca 3, .object "AddedCries$Cry"), (ca 4, .object "AddedCries$Sheet")]
def tt_v (ad : Nat → Nat) (v : Value) : Value := match v with
  | .ref i => .ref (ad i)
  | w => w
def tt_a (ad : Nat → Nat) (a : vp_A) : vp_A := match a with
  | (n, .inr (.inr (.inr (.inr f)))) => (n, .inr (.inr (.inr (.inr (fun j => (f j).map ad)))))
  | b => b
def tt_e (ca ad : Nat → Nat) (e : tt_E) : va_E := match e with
  | .inl (t, a) => .inl (ca t, tt_a ad a)
  | .inr (ci, fs) => .inr (ci, fs.map (tt_v ad))
def tt_w (ca ad : Nat → Nat) (n : Nat) (h : tt_H) : va_W := (List.range n).map (fun i => (ad i, tt_e ca ad ((h i).getD (.inr (0, [])))))
def tt_wf (n : Nat) (h : tt_H) : Prop := ∀ i, i < n ↔ (h i).isSome = true
def tt_A (ad : Nat → Nat) (n sz : Nat) : Nat → Prop := fun q => (∃ i, i < n ∧ q = ad i) ∨ sz ≤ q
theorem tt_v_cat (ad : Nat → Nat) (v : Value) : (tt_v ad v).category = v.category := by cases v <;> rfl
theorem tt_cats (ad : Nat → Nat) (st : List Value) : ((st.map (tt_v ad)).map fun v => v.category) = st.map fun v => v.category := by
  rw [List.map_map]
  exact List.map_congr_left (fun v _ => tt_v_cat ad v)
theorem tt_lt {n : Nat} {h : tt_H} (hw : tt_wf n h) {i : Nat} {e : tt_E} (hi : h i = some e) : i < n := (hw i).mpr (by rw [hi]; rfl)
theorem tt_w_len (ca ad : Nat → Nat) (n : Nat) (h : tt_H) : (tt_w ca ad n h).length = n := by simp [tt_w]
theorem tt_w_at (ca ad : Nat → Nat) (n : Nat) (h : tt_H) (i : Nat) : (tt_w ca ad n h)[i]? = if i < n then some (ad i, tt_e ca ad ((h i).getD (.inr (0, [])))) else none := by
  unfold tt_w
  rw [List.getElem?_map]
  by_cases hi : i < n
  · rw [if_pos hi, List.getElem?_range hi]; rfl
  · rw [if_neg hi, List.getElem?_eq_none (by simp; omega)]; rfl
theorem tt_w_get {ca ad : Nat → Nat} {n : Nat} {h : tt_H} (hw : tt_wf n h) {i : Nat} {e : tt_E} (hi : h i = some e) : (tt_w ca ad n h)[i]? = some (ad i, tt_e ca ad e) := by
  rw [tt_w_at, if_pos (tt_lt hw hi), hi]; rfl
theorem tt_w_set {ca ad : Nat → Nat} {n : Nat} {h : tt_H} (hw : tt_wf n h) {i : Nat} {e0 e : tt_E} (hi : h i = some e0) : (tt_w ca ad n h).set i (ad i, tt_e ca ad e) = tt_w ca ad n (va_up h i (some e)) := by
  apply List.ext_getElem?
  intro j
  have hl : i < (tt_w ca ad n h).length := by rw [tt_w_len]; exact tt_lt hw hi
  by_cases hj : i = j
  · subst hj
    rw [List.getElem?_set_self hl, tt_w_at, if_pos (tt_lt hw hi), va_up_self]; rfl
  · rw [List.getElem?_set_ne hj, tt_w_at, tt_w_at, va_up_ne _ _ (Ne.symm hj)]
theorem tt_wf_set {n : Nat} {h : tt_H} (hw : tt_wf n h) {i : Nat} {e0 e : tt_E} (hi : h i = some e0) : tt_wf n (va_up h i (some e)) := by
  intro j
  by_cases hj : j = i
  · subst hj
    rw [va_up_self]
    exact ⟨fun _ => rfl, fun _ => tt_lt hw hi⟩
  · rw [va_up_ne _ _ hj]; exact hw j
/-! a place's cells speak of places below n alone: then more addresses change nothing -/
def tt_okv (n : Nat) (v : Value) : Prop := match v with
  | .ref i => i < n
  | _ => True
def tt_oka (n : Nat) (a : vp_A) : Prop := match a with
  | (_, .inr (.inr (.inr (.inr f)))) => ∀ j i, f j = some i → i < n
  | _ => True
def tt_oke (n : Nat) (e : tt_E) : Prop := match e with
  | .inl (_, a) => tt_oka n a
  | .inr (_, fs) => ∀ v ∈ fs, tt_okv n v
def tt_okh (n : Nat) (h : tt_H) : Prop := ∀ i e, h i = some e → tt_oke n e
theorem tt_v_eq {ad ad' : Nat → Nat} {n : Nat} (ha : ∀ i, i < n → ad' i = ad i) {v : Value} (hv : tt_okv n v) : tt_v ad' v = tt_v ad v := by
  cases v <;> first | rfl | exact congrArg Value.ref (ha _ hv)
theorem tt_vs_eq {ad ad' : Nat → Nat} {n : Nat} (ha : ∀ i, i < n → ad' i = ad i) {vs : List Value} (hv : ∀ v ∈ vs, tt_okv n v) : vs.map (tt_v ad') = vs.map (tt_v ad) :=
  List.map_congr_left (fun v h => tt_v_eq ha (hv v h))
theorem tt_a_eq {ad ad' : Nat → Nat} {n : Nat} (ha : ∀ i, i < n → ad' i = ad i) {a : vp_A} (hv : tt_oka n a) : tt_a ad' a = tt_a ad a := by
  obtain ⟨k, f | f | f | f | f⟩ := a <;> try rfl
  show (k, _) = (k, _)
  congr 5
  funext j
  cases hf : f j with
  | none => rfl
  | some i => exact congrArg some (ha i (hv j i hf))
theorem tt_e_eq {ca ad ad' : Nat → Nat} {n : Nat} (ha : ∀ i, i < n → ad' i = ad i) {e : tt_E} (hv : tt_oke n e) : tt_e ca ad' e = tt_e ca ad e := by
  obtain ⟨t, a⟩ | ⟨ci, fs⟩ := e
  · show Sum.inl (ca t, _) = Sum.inl (ca t, _)
    rw [tt_a_eq ha hv]
  · show Sum.inr (ci, _) = Sum.inr (ci, _)
    rw [tt_vs_eq ha hv]
theorem tt_w_eq {ca ad ad' : Nat → Nat} {n : Nat} {h : tt_H} (hw : tt_wf n h) (ho : tt_okh n h) (ha : ∀ i, i < n → ad' i = ad i) : tt_w ca ad' n h = tt_w ca ad n h := by
  apply List.ext_getElem?
  intro i
  rw [tt_w_at, tt_w_at]
  by_cases hi : i < n
  · rw [if_pos hi, if_pos hi, ha i hi]
    obtain ⟨e, he⟩ := Option.isSome_iff_exists.mp ((hw i).mp hi)
    rw [he]
    show some (_, tt_e ca ad' e) = some (_, tt_e ca ad e)
    rw [tt_e_eq ha (ho i e he)]
  · rw [if_neg hi, if_neg hi]
theorem tt_wf_new {n : Nat} {h : tt_H} (hw : tt_wf n h) (e : tt_E) : tt_wf (n + 1) (va_up h n (some e)) := by
  intro j
  by_cases hj : j = n
  · subst hj
    rw [va_up_self]
    exact ⟨fun _ => rfl, fun _ => Nat.lt_succ_self _⟩
  · rw [va_up_ne _ _ hj, ← hw j]; omega
theorem tt_w_new {ca ad : Nat → Nat} {n : Nat} {h : tt_H} (hw : tt_wf n h) (ho : tt_okh n h) {e : tt_E} (he : tt_oke n e) (q : Nat) : tt_w ca (va_up ad n q) (n + 1) (va_up h n (some e)) = tt_w ca ad n h ++ [(q, tt_e ca ad e)] := by
  apply List.ext_getElem?
  intro i
  have hag : ∀ i, i < n → va_up ad n q i = ad i := fun i hi => va_up_ne _ _ (by omega)
  rw [tt_w_at]
  by_cases hi : i < n
  · rw [if_pos (by omega), List.getElem?_append_left (by rw [tt_w_len]; exact hi), tt_w_at, if_pos hi, hag i hi, va_up_ne _ _ (by omega)]
    obtain ⟨e1, he1⟩ := Option.isSome_iff_exists.mp ((hw i).mp hi)
    rw [he1]
    show some (_, tt_e ca _ e1) = some (_, tt_e ca ad e1)
    rw [tt_e_eq hag (ho i e1 he1)]
  · rw [List.getElem?_append_right (by rw [tt_w_len]; omega), tt_w_len]
    by_cases hin : i = n
    · subst hin
      rw [if_pos (by omega), Nat.sub_self, va_up_self, va_up_self]
      show some (q, tt_e ca _ e) = some (q, tt_e ca ad e)
      rw [tt_e_eq hag he]
    · rw [if_neg (by omega), List.getElem?_eq_none (by simp; omega)]
/-! THE LOCALS: a list by their numbers, in order -/
def tt_ins (i : Nat) (v : Value) : List (Nat × Value) → List (Nat × Value)
  | [] => [(i, v)]
  | q :: r => match Nat.decLt i q.1 with
    | isTrue _ => (i, v) :: q :: r
    | isFalse _ => q :: tt_ins i v r
def tt_cl1 (i : Nat) : List (Nat × Value) → List (Nat × Value)
  | [] => []
  | q :: r => if (!(q.1 == i) && !(q.1 + 1 == i && q.2.category == 2)) = true then q :: tt_cl1 i r else tt_cl1 i r
def tt_cl2 (i : Nat) : List (Nat × Value) → List (Nat × Value)
  | [] => []
  | q :: r => if (!(q.1 == i) && (!(q.1 == i + 1) && !(q.1 + 1 == i && q.2.category == 2))) = true then q :: tt_cl2 i r else tt_cl2 i r
def tt_put (i : Nat) (v : Value) (L : List (Nat × Value)) : List (Nat × Value) := tt_ins i v (tt_cl1 i L)
def tt_put2 (i : Nat) (v : Value) (L : List (Nat × Value)) : List (Nat × Value) := tt_ins i v (tt_cl2 i L)
theorem tt_ins_mem {i : Nat} {v : Value} : ∀ {L : List (Nat × Value)} {q : Nat × Value}, q ∈ tt_ins i v L → q = (i, v) ∨ q ∈ L
  | [], q, h => Or.inl (List.mem_singleton.mp h)
  | a :: r, q, h => by
    unfold tt_ins at h
    cases hd : Nat.decLt i a.1 with
    | isTrue _ =>
      rw [hd] at h
      rcases List.mem_cons.mp h with h | h
      · exact Or.inl h
      · exact Or.inr h
    | isFalse _ =>
      rw [hd] at h
      rcases List.mem_cons.mp h with h | h
      · exact Or.inr (by rw [h]; exact List.mem_cons_self)
      · rcases tt_ins_mem h with h | h
        · exact Or.inl h
        · exact Or.inr (List.mem_cons_of_mem _ h)
theorem tt_cl1_mem {i : Nat} : ∀ {L : List (Nat × Value)} {q : Nat × Value}, q ∈ tt_cl1 i L → q ∈ L.filter (fun q => !(q.1 == i) && !(q.1 + 1 == i && q.2.category == 2))
  | [], q, h => h
  | a :: r, q, h => by
    unfold tt_cl1 at h
    by_cases hc : (!(a.1 == i) && !(a.1 + 1 == i && a.2.category == 2)) = true
    · rw [if_pos hc] at h
      rw [List.filter_cons_of_pos (by exact hc)]
      rcases List.mem_cons.mp h with h | h
      · rw [h]; exact List.mem_cons_self
      · exact List.mem_cons_of_mem _ (tt_cl1_mem h)
    · rw [if_neg hc] at h
      rw [List.filter_cons_of_neg (by exact hc)]
      exact tt_cl1_mem h
theorem tt_cl2_mem {i : Nat} : ∀ {L : List (Nat × Value)} {q : Nat × Value}, q ∈ tt_cl2 i L → q ∈ L.filter (fun q => !(q.1 == i) && (!(q.1 == i + 1) && !(q.1 + 1 == i && q.2.category == 2)))
  | [], q, h => h
  | a :: r, q, h => by
    unfold tt_cl2 at h
    by_cases hc : (!(a.1 == i) && (!(a.1 == i + 1) && !(a.1 + 1 == i && a.2.category == 2))) = true
    · rw [if_pos hc] at h
      rw [List.filter_cons_of_pos (by exact hc)]
      rcases List.mem_cons.mp h with h | h
      · rw [h]; exact List.mem_cons_self
      · exact List.mem_cons_of_mem _ (tt_cl2_mem h)
    · rw [if_neg hc] at h
      rw [List.filter_cons_of_neg (by exact hc)]
      exact tt_cl2_mem h
def tt_m (ad : Nat → Nat) (L : List (Nat × Value)) : List (Nat × Value) := L.map (fun q => (q.1, tt_v ad q.2))
theorem tt_look {ls : Array Slot} {nL : Nat} {ad : Nat → Nat} {L : List (Nat × Value)} (h : lv_has ls nL (tt_m ad L)) {i : Nat} {v : Value} (hl : L.lookup i = some v) : ls[i]? = some (.val (tt_v ad v)) := by
  refine h.2.2 (i, tt_v ad v) (List.mem_map.mpr ⟨(i, v), ?_, rfl⟩)
  clear h
  induction L with
  | nil => cases hl
  | cons a r ih =>
    obtain ⟨k, w⟩ := a
    by_cases hk : i == k
    · rw [List.lookup_cons] at hl
      rw [hk] at hl
      cases hl
      rw [beq_iff_eq.mp hk]
      exact List.mem_cons_self
    · rw [List.lookup_cons] at hl
      simp only [hk] at hl
      exact List.mem_cons_of_mem _ (ih hl)
theorem tt_st1 {ls : Array Slot} {nL : Nat} {ad : Nat → Nat} {L : List (Nat × Value)} {i : Nat} {v : Value} (h : lv_has ls nL ((i, tt_v ad v) :: (tt_m ad L).filter (fun q => !(q.1 == i) && !(q.1 + 1 == i && q.2.category == 2)))) : lv_has ls nL (tt_m ad (tt_put i v L)) := by
  refine ⟨h.1, h.2.1, fun q hq => h.2.2 q ?_⟩
  obtain ⟨q0, h0, rfl⟩ := List.mem_map.mp hq
  rcases tt_ins_mem h0 with h0 | h0
  · subst h0; exact List.mem_cons_self
  · refine List.mem_cons_of_mem _ (List.mem_filter.mpr ?_)
    obtain ⟨m1, m2⟩ := List.mem_filter.mp (tt_cl1_mem h0)
    exact ⟨List.mem_map.mpr ⟨q0, m1, rfl⟩, by rw [tt_v_cat]; exact m2⟩
theorem tt_st2 {ls : Array Slot} {nL : Nat} {ad : Nat → Nat} {L : List (Nat × Value)} {i : Nat} {v : Value} (h : lv_has ls nL ((i, tt_v ad v) :: (tt_m ad L).filter (fun q => !(q.1 == i) && (!(q.1 == i + 1) && !(q.1 + 1 == i && q.2.category == 2))))) : lv_has ls nL (tt_m ad (tt_put2 i v L)) := by
  refine ⟨h.1, h.2.1, fun q hq => h.2.2 q ?_⟩
  obtain ⟨q0, h0, rfl⟩ := List.mem_map.mp hq
  rcases tt_ins_mem h0 with h0 | h0
  · subst h0; exact List.mem_cons_self
  · refine List.mem_cons_of_mem _ (List.mem_filter.mpr ?_)
    obtain ⟨m1, m2⟩ := List.mem_filter.mp (tt_cl2_mem h0)
    exact ⟨List.mem_map.mpr ⟨q0, m1, rfl⟩, by rw [tt_v_cat]; exact m2⟩
def tt_args : Nat → List Value → List (Nat × Value)
  | _, [] => []
  | i, v :: vs => (i, v) :: tt_args (if v.category = 2 then i + 2 else i + 1) vs
theorem tt_args_m (ad : Nat → Nat) : ∀ (vs : List Value) (i : Nat), lv_args i (vs.map (tt_v ad)) = tt_m ad (tt_args i vs)
  | [], _ => rfl
  | v :: vs, i => by
    show (i, tt_v ad v) :: lv_args _ (vs.map (tt_v ad)) = (i, tt_v ad v) :: tt_m ad (tt_args _ vs)
    rw [tt_v_cat, tt_args_m ad vs]
/-! THE JUDGEMENT. K: the machine around (program, launch, environment, room, the state at entry, method, arguments, frames below, the method's row, its code, what is wanted, the classes, the array classes, what may be written, how many locals) -/
abbrev tt_K : Type := Program × Launch × Env × Room × State × MethodId × Array Value × List Frame × Method × Code × (State → Prop) × va_G × (Nat → ClassId) × (Nat → Prop) × Nat × Option Nat
def tt_nk (nz : Option Nat) (n : Nat) : Prop := match nz with
  | some n0 => n = n0
  | none => True
def tt_I (cl : List vw_C) (K : tt_K) (ad : Nat → Nat) (n : Nat) (h : tt_H) (H : Heap) (locs : List Loc) : Prop := match K with
  | (_, _, _, _, s, _, _, _, _, _, _, D, ca, A, _, nz) => tt_wf n h ∧ va_P D cl (tt_w ca ad n h) H ∧ va_D A (tt_w ca ad n h) ∧ va_S A s.heap H locs ∧ tt_nk nz n
def tt_T (cl : List vw_C) (K : tt_K) (ad : Nat → Nat) (kc ks pc : Nat) (L : List (Nat × Value)) (st : List Value) (h : tt_H) : Prop := match K with
  | (p, l, e, R, s, m, args, below, meth, c, Q, D, ca, A, nL, nz) => ∀ (n : Nat) (H : Heap) (locs : List Loc) (ls : Array Slot), tt_I cl (p, l, e, R, s, m, args, below, meth, c, Q, D, ca, A, nL, nz) ad n h H locs → lv_has ls nL (tt_m ad L) → W p l e R s m args below meth c H locs kc ks Q (F0 m pc ls (st.map (tt_v ad)))
/-- what is known of the machine around -/
def tt_X (cl : List vw_C) (K : tt_K) (cc : ByteArray) (own : String) (ret : Option FieldType) (Ts : List Cond) : Prop := match K with
  | (p, _, _, _, s, m, args, _, meth, c, _, D, ca, A, nL, _) => p.tables.exec = Jvm.exec ∧ c.code = cc ∧ c.maxLocals = nL ∧ s.vm.findClass own = some m.cls ∧ (∀ w ∈ Ts, w.before args s = true) ∧ meth.sig.returnType = ret ∧ meth.locks = false ∧ va_K D cl (tt_tys ca) s ∧ (∀ q : Nat, s.heap.size ≤ q → A q)
def tt_nL (K : tt_K) : Nat := match K with
  | (_, _, _, _, _, _, _, _, _, _, _, _, _, _, nL, _) => nL
def tt_mn (K : tt_K) : String := match K with
  | (_, _, _, _, _, _, _, _, meth, _, _, _, _, _, _, _) => meth.name
def tt_R (K : tt_K) : Room := match K with
  | (_, _, _, R, _, _, _, _, _, _, _, _, _, _, _, _) => R
section TTR
variable {cl : List vw_C} {K : tt_K} {ad : Nat → Nat} {kc ks pc : Nat} {L : List (Nat × Value)} {st : List Value} {h : tt_H} {cc : ByteArray} {own : String} {ret : Option FieldType} {Ts : List Cond}
theorem tt_iconst (X : tt_X cl K cc own ret Ts) {n : Int} {v : Int32} (hd : decode cc pc = .ok (.iconst n, 1)) (hv : Int32.ofInt n = v) (kk : tt_T cl K ad kc ks (pc + 1) L (.int v :: st) h) : tt_T cl K ad kc ks pc L st h := by
  obtain ⟨p, l, e, R, s, m, args, below, meth, c, Q, D, ca, A, nL, nz⟩ := K
  exact fun n H locs ls hI hl => lv_iconst X.1 X.2.1 hd hv (kk n H locs ls hI hl)
theorem tt_bipush (X : tt_X cl K cc own ret Ts) {n : Int} {v : Int32} (hd : decode cc pc = .ok (.bipush n, 2)) (hv : (Int8.ofInt n).toInt32 = v) (kk : tt_T cl K ad kc ks (pc + 2) L (.int v :: st) h) : tt_T cl K ad kc ks pc L st h := by
  obtain ⟨p, l, e, R, s, m, args, below, meth, c, Q, D, ca, A, nL, nz⟩ := K
  exact fun n H locs ls hI hl => lv_bipush X.1 X.2.1 hd hv (kk n H locs ls hI hl)
theorem tt_sipush (X : tt_X cl K cc own ret Ts) {n : Int} {v : Int32} (hd : decode cc pc = .ok (.sipush n, 3)) (hv : (Int16.ofInt n).toInt32 = v) (kk : tt_T cl K ad kc ks (pc + 3) L (.int v :: st) h) : tt_T cl K ad kc ks pc L st h := by
  obtain ⟨p, l, e, R, s, m, args, below, meth, c, Q, D, ca, A, nL, nz⟩ := K
  exact fun n H locs ls hI hl => lv_sipush X.1 X.2.1 hd hv (kk n H locs ls hI hl)
theorem tt_lconst (X : tt_X cl K cc own ret Ts) {n : Fin 2} {v : Int64} (hd : decode cc pc = .ok (.lconst n, 1)) (hv : Int64.ofNat (n : Nat) = v) (kk : tt_T cl K ad kc ks (pc + 1) L (.long v :: st) h) : tt_T cl K ad kc ks pc L st h := by
  obtain ⟨p, l, e, R, s, m, args, below, meth, c, Q, D, ca, A, nL, nz⟩ := K
  exact fun n H locs ls hI hl => lv_lconst X.1 X.2.1 hd hv (kk n H locs ls hI hl)
theorem tt_ldc2 (X : tt_X cl K cc own ret Ts) {index : Nat} {v : Int64} (hcn : Jvm.Cond.constantLong own index v ∈ Ts) (hd : decode cc pc = .ok (.ldc2_w index, 3)) (kk : tt_T cl K ad kc ks (pc + 3) L (.long v :: st) h) : tt_T cl K ad kc ks pc L st h := by
  obtain ⟨p, l, e, R, s, m, args, below, meth, c, Q, D, ca, A, nL, nz⟩ := K
  exact fun n H locs ls hI hl => lv_ldc2 X.1 X.2.1 X.2.2.2.1 (X.2.2.2.2.1 _ hcn) hd (kk n H locs ls hI hl)
theorem tt_iload_n (X : tt_X cl K cc own ret Ts) {k : Fin 4} {x : Int32} (hd : decode cc pc = .ok (.iload_n k, 1)) (hl : L.lookup (k : Nat) = some (.int x)) (kk : tt_T cl K ad kc ks (pc + 1) L (.int x :: st) h) : tt_T cl K ad kc ks pc L st h := by
  obtain ⟨p, l, e, R, s, m, args, below, meth, c, Q, D, ca, A, nL, nz⟩ := K
  exact fun n H locs ls hI hv => lv_iload_n X.1 X.2.1 hd rfl (tt_look hv hl) (kk n H locs ls hI hv)
theorem tt_iload (X : tt_X cl K cc own ret Ts) {i : Nat} {x : Int32} (hd : decode cc pc = .ok (.iload i, 2)) (hl : L.lookup i = some (.int x)) (kk : tt_T cl K ad kc ks (pc + 2) L (.int x :: st) h) : tt_T cl K ad kc ks pc L st h := by
  obtain ⟨p, l, e, R, s, m, args, below, meth, c, Q, D, ca, A, nL, nz⟩ := K
  exact fun n H locs ls hI hv => lv_iload X.1 X.2.1 hd (tt_look hv hl) (kk n H locs ls hI hv)
theorem tt_lload_n (X : tt_X cl K cc own ret Ts) {k : Fin 4} {x : Int64} (hd : decode cc pc = .ok (.lload_n k, 1)) (hl : L.lookup (k : Nat) = some (.long x)) (kk : tt_T cl K ad kc ks (pc + 1) L (.long x :: st) h) : tt_T cl K ad kc ks pc L st h := by
  obtain ⟨p, l, e, R, s, m, args, below, meth, c, Q, D, ca, A, nL, nz⟩ := K
  exact fun n H locs ls hI hv => lv_lload_n X.1 X.2.1 hd rfl (tt_look hv hl) (kk n H locs ls hI hv)
theorem tt_lload (X : tt_X cl K cc own ret Ts) {i : Nat} {x : Int64} (hd : decode cc pc = .ok (.lload i, 2)) (hl : L.lookup i = some (.long x)) (kk : tt_T cl K ad kc ks (pc + 2) L (.long x :: st) h) : tt_T cl K ad kc ks pc L st h := by
  obtain ⟨p, l, e, R, s, m, args, below, meth, c, Q, D, ca, A, nL, nz⟩ := K
  exact fun n H locs ls hI hv => lv_lload X.1 X.2.1 hd (tt_look hv hl) (kk n H locs ls hI hv)
theorem tt_aload_n (X : tt_X cl K cc own ret Ts) {k : Fin 4} {x : Nat} (hd : decode cc pc = .ok (.aload_n k, 1)) (hl : L.lookup (k : Nat) = some (.ref x)) (kk : tt_T cl K ad kc ks (pc + 1) L (.ref x :: st) h) : tt_T cl K ad kc ks pc L st h := by
  obtain ⟨p, l, e, R, s, m, args, below, meth, c, Q, D, ca, A, nL, nz⟩ := K
  exact fun n H locs ls hI hv => lv_aload_n X.1 X.2.1 hd rfl (tt_look hv hl) (kk n H locs ls hI hv)
theorem tt_aload (X : tt_X cl K cc own ret Ts) {i : Nat} {x : Nat} (hd : decode cc pc = .ok (.aload i, 2)) (hl : L.lookup i = some (.ref x)) (kk : tt_T cl K ad kc ks (pc + 2) L (.ref x :: st) h) : tt_T cl K ad kc ks pc L st h := by
  obtain ⟨p, l, e, R, s, m, args, below, meth, c, Q, D, ca, A, nL, nz⟩ := K
  exact fun n H locs ls hI hv => lv_aload X.1 X.2.1 hd (tt_look hv hl) (kk n H locs ls hI hv)
theorem tt_look_at {ad : Nat → Nat} {L : List (Nat × Value)} {i : Nat} {v : Value} (hl : L.lookup i = some v) : ∃ k : Nat, (tt_m ad L)[k]? = some (i, tt_v ad v) := by
  refine List.getElem?_of_mem (List.mem_map.mpr ⟨(i, v), ?_, rfl⟩)
  induction L with
  | nil => cases hl
  | cons a r ih =>
    obtain ⟨k, w⟩ := a
    by_cases hk : i == k
    · rw [List.lookup_cons] at hl
      rw [hk] at hl
      cases hl
      rw [beq_iff_eq.mp hk]
      exact List.mem_cons_self
    · rw [List.lookup_cons] at hl
      simp only [hk] at hl
      exact List.mem_cons_of_mem _ (ih hl)
theorem tt_tys_at (ca : Nat → ClassId) {t : Nat} {ty : FieldType} (ht : tt_tyl[t]? = some ty) : (tt_tys ca)[t]? = some (ca t, ty) := by
  match t, ht with
  | 0, ht => cases ht; rfl
  | 1, ht => cases ht; rfl
  | 2, ht => cases ht; rfl
  | 3, ht => cases ht; rfl
  | 4, ht => cases ht; rfl
  | t + 5, ht => simp [tt_tyl] at ht
theorem tt_istore_n (X : tt_X cl K cc own ret Ts) {k : Fin 4} {x : Int32} (hd : decode cc pc = .ok (.istore_n k, 1)) (hn : (k : Nat) < tt_nL K) (kk : tt_T cl K ad kc ks (pc + 1) (tt_put (k : Nat) (.int x) L) st h) : tt_T cl K ad kc ks pc L (.int x :: st) h := by
  obtain ⟨p, l, e, R, s, m, args, below, meth, c, Q, D, ca, A, nL, nz⟩ := K
  exact fun n H locs ls hI hv => lv_istore_n X.1 X.2.1 hd rfl hv hn rfl (fun ls' hv' => kk n H locs ls' hI (tt_st1 (v := .int x) hv'))
theorem tt_istore (X : tt_X cl K cc own ret Ts) {i : Nat} {x : Int32} (hd : decode cc pc = .ok (.istore i, 2)) (hn : i < tt_nL K) (kk : tt_T cl K ad kc ks (pc + 2) (tt_put i (.int x) L) st h) : tt_T cl K ad kc ks pc L (.int x :: st) h := by
  obtain ⟨p, l, e, R, s, m, args, below, meth, c, Q, D, ca, A, nL, nz⟩ := K
  exact fun n H locs ls hI hv => lv_istore X.1 X.2.1 hd hv hn rfl (fun ls' hv' => kk n H locs ls' hI (tt_st1 (v := .int x) hv'))
theorem tt_lstore_n (X : tt_X cl K cc own ret Ts) {k : Fin 4} {x : Int64} (hd : decode cc pc = .ok (.lstore_n k, 1)) (hn : (k : Nat) + 1 < tt_nL K) (kk : tt_T cl K ad kc ks (pc + 1) (tt_put2 (k : Nat) (.long x) L) st h) : tt_T cl K ad kc ks pc L (.long x :: st) h := by
  obtain ⟨p, l, e, R, s, m, args, below, meth, c, Q, D, ca, A, nL, nz⟩ := K
  exact fun n H locs ls hI hv => lv_lstore_n X.1 X.2.1 hd rfl hv hn rfl (fun ls' hv' => kk n H locs ls' hI (tt_st2 (v := .long x) hv'))
theorem tt_lstore (X : tt_X cl K cc own ret Ts) {i : Nat} {x : Int64} (hd : decode cc pc = .ok (.lstore i, 2)) (hn : i + 1 < tt_nL K) (kk : tt_T cl K ad kc ks (pc + 2) (tt_put2 i (.long x) L) st h) : tt_T cl K ad kc ks pc L (.long x :: st) h := by
  obtain ⟨p, l, e, R, s, m, args, below, meth, c, Q, D, ca, A, nL, nz⟩ := K
  exact fun n H locs ls hI hv => lv_lstore X.1 X.2.1 hd hv hn rfl (fun ls' hv' => kk n H locs ls' hI (tt_st2 (v := .long x) hv'))
theorem tt_astore_n (X : tt_X cl K cc own ret Ts) {k : Fin 4} {x : Nat} (hd : decode cc pc = .ok (.astore_n k, 1)) (hn : (k : Nat) < tt_nL K) (kk : tt_T cl K ad kc ks (pc + 1) (tt_put (k : Nat) (.ref x) L) st h) : tt_T cl K ad kc ks pc L (.ref x :: st) h := by
  obtain ⟨p, l, e, R, s, m, args, below, meth, c, Q, D, ca, A, nL, nz⟩ := K
  exact fun n H locs ls hI hv => lv_astore_n X.1 X.2.1 hd rfl hv hn rfl (fun ls' hv' => kk n H locs ls' hI (tt_st1 (v := .ref x) hv'))
theorem tt_astore (X : tt_X cl K cc own ret Ts) {i : Nat} {x : Nat} (hd : decode cc pc = .ok (.astore i, 2)) (hn : i < tt_nL K) (kk : tt_T cl K ad kc ks (pc + 2) (tt_put i (.ref x) L) st h) : tt_T cl K ad kc ks pc L (.ref x :: st) h := by
  obtain ⟨p, l, e, R, s, m, args, below, meth, c, Q, D, ca, A, nL, nz⟩ := K
  exact fun n H locs ls hI hv => lv_astore X.1 X.2.1 hd hv hn rfl (fun ls' hv' => kk n H locs ls' hI (tt_st1 (v := .ref x) hv'))
theorem tt_iinc (X : tt_X cl K cc own ret Ts) {i : Nat} {n : Int} {x v : Int32} (hd : decode cc pc = .ok (.iinc i n, 3)) (hl : L.lookup i = some (.int x)) (hz : x + Int32.ofInt n = v) (hn : i < tt_nL K) (kk : tt_T cl K ad kc ks (pc + 3) (tt_put i (.int v) L) st h) : tt_T cl K ad kc ks pc L st h := by
  obtain ⟨p, l, e, R, s, m, args, below, meth, c, Q, D, ca, A, nL, nz⟩ := K
  intro n0 H locs ls hI hv
  obtain ⟨k, hk⟩ := tt_look_at (ad := ad) hl
  exact lv_iinc X.1 X.2.1 hd hv hk hz hn rfl (fun ls' hv' => kk n0 H locs ls' hI (tt_st1 (v := .int v) hv'))
theorem tt_iadd (X : tt_X cl K cc own ret Ts) {x y : Int32} (hd : decode cc pc = .ok (.iadd, 1)) (kk : tt_T cl K ad kc ks (pc + 1) L (.int (x + y) :: st) h) : tt_T cl K ad kc ks pc L (.int y :: .int x :: st) h := by
  obtain ⟨p, l, e, R, s, m, args, below, meth, c, Q, D, ca, A, nL, nz⟩ := K
  exact fun n H locs ls hI hv => lv_iadd X.1 X.2.1 hd (kk n H locs ls hI hv)
theorem tt_isub (X : tt_X cl K cc own ret Ts) {x y : Int32} (hd : decode cc pc = .ok (.isub, 1)) (kk : tt_T cl K ad kc ks (pc + 1) L (.int (x - y) :: st) h) : tt_T cl K ad kc ks pc L (.int y :: .int x :: st) h := by
  obtain ⟨p, l, e, R, s, m, args, below, meth, c, Q, D, ca, A, nL, nz⟩ := K
  exact fun n H locs ls hI hv => lv_isub X.1 X.2.1 hd (kk n H locs ls hI hv)
theorem tt_imul (X : tt_X cl K cc own ret Ts) {x y : Int32} (hd : decode cc pc = .ok (.imul, 1)) (kk : tt_T cl K ad kc ks (pc + 1) L (.int (x * y) :: st) h) : tt_T cl K ad kc ks pc L (.int y :: .int x :: st) h := by
  obtain ⟨p, l, e, R, s, m, args, below, meth, c, Q, D, ca, A, nL, nz⟩ := K
  exact fun n H locs ls hI hv => lv_imul X.1 X.2.1 hd (kk n H locs ls hI hv)
theorem tt_iand (X : tt_X cl K cc own ret Ts) {x y : Int32} (hd : decode cc pc = .ok (.iand, 1)) (kk : tt_T cl K ad kc ks (pc + 1) L (.int (x &&& y) :: st) h) : tt_T cl K ad kc ks pc L (.int y :: .int x :: st) h := by
  obtain ⟨p, l, e, R, s, m, args, below, meth, c, Q, D, ca, A, nL, nz⟩ := K
  exact fun n H locs ls hI hv => lv_iand X.1 X.2.1 hd (kk n H locs ls hI hv)
theorem tt_ior (X : tt_X cl K cc own ret Ts) {x y : Int32} (hd : decode cc pc = .ok (.ior, 1)) (kk : tt_T cl K ad kc ks (pc + 1) L (.int (x ||| y) :: st) h) : tt_T cl K ad kc ks pc L (.int y :: .int x :: st) h := by
  obtain ⟨p, l, e, R, s, m, args, below, meth, c, Q, D, ca, A, nL, nz⟩ := K
  exact fun n H locs ls hI hv => lv_ior X.1 X.2.1 hd (kk n H locs ls hI hv)
theorem tt_ixor (X : tt_X cl K cc own ret Ts) {x y : Int32} (hd : decode cc pc = .ok (.ixor, 1)) (kk : tt_T cl K ad kc ks (pc + 1) L (.int (x ^^^ y) :: st) h) : tt_T cl K ad kc ks pc L (.int y :: .int x :: st) h := by
  obtain ⟨p, l, e, R, s, m, args, below, meth, c, Q, D, ca, A, nL, nz⟩ := K
  exact fun n H locs ls hI hv => lv_ixor X.1 X.2.1 hd (kk n H locs ls hI hv)
theorem tt_ishl (X : tt_X cl K cc own ret Ts) {x y : Int32} (hd : decode cc pc = .ok (.ishl, 1)) (kk : tt_T cl K ad kc ks (pc + 1) L (.int (x <<< (y &&& 31)) :: st) h) : tt_T cl K ad kc ks pc L (.int y :: .int x :: st) h := by
  obtain ⟨p, l, e, R, s, m, args, below, meth, c, Q, D, ca, A, nL, nz⟩ := K
  exact fun n H locs ls hI hv => lv_ishl X.1 X.2.1 hd (kk n H locs ls hI hv)
theorem tt_ishr (X : tt_X cl K cc own ret Ts) {x y : Int32} (hd : decode cc pc = .ok (.ishr, 1)) (kk : tt_T cl K ad kc ks (pc + 1) L (.int (x >>> (y &&& 31)) :: st) h) : tt_T cl K ad kc ks pc L (.int y :: .int x :: st) h := by
  obtain ⟨p, l, e, R, s, m, args, below, meth, c, Q, D, ca, A, nL, nz⟩ := K
  exact fun n H locs ls hI hv => lv_ishr X.1 X.2.1 hd (kk n H locs ls hI hv)
theorem tt_ladd (X : tt_X cl K cc own ret Ts) {x y : Int64} (hd : decode cc pc = .ok (.ladd, 1)) (kk : tt_T cl K ad kc ks (pc + 1) L (.long (x + y) :: st) h) : tt_T cl K ad kc ks pc L (.long y :: .long x :: st) h := by
  obtain ⟨p, l, e, R, s, m, args, below, meth, c, Q, D, ca, A, nL, nz⟩ := K
  exact fun n H locs ls hI hv => lv_ladd X.1 X.2.1 hd (kk n H locs ls hI hv)
theorem tt_lsub (X : tt_X cl K cc own ret Ts) {x y : Int64} (hd : decode cc pc = .ok (.lsub, 1)) (kk : tt_T cl K ad kc ks (pc + 1) L (.long (x - y) :: st) h) : tt_T cl K ad kc ks pc L (.long y :: .long x :: st) h := by
  obtain ⟨p, l, e, R, s, m, args, below, meth, c, Q, D, ca, A, nL, nz⟩ := K
  exact fun n H locs ls hI hv => lv_lsub X.1 X.2.1 hd (kk n H locs ls hI hv)
theorem tt_idiv (X : tt_X cl K cc own ret Ts) {x y : Int32} (hd : decode cc pc = .ok (.idiv, 1)) (hne : ¬ y = 0) (kk : tt_T cl K ad kc ks (pc + 1) L (.int (x / y) :: st) h) : tt_T cl K ad kc ks pc L (.int y :: .int x :: st) h := by
  obtain ⟨p, l, e, R, s, m, args, below, meth, c, Q, D, ca, A, nL, nz⟩ := K
  exact fun n H locs ls hI hv => lv_idiv X.1 X.2.1 hd hne (kk n H locs ls hI hv)
theorem tt_irem (X : tt_X cl K cc own ret Ts) {x y : Int32} (hd : decode cc pc = .ok (.irem, 1)) (hne : ¬ y = 0) (kk : tt_T cl K ad kc ks (pc + 1) L (.int (x - x / y * y) :: st) h) : tt_T cl K ad kc ks pc L (.int y :: .int x :: st) h := by
  obtain ⟨p, l, e, R, s, m, args, below, meth, c, Q, D, ca, A, nL, nz⟩ := K
  exact fun n H locs ls hI hv => lv_irem X.1 X.2.1 hd hne (kk n H locs ls hI hv)
theorem tt_lcmp (X : tt_X cl K cc own ret Ts) {x y : Int64} (hd : decode cc pc = .ok (.lcmp, 1)) (kk : tt_T cl K ad kc ks (pc + 1) L (.int (lg_cmp x y) :: st) h) : tt_T cl K ad kc ks pc L (.long y :: .long x :: st) h := by
  obtain ⟨p, l, e, R, s, m, args, below, meth, c, Q, D, ca, A, nL, nz⟩ := K
  exact fun n H locs ls hI hv => W.lcmp X.1 X.2.1 hd (kk n H locs ls hI hv)
theorem tt_i2l (X : tt_X cl K cc own ret Ts) {x : Int32} (hd : decode cc pc = .ok (.i2l, 1)) (kk : tt_T cl K ad kc ks (pc + 1) L (.long (x.toInt64) :: st) h) : tt_T cl K ad kc ks pc L (.int x :: st) h := by
  obtain ⟨p, l, e, R, s, m, args, below, meth, c, Q, D, ca, A, nL, nz⟩ := K
  exact fun n H locs ls hI hv => lv_i2l X.1 X.2.1 hd rfl (kk n H locs ls hI hv)
theorem tt_l2i (X : tt_X cl K cc own ret Ts) {x : Int64} (hd : decode cc pc = .ok (.l2i, 1)) (kk : tt_T cl K ad kc ks (pc + 1) L (.int (x.toInt32) :: st) h) : tt_T cl K ad kc ks pc L (.long x :: st) h := by
  obtain ⟨p, l, e, R, s, m, args, below, meth, c, Q, D, ca, A, nL, nz⟩ := K
  exact fun n H locs ls hI hv => lv_l2i X.1 X.2.1 hd rfl (kk n H locs ls hI hv)
theorem tt_i2b (X : tt_X cl K cc own ret Ts) {x : Int32} (hd : decode cc pc = .ok (.i2b, 1)) (kk : tt_T cl K ad kc ks (pc + 1) L (.int (x.toInt8.toInt32) :: st) h) : tt_T cl K ad kc ks pc L (.int x :: st) h := by
  obtain ⟨p, l, e, R, s, m, args, below, meth, c, Q, D, ca, A, nL, nz⟩ := K
  exact fun n H locs ls hI hv => lv_i2b X.1 X.2.1 hd rfl (kk n H locs ls hI hv)
theorem tt_i2s (X : tt_X cl K cc own ret Ts) {x : Int32} (hd : decode cc pc = .ok (.i2s, 1)) (kk : tt_T cl K ad kc ks (pc + 1) L (.int (x.toInt16.toInt32) :: st) h) : tt_T cl K ad kc ks pc L (.int x :: st) h := by
  obtain ⟨p, l, e, R, s, m, args, below, meth, c, Q, D, ca, A, nL, nz⟩ := K
  exact fun n H locs ls hI hv => lv_i2s X.1 X.2.1 hd rfl (kk n H locs ls hI hv)
theorem tt_dup (X : tt_X cl K cc own ret Ts) {a : Value} (hd : decode cc pc = .ok (.dup, 1)) (ha : a.category = 1) (kk : tt_T cl K ad kc ks (pc + 1) L (a :: a :: st) h) : tt_T cl K ad kc ks pc L (a :: st) h := by
  obtain ⟨p, l, e, R, s, m, args, below, meth, c, Q, D, ca, A, nL, nz⟩ := K
  exact fun n H locs ls hI hv => lv_dup X.1 X.2.1 hd (by rw [tt_v_cat]; exact ha) (kk n H locs ls hI hv)
theorem tt_pop (X : tt_X cl K cc own ret Ts) {a : Value} (hd : decode cc pc = .ok (.pop, 1)) (ha : a.category = 1) (kk : tt_T cl K ad kc ks (pc + 1) L st h) : tt_T cl K ad kc ks pc L (a :: st) h := by
  obtain ⟨p, l, e, R, s, m, args, below, meth, c, Q, D, ca, A, nL, nz⟩ := K
  exact fun n H locs ls hI hv => lv_pop X.1 X.2.1 hd (by rw [tt_v_cat]; exact ha) (kk n H locs ls hI hv)
theorem tt_dup2 (X : tt_X cl K cc own ret Ts) {a b : Value} (hd : decode cc pc = .ok (.dup2, 1)) (ha : a.category = 1) (hb : b.category = 1) (kk : tt_T cl K ad kc ks (pc + 1) L (a :: b :: a :: b :: st) h) : tt_T cl K ad kc ks pc L (a :: b :: st) h := by
  obtain ⟨p, l, e, R, s, m, args, below, meth, c, Q, D, ca, A, nL, nz⟩ := K
  exact fun n H locs ls hI hv => lv_dup2_11 X.1 X.2.1 hd (by rw [tt_v_cat]; exact ha) (by rw [tt_v_cat]; exact hb) (kk n H locs ls hI hv)
theorem tt_if_eq (X : tt_X cl K cc own ret Ts) {x : Int32} {off : Int} {tgt : Nat} (hd : decode cc pc = .ok (.ifCond .eq off, 3)) (ht : (pc : Int) + off = (tgt : Int)) (kt : x = 0 → tt_T cl K ad kc ks tgt L st h) (kf : ¬ x = 0 → tt_T cl K ad kc ks (pc + 3) L st h) : tt_T cl K ad kc ks pc L (.int x :: st) h := by
  obtain ⟨p, l, e, R, s, m, args, below, meth, c, Q, D, ca, A, nL, nz⟩ := K
  exact fun n H locs ls hI hv => lv_if_eq X.1 X.2.1 hd ht (fun q => kt q n H locs ls hI hv) (fun q => kf q n H locs ls hI hv)
theorem tt_icmp_eq (X : tt_X cl K cc own ret Ts) {x y : Int32} {off : Int} {tgt : Nat} (hd : decode cc pc = .ok (.if_icmp .eq off, 3)) (ht : (pc : Int) + off = (tgt : Int)) (kt : x = y → tt_T cl K ad kc ks tgt L st h) (kf : ¬ x = y → tt_T cl K ad kc ks (pc + 3) L st h) : tt_T cl K ad kc ks pc L (.int y :: .int x :: st) h := by
  obtain ⟨p, l, e, R, s, m, args, below, meth, c, Q, D, ca, A, nL, nz⟩ := K
  exact fun n H locs ls hI hv => lv_icmp_eq X.1 X.2.1 hd ht (fun q => kt q n H locs ls hI hv) (fun q => kf q n H locs ls hI hv)
theorem tt_if_ne (X : tt_X cl K cc own ret Ts) {x : Int32} {off : Int} {tgt : Nat} (hd : decode cc pc = .ok (.ifCond .ne off, 3)) (ht : (pc : Int) + off = (tgt : Int)) (kt : ¬ x = 0 → tt_T cl K ad kc ks tgt L st h) (kf : x = 0 → tt_T cl K ad kc ks (pc + 3) L st h) : tt_T cl K ad kc ks pc L (.int x :: st) h := by
  obtain ⟨p, l, e, R, s, m, args, below, meth, c, Q, D, ca, A, nL, nz⟩ := K
  exact fun n H locs ls hI hv => lv_if_ne X.1 X.2.1 hd ht (fun q => kt q n H locs ls hI hv) (fun q => kf q n H locs ls hI hv)
theorem tt_icmp_ne (X : tt_X cl K cc own ret Ts) {x y : Int32} {off : Int} {tgt : Nat} (hd : decode cc pc = .ok (.if_icmp .ne off, 3)) (ht : (pc : Int) + off = (tgt : Int)) (kt : ¬ x = y → tt_T cl K ad kc ks tgt L st h) (kf : x = y → tt_T cl K ad kc ks (pc + 3) L st h) : tt_T cl K ad kc ks pc L (.int y :: .int x :: st) h := by
  obtain ⟨p, l, e, R, s, m, args, below, meth, c, Q, D, ca, A, nL, nz⟩ := K
  exact fun n H locs ls hI hv => lv_icmp_ne X.1 X.2.1 hd ht (fun q => kt q n H locs ls hI hv) (fun q => kf q n H locs ls hI hv)
theorem tt_if_lt (X : tt_X cl K cc own ret Ts) {x : Int32} {off : Int} {tgt : Nat} (hd : decode cc pc = .ok (.ifCond .lt off, 3)) (ht : (pc : Int) + off = (tgt : Int)) (kt : x < 0 → tt_T cl K ad kc ks tgt L st h) (kf : ¬ x < 0 → tt_T cl K ad kc ks (pc + 3) L st h) : tt_T cl K ad kc ks pc L (.int x :: st) h := by
  obtain ⟨p, l, e, R, s, m, args, below, meth, c, Q, D, ca, A, nL, nz⟩ := K
  exact fun n H locs ls hI hv => lv_if_lt X.1 X.2.1 hd ht (fun q => kt q n H locs ls hI hv) (fun q => kf q n H locs ls hI hv)
theorem tt_icmp_lt (X : tt_X cl K cc own ret Ts) {x y : Int32} {off : Int} {tgt : Nat} (hd : decode cc pc = .ok (.if_icmp .lt off, 3)) (ht : (pc : Int) + off = (tgt : Int)) (kt : x < y → tt_T cl K ad kc ks tgt L st h) (kf : ¬ x < y → tt_T cl K ad kc ks (pc + 3) L st h) : tt_T cl K ad kc ks pc L (.int y :: .int x :: st) h := by
  obtain ⟨p, l, e, R, s, m, args, below, meth, c, Q, D, ca, A, nL, nz⟩ := K
  exact fun n H locs ls hI hv => lv_icmp_lt X.1 X.2.1 hd ht (fun q => kt q n H locs ls hI hv) (fun q => kf q n H locs ls hI hv)
theorem tt_if_ge (X : tt_X cl K cc own ret Ts) {x : Int32} {off : Int} {tgt : Nat} (hd : decode cc pc = .ok (.ifCond .ge off, 3)) (ht : (pc : Int) + off = (tgt : Int)) (kt : 0 ≤ x → tt_T cl K ad kc ks tgt L st h) (kf : ¬ 0 ≤ x → tt_T cl K ad kc ks (pc + 3) L st h) : tt_T cl K ad kc ks pc L (.int x :: st) h := by
  obtain ⟨p, l, e, R, s, m, args, below, meth, c, Q, D, ca, A, nL, nz⟩ := K
  exact fun n H locs ls hI hv => lv_if_ge X.1 X.2.1 hd ht (fun q => kt q n H locs ls hI hv) (fun q => kf q n H locs ls hI hv)
theorem tt_icmp_ge (X : tt_X cl K cc own ret Ts) {x y : Int32} {off : Int} {tgt : Nat} (hd : decode cc pc = .ok (.if_icmp .ge off, 3)) (ht : (pc : Int) + off = (tgt : Int)) (kt : y ≤ x → tt_T cl K ad kc ks tgt L st h) (kf : ¬ y ≤ x → tt_T cl K ad kc ks (pc + 3) L st h) : tt_T cl K ad kc ks pc L (.int y :: .int x :: st) h := by
  obtain ⟨p, l, e, R, s, m, args, below, meth, c, Q, D, ca, A, nL, nz⟩ := K
  exact fun n H locs ls hI hv => lv_icmp_ge X.1 X.2.1 hd ht (fun q => kt q n H locs ls hI hv) (fun q => kf q n H locs ls hI hv)
theorem tt_if_gt (X : tt_X cl K cc own ret Ts) {x : Int32} {off : Int} {tgt : Nat} (hd : decode cc pc = .ok (.ifCond .gt off, 3)) (ht : (pc : Int) + off = (tgt : Int)) (kt : 0 < x → tt_T cl K ad kc ks tgt L st h) (kf : ¬ 0 < x → tt_T cl K ad kc ks (pc + 3) L st h) : tt_T cl K ad kc ks pc L (.int x :: st) h := by
  obtain ⟨p, l, e, R, s, m, args, below, meth, c, Q, D, ca, A, nL, nz⟩ := K
  exact fun n H locs ls hI hv => lv_if_gt X.1 X.2.1 hd ht (fun q => kt q n H locs ls hI hv) (fun q => kf q n H locs ls hI hv)
theorem tt_icmp_gt (X : tt_X cl K cc own ret Ts) {x y : Int32} {off : Int} {tgt : Nat} (hd : decode cc pc = .ok (.if_icmp .gt off, 3)) (ht : (pc : Int) + off = (tgt : Int)) (kt : y < x → tt_T cl K ad kc ks tgt L st h) (kf : ¬ y < x → tt_T cl K ad kc ks (pc + 3) L st h) : tt_T cl K ad kc ks pc L (.int y :: .int x :: st) h := by
  obtain ⟨p, l, e, R, s, m, args, below, meth, c, Q, D, ca, A, nL, nz⟩ := K
  exact fun n H locs ls hI hv => lv_icmp_gt X.1 X.2.1 hd ht (fun q => kt q n H locs ls hI hv) (fun q => kf q n H locs ls hI hv)
theorem tt_if_le (X : tt_X cl K cc own ret Ts) {x : Int32} {off : Int} {tgt : Nat} (hd : decode cc pc = .ok (.ifCond .le off, 3)) (ht : (pc : Int) + off = (tgt : Int)) (kt : x ≤ 0 → tt_T cl K ad kc ks tgt L st h) (kf : ¬ x ≤ 0 → tt_T cl K ad kc ks (pc + 3) L st h) : tt_T cl K ad kc ks pc L (.int x :: st) h := by
  obtain ⟨p, l, e, R, s, m, args, below, meth, c, Q, D, ca, A, nL, nz⟩ := K
  exact fun n H locs ls hI hv => lv_if_le X.1 X.2.1 hd ht (fun q => kt q n H locs ls hI hv) (fun q => kf q n H locs ls hI hv)
theorem tt_icmp_le (X : tt_X cl K cc own ret Ts) {x y : Int32} {off : Int} {tgt : Nat} (hd : decode cc pc = .ok (.if_icmp .le off, 3)) (ht : (pc : Int) + off = (tgt : Int)) (kt : x ≤ y → tt_T cl K ad kc ks tgt L st h) (kf : ¬ x ≤ y → tt_T cl K ad kc ks (pc + 3) L st h) : tt_T cl K ad kc ks pc L (.int y :: .int x :: st) h := by
  obtain ⟨p, l, e, R, s, m, args, below, meth, c, Q, D, ca, A, nL, nz⟩ := K
  exact fun n H locs ls hI hv => lv_icmp_le X.1 X.2.1 hd ht (fun q => kt q n H locs ls hI hv) (fun q => kf q n H locs ls hI hv)
theorem tt_goto (X : tt_X cl K cc own ret Ts) {off : Int} {tgt : Nat} (hd : decode cc pc = .ok (.goto off, 3)) (ht : (pc : Int) + off = (tgt : Int)) (kk : tt_T cl K ad kc ks tgt L st h) : tt_T cl K ad kc ks pc L st h := by
  obtain ⟨p, l, e, R, s, m, args, below, meth, c, Q, D, ca, A, nL, nz⟩ := K
  exact fun n H locs ls hI hv => lv_goto X.1 X.2.1 hd ht (kk n H locs ls hI hv)
theorem tt_null (X : tt_X cl K cc own ret Ts) (hd : decode cc pc = .ok (.aconst_null, 1)) (kk : tt_T cl K ad kc ks (pc + 1) L (.null :: st) h) : tt_T cl K ad kc ks pc L st h := by
  obtain ⟨p, l, e, R, s, m, args, below, meth, c, Q, D, ca, A, nL, nz⟩ := K
  exact fun n H locs ls hI hv => lv_null X.1 X.2.1 hd (kk n H locs ls hI hv)
theorem tt_aload_nN (X : tt_X cl K cc own ret Ts) {k : Fin 4} (hd : decode cc pc = .ok (.aload_n k, 1)) (hl : L.lookup (k : Nat) = some .null) (kk : tt_T cl K ad kc ks (pc + 1) L (.null :: st) h) : tt_T cl K ad kc ks pc L st h := by
  obtain ⟨p, l, e, R, s, m, args, below, meth, c, Q, D, ca, A, nL, nz⟩ := K
  exact fun n H locs ls hI hv => lv_aload_nN X.1 X.2.1 hd rfl (tt_look hv hl) (kk n H locs ls hI hv)
theorem tt_aloadN (X : tt_X cl K cc own ret Ts) {i : Nat} (hd : decode cc pc = .ok (.aload i, 2)) (hl : L.lookup i = some .null) (kk : tt_T cl K ad kc ks (pc + 2) L (.null :: st) h) : tt_T cl K ad kc ks pc L st h := by
  obtain ⟨p, l, e, R, s, m, args, below, meth, c, Q, D, ca, A, nL, nz⟩ := K
  exact fun n H locs ls hI hv => lv_aloadN X.1 X.2.1 hd (tt_look hv hl) (kk n H locs ls hI hv)
theorem tt_astore_nN (X : tt_X cl K cc own ret Ts) {k : Fin 4} (hd : decode cc pc = .ok (.astore_n k, 1)) (hn : (k : Nat) < tt_nL K) (kk : tt_T cl K ad kc ks (pc + 1) (tt_put (k : Nat) .null L) st h) : tt_T cl K ad kc ks pc L (.null :: st) h := by
  obtain ⟨p, l, e, R, s, m, args, below, meth, c, Q, D, ca, A, nL, nz⟩ := K
  exact fun n H locs ls hI hv => lv_astore_nN X.1 X.2.1 hd rfl hv hn rfl (fun ls' hv' => kk n H locs ls' hI (tt_st1 (v := .null) hv'))
theorem tt_astoreN (X : tt_X cl K cc own ret Ts) {i : Nat} (hd : decode cc pc = .ok (.astore i, 2)) (hn : i < tt_nL K) (kk : tt_T cl K ad kc ks (pc + 2) (tt_put i .null L) st h) : tt_T cl K ad kc ks pc L (.null :: st) h := by
  obtain ⟨p, l, e, R, s, m, args, below, meth, c, Q, D, ca, A, nL, nz⟩ := K
  exact fun n H locs ls hI hv => lv_astoreN X.1 X.2.1 hd hv hn rfl (fun ls' hv' => kk n H locs ls' hI (tt_st1 (v := .null) hv'))
theorem tt_ifnull (X : tt_X cl K cc own ret Ts) {x : Nat} {off : Int} (hd : decode cc pc = .ok (.ifnull off, 3)) (kk : tt_T cl K ad kc ks (pc + 3) L st h) : tt_T cl K ad kc ks pc L (.ref x :: st) h := by
  obtain ⟨p, l, e, R, s, m, args, below, meth, c, Q, D, ca, A, nL, nz⟩ := K
  exact fun n H locs ls hI hv => lv_ifnull X.1 X.2.1 hd (kk n H locs ls hI hv)
theorem tt_ifnullN (X : tt_X cl K cc own ret Ts) {off : Int} {tgt : Nat} (hd : decode cc pc = .ok (.ifnull off, 3)) (ht : (pc : Int) + off = (tgt : Int)) (kk : tt_T cl K ad kc ks tgt L st h) : tt_T cl K ad kc ks pc L (.null :: st) h := by
  obtain ⟨p, l, e, R, s, m, args, below, meth, c, Q, D, ca, A, nL, nz⟩ := K
  exact fun n H locs ls hI hv => lv_ifnullN X.1 X.2.1 hd ht (kk n H locs ls hI hv)
theorem tt_ifnonnull (X : tt_X cl K cc own ret Ts) {x : Nat} {off : Int} {tgt : Nat} (hd : decode cc pc = .ok (.ifnonnull off, 3)) (ht : (pc : Int) + off = (tgt : Int)) (kk : tt_T cl K ad kc ks tgt L st h) : tt_T cl K ad kc ks pc L (.ref x :: st) h := by
  obtain ⟨p, l, e, R, s, m, args, below, meth, c, Q, D, ca, A, nL, nz⟩ := K
  exact fun n H locs ls hI hv => lv_ifnonnull X.1 X.2.1 hd ht (kk n H locs ls hI hv)
theorem tt_ifnonnullN (X : tt_X cl K cc own ret Ts) {off : Int} (hd : decode cc pc = .ok (.ifnonnull off, 3)) (kk : tt_T cl K ad kc ks (pc + 3) L st h) : tt_T cl K ad kc ks pc L (.null :: st) h := by
  obtain ⟨p, l, e, R, s, m, args, below, meth, c, Q, D, ca, A, nL, nz⟩ := K
  exact fun n H locs ls hI hv => lv_ifnonnullN X.1 X.2.1 hd (kk n H locs ls hI hv)
def tt_keep (is : List Nat) : List (Nat × Value) → List (Nat × Value)
  | [] => []
  | q :: r => if is.contains q.1 = true then q :: tt_keep is r else tt_keep is r
theorem tt_keep_mem {is : List Nat} : ∀ {L : List (Nat × Value)} {q : Nat × Value}, q ∈ tt_keep is L → q ∈ L
  | [], q, h => h
  | a :: r, q, h => by
    unfold tt_keep at h
    by_cases hc : is.contains a.1 = true
    · rw [if_pos hc] at h
      rcases List.mem_cons.mp h with h | h
      · rw [h]; exact List.mem_cons_self
      · exact List.mem_cons_of_mem _ (tt_keep_mem h)
    · rw [if_neg hc] at h
      exact List.mem_cons_of_mem _ (tt_keep_mem h)
theorem tt_drop (is : List Nat) (kk : tt_T cl K ad kc ks pc (tt_keep is L) st h) : tt_T cl K ad kc ks pc L st h := by
  obtain ⟨p, l, e, R, s, m, args, below, meth, c, Q, D, ca, A, nL, nz⟩ := K
  exact fun n H locs ls hI hv => kk n H locs ls hI ⟨hv.1, hv.2.1, fun q hq => hv.2.2 q (by
    obtain ⟨q0, h0, rfl⟩ := List.mem_map.mp hq
    exact List.mem_map.mpr ⟨q0, tt_keep_mem h0, rfl⟩)⟩
theorem tt_getf (X : tt_X cl K cc own ret Ts) {b ci : Nat} {fs : List Value} {C ref : String} {F : u_T} {N index : Nat} (hb : h b = some (.inr (ci, fs))) (hc : cl[ci]? = some (C, F, N)) (hin : ∀ w ∈ u_ws C F N, w ∈ Ts) (k : Nat) (hk : k < N) (hlink : Cond.fieldLink own index ref (F k).2.1 (F k).2.2.1 ∈ Ts) (hown : (F k).1 = ref) {v : Value} (hv : fs[k]? = some v) (hd : decode cc pc = .ok (.getfield index, 3)) (kk : tt_T cl K ad kc ks (pc + 3) L (v :: st) h) : tt_T cl K ad kc ks pc L (.ref b :: st) h := by
  obtain ⟨p, l, e, R, s, m, args, below, meth, c, Q, D, ca, A, nL, nz⟩ := K
  intro n H locs ls hI hl
  exact va_get X.1 X.2.1 X.2.2.2.2.1 hin X.2.2.2.1 X.2.2.2.2.2.2.2.1 hI.2.1 b (tt_w_get hI.1 hb) hc k hk (X.2.2.2.2.1 _ hlink) (fun x hx => by rw [← hown]; exact hx) (v := tt_v ad v) (by rw [List.getElem?_map, hv]; rfl) hd (kk n H locs ls hI hl)
theorem tt_putf (X : tt_X cl K cc own ret Ts) {b ci : Nat} {fs : List Value} {C ref : String} {F : u_T} {N index : Nat} (hb : h b = some (.inr (ci, fs))) (hc : cl[ci]? = some (C, F, N)) (hin : ∀ w ∈ u_ws C F N, w ∈ Ts) (ty0 : Nat → FieldType) (hty : ∀ k, k < N → parseFieldDescriptor (F k).2.2.1 = some (ty0 k)) (hnm : ∀ a, a < N → ∀ b, b < N → a ≠ b → (F a).2.1 ≠ (F b).2.1) (k : Nat) (hk : k < N) (hlink : Cond.fieldLink own index ref (F k).2.1 (F k).2.2.1 ∈ Ts) (hown : (F k).1 = ref) (hfin : (F k).2.2.2 = false) {v : Value} (hn : ∀ ad, narrow (ty0 k) (tt_v ad v) = tt_v ad v) (hfit : ∀ ad, fits (ty0 k) (tt_v ad v) = true) (hl : k < fs.length) (hd : decode cc pc = .ok (.putfield index, 3)) (kk : tt_T cl K ad kc ks (pc + 3) L st (va_up h b (some (.inr (ci, fs.set k v))))) : tt_T cl K ad kc ks pc L (v :: .ref b :: st) h := by
  obtain ⟨p, l, e, R, s, m, args, below, meth, c, Q, D, ca, A, nL, nz⟩ := K
  intro n H locs ls hI hl2
  refine va_put X.1 X.2.1 X.2.2.2.2.1 hin ty0 hty hnm X.2.2.2.1 X.2.2.2.2.2.2.2.1 hI.2.1 hI.2.2.1 hI.2.2.2.1 b (tt_w_get hI.1 hb) hc k hk (X.2.2.2.2.1 _ hlink) (fun x hx => by rw [← hown]; exact hx) hfin (v := tt_v ad v) (hty k hk) (hn ad) (hfit ad) (by rw [List.length_map]; exact hl) hd (fun H1 locs1 hP hD hS => ?_)
  rw [show (Sum.inr (ci, (fs.map (tt_v ad)).set k (tt_v ad v)) : va_E) = tt_e ca ad (.inr (ci, fs.set k v)) from by show _ = Sum.inr (ci, _); rw [List.map_set], tt_w_set hI.1 hb] at hP hD
  exact kk n H1 locs1 ls ⟨tt_wf_set hI.1 hb, hP, hD, hS, hI.2.2.2.2⟩ hl2
theorem tt_putfF (X : tt_X cl K cc own ret Ts) {b ci : Nat} {fs : List Value} {C ref : String} {F : u_T} {N index : Nat} (hb : h b = some (.inr (ci, fs))) (hc : cl[ci]? = some (C, F, N)) (hin : ∀ w ∈ u_ws C F N, w ∈ Ts) (ty0 : Nat → FieldType) (hty : ∀ k, k < N → parseFieldDescriptor (F k).2.2.1 = some (ty0 k)) (hnm : ∀ a, a < N → ∀ b, b < N → a ≠ b → (F a).2.1 ≠ (F b).2.1) (k : Nat) (hk : k < N) (hlink : Cond.fieldLink own index ref (F k).2.1 (F k).2.2.1 ∈ Ts) (hown : (F k).1 = ref) (hfin : (F k).2.2.2 = true) (hini : tt_mn K = "<init>") (hdecl : (F k).1 = own) {v : Value} (hn : ∀ ad, narrow (ty0 k) (tt_v ad v) = tt_v ad v) (hfit : ∀ ad, fits (ty0 k) (tt_v ad v) = true) (hl : k < fs.length) (hd : decode cc pc = .ok (.putfield index, 3)) (kk : tt_T cl K ad kc ks (pc + 3) L st (va_up h b (some (.inr (ci, fs.set k v))))) : tt_T cl K ad kc ks pc L (v :: .ref b :: st) h := by
  obtain ⟨p, l, e, R, s, m, args, below, meth, c, Q, D, ca, A, nL, nz⟩ := K
  intro n H locs ls hI hl2
  refine va_putF X.1 X.2.1 X.2.2.2.2.1 hin ty0 hty hnm X.2.2.2.1 X.2.2.2.2.2.2.2.1 hI.2.1 hI.2.2.1 hI.2.2.2.1 b (tt_w_get hI.1 hb) hc k hk (X.2.2.2.2.1 _ hlink) (fun x hx => by rw [← hown]; exact hx) hfin hini hdecl (v := tt_v ad v) (hty k hk) (hn ad) (hfit ad) (by rw [List.length_map]; exact hl) hd (fun H1 locs1 hP hD hS => ?_)
  rw [show (Sum.inr (ci, (fs.map (tt_v ad)).set k (tt_v ad v)) : va_E) = tt_e ca ad (.inr (ci, fs.set k v)) from by show _ = Sum.inr (ci, _); rw [List.map_set], tt_w_set hI.1 hb] at hP hD
  exact kk n H1 locs1 ls ⟨tt_wf_set hI.1 hb, hP, hD, hS, hI.2.2.2.2⟩ hl2
theorem tt_iald (X : tt_X cl K cc own ret Ts) {b N : Nat} {f : Nat → Int32} {i : Int32} (hb : h b = some (tt_ia N f)) (hin : vp_in i N) (hd : decode cc pc = .ok (.iaload, 1)) (kk : tt_T cl K ad kc ks (pc + 1) L (.int (f i.toNatClampNeg) :: st) h) : tt_T cl K ad kc ks pc L (.int i :: .ref b :: st) h := by
  obtain ⟨p, l, e, R, s, m, args, below, meth, c, Q, D, ca, A, nL, nz⟩ := K
  intro n H locs ls hI hl
  exact va_iald X.1 X.2.1 X.2.2.2.2.2.2.2.1 hI.2.1 b 0 (tt_w_get hI.1 hb) rfl hin hd (kk n H locs ls hI hl)
theorem tt_zald (X : tt_X cl K cc own ret Ts) {b N : Nat} {f : Nat → Int32} {i : Int32} (hb : h b = some (tt_za N f)) (hin : vp_in i N) (hd : decode cc pc = .ok (.baload, 1)) (kk : tt_T cl K ad kc ks (pc + 1) L (.int (f i.toNatClampNeg) :: st) h) : tt_T cl K ad kc ks pc L (.int i :: .ref b :: st) h := by
  obtain ⟨p, l, e, R, s, m, args, below, meth, c, Q, D, ca, A, nL, nz⟩ := K
  intro n H locs ls hI hl
  exact va_zald X.1 X.2.1 X.2.2.2.2.2.2.2.1 hI.2.1 b 2 (tt_w_get hI.1 hb) rfl hin hd (kk n H locs ls hI hl)
theorem tt_lald (X : tt_X cl K cc own ret Ts) {b N : Nat} {f : Nat → Int64} {i : Int32} (hb : h b = some (tt_ja N f)) (hin : vp_in i N) (hd : decode cc pc = .ok (.laload, 1)) (kk : tt_T cl K ad kc ks (pc + 1) L (.long (f i.toNatClampNeg) :: st) h) : tt_T cl K ad kc ks pc L (.int i :: .ref b :: st) h := by
  obtain ⟨p, l, e, R, s, m, args, below, meth, c, Q, D, ca, A, nL, nz⟩ := K
  intro n H locs ls hI hl
  exact va_lald X.1 X.2.1 X.2.2.2.2.2.2.2.1 hI.2.1 b 1 (tt_w_get hI.1 hb) rfl hin hd (kk n H locs ls hI hl)
theorem tt_iast (X : tt_X cl K cc own ret Ts) {b N : Nat} {f : Nat → Int32} {i : Int32} {x : Int32} (hb : h b = some (tt_ia N f)) (hin : vp_in i N) (hd : decode cc pc = .ok (.iastore, 1)) (kk : tt_T cl K ad kc ks (pc + 1) L st (va_up h b (some (tt_ia N (upd f i.toNatClampNeg x))))) : tt_T cl K ad kc ks pc L (.int x :: .int i :: .ref b :: st) h := by
  obtain ⟨p, l, e, R, s, m, args, below, meth, c, Q, D, ca, A, nL, nz⟩ := K
  intro n H locs ls hI hl
  refine va_iast X.1 X.2.1 X.2.2.2.2.2.2.2.1 hI.2.1 hI.2.2.1 hI.2.2.2.1 b 0 (tt_w_get hI.1 hb) rfl hin hd (fun H1 locs1 hP hD hS => ?_)
  have hq := tt_w_set (ca := ca) (ad := ad) (e := tt_ia N (upd f i.toNatClampNeg x)) hI.1 hb
  exact kk n H1 locs1 ls ⟨tt_wf_set hI.1 hb, hq ▸ hP, hq ▸ hD, hS, hI.2.2.2.2⟩ hl
theorem tt_zast (X : tt_X cl K cc own ret Ts) {b N : Nat} {f : Nat → Int32} {i : Int32} {x : Int32} (hb : h b = some (tt_za N f)) (hin : vp_in i N) (hd : decode cc pc = .ok (.bastore, 1)) (kk : tt_T cl K ad kc ks (pc + 1) L st (va_up h b (some (tt_za N (upd f i.toNatClampNeg (vp_nar .boolean x)))))) : tt_T cl K ad kc ks pc L (.int x :: .int i :: .ref b :: st) h := by
  obtain ⟨p, l, e, R, s, m, args, below, meth, c, Q, D, ca, A, nL, nz⟩ := K
  intro n H locs ls hI hl
  refine va_zast X.1 X.2.1 X.2.2.2.2.2.2.2.1 hI.2.1 hI.2.2.1 hI.2.2.2.1 b 2 (tt_w_get hI.1 hb) rfl hin hd (fun H1 locs1 hP hD hS => ?_)
  have hq := tt_w_set (ca := ca) (ad := ad) (e := tt_za N (upd f i.toNatClampNeg (vp_nar .boolean x))) hI.1 hb
  exact kk n H1 locs1 ls ⟨tt_wf_set hI.1 hb, hq ▸ hP, hq ▸ hD, hS, hI.2.2.2.2⟩ hl
theorem tt_last (X : tt_X cl K cc own ret Ts) {b N : Nat} {f : Nat → Int64} {i : Int32} {x : Int64} (hb : h b = some (tt_ja N f)) (hin : vp_in i N) (hd : decode cc pc = .ok (.lastore, 1)) (kk : tt_T cl K ad kc ks (pc + 1) L st (va_up h b (some (tt_ja N (vp_updL f i.toNatClampNeg x))))) : tt_T cl K ad kc ks pc L (.long x :: .int i :: .ref b :: st) h := by
  obtain ⟨p, l, e, R, s, m, args, below, meth, c, Q, D, ca, A, nL, nz⟩ := K
  intro n H locs ls hI hl
  refine va_last X.1 X.2.1 X.2.2.2.2.2.2.2.1 hI.2.1 hI.2.2.1 hI.2.2.2.1 b 1 (tt_w_get hI.1 hb) rfl hin hd (fun H1 locs1 hP hD hS => ?_)
  have hq := tt_w_set (ca := ca) (ad := ad) (e := tt_ja N (vp_updL f i.toNatClampNeg x)) hI.1 hb
  exact kk n H1 locs1 ls ⟨tt_wf_set hI.1 hb, hq ▸ hP, hq ▸ hD, hS, hI.2.2.2.2⟩ hl
theorem tt_alen (X : tt_X cl K cc own ret Ts) {b t : Nat} {x : vp_A} {ty : FieldType} {v : Int32} (hb : h b = some (.inl (t, x))) (ht : tt_tyl[t]? = some ty) (hz : Int32.ofNat x.1 = v) (hd : decode cc pc = .ok (.arraylength, 1)) (kk : tt_T cl K ad kc ks (pc + 1) L (.int v :: st) h) : tt_T cl K ad kc ks pc L (.ref b :: st) h := by
  obtain ⟨p, l, e, R, s, m, args, below, meth, c, Q, D, ca, A, nL, nz⟩ := K
  intro n H locs ls hI hl
  refine va_alen X.1 X.2.1 X.2.2.2.2.2.2.2.1 hI.2.1 b t (tt_w_get hI.1 hb) (ty := ty) (tt_tys_at ca ht) ?_ hd (kk n H locs ls hI hl)
  obtain ⟨k, f | f | f | f | f⟩ := x <;> exact hz
theorem tt_aldq (X : tt_X cl K cc own ret Ts) {b t N : Nat} {C : String} {f : Nat → Option Nat} {i : Int32} {a : Nat} (hb : h b = some (tt_qa t N f)) (ht : tt_tyl[t]? = some (.object C)) (hin : vp_in i N) (ha : f i.toNatClampNeg = some a) (hd : decode cc pc = .ok (.aaload, 1)) (kk : tt_T cl K ad kc ks (pc + 1) L (.ref a :: st) h) : tt_T cl K ad kc ks pc L (.int i :: .ref b :: st) h := by
  obtain ⟨p, l, e, R, s, m, args, below, meth, c, Q, D, ca, A, nL, nz⟩ := K
  intro n H locs ls hI hl
  refine va_aldq X.1 X.2.1 X.2.2.2.2.2.2.2.1 hI.2.1 b t (tt_w_get hI.1 hb) (C := C) (tt_tys_at ca ht) hin hd ?_
  rw [ha]
  exact kk n H locs ls hI hl
theorem tt_astq (X : tt_X cl K cc own ret Ts) {b t N a ci : Nat} {C : String} {F : u_T} {M : Nat} {fs : List Value} {f : Nat → Option Nat} {i : Int32} (hb : h b = some (tt_qa t N f)) (ht : tt_tyl[t]? = some (.object C)) (ha : h a = some (.inr (ci, fs))) (hc : cl[ci]? = some (C, F, M)) (hin : vp_in i N) (hd : decode cc pc = .ok (.aastore, 1)) (kk : tt_T cl K ad kc ks (pc + 1) L st (va_up h b (some (tt_qa t N (va_up f i.toNatClampNeg (some a)))))) : tt_T cl K ad kc ks pc L (.ref a :: .int i :: .ref b :: st) h := by
  obtain ⟨p, l, e, R, s, m, args, below, meth, c, Q, D, ca, A, nL, nz⟩ := K
  intro n H locs ls hI hl
  refine va_astq X.1 X.2.1 X.2.2.2.2.2.2.2.1 hI.2.1 hI.2.2.1 hI.2.2.2.1 b t a ci (r := (C, F, M)) (tt_w_get hI.1 hb) (tt_tys_at ca ht) (tt_w_get hI.1 ha) hc hin hd (fun H1 locs1 hP hD hS => ?_)
  have hq := tt_w_set (ca := ca) (ad := ad) (e := tt_qa t N (va_up f i.toNatClampNeg (some a))) hI.1 hb
  have he : (tt_e ca ad (tt_qa t N (va_up f i.toNatClampNeg (some a)))) = .inl (ca t, N, .inr (.inr (.inr (.inr (va_up (fun j => (f j).map ad) i.toNatClampNeg (some (ad a))))))) := by
    show Sum.inl (ca t, N, _) = Sum.inl (ca t, N, _)
    congr 7
    funext j
    by_cases hj : j = i.toNatClampNeg
    · subst hj; rw [va_up_self, va_up_self]; rfl
    · rw [va_up_ne _ _ hj, va_up_ne _ _ hj]
  rw [he] at hq
  exact kk n H1 locs1 ls ⟨tt_wf_set hI.1 hb, hq ▸ hP, hq ▸ hD, hS, hI.2.2.2.2⟩ hl
theorem tt_widen {k n : Nat} (h1 : kc ≤ k) (h2 : ks ≤ n) (kk : tt_T cl K ad k n pc L st h) : tt_T cl K ad kc ks pc L st h := by
  obtain ⟨p, l, e, R, s, m, args, below, meth, c, Q, D, ca, A, nL, nz⟩ := K
  exact fun n0 H locs ls hI hl => W.widen h1 h2 (kk n0 H locs ls hI hl)
end TTR
/-! CONTRACTS over the toy heap: on arguments vs and heap h, method y returns v and leaves h' with P v h'. al: whether it may make cells -/
def tt_B (cl : List vw_C) (D : va_G) (ca ad : Nat → Nat) (n sz : Nat) (h : tt_H) (U : State) : Prop := U.heap.size = sz ∧ va_P D cl (tt_w ca ad n h) U.heap ∧ va_K D cl (tt_tys ca) U ∧ va_D (fun _ => True) (tt_w ca ad n h)
def tt_Q (cl : List vw_C) (D : va_G) (ca ad : Nat → Nat) (n sz : Nat) (al : Bool) (P : Option Value → tt_H → Prop) : Array Value → State → Outcome → State → Prop := fun _ st oc t =>
  (∃ (v : Option Value) (h' : tt_H) (ad' : Nat → Nat) (n' : Nat), oc = .returned (v.map (tt_v ad')) ∧ P v h' ∧ n ≤ n' ∧ (al = false → n' = n ∧ ad' = ad) ∧ (∀ i, i < n ∨ n' ≤ i → ad' i = ad i) ∧ tt_wf n' h' ∧ va_P D cl (tt_w ca ad' n' h') t.heap ∧ va_D (tt_A ad n sz) (tt_w ca ad' n' h')) ∧ va_F (tt_A ad n sz) st t
def tt_M (cl : List vw_C) (l : Launch) (y : MethodName) (ws : List Cond) (rm : Room) (mc ms : Nat) (al : Bool) (vs : List Value) (h : tt_H) (P : Option Value → tt_H → Prop) : Prop :=
  ∀ (D : va_G) (ca ad : Nat → Nat) (n sz : Nat), tt_wf n h → Met l y ws rm (va_Pc (vs.map (tt_v ad)) (tt_B cl D ca ad n sz h)) (tt_Q cl D ca ad n sz al P) mc ms (tt_A ad n sz)
theorem tt_M.mono {cl : List vw_C} {l : Launch} {y : MethodName} {ws : List Cond} {rm : Room} {mc ms : Nat} {al : Bool} {vs : List Value} {h : tt_H} {P P' : Option Value → tt_H → Prop} (hM : tt_M cl l y ws rm mc ms al vs h P) (hP : ∀ v h', P v h' → P' v h') : tt_M cl l y ws rm mc ms al vs h P' := by
  intro D ca ad n sz hw p e ha hc hk s m args below hf happ hpre hK
  obtain ⟨k, o, h1, h2, h3, ⟨⟨v, h', ad', n', r1, r2, r3⟩, r4⟩, h5⟩ := hM D ca ad n sz hw p e ha hc hk s m args below hf happ hpre hK
  exact ⟨k, o, h1, h2, h3, ⟨⟨v, h', ad', n', r1, hP v h' r2, r3⟩, r4⟩, h5⟩
theorem tt_A_D {cl : List vw_C} {ca ad : Nat → Nat} {n sz : Nat} {h : tt_H} (hD : va_D (fun _ => True) (tt_w ca ad n h)) : va_D (tt_A ad n sz) (tt_w ca ad n h) := by
  refine ⟨hD.1, fun k q hk => ?_⟩
  rw [tt_w_at] at hk
  by_cases hkn : k < n
  · rw [if_pos hkn] at hk
    cases hk
    exact Or.inl ⟨k, hkn, rfl⟩
  · rw [if_neg hkn] at hk
    cases hk
/-- a method by its body's walk -/
theorem tt_M.of {cl : List vw_C} {l : Launch} {y : MethodName} {ws ws' : List Cond} {rm : Room} {mc ms : Nat} {al : Bool} {vs : List Value} {h : tt_H} {P : Option Value → tt_H → Prop} {cc : ByteArray} {maxL : Nat} {ret : Option FieldType} (hy : plainName y.cls = true) (hw : ws = Cond.code y cc maxL ret :: ws') (hsl : (lg_sl vs).length ≤ maxL)
    (body : ∀ (p : Program) (e : Env) (s : State) (m : MethodId) (args : Array Value) (below : List Frame) (meth : Method) (c : Code) (D : va_G) (ca ad : Nat → Nat) (n sz : Nat), tt_wf n h → s.heap.size = sz → tt_X cl (p, l, e, rm, s, m, args, below, meth, c, MQ below (tt_Q cl D ca ad n sz al P) args s mc ms (tt_A ad n sz), D, ca, tt_A ad n sz, maxL, if al then none else some n) cc y.cls ret ws → (y.name = "<init>" → meth.name = "<init>") →
      tt_T cl (p, l, e, rm, s, m, args, below, meth, c, MQ below (tt_Q cl D ca ad n sz al P) args s mc ms (tt_A ad n sz), D, ca, tt_A ad n sz, maxL, if al then none else some n) ad 0 0 0 (tt_args 0 vs) [] h) : tt_M cl l y ws rm mc ms al vs h P := by
  intro D ca ad n sz hwf
  refine Met.ofW (cc := cc) (maxL := maxL) (ret := ret) hy hw ?_
  intro p e s m args below meth c s₁ B hml hv
  obtain ⟨rfl, hsz, hP, hK, hD0⟩ := hv
  have hl0 := lv_entry (vs.map (tt_v ad)) (n := maxL) (by
    have : ∀ us : List Value, (lg_sl (us.map (tt_v ad))).length = (lg_sl us).length := by
      intro us
      induction us with
      | nil => rfl
      | cons u us ih => cases u <;> simp [lg_sl, tt_v, Value.category] at ih ⊢ <;> first | exact ih | omega
    rw [this]; exact hsl)
  rw [tt_args_m] at hl0
  rw [lg_entry_eq]
  have hX : tt_X cl (p, l, e, rm, s, m, ((vs.map (tt_v ad)).toArray), below, meth, c, MQ below (tt_Q cl D ca ad n sz al P) (vs.map (tt_v ad)).toArray s mc ms (tt_A ad n sz), D, ca, tt_A ad n sz, maxL, if al then none else some n) cc y.cls ret ws :=
    ⟨B.exec, B.bytes, hml, findClass_of_methodNamed B.named, atoms_spec (ws := ws) B.pre, B.returns, B.notSynchronized, hK, fun q hq => Or.inr (by rw [← hsz]; exact hq)⟩
  exact body p e s m _ below meth c D ca ad n sz hwf hsz hX (fun hi => by rw [← hi]; exact (name_of_methodNamed B.named B.method).1) n s.heap [] _ ⟨hwf, hP, tt_A_D (cl := cl) hD0, va_S.rf, by cases al <;> trivial⟩ hl0
section TTC
variable {cl : List vw_C} {p : Program} {l : Launch} {e : Env} {R : Room} {s : State} {m : MethodId} {args : Array Value} {below : List Frame} {meth : Method} {c : Code} {D : va_G} {ca : Nat → ClassId} {A : Nat → Prop} {nL : Nat} {nz : Option Nat} {Q : State → Prop} {ad : Nat → Nat} {kc ks pc : Nat} {L : List (Nat × Value)} {st : List Value} {h : tt_H} {cc : ByteArray} {own : String} {ret : Option FieldType} {Ts : List Cond}
/-- what a call's return gives -/
theorem tt_back {n : Nat} {H : Heap} {locs : List Loc} {mc ms : Nat} {al : Bool} {P : Option Value → tt_H → Prop} {ls : Array Slot} {st0 : List Value} {ar : Array Value} (hI : tt_I cl (p, l, e, R, s, m, args, below, meth, c, Q, D, ca, A, nL, nz) ad n h H locs) (hA : ∀ q : Nat, s.heap.size ≤ q → A q) (hal : al = false ∨ nz = none)
    (hr : va_Run p l e R s m args below meth c H locs kc ks mc ms (F0 m pc ls (st0.map (tt_v ad))) (st.map (tt_v ad)) (tt_Q cl D ca ad n H.size al P ar) (tt_A ad n H.size))
    (kk : ∀ (v : Option Value) (h' : tt_H) (ad' : Nat → Nat) (n' : Nat) (H' : Heap) (locs' : List Loc), P v h' → n ≤ n' → (al = false → n' = n ∧ ad' = ad) → (∀ i, i < n ∨ n' ≤ i → ad' i = ad i) → tt_I cl (p, l, e, R, s, m, args, below, meth, c, Q, D, ca, A, nL, nz) ad' n' h' H' locs' → W p l e R s m args below meth c H' locs' (kc + mc) (ks + ms) Q (F0 m (pc + 3) ls ((v.map (tt_v ad')).toList ++ st.map (tt_v ad)))) :
    W p l e R s m args below meth c H locs kc ks Q (F0 m pc ls (st0.map (tt_v ad))) := by
  obtain ⟨hwf, hP, hD, hS, hnk⟩ := hI
  have hAA : ∀ q, tt_A ad n H.size q → A q := by
    intro q hq
    rcases hq with ⟨i, hi, rfl⟩ | hq
    · exact hD.2 i _ (by rw [tt_w_at, if_pos hi])
    · exact hA q (Nat.le_trans hS.1 hq)
  intro T hT X
  obtain ⟨v, st₀, t, T', L', g0, X', hL, e1, e2, ⟨⟨v2, h', ad', n', ho, hp, r1, r2, r3, r4, r5, r6⟩, hz, hk⟩, st'⟩ := hr T hT X
  cases ho
  rw [g0] at hz hk
  obtain ⟨t2, a1, b1⟩ := kk v2 h' ad' n' T'.heap (locs ++ L') hp r1 r2 r3 ⟨r4, by rw [e1]; exact r5, r6.weaken (fun _ _ _ hq => hAA _ hq), ⟨Nat.le_trans hS.1 (by rw [e1]; exact hz), fun q h1 h2 => by rw [e1, hk q (Nat.lt_of_lt_of_le h1 hS.1) (fun z => h2 (hAA q z))]; exact hS.2.1 q h1 h2, fun q hq => by
      rcases List.mem_append.mp hq with h | h
      · exact hS.2.2 q h
      · exact hAA _ (hL q h)⟩, by
        rcases hal with q | q
        · rw [(r2 q).1]; exact hnk
        · rw [q]; trivial⟩ T' rfl X'
  exact ⟨t2, st' t2 a1, b1⟩
theorem tt_pre {n : Nat} {H : Heap} {locs : List Loc} {vs : List Value} (hI : tt_I cl (p, l, e, R, s, m, args, below, meth, c, Q, D, ca, A, nL, nz) ad n h H locs) (hK : va_K D cl (tt_tys ca) s) : PreS s H (va_Pc (vs.map (tt_v ad)) (tt_B cl D ca ad n H.size h)) (vs.map (tt_v ad)) :=
  ⟨fun a U g mk q => ⟨q.1, q.2.1, q.2.2.1, va_K.moved (u := U) (U := U.calling g mk a) (Vm.Alike.refl U.vm) q.2.2.2.1, q.2.2.2.2⟩, fun U hU hW => ⟨rfl, by rw [hU], by rw [hU]; exact hI.2.1, va_K.moved hW.alike hK, hI.2.2.1.weaken (fun _ _ _ _ => trivial)⟩⟩
variable {y : MethodName} {bytes : ByteArray} {maxL mc ms k index : Nat} {rt : Option FieldType} {ws : List Cond} {rm : Room} {P : Option Value → tt_H → Prop} {As : List Value}
/-- a call of an instance's method that makes no cell -/
theorem tt_callV (X : tt_X cl (p, l, e, R, s, m, args, below, meth, c, Q, D, ca, A, nL, nz) cc own ret Ts) {b ci : Nat} {fs : List Value} {C : String} {F : u_T} {N : Nat} (hb : h b = some (.inr (ci, fs))) (hc : cl[ci]? = some (C, F, N)) (hM : tt_M cl l y ws rm 0 0 false (.ref b :: As) h P) (cw : (∀ w ∈ Ts, w.before args s = true) → CallW R s args own C index y bytes maxL rt ws rm 0 0 k) (hn : As.length = k) {st0 : List Value} (hst : st0 = As.reverse ++ .ref b :: st) (hW : (st.map fun v => v.category).sum ≤ 8) (hd : decode cc pc = .ok (.invokevirtual index, 3)) (hf : kc ≤ R.cells ∧ ks ≤ R.slots)
    (kk : ∀ v h', P v h' → tt_T cl (p, l, e, R, s, m, args, below, meth, c, Q, D, ca, A, nL, nz) ad kc ks (pc + 3) L (v.toList ++ st) h') : tt_T cl (p, l, e, R, s, m, args, below, meth, c, Q, D, ca, A, nL, nz) ad kc ks pc L st0 h := by
  intro n H locs ls hI hl
  subst hst
  refine tt_back (st := st) (mc := 0) (ms := 0) (al := false) (P := P) (ar := (Value.ref (ad b) :: As.map (tt_v ad)).toArray) hI X.2.2.2.2.2.2.2.2 (Or.inl rfl) ?_ (fun v h' ad' n' H' locs' hp _ hal _ hI' => ?_)
  · have hpr := tt_pre (vs := .ref b :: As) hI X.2.2.2.2.2.2.2.1
    exact va_runV (b := ad b) (As := As.map (tt_v ad)) (rest := st.map (tt_v ad)) ⟨X.1, X.2.1, X.2.2.1, X.2.2.2.1, X.2.2.2.2.1⟩ (hM D ca ad n H.size hI.1) (cw X.2.2.2.2.1) ⟨hpr.1, va_recv X.2.2.2.2.2.2.2.1 hI.2.1 hc (tt_w_get hI.1 hb), hpr.2⟩ rfl (by rw [List.length_map]; exact hn) hl.1 (by rw [← List.map_reverse]; show (_ ++ _ :: _).map _ = _; rw [List.map_append]; rfl) (by show 2 * 0 + _ ≤ 8; rw [tt_cats]; omega) hd hf
  · obtain ⟨rfl, rfl⟩ := hal rfl
    have h9 := kk v h' hp n' H' locs' ls hI' hl
    rw [List.map_append] at h9
    rw [show (v.map (tt_v ad')).toList = v.toList.map (tt_v ad') from by cases v <;> rfl]
    exact h9
/-- a call of a static method that makes no cell -/
theorem tt_callS (X : tt_X cl (p, l, e, R, s, m, args, below, meth, c, Q, D, ca, A, nL, nz) cc own ret Ts) (hM : tt_M cl l y ws rm 0 0 false As h P) (cw : (∀ w ∈ Ts, w.before args s = true) → CallB R s args own index y bytes maxL rt ws rm 0 0 k ∧ (Cond.static y).before args s = true) (hn : As.length = k) {st0 : List Value} (hst : st0 = As.reverse ++ st) (hW : (st.map fun v => v.category).sum ≤ 8) (hd : decode cc pc = .ok (.invokestatic index, 3)) (hf : kc ≤ R.cells ∧ ks ≤ R.slots)
    (kk : ∀ v h', P v h' → tt_T cl (p, l, e, R, s, m, args, below, meth, c, Q, D, ca, A, nL, nz) ad kc ks (pc + 3) L (v.toList ++ st) h') : tt_T cl (p, l, e, R, s, m, args, below, meth, c, Q, D, ca, A, nL, nz) ad kc ks pc L st0 h := by
  intro n H locs ls hI hl
  subst hst
  refine tt_back (st := st) (mc := 0) (ms := 0) (al := false) (P := P) (ar := (As.map (tt_v ad)).toArray) hI X.2.2.2.2.2.2.2.2 (Or.inl rfl) ?_ (fun v h' ad' n' H' locs' hp _ hal _ hI' => ?_)
  · have hpr := tt_pre (vs := As) hI X.2.2.2.2.2.2.2.1
    exact va_runS (As := As.map (tt_v ad)) (rest := st.map (tt_v ad)) ⟨X.1, X.2.1, X.2.2.1, X.2.2.2.1, X.2.2.2.2.1⟩ (hM D ca ad n H.size hI.1) (cw X.2.2.2.2.1) hpr rfl (by rw [List.length_map]; exact hn) hl.1 (by rw [← List.map_reverse, ← List.map_append]) (by show 2 * 0 + _ ≤ 8; rw [tt_cats]; omega) hd hf
  · obtain ⟨rfl, rfl⟩ := hal rfl
    have h9 := kk v h' hp n' H' locs' ls hI' hl
    rw [List.map_append] at h9
    rw [show (v.map (tt_v ad')).toList = v.toList.map (tt_v ad') from by cases v <;> rfl]
    exact h9
end TTC
/-! THE ENDS -/
section TTE
variable {cl : List vw_C} {p : Program} {l : Launch} {e : Env} {R : Room} {s : State} {m : MethodId} {args : Array Value} {below : List Frame} {meth : Method} {c : Code} {D : va_G} {ca : Nat → ClassId} {nL : Nat} {nz : Option Nat} {ad ad0 : Nat → Nat} {kc ks pc n0 sz : Nat} {L : List (Nat × Value)} {h : tt_H} {cc : ByteArray} {own : String} {ret : Option FieldType} {Ts : List Cond} {al : Bool} {P : Option Value → tt_H → Prop}
theorem tt_end {v : Option Value} {n : Nat} {H : Heap} {locs : List Loc} {Q : State → Prop} (hI : tt_I cl (p, l, e, R, s, m, args, below, meth, c, Q, D, ca, tt_A ad0 n0 sz, nL, nz) ad n h H locs) (hP : P v h) (hg : n0 ≤ n ∧ (al = false → n = n0 ∧ ad = ad0) ∧ ∀ i, i < n0 ∨ n ≤ i → ad i = ad0 i) : ∀ t : State, t.heap = H → s.WarmedH t.vm → tt_Q cl D ca ad0 n0 sz al P args s (.returned (v.map (tt_v ad))) t := fun t ht _ =>
  ⟨⟨v, h, ad, n, rfl, hP, hg.1, hg.2.1, hg.2.2, hI.1, by rw [ht]; exact hI.2.1, hI.2.2.1⟩, hI.2.2.2.1.F ht⟩
end TTE
section TTF
variable {cl : List vw_C} {p : Program} {l : Launch} {e : Env} {R : Room} {s : State} {m : MethodId} {args : Array Value} {below : List Frame} {meth : Method} {c : Code} {D : va_G} {ca : Nat → ClassId} {nL : Nat} {ad : Nat → Nat} {pc n0 sz : Nat} {L : List (Nat × Value)} {h : tt_H} {cc : ByteArray} {own : String} {ret : Option FieldType} {Ts : List Cond} {P : Option Value → tt_H → Prop}
theorem tt_iret (X : tt_X cl (p, l, e, R, s, m, args, below, meth, c, MQ below (tt_Q cl D ca ad n0 sz false P) args s 0 0 (tt_A ad n0 sz), D, ca, tt_A ad n0 sz, nL, some n0) cc own ret Ts) {x : Int32} (hr : ret = some .int) (hd : decode cc pc = .ok (.ireturn, 1)) (hP : P (some (.int x)) h) : tt_T cl (p, l, e, R, s, m, args, below, meth, c, MQ below (tt_Q cl D ca ad n0 sz false P) args s 0 0 (tt_A ad n0 sz), D, ca, tt_A ad n0 sz, nL, some n0) ad 0 0 pc L [.int x] h := by
  intro n H locs ls hI hl
  have hnn : n = n0 := hI.2.2.2.2
  exact W.iret X.1 X.2.1 (by rw [X.2.2.2.2.2.1, hr]) (tt_end (v := some (.int x)) hI hP ⟨by omega, fun _ => ⟨hnn, rfl⟩, fun _ _ => rfl⟩) hI.2.2.2.1.2.2 hd X.2.2.2.2.2.2.1
theorem tt_zret (X : tt_X cl (p, l, e, R, s, m, args, below, meth, c, MQ below (tt_Q cl D ca ad n0 sz false P) args s 0 0 (tt_A ad n0 sz), D, ca, tt_A ad n0 sz, nL, some n0) cc own ret Ts) {x : Int32} (hr : ret = some .boolean) (hx : narrow .boolean (.int x) = .int x) (hd : decode cc pc = .ok (.ireturn, 1)) (hP : P (some (.int x)) h) : tt_T cl (p, l, e, R, s, m, args, below, meth, c, MQ below (tt_Q cl D ca ad n0 sz false P) args s 0 0 (tt_A ad n0 sz), D, ca, tt_A ad n0 sz, nL, some n0) ad 0 0 pc L [.int x] h := by
  intro n H locs ls hI hl
  have hnn : n = n0 := hI.2.2.2.2
  exact W.zret X.1 X.2.1 (by rw [X.2.2.2.2.2.1, hr]) hx (tt_end (v := some (.int x)) hI hP ⟨by omega, fun _ => ⟨hnn, rfl⟩, fun _ _ => rfl⟩) hI.2.2.2.1.2.2 hd X.2.2.2.2.2.2.1
theorem tt_lret (X : tt_X cl (p, l, e, R, s, m, args, below, meth, c, MQ below (tt_Q cl D ca ad n0 sz false P) args s 0 0 (tt_A ad n0 sz), D, ca, tt_A ad n0 sz, nL, some n0) cc own ret Ts) {x : Int64} (hr : ret = some .long) (hd : decode cc pc = .ok (.lreturn, 1)) (hP : P (some (.long x)) h) : tt_T cl (p, l, e, R, s, m, args, below, meth, c, MQ below (tt_Q cl D ca ad n0 sz false P) args s 0 0 (tt_A ad n0 sz), D, ca, tt_A ad n0 sz, nL, some n0) ad 0 0 pc L [.long x] h := by
  intro n H locs ls hI hl
  have hnn : n = n0 := hI.2.2.2.2
  exact W.lret X.1 X.2.1 (by rw [X.2.2.2.2.2.1, hr]) (tt_end (v := some (.long x)) hI hP ⟨by omega, fun _ => ⟨hnn, rfl⟩, fun _ _ => rfl⟩) hI.2.2.2.1.2.2 hd X.2.2.2.2.2.2.1
theorem tt_vret (X : tt_X cl (p, l, e, R, s, m, args, below, meth, c, MQ below (tt_Q cl D ca ad n0 sz false P) args s 0 0 (tt_A ad n0 sz), D, ca, tt_A ad n0 sz, nL, some n0) cc own ret Ts) (hr : ret = none) (hd : decode cc pc = .ok (.return_, 1)) (hP : P none h) : tt_T cl (p, l, e, R, s, m, args, below, meth, c, MQ below (tt_Q cl D ca ad n0 sz false P) args s 0 0 (tt_A ad n0 sz), D, ca, tt_A ad n0 sz, nL, some n0) ad 0 0 pc L [] h := by
  intro n H locs ls hI hl
  have hnn : n = n0 := hI.2.2.2.2
  exact W.vret X.1 X.2.1 (by rw [X.2.2.2.2.2.1, hr]) (tt_end (v := none) hI hP ⟨by omega, fun _ => ⟨hnn, rfl⟩, fun _ _ => rfl⟩) hI.2.2.2.1.2.2 hd X.2.2.2.2.2.2.1
theorem tt_aret (X : tt_X cl (p, l, e, R, s, m, args, below, meth, c, MQ below (tt_Q cl D ca ad n0 sz false P) args s 0 0 (tt_A ad n0 sz), D, ca, tt_A ad n0 sz, nL, some n0) cc own ret Ts) {C : String} {v : Value} (hv : v = .null ∨ ∃ a, v = .ref a) (hr : ret = some (.object C)) (hd : decode cc pc = .ok (.areturn, 1)) (hP : P (some v) h) : tt_T cl (p, l, e, R, s, m, args, below, meth, c, MQ below (tt_Q cl D ca ad n0 sz false P) args s 0 0 (tt_A ad n0 sz), D, ca, tt_A ad n0 sz, nL, some n0) ad 0 0 pc L [v] h := by
  intro n H locs ls hI hl
  have hnn : n = n0 := hI.2.2.2.2
  refine W.aret (v := tt_v ad v) X.1 X.2.1 (by rw [X.2.2.2.2.2.1, hr]) (Or.inl ⟨C, rfl⟩) ?_ (tt_end (v := some v) hI hP ⟨by omega, fun _ => ⟨hnn, rfl⟩, fun _ _ => rfl⟩) hI.2.2.2.1.2.2 hd X.2.2.2.2.2.2.1
  rcases hv with rfl | ⟨a, rfl⟩
  · exact Or.inl rfl
  · exact Or.inr ⟨ad a, rfl⟩
end TTF
end
section
/-! THE SHALLOW PROGRAM'S PRIMITIVES: what an instruction gives over the toy heap, or none (what the machine itself would throw at) -/
def gg_obj (h : tt_H) (b ci : Nat) : Option (List Value) := match h b with
  | some (.inr (c, fs)) => if c = ci then some fs else none
  | _ => none
def gg_vi (v : Option Value) : Option Int32 := match v with
  | some (.int x) => some x
  | _ => none
def gg_vr (v : Option Value) : Option Nat := match v with
  | some (.ref x) => some x
  | _ => none
/-- a field that holds an int; one that holds a reference -/
def gg_fi (h : tt_H) (b ci k : Nat) : Option Int32 := (gg_obj h b ci).bind fun fs => gg_vi fs[k]?
def gg_fr (h : tt_H) (b ci k : Nat) : Option Nat := (gg_obj h b ci).bind fun fs => gg_vr fs[k]?
def gg_put (h : tt_H) (b ci k : Nat) (v : Value) : Option tt_H := (gg_obj h b ci).bind fun fs => if k < fs.length then some (va_up h b (some (.inr (ci, fs.set k v)))) else none
def gg_ia (h : tt_H) (b : Nat) : Option (Nat × (Nat → Int32)) := match h b with
  | some (.inl (0, (n, .inl f))) => some (n, f)
  | _ => none
def gg_za (h : tt_H) (b : Nat) : Option (Nat × (Nat → Int32)) := match h b with
  | some (.inl (2, (n, .inl f))) => some (n, f)
  | _ => none
def gg_ja (h : tt_H) (b : Nat) : Option (Nat × (Nat → Int64)) := match h b with
  | some (.inl (1, (n, .inr (.inl f)))) => some (n, f)
  | _ => none
def gg_qa (t : Nat) (h : tt_H) (b : Nat) : Option (Nat × (Nat → Option Nat)) := match h b with
  | some (.inl (t', (n, .inr (.inr (.inr (.inr f)))))) => if t' = t then some (n, f) else none
  | _ => none
def gg_ix {α : Type} (i : Int32) (n : Nat) (x : α) : Option α := if i < 0 ∨ n ≤ i.toNatClampNeg then none else some x
def gg_il (h : tt_H) (b : Nat) (i : Int32) : Option Int32 := (gg_ia h b).bind fun a => gg_ix i a.1 (a.2 i.toNatClampNeg)
def gg_zl (h : tt_H) (b : Nat) (i : Int32) : Option Int32 := (gg_za h b).bind fun a => gg_ix i a.1 (a.2 i.toNatClampNeg)
def gg_jl (h : tt_H) (b : Nat) (i : Int32) : Option Int64 := (gg_ja h b).bind fun a => gg_ix i a.1 (a.2 i.toNatClampNeg)
def gg_ql (t : Nat) (h : tt_H) (b : Nat) (i : Int32) : Option Nat := (gg_qa t h b).bind fun a => (gg_ix i a.1 (a.2 i.toNatClampNeg)).bind id
def gg_is (h : tt_H) (b : Nat) (i x : Int32) : Option tt_H := (gg_ia h b).bind fun a => gg_ix i a.1 (va_up h b (some (tt_ia a.1 (upd a.2 i.toNatClampNeg x))))
def gg_zs (h : tt_H) (b : Nat) (i x : Int32) : Option tt_H := (gg_za h b).bind fun a => gg_ix i a.1 (va_up h b (some (tt_za a.1 (upd a.2 i.toNatClampNeg (vp_nar .boolean x)))))
def gg_js (h : tt_H) (b : Nat) (i : Int32) (x : Int64) : Option tt_H := (gg_ja h b).bind fun a => gg_ix i a.1 (va_up h b (some (tt_ja a.1 (vp_updL a.2 i.toNatClampNeg x))))
def gg_len (h : tt_H) (b : Nat) : Option Int32 := match h b with
  | some (.inl (0, (n, .inl _))) => some (Int32.ofNat n)
  | some (.inl (1, (n, .inr (.inl _)))) => some (Int32.ofNat n)
  | _ => none
def gg_nz (y : Int32) : Option Unit := if y = 0 then none else some ()
def gg_cp (h : tt_H) (a : Nat) (sp : Int32) (b : Nat) (dp n : Int32) : Option tt_H := (gg_ia h a).bind fun x => (gg_ia h b).bind fun y => if sp < 0 ∨ dp < 0 ∨ n < 0 ∨ x.1 < sp.toNatClampNeg + n.toNatClampNeg ∨ y.1 < dp.toNatClampNeg + n.toNatClampNeg then none else some (va_up h b (some (tt_ia y.1 (va_cpy x.2 y.2 sp.toNatClampNeg dp.toNatClampNeg n.toNatClampNeg))))
/-- a reference that may be null -/
def gg_opt {α : Type} (r : Option Nat) (a : α) (f : Nat → α) : α := match r with
  | none => a
  | some b => f b
theorem gg_bind {α β : Type} {o : Option α} {f : α → Option β} {r : β} (h : o.bind f = some r) : ∃ a, o = some a ∧ f a = some r := Option.bind_eq_some_iff.mp h
theorem gg_obj_ok {h : tt_H} {b ci : Nat} {fs : List Value} (e : gg_obj h b ci = some fs) : h b = some (.inr (ci, fs)) := by
  unfold gg_obj at e
  split at e
  · rename_i c fs' he
    by_cases hc : c = ci
    · rw [if_pos hc] at e; cases e; rw [he, hc]
    · rw [if_neg hc] at e; cases e
  · cases e
theorem gg_ix_ok {α : Type} {i : Int32} {n : Nat} {x y : α} (e : gg_ix i n x = some y) : vp_in i n ∧ x = y := by
  unfold gg_ix at e
  by_cases hc : i < 0 ∨ n ≤ i.toNatClampNeg
  · rw [if_pos hc] at e; cases e
  · rw [if_neg hc] at e; cases e; exact ⟨hc, rfl⟩
theorem gg_ia_ok {h : tt_H} {b : Nat} {a : Nat × (Nat → Int32)} (e : gg_ia h b = some a) : h b = some (tt_ia a.1 a.2) := by
  unfold gg_ia at e
  split at e
  · rename_i n f he; cases e; exact he
  · cases e
theorem gg_za_ok {h : tt_H} {b : Nat} {a : Nat × (Nat → Int32)} (e : gg_za h b = some a) : h b = some (tt_za a.1 a.2) := by
  unfold gg_za at e
  split at e
  · rename_i n f he; cases e; exact he
  · cases e
theorem gg_ja_ok {h : tt_H} {b : Nat} {a : Nat × (Nat → Int64)} (e : gg_ja h b = some a) : h b = some (tt_ja a.1 a.2) := by
  unfold gg_ja at e
  split at e
  · rename_i n f he; cases e; exact he
  · cases e
theorem gg_qa_ok {t : Nat} {h : tt_H} {b : Nat} {a : Nat × (Nat → Option Nat)} (e : gg_qa t h b = some a) : h b = some (tt_qa t a.1 a.2) := by
  unfold gg_qa at e
  split at e
  · rename_i t' n f he
    by_cases hc : t' = t
    · rw [if_pos hc] at e; cases e; rw [he, hc]
    · rw [if_neg hc] at e; cases e
  · cases e
theorem tt_va_rf (ad : Nat → Nat) (r : Option Nat) : tt_v ad (va_rf r) = va_rf (r.map ad) := by cases r <;> rfl
section GGR
variable {cl : List vw_C} {K : tt_K} {ad : Nat → Nat} {kc ks pc : Nat} {L : List (Nat × Value)} {st : List Value} {h : tt_H} {cc : ByteArray} {own : String} {ret : Option FieldType} {Ts : List Cond}
theorem zr_fi (X : tt_X cl K cc own ret Ts) {b ci k : Nat} {v : Int32} (e : gg_fi h b ci k = some v) {C ref : String} {F : u_T} {N index : Nat} (hc : cl[ci]? = some (C, F, N)) (hin : ∀ w ∈ u_ws C F N, w ∈ Ts) (hk : k < N) (hlink : Cond.fieldLink own index ref (F k).2.1 (F k).2.2.1 ∈ Ts) (hown : (F k).1 = ref) (hd : decode cc pc = .ok (.getfield index, 3)) (kk : tt_T cl K ad kc ks (pc + 3) L (.int v :: st) h) : tt_T cl K ad kc ks pc L (.ref b :: st) h := by
  obtain ⟨fs, e1, e2⟩ := gg_bind e
  refine tt_getf X (gg_obj_ok e1) hc hin k hk hlink hown (v := .int v) ?_ hd kk
  unfold gg_vi at e2
  split at e2
  · rename_i x hx; cases e2; exact hx
  · cases e2
theorem zr_fr (X : tt_X cl K cc own ret Ts) {b ci k : Nat} {v : Nat} (e : gg_fr h b ci k = some v) {C ref : String} {F : u_T} {N index : Nat} (hc : cl[ci]? = some (C, F, N)) (hin : ∀ w ∈ u_ws C F N, w ∈ Ts) (hk : k < N) (hlink : Cond.fieldLink own index ref (F k).2.1 (F k).2.2.1 ∈ Ts) (hown : (F k).1 = ref) (hd : decode cc pc = .ok (.getfield index, 3)) (kk : tt_T cl K ad kc ks (pc + 3) L (.ref v :: st) h) : tt_T cl K ad kc ks pc L (.ref b :: st) h := by
  obtain ⟨fs, e1, e2⟩ := gg_bind e
  refine tt_getf X (gg_obj_ok e1) hc hin k hk hlink hown (v := .ref v) ?_ hd kk
  unfold gg_vr at e2
  split at e2
  · rename_i x hx; cases e2; exact hx
  · cases e2
theorem zr_put (X : tt_X cl K cc own ret Ts) {b ci k : Nat} {v : Value} {h1 : tt_H} (e : gg_put h b ci k v = some h1) {C ref : String} {F : u_T} {N index : Nat} (hc : cl[ci]? = some (C, F, N)) (hin : ∀ w ∈ u_ws C F N, w ∈ Ts) (ty0 : Nat → FieldType) (hty : ∀ k, k < N → parseFieldDescriptor (F k).2.2.1 = some (ty0 k)) (hnm : ∀ a, a < N → ∀ b, b < N → a ≠ b → (F a).2.1 ≠ (F b).2.1) (hk : k < N) (hlink : Cond.fieldLink own index ref (F k).2.1 (F k).2.2.1 ∈ Ts) (hown : (F k).1 = ref) (hfin : (F k).2.2.2 = false) (hn : ∀ ad, narrow (ty0 k) (tt_v ad v) = tt_v ad v) (hfit : ∀ ad, fits (ty0 k) (tt_v ad v) = true) (hd : decode cc pc = .ok (.putfield index, 3)) (kk : tt_T cl K ad kc ks (pc + 3) L st h1) : tt_T cl K ad kc ks pc L (v :: .ref b :: st) h := by
  obtain ⟨fs, e1, e2⟩ := gg_bind e
  by_cases hl : k < fs.length
  · rw [if_pos hl] at e2
    cases e2
    exact tt_putf X (gg_obj_ok e1) hc hin ty0 hty hnm k hk hlink hown hfin hn hfit hl hd kk
  · rw [if_neg hl] at e2; cases e2
theorem zr_il (X : tt_X cl K cc own ret Ts) {b : Nat} {i v : Int32} (e : gg_il h b i = some v) (hd : decode cc pc = .ok (.iaload, 1)) (kk : tt_T cl K ad kc ks (pc + 1) L (.int v :: st) h) : tt_T cl K ad kc ks pc L (.int i :: .ref b :: st) h := by
  obtain ⟨a, e1, e2⟩ := gg_bind e
  obtain ⟨e3, rfl⟩ := gg_ix_ok e2
  exact tt_iald X (gg_ia_ok e1) e3 hd kk
theorem zr_zl (X : tt_X cl K cc own ret Ts) {b : Nat} {i v : Int32} (e : gg_zl h b i = some v) (hd : decode cc pc = .ok (.baload, 1)) (kk : tt_T cl K ad kc ks (pc + 1) L (.int v :: st) h) : tt_T cl K ad kc ks pc L (.int i :: .ref b :: st) h := by
  obtain ⟨a, e1, e2⟩ := gg_bind e
  obtain ⟨e3, rfl⟩ := gg_ix_ok e2
  exact tt_zald X (gg_za_ok e1) e3 hd kk
theorem zr_jl (X : tt_X cl K cc own ret Ts) {b : Nat} {i : Int32} {v : Int64} (e : gg_jl h b i = some v) (hd : decode cc pc = .ok (.laload, 1)) (kk : tt_T cl K ad kc ks (pc + 1) L (.long v :: st) h) : tt_T cl K ad kc ks pc L (.int i :: .ref b :: st) h := by
  obtain ⟨a, e1, e2⟩ := gg_bind e
  obtain ⟨e3, rfl⟩ := gg_ix_ok e2
  exact tt_lald X (gg_ja_ok e1) e3 hd kk
theorem zr_ql (X : tt_X cl K cc own ret Ts) {t b : Nat} {C : String} {i : Int32} {v : Nat} (e : gg_ql t h b i = some v) (ht : tt_tyl[t]? = some (.object C)) (hd : decode cc pc = .ok (.aaload, 1)) (kk : tt_T cl K ad kc ks (pc + 1) L (.ref v :: st) h) : tt_T cl K ad kc ks pc L (.int i :: .ref b :: st) h := by
  obtain ⟨a, e1, e2⟩ := gg_bind e
  obtain ⟨o, e3, e4⟩ := gg_bind e2
  obtain ⟨e5, e6⟩ := gg_ix_ok e3
  exact tt_aldq X (gg_qa_ok e1) ht e5 (by rw [e6]; exact e4) hd kk
theorem zr_is (X : tt_X cl K cc own ret Ts) {b : Nat} {i x : Int32} {h1 : tt_H} (e : gg_is h b i x = some h1) (hd : decode cc pc = .ok (.iastore, 1)) (kk : tt_T cl K ad kc ks (pc + 1) L st h1) : tt_T cl K ad kc ks pc L (.int x :: .int i :: .ref b :: st) h := by
  obtain ⟨a, e1, e2⟩ := gg_bind e
  obtain ⟨e3, rfl⟩ := gg_ix_ok e2
  exact tt_iast X (gg_ia_ok e1) e3 hd kk
theorem zr_zs (X : tt_X cl K cc own ret Ts) {b : Nat} {i x : Int32} {h1 : tt_H} (e : gg_zs h b i x = some h1) (hd : decode cc pc = .ok (.bastore, 1)) (kk : tt_T cl K ad kc ks (pc + 1) L st h1) : tt_T cl K ad kc ks pc L (.int x :: .int i :: .ref b :: st) h := by
  obtain ⟨a, e1, e2⟩ := gg_bind e
  obtain ⟨e3, rfl⟩ := gg_ix_ok e2
  exact tt_zast X (gg_za_ok e1) e3 hd kk
theorem zr_js (X : tt_X cl K cc own ret Ts) {b : Nat} {i : Int32} {x : Int64} {h1 : tt_H} (e : gg_js h b i x = some h1) (hd : decode cc pc = .ok (.lastore, 1)) (kk : tt_T cl K ad kc ks (pc + 1) L st h1) : tt_T cl K ad kc ks pc L (.long x :: .int i :: .ref b :: st) h := by
  obtain ⟨a, e1, e2⟩ := gg_bind e
  obtain ⟨e3, rfl⟩ := gg_ix_ok e2
  exact tt_last X (gg_ja_ok e1) e3 hd kk
theorem zr_len (X : tt_X cl K cc own ret Ts) {b : Nat} {v : Int32} (e : gg_len h b = some v) (hd : decode cc pc = .ok (.arraylength, 1)) (kk : tt_T cl K ad kc ks (pc + 1) L (.int v :: st) h) : tt_T cl K ad kc ks pc L (.ref b :: st) h := by
  unfold gg_len at e
  split at e
  · rename_i n f he; exact tt_alen X (t := 0) he (ty := .int) rfl (Option.some.inj e) hd kk
  · rename_i n f he; exact tt_alen X (t := 1) he (ty := .long) rfl (Option.some.inj e) hd kk
  · cases e
theorem zr_nz {y : Int32} {u : Unit} (e : gg_nz y = some u) : ¬ y = 0 := fun hy => by
  unfold gg_nz at e
  rw [if_pos hy] at e; cases e
/-- a reference that may be null: loads and stores -/
theorem zr_aload_n (X : tt_X cl K cc own ret Ts) {k : Fin 4} (r : Option Nat) (hd : decode cc pc = .ok (.aload_n k, 1)) (hl : L.lookup (k : Nat) = some (va_rf r)) (kk : tt_T cl K ad kc ks (pc + 1) L (va_rf r :: st) h) : tt_T cl K ad kc ks pc L st h := by
  cases r with
  | none => exact tt_aload_nN X hd hl kk
  | some a => exact tt_aload_n X hd hl kk
theorem zr_aload (X : tt_X cl K cc own ret Ts) {i : Nat} (r : Option Nat) (hd : decode cc pc = .ok (.aload i, 2)) (hl : L.lookup i = some (va_rf r)) (kk : tt_T cl K ad kc ks (pc + 2) L (va_rf r :: st) h) : tt_T cl K ad kc ks pc L st h := by
  cases r with
  | none => exact tt_aloadN X hd hl kk
  | some a => exact tt_aload X hd hl kk
theorem zr_astore_n (X : tt_X cl K cc own ret Ts) {k : Fin 4} (r : Option Nat) (hd : decode cc pc = .ok (.astore_n k, 1)) (hn : (k : Nat) < tt_nL K) (kk : tt_T cl K ad kc ks (pc + 1) (tt_put (k : Nat) (va_rf r) L) st h) : tt_T cl K ad kc ks pc L (va_rf r :: st) h := by
  cases r with
  | none => exact tt_astore_nN X hd hn kk
  | some a => exact tt_astore_n X hd hn kk
theorem zr_astore (X : tt_X cl K cc own ret Ts) {i : Nat} (r : Option Nat) (hd : decode cc pc = .ok (.astore i, 2)) (hn : i < tt_nL K) (kk : tt_T cl K ad kc ks (pc + 2) (tt_put i (va_rf r) L) st h) : tt_T cl K ad kc ks pc L (va_rf r :: st) h := by
  cases r with
  | none => exact tt_astoreN X hd hn kk
  | some a => exact tt_astore X hd hn kk
end GGR
/-- a method's answer, and the heap it leaves -/
def tt_ret (v : Option Value) (h : tt_H) : Option Value → tt_H → Prop := fun v' h' => v' = v ∧ h' = h
section GGC
variable {cl : List vw_C} {p : Program} {l : Launch} {e : Env} {R : Room} {s : State} {m : MethodId} {args : Array Value} {below : List Frame} {meth : Method} {c : Code} {D : va_G} {ca : Nat → ClassId} {A : Nat → Prop} {nL : Nat} {nz : Option Nat} {Q : State → Prop} {ad : Nat → Nat} {kc ks pc : Nat} {L : List (Nat × Value)} {st : List Value} {h : tt_H} {cc : ByteArray} {own : String} {ret : Option FieldType} {Ts : List Cond}
variable {y : MethodName} {bytes : ByteArray} {maxL k index : Nat} {rt : Option FieldType} {ws : List Cond} {rm : Room} {As : List Value}
theorem zr_callV (X : tt_X cl (p, l, e, R, s, m, args, below, meth, c, Q, D, ca, A, nL, nz) cc own ret Ts) {b ci : Nat} {fs : List Value} (hb : gg_obj h b ci = some fs) {C : String} {F : u_T} {N : Nat} (hc : cl[ci]? = some (C, F, N)) {v : Option Value} {h1 : tt_H} (hM : tt_M cl l y ws rm 0 0 false (.ref b :: As) h (tt_ret v h1)) (cw : (∀ w ∈ Ts, w.before args s = true) → CallW R s args own C index y bytes maxL rt ws rm 0 0 k) (hn : As.length = k) {st0 : List Value} (hst : st0 = As.reverse ++ .ref b :: st) (hW : (st.map fun v => v.category).sum ≤ 8) (hd : decode cc pc = .ok (.invokevirtual index, 3)) (hf : kc ≤ R.cells ∧ ks ≤ R.slots)
    (kk : tt_T cl (p, l, e, R, s, m, args, below, meth, c, Q, D, ca, A, nL, nz) ad kc ks (pc + 3) L (v.toList ++ st) h1) : tt_T cl (p, l, e, R, s, m, args, below, meth, c, Q, D, ca, A, nL, nz) ad kc ks pc L st0 h :=
  tt_callV X (gg_obj_ok hb) hc hM cw hn hst hW hd hf (fun v' h' hv => by obtain ⟨rfl, rfl⟩ := hv; exact kk)
theorem zr_callS (X : tt_X cl (p, l, e, R, s, m, args, below, meth, c, Q, D, ca, A, nL, nz) cc own ret Ts) {v : Option Value} {h1 : tt_H} (hM : tt_M cl l y ws rm 0 0 false As h (tt_ret v h1)) (cw : (∀ w ∈ Ts, w.before args s = true) → CallB R s args own index y bytes maxL rt ws rm 0 0 k ∧ (Cond.static y).before args s = true) (hn : As.length = k) {st0 : List Value} (hst : st0 = As.reverse ++ st) (hW : (st.map fun v => v.category).sum ≤ 8) (hd : decode cc pc = .ok (.invokestatic index, 3)) (hf : kc ≤ R.cells ∧ ks ≤ R.slots)
    (kk : tt_T cl (p, l, e, R, s, m, args, below, meth, c, Q, D, ca, A, nL, nz) ad kc ks (pc + 3) L (v.toList ++ st) h1) : tt_T cl (p, l, e, R, s, m, args, below, meth, c, Q, D, ca, A, nL, nz) ad kc ks pc L st0 h :=
  tt_callS X hM cw hn hst hW hd hf (fun v' h' hv => by obtain ⟨rfl, rfl⟩ := hv; exact kk)
/-- System.arraycopy between int arrays -/
theorem zr_cp (X : tt_X cl (p, l, e, R, s, m, args, below, meth, c, Q, D, ca, A, nL, nz) cc own ret Ts) {a b : Nat} {sp dp n : Int32} {h1 : tt_H} (hq : gg_cp h a sp b dp n = some h1) (hlink : Cond.methodLink own index arraycopyName ∈ Ts) (hnat : Cond.native arraycopyName ∈ Ts) (hstat : Cond.static arraycopyName ∈ Ts) (hini : Cond.initialized "java/lang/System" ∈ Ts) (hfr : 1 ≤ R.frames) (hloc : (st.map fun v => v.category).sum + (nativeFrameWords "java/lang/System" "arraycopy" 5 + 11) ≤ R.locals) (hd : decode cc pc = .ok (.invokestatic index, 3))
    (kk : tt_T cl (p, l, e, R, s, m, args, below, meth, c, Q, D, ca, A, nL, nz) ad kc ks (pc + 3) L st h1) : tt_T cl (p, l, e, R, s, m, args, below, meth, c, Q, D, ca, A, nL, nz) ad kc ks pc L (.int n :: .int dp :: .ref b :: .int sp :: .ref a :: st) h := by
  obtain ⟨x, e1, hq⟩ := gg_bind hq
  obtain ⟨z, e2, hq⟩ := gg_bind hq
  by_cases hcnd : sp < 0 ∨ dp < 0 ∨ n < 0 ∨ x.1 < sp.toNatClampNeg + n.toNatClampNeg ∨ z.1 < dp.toNatClampNeg + n.toNatClampNeg
  · rw [if_pos hcnd] at hq; cases hq
  · rw [if_neg hcnd] at hq
    cases hq
    simp only [not_or, Nat.not_lt] at hcnd
    obtain ⟨k1, k2, k3, k4, k5⟩ := hcnd
    intro n0 H locs ls hI hl
    have ha := tt_w_get (ca := ca) (ad := ad) hI.1 (gg_ia_ok e1)
    have hb := tt_w_get (ca := ca) (ad := ad) hI.1 (gg_ia_ok e2)
    refine va_copyi X.1 X.2.1 (X.2.2.1.trans hl.1.symm) X.2.2.2.1 (X.2.2.2.2.1 _ hlink) (X.2.2.2.2.1 _ hnat) (X.2.2.2.2.1 _ hstat) (X.2.2.2.2.1 _ hini) X.2.2.2.2.2.2.2.1 hI.2.1 hI.2.2.1 hI.2.2.2.1 a b 0 0 ha hb rfl rfl rfl k1 k2 k3 k4 k5 (fun _ _ => rfl) hfr (by rw [tt_cats]; exact hloc) hd (fun H1 locs1 hP hD hS => ?_)
    have hw := tt_w_set (ca := ca) (ad := ad) (e := tt_ia z.1 (va_cpy x.2 z.2 sp.toNatClampNeg dp.toNatClampNeg n.toNatClampNeg)) hI.1 (gg_ia_ok e2)
    exact kk n0 H1 locs1 ls ⟨tt_wf_set hI.1 (gg_ia_ok e2), hw ▸ hP, hw ▸ hD, hS, hI.2.2.2.2⟩ hl
end GGC
/-! the heap's places stay the same through writes -/
theorem gg_wf_put {n : Nat} {h h1 : tt_H} {b ci k : Nat} {v : Value} (hw : tt_wf n h) (e : gg_put h b ci k v = some h1) : tt_wf n h1 := by
  obtain ⟨fs, e1, e2⟩ := gg_bind e
  by_cases hl : k < fs.length
  · rw [if_pos hl] at e2
    cases e2
    exact tt_wf_set hw (gg_obj_ok e1)
  · rw [if_neg hl] at e2; cases e2
theorem gg_wf_is {n : Nat} {h h1 : tt_H} {b : Nat} {i x : Int32} (hw : tt_wf n h) (e : gg_is h b i x = some h1) : tt_wf n h1 := by
  obtain ⟨a, e1, e2⟩ := gg_bind e
  obtain ⟨e3, rfl⟩ := gg_ix_ok e2
  exact tt_wf_set hw (gg_ia_ok e1)
theorem gg_wf_zs {n : Nat} {h h1 : tt_H} {b : Nat} {i x : Int32} (hw : tt_wf n h) (e : gg_zs h b i x = some h1) : tt_wf n h1 := by
  obtain ⟨a, e1, e2⟩ := gg_bind e
  obtain ⟨e3, rfl⟩ := gg_ix_ok e2
  exact tt_wf_set hw (gg_za_ok e1)
theorem gg_wf_js {n : Nat} {h h1 : tt_H} {b : Nat} {i : Int32} {x : Int64} (hw : tt_wf n h) (e : gg_js h b i x = some h1) : tt_wf n h1 := by
  obtain ⟨a, e1, e2⟩ := gg_bind e
  obtain ⟨e3, rfl⟩ := gg_ix_ok e2
  exact tt_wf_set hw (gg_ja_ok e1)
section GGM
variable {cl : List vw_C} {p : Program} {l : Launch} {e : Env} {R : Room} {s : State} {m : MethodId} {args : Array Value} {below : List Frame} {meth : Method} {c : Code} {D : va_G} {ca : Nat → ClassId} {A : Nat → Prop} {nL : Nat} {nz : Option Nat} {Q : State → Prop} {ad : Nat → Nat} {kc ks pc : Nat} {L : List (Nat × Value)} {st : List Value} {h : tt_H} {cc : ByteArray} {own : String} {ret : Option FieldType} {Ts : List Cond} {index : Nat}
theorem zr_mmax (X : tt_X cl (p, l, e, R, s, m, args, below, meth, c, Q, D, ca, A, nL, nz) cc own ret Ts) {x y : Int32} (hlink : Cond.methodLink own index Lib.Math.max.name ∈ Ts) (hstat : Cond.static Lib.Math.max.name ∈ Ts) (hini : Cond.initialized "java/lang/Math" ∈ Ts) (hcode : Cond.code Lib.Math.max.name Lib.Math.max.code 2 (some .int) ∈ Ts) (hfr : 1 ≤ R.frames) (hloc : (st.map fun v => v.category).sum + 13 ≤ R.locals) (hc : kc ≤ R.cells) (hs : ks ≤ R.slots) (hd : decode cc pc = .ok (.invokestatic index, 3))
    (kk : tt_T cl (p, l, e, R, s, m, args, below, meth, c, Q, D, ca, A, nL, nz) ad kc ks (pc + 3) L (.int (if x < y then y else x) :: st) h) : tt_T cl (p, l, e, R, s, m, args, below, meth, c, Q, D, ca, A, nL, nz) ad kc ks pc L (.int y :: .int x :: st) h := fun n H locs ls hI hl =>
  va_mmax X.1 X.2.1 (X.2.2.1.trans hl.1.symm) X.2.2.2.1 (X.2.2.2.2.1 _ hlink) (X.2.2.2.2.1 _ hstat) (X.2.2.2.2.1 _ hini) (X.2.2.2.2.1 _ hcode) hfr (by rw [tt_cats]; exact hloc) hc hs hd (kk n H locs ls hI hl)
theorem zr_mmin (X : tt_X cl (p, l, e, R, s, m, args, below, meth, c, Q, D, ca, A, nL, nz) cc own ret Ts) {x y : Int32} (hlink : Cond.methodLink own index Lib.Math.min.name ∈ Ts) (hstat : Cond.static Lib.Math.min.name ∈ Ts) (hini : Cond.initialized "java/lang/Math" ∈ Ts) (hcode : Cond.code Lib.Math.min.name Lib.Math.min.code 2 (some .int) ∈ Ts) (hfr : 1 ≤ R.frames) (hloc : (st.map fun v => v.category).sum + 13 ≤ R.locals) (hc : kc ≤ R.cells) (hs : ks ≤ R.slots) (hd : decode cc pc = .ok (.invokestatic index, 3))
    (kk : tt_T cl (p, l, e, R, s, m, args, below, meth, c, Q, D, ca, A, nL, nz) ad kc ks (pc + 3) L (.int (if y < x then y else x) :: st) h) : tt_T cl (p, l, e, R, s, m, args, below, meth, c, Q, D, ca, A, nL, nz) ad kc ks pc L (.int y :: .int x :: st) h := fun n H locs ls hI hl =>
  va_mmin X.1 X.2.1 (X.2.2.1.trans hl.1.symm) X.2.2.2.1 (X.2.2.2.2.1 _ hlink) (X.2.2.2.2.1 _ hstat) (X.2.2.2.2.1 _ hini) (X.2.2.2.2.1 _ hcode) hfr (by rw [tt_cats]; exact hloc) hc hs hd (kk n H locs ls hI hl)
theorem zr_lmax (X : tt_X cl (p, l, e, R, s, m, args, below, meth, c, Q, D, ca, A, nL, nz) cc own ret Ts) {x y : Int64} (hlink : Cond.methodLink own index Lib.MathLoose.max_long.x ∈ Ts) (hstat : Cond.static Lib.MathLoose.max_long.x ∈ Ts) (hini : Cond.initialized "java/lang/Math" ∈ Ts) (hcode : Cond.code Lib.MathLoose.max_long.x Lib.MathLoose.max_long.code 4 (some .long) ∈ Ts) (hfr : 1 ≤ R.frames) (hloc : (st.map fun v => v.category).sum + 15 ≤ R.locals) (hc : kc ≤ R.cells) (hs : ks ≤ R.slots) (hd : decode cc pc = .ok (.invokestatic index, 3))
    (kk : tt_T cl (p, l, e, R, s, m, args, below, meth, c, Q, D, ca, A, nL, nz) ad kc ks (pc + 3) L (.long (if y < x then x else y) :: st) h) : tt_T cl (p, l, e, R, s, m, args, below, meth, c, Q, D, ca, A, nL, nz) ad kc ks pc L (.long y :: .long x :: st) h := fun n H locs ls hI hl =>
  va_mmax_long X.1 X.2.1 (X.2.2.1.trans hl.1.symm) X.2.2.2.1 (X.2.2.2.2.1 _ hlink) (X.2.2.2.2.1 _ hstat) (X.2.2.2.2.1 _ hini) (X.2.2.2.2.1 _ hcode) hfr (by rw [tt_cats]; exact hloc) hc hs hd (kk n H locs ls hI hl)
theorem zr_lmin (X : tt_X cl (p, l, e, R, s, m, args, below, meth, c, Q, D, ca, A, nL, nz) cc own ret Ts) {x y : Int64} (hlink : Cond.methodLink own index Lib.MathLoose.min_long.x ∈ Ts) (hstat : Cond.static Lib.MathLoose.min_long.x ∈ Ts) (hini : Cond.initialized "java/lang/Math" ∈ Ts) (hcode : Cond.code Lib.MathLoose.min_long.x Lib.MathLoose.min_long.code 4 (some .long) ∈ Ts) (hfr : 1 ≤ R.frames) (hloc : (st.map fun v => v.category).sum + 15 ≤ R.locals) (hc : kc ≤ R.cells) (hs : ks ≤ R.slots) (hd : decode cc pc = .ok (.invokestatic index, 3))
    (kk : tt_T cl (p, l, e, R, s, m, args, below, meth, c, Q, D, ca, A, nL, nz) ad kc ks (pc + 3) L (.long (if y < x then y else x) :: st) h) : tt_T cl (p, l, e, R, s, m, args, below, meth, c, Q, D, ca, A, nL, nz) ad kc ks pc L (.long y :: .long x :: st) h := fun n H locs ls hI hl =>
  va_mmin_long X.1 X.2.1 (X.2.2.1.trans hl.1.symm) X.2.2.2.1 (X.2.2.2.2.1 _ hlink) (X.2.2.2.2.1 _ hstat) (X.2.2.2.2.1 _ hini) (X.2.2.2.2.1 _ hcode) hfr (by rw [tt_cats]; exact hloc) hc hs hd (kk n H locs ls hI hl)
/-- switches -/
theorem zr_lookup {K : tt_K} (X : tt_X cl K cc own ret Ts) {dflt : Int} {ps : Array (Int × Int)} {len : Nat} {x : Int32} {off : Int} {tgt : Nat} (hd : decode cc pc = .ok (.lookupswitch dflt ps, len)) (hp : (ps.toList.zip (ps.toList.drop 1)).all (fun (a, next) => a.1 < next.1) = true) (ho : Op.lookupswitch.offset ps.toList dflt x.toInt = off) (ht : (pc : Int) + off = (tgt : Int)) (kk : tt_T cl K ad kc ks tgt L st h) : tt_T cl K ad kc ks pc L (.int x :: st) h := by
  obtain ⟨p, l, e, R, s, m, args, below, meth, c, Q, D, ca, A, nL, nz⟩ := K
  exact fun n H locs ls hI hl => lv_lookup X.1 X.2.1 hd hp ho ht (kk n H locs ls hI hl)
end GGM
end
section
/-! MORE ROWS: longs by shifts and bits, an int constant; THE SCRIPT, which is place 1000000, read and never written; a guard at what makes cells -/
section TTX
variable {cl : List vw_C} {K : tt_K} {ad : Nat → Nat} {kc ks pc : Nat} {L : List (Nat × Value)} {st : List Value} {h : tt_H} {cc : ByteArray} {own : String} {ret : Option FieldType} {Ts : List Cond}
theorem tt_ldc (X : tt_X cl K cc own ret Ts) {index : Nat} {v : Int32} (hcn : Jvm.Cond.constant own index v ∈ Ts) (hd : decode cc pc = .ok (.ldc index, 2)) (kk : tt_T cl K ad kc ks (pc + 2) L (.int v :: st) h) : tt_T cl K ad kc ks pc L st h := by
  obtain ⟨p, l, e, R, s, m, args, below, meth, c, Q, D, ca, A, nL, nz⟩ := K
  exact fun n H locs ls hI hl => lv_ldc X.1 X.2.1 X.2.2.2.1 (X.2.2.2.2.1 _ hcn) hd (kk n H locs ls hI hl)
theorem tt_land (X : tt_X cl K cc own ret Ts) {x y : Int64} (hd : decode cc pc = .ok (.land, 1)) (kk : tt_T cl K ad kc ks (pc + 1) L (.long (x &&& y) :: st) h) : tt_T cl K ad kc ks pc L (.long y :: .long x :: st) h := by
  obtain ⟨p, l, e, R, s, m, args, below, meth, c, Q, D, ca, A, nL, nz⟩ := K
  exact fun n H locs ls hI hv => lv_land X.1 X.2.1 hd (kk n H locs ls hI hv)
theorem tt_lor (X : tt_X cl K cc own ret Ts) {x y : Int64} (hd : decode cc pc = .ok (.lor, 1)) (kk : tt_T cl K ad kc ks (pc + 1) L (.long (x ||| y) :: st) h) : tt_T cl K ad kc ks pc L (.long y :: .long x :: st) h := by
  obtain ⟨p, l, e, R, s, m, args, below, meth, c, Q, D, ca, A, nL, nz⟩ := K
  exact fun n H locs ls hI hv => lv_lor X.1 X.2.1 hd (kk n H locs ls hI hv)
theorem tt_lshl (X : tt_X cl K cc own ret Ts) {x : Int64} {y : Int32} (hd : decode cc pc = .ok (.lshl, 1)) (kk : tt_T cl K ad kc ks (pc + 1) L (.long (x <<< (y.toInt64 &&& 63)) :: st) h) : tt_T cl K ad kc ks pc L (.int y :: .long x :: st) h := by
  obtain ⟨p, l, e, R, s, m, args, below, meth, c, Q, D, ca, A, nL, nz⟩ := K
  exact fun n H locs ls hI hv => lv_lshl X.1 X.2.1 hd rfl (kk n H locs ls hI hv)
theorem tt_lshr (X : tt_X cl K cc own ret Ts) {x : Int64} {y : Int32} (hd : decode cc pc = .ok (.lshr, 1)) (kk : tt_T cl K ad kc ks (pc + 1) L (.long (x >>> (y.toInt64 &&& 63)) :: st) h) : tt_T cl K ad kc ks pc L (.int y :: .long x :: st) h := by
  obtain ⟨p, l, e, R, s, m, args, below, meth, c, Q, D, ca, A, nL, nz⟩ := K
  exact fun n H locs ls hI hv => lv_lshr X.1 X.2.1 hd rfl (kk n H locs ls hI hv)
/-- the script: where it lies, how long it is, what it holds; nothing of it may be written -/
def tt_Y (K : tt_K) (ad : Nat → Nat) (Ls : Nat) (xs : Nat → Int32) : Prop := match K with
  | (_, _, _, _, s, _, _, _, _, _, _, _, _, A, _, _) => va_X (ad 1000000) Ls xs s s.heap ∧ ad 1000000 < s.heap.size ∧ ¬ A (ad 1000000)
theorem zr_sl (X : tt_X cl K cc own ret Ts) {Ls : Nat} {xs : Nat → Int32} (Y : tt_Y K ad Ls xs) {i z : Int32} (e : gg_ix i Ls (xs i.toNatClampNeg) = some z) (hd : decode cc pc = .ok (.iaload, 1)) (kk : tt_T cl K ad kc ks (pc + 1) L (.int z :: st) h) : tt_T cl K ad kc ks pc L (.int i :: .ref 1000000 :: st) h := by
  obtain ⟨p, l, e', R, s, m, args, below, meth, c, Q, D, ca, A, nL, nz⟩ := K
  obtain ⟨e3, rfl⟩ := gg_ix_ok e
  exact fun n H locs ls hI hl => va_sld X.1 X.2.1 Y.1 Y.2.1 Y.2.2 hI.2.2.2.1 e3 hd (kk n H locs ls hI hl)
theorem zr_slen (X : tt_X cl K cc own ret Ts) {Ls : Nat} {xs : Nat → Int32} (Y : tt_Y K ad Ls xs) (hd : decode cc pc = .ok (.arraylength, 1)) (kk : tt_T cl K ad kc ks (pc + 1) L (.int (nI Ls) :: st) h) : tt_T cl K ad kc ks pc L (.ref 1000000 :: st) h := by
  obtain ⟨p, l, e', R, s, m, args, below, meth, c, Q, D, ca, A, nL, nz⟩ := K
  exact fun n H locs ls hI hl => va_slen X.1 X.2.1 Y.1 Y.2.1 Y.2.2 hI.2.2.2.1 hd (kk n H locs ls hI hl)
end TTX
/-- a contract of a method that is given the script, too -/
def tt_BY (cl : List vw_C) (D : va_G) (ca ad : Nat → Nat) (n sz : Nat) (h : tt_H) (Ls : Nat) (xs : Nat → Int32) (U : State) : Prop := tt_B cl D ca ad n sz h U ∧ va_X (ad 1000000) Ls xs U U.heap ∧ ad 1000000 < sz ∧ ∀ i, i < n → ad i ≠ ad 1000000
def tt_MY (cl : List vw_C) (l : Launch) (y : MethodName) (ws : List Cond) (rm : Room) (Ls : Nat) (xs : Nat → Int32) (vs : List Value) (h : tt_H) (P : Option Value → tt_H → Prop) : Prop :=
  ∀ (D : va_G) (ca ad : Nat → Nat) (n sz : Nat), tt_wf n h → Met l y ws rm (va_Pc (vs.map (tt_v ad)) (tt_BY cl D ca ad n sz h Ls xs)) (tt_Q cl D ca ad n sz false P) 0 0 (tt_A ad n sz)
theorem tt_MY.of0 {cl : List vw_C} {l : Launch} {y : MethodName} {ws ws' : List Cond} {rm : Room} {Ls : Nat} {xs : Nat → Int32} {vs : List Value} {h : tt_H} {P : Option Value → tt_H → Prop} {cc : ByteArray} {maxL : Nat} {ret : Option FieldType} (hy : plainName y.cls = true) (hw : ws = Cond.code y cc maxL ret :: ws') (hsl : (lg_sl vs).length ≤ maxL)
    (body : ∀ (p : Program) (e : Env) (s : State) (m : MethodId) (args : Array Value) (below : List Frame) (meth : Method) (c : Code) (D : va_G) (ca ad : Nat → Nat) (n sz : Nat), tt_wf n h → s.heap.size = sz → tt_Y (p, l, e, rm, s, m, args, below, meth, c, MQ below (tt_Q cl D ca ad n sz false P) args s 0 0 (tt_A ad n sz), D, ca, tt_A ad n sz, maxL, some n) ad Ls xs → tt_X cl (p, l, e, rm, s, m, args, below, meth, c, MQ below (tt_Q cl D ca ad n sz false P) args s 0 0 (tt_A ad n sz), D, ca, tt_A ad n sz, maxL, some n) cc y.cls ret ws → (y.name = "<init>" → meth.name = "<init>") →
      tt_T cl (p, l, e, rm, s, m, args, below, meth, c, MQ below (tt_Q cl D ca ad n sz false P) args s 0 0 (tt_A ad n sz), D, ca, tt_A ad n sz, maxL, some n) ad 0 0 0 (tt_args 0 vs) [] h) : tt_MY cl l y ws rm Ls xs vs h P := by
  intro D ca ad n sz hwf
  refine Met.ofW (cc := cc) (maxL := maxL) (ret := ret) hy hw ?_
  intro p e s m args below meth c s₁ B hml hv
  obtain ⟨rfl, ⟨hsz, hP, hK, hD0⟩, hXs, hbl, hne⟩ := hv
  have hl0 := lv_entry (vs.map (tt_v ad)) (n := maxL) (by
    have : ∀ us : List Value, (lg_sl (us.map (tt_v ad))).length = (lg_sl us).length := by
      intro us
      induction us with
      | nil => rfl
      | cons u us ih => cases u <;> simp [lg_sl, tt_v, Value.category] at ih ⊢ <;> first | exact ih | omega
    rw [this]; exact hsl)
  rw [tt_args_m] at hl0
  rw [lg_entry_eq]
  have hX : tt_X cl (p, l, e, rm, s, m, ((vs.map (tt_v ad)).toArray), below, meth, c, MQ below (tt_Q cl D ca ad n sz false P) (vs.map (tt_v ad)).toArray s 0 0 (tt_A ad n sz), D, ca, tt_A ad n sz, maxL, some n) cc y.cls ret ws :=
    ⟨B.exec, B.bytes, hml, findClass_of_methodNamed B.named, atoms_spec (ws := ws) B.pre, B.returns, B.notSynchronized, hK, fun q hq => Or.inr (by rw [← hsz]; exact hq)⟩
  have hY : tt_Y (p, l, e, rm, s, m, ((vs.map (tt_v ad)).toArray), below, meth, c, MQ below (tt_Q cl D ca ad n sz false P) (vs.map (tt_v ad)).toArray s 0 0 (tt_A ad n sz), D, ca, tt_A ad n sz, maxL, some n) ad Ls xs :=
    ⟨hXs, by rw [hsz]; exact hbl, fun z => by
      rcases z with ⟨i, hi, hq⟩ | z
      · exact hne i hi hq.symm
      · omega⟩
  exact body p e s m _ below meth c D ca ad n sz hwf hsz hY hX (fun hi => by rw [← hi]; exact (name_of_methodNamed B.named B.method).1) n s.heap [] _ ⟨hwf, hP, tt_A_D (cl := cl) hD0, va_S.rf, rfl⟩ hl0
section TTYC
variable {cl : List vw_C} {p : Program} {l : Launch} {e : Env} {R : Room} {s : State} {m : MethodId} {args : Array Value} {below : List Frame} {meth : Method} {c : Code} {D : va_G} {ca : Nat → ClassId} {A : Nat → Prop} {nL : Nat} {nz : Option Nat} {Q : State → Prop} {ad : Nat → Nat} {kc ks pc : Nat} {L : List (Nat × Value)} {st : List Value} {h : tt_H} {cc : ByteArray} {own : String} {ret : Option FieldType} {Ts : List Cond}
variable {y : MethodName} {bytes : ByteArray} {maxL k index : Nat} {rt : Option FieldType} {ws : List Cond} {rm : Room} {As : List Value}
theorem zr_callSY {Ls : Nat} {xs : Nat → Int32} (X : tt_X cl (p, l, e, R, s, m, args, below, meth, c, Q, D, ca, A, nL, nz) cc own ret Ts) (Y : tt_Y (p, l, e, R, s, m, args, below, meth, c, Q, D, ca, A, nL, nz) ad Ls xs) {v : Option Value} {h1 : tt_H} (hM : tt_MY cl l y ws rm Ls xs As h (tt_ret v h1)) (cw : (∀ w ∈ Ts, w.before args s = true) → CallB R s args own index y bytes maxL rt ws rm 0 0 k ∧ (Cond.static y).before args s = true) (hn : As.length = k) {st0 : List Value} (hst : st0 = As.reverse ++ st) (hW : (st.map fun v => v.category).sum ≤ 8) (hd : decode cc pc = .ok (.invokestatic index, 3)) (hf : kc ≤ R.cells ∧ ks ≤ R.slots)
    (kk : tt_T cl (p, l, e, R, s, m, args, below, meth, c, Q, D, ca, A, nL, nz) ad kc ks (pc + 3) L (v.toList ++ st) h1) : tt_T cl (p, l, e, R, s, m, args, below, meth, c, Q, D, ca, A, nL, nz) ad kc ks pc L st0 h := by
  intro n H locs ls hI hl
  subst hst
  refine tt_back (st := st) (mc := 0) (ms := 0) (al := false) (P := tt_ret v h1) (ar := (As.map (tt_v ad)).toArray) hI X.2.2.2.2.2.2.2.2 (Or.inl rfl) ?_ (fun v' h' ad' n' H' locs' hp _ hal _ hI' => ?_)
  · have hpr : PreS s H (va_Pc (As.map (tt_v ad)) (tt_BY cl D ca ad n H.size h Ls xs)) (As.map (tt_v ad)) := by
      refine ⟨fun a U g mk q => ⟨q.1, ⟨q.2.1.1, q.2.1.2.1, va_K.moved (u := U) (U := U.calling g mk a) (Vm.Alike.refl U.vm) q.2.1.2.2.1, q.2.1.2.2.2⟩, va_X.moved (u := U) (U := U.calling g mk a) (Vm.Alike.refl U.vm) q.2.2.1, q.2.2.2⟩, fun U hU hW => ⟨rfl, ⟨by rw [hU], by rw [hU]; exact hI.2.1, va_K.moved hW.alike X.2.2.2.2.2.2.2.1, hI.2.2.1.weaken (fun _ _ _ _ => trivial)⟩, ?_, Nat.lt_of_lt_of_le Y.2.1 hI.2.2.2.1.1, fun i hi hq => Y.2.2 ?_⟩⟩
      · rw [hU]
        exact va_X.moved hW.alike (va_X.kept Y.1 (hI.2.2.2.1.2.1 _ Y.2.1 Y.2.2))
      · rw [← hq]
        exact hI.2.2.1.2 i _ (by rw [tt_w_at, if_pos hi])
    exact va_runS (As := As.map (tt_v ad)) (rest := st.map (tt_v ad)) ⟨X.1, X.2.1, X.2.2.1, X.2.2.2.1, X.2.2.2.2.1⟩ (hM D ca ad n H.size hI.1) (cw X.2.2.2.2.1) hpr rfl (by rw [List.length_map]; exact hn) hl.1 (by rw [← List.map_reverse, ← List.map_append]) (by show 2 * 0 + _ ≤ 8; rw [tt_cats]; omega) hd hf
  · obtain ⟨rfl, rfl⟩ := hp
    obtain ⟨rfl, rfl⟩ := hal rfl
    have h9 := kk n' H' locs' ls hI' hl
    rw [List.map_append] at h9
    rw [show (v'.map (tt_v ad')).toList = v'.toList.map (tt_v ad') from by cases v' <;> rfl]
    exact h9
end TTYC
/-- the guard at what makes cells: how many places there are, all that is held is of them -/
def gg_rf (nn : Nat) : List Nat → Prop
  | [] => True
  | r :: t => (r < nn ∨ 1000000 ≤ r) ∧ gg_rf nn t
noncomputable def gg_new (nn : Nat) (rs : List Nat) (h : tt_H) : Option Unit := @ite (Option Unit) (tt_wf nn h ∧ tt_okh nn h ∧ nn < 100000 ∧ gg_rf nn rs) (Classical.propDecidable _) (some ()) none
theorem gg_new_ok {nn : Nat} {rs : List Nat} {h : tt_H} {u : Unit} (e : gg_new nn rs h = some u) : tt_wf nn h ∧ tt_okh nn h ∧ nn < 100000 ∧ gg_rf nn rs := by
  unfold gg_new at e
  by_cases hc : tt_wf nn h ∧ tt_okh nn h ∧ nn < 100000 ∧ gg_rf nn rs
  · exact hc
  · rw [if_neg hc] at e; cases e
theorem gg_new_of {nn : Nat} {rs : List Nat} {h : tt_H} (hc : tt_wf nn h ∧ tt_okh nn h ∧ nn < 100000 ∧ gg_rf nn rs) : gg_new nn rs h = some () := by
  unfold gg_new; rw [if_pos hc]
end
section
-- ===== PART A: goes FIRST, ahead of the names: the tables' words, and 'selects' of the private methods out of them =====
/-- a private method of a class that the tables say can be made, by its rows of tables_1 -/
def lw_okq (q : MethodName × Nat) : Prop := (q.1.cls ≠ "java/lang/invoke/MethodHandle" ∧ q.1.cls ≠ "java/lang/invoke/VarHandle") ∧ Cond.instantiable q.1.cls q.2 ∈ tables_1 ∧ Cond.privateMethod q.1 ∈ tables_1 ∧ Cond.instanceMethod q.1 ∈ tables_1
theorem lw_p0 : lw_okq (⟨"AddedCries", "sheetOf", "(I)LAddedCries$Sheet;"⟩, 13) := ⟨⟨by decide +kernel, by decide +kernel⟩, List.mem_of_getElem? (i := 13) (by decide +kernel), List.mem_of_getElem? (i := 181) (by decide +kernel), List.mem_of_getElem? (i := 182) (by decide +kernel)⟩
theorem lw_p1 : lw_okq (⟨"AddedCries", "fails", "(I)I"⟩, 13) := ⟨⟨by decide +kernel, by decide +kernel⟩, List.mem_of_getElem? (i := 13) (by decide +kernel), List.mem_of_getElem? (i := 199) (by decide +kernel), List.mem_of_getElem? (i := 200) (by decide +kernel)⟩
theorem lw_p2 : lw_okq (⟨"AddedCries", "takeText", "(LAddedCries$Sheet;II)V"⟩, 13) := ⟨⟨by decide +kernel, by decide +kernel⟩, List.mem_of_getElem? (i := 13) (by decide +kernel), List.mem_of_getElem? (i := 218) (by decide +kernel), List.mem_of_getElem? (i := 219) (by decide +kernel)⟩
theorem lw_p3 : lw_okq (⟨"AddedCries", "beginDay", "()V"⟩, 13) := ⟨⟨by decide +kernel, by decide +kernel⟩, List.mem_of_getElem? (i := 13) (by decide +kernel), List.mem_of_getElem? (i := 222) (by decide +kernel), List.mem_of_getElem? (i := 223) (by decide +kernel)⟩
theorem lw_p4 : lw_okq (⟨"AddedCries", "lastCry", "()LAddedCries$Cry;"⟩, 13) := ⟨⟨by decide +kernel, by decide +kernel⟩, List.mem_of_getElem? (i := 13) (by decide +kernel), List.mem_of_getElem? (i := 226) (by decide +kernel), List.mem_of_getElem? (i := 227) (by decide +kernel)⟩
theorem lw_p5 : lw_okq (⟨"AddedCries", "cryOf", "(I)LAddedCries$Cry;"⟩, 13) := ⟨⟨by decide +kernel, by decide +kernel⟩, List.mem_of_getElem? (i := 13) (by decide +kernel), List.mem_of_getElem? (i := 230) (by decide +kernel), List.mem_of_getElem? (i := 231) (by decide +kernel)⟩
theorem lw_p6 : lw_okq (⟨"AddedCries$Sheet", "cut", "(I)I"⟩, 3) := ⟨⟨by decide +kernel, by decide +kernel⟩, List.mem_of_getElem? (i := 121) (by decide +kernel), List.mem_of_getElem? (i := 378) (by decide +kernel), List.mem_of_getElem? (i := 379) (by decide +kernel)⟩
def lw_privs_1 : List (MethodName × Nat) := [(⟨"AddedCries", "sheetOf", "(I)LAddedCries$Sheet;"⟩, 13), (⟨"AddedCries", "fails", "(I)I"⟩, 13), (⟨"AddedCries", "takeText", "(LAddedCries$Sheet;II)V"⟩, 13), (⟨"AddedCries", "beginDay", "()V"⟩, 13), (⟨"AddedCries", "lastCry", "()LAddedCries$Cry;"⟩, 13), (⟨"AddedCries", "cryOf", "(I)LAddedCries$Cry;"⟩, 13), (⟨"AddedCries$Sheet", "cut", "(I)I"⟩, 3)]
theorem lw_r1 : ∀ q ∈ lw_privs_1, lw_okq q := List.forall_mem_cons.mpr ⟨lw_p0, List.forall_mem_cons.mpr ⟨lw_p1, List.forall_mem_cons.mpr ⟨lw_p2, List.forall_mem_cons.mpr ⟨lw_p3, List.forall_mem_cons.mpr ⟨lw_p4, List.forall_mem_cons.mpr ⟨lw_p5, List.forall_mem_cons.mpr ⟨lw_p6, fun _ h => absurd h List.not_mem_nil⟩⟩⟩⟩⟩⟩⟩
def lw_privs : List (MethodName × Nat) := lw_privs_1
def lw_tbl : List Cond := k2_sels lw_privs ++ tables_1
theorem lw_privs_ok : ∀ q ∈ lw_privs, lw_okq q := lw_r1
end
section
/-! ===== BEGIN words of one list among another's, by their places ===== -/
theorem goodIn_r {big : List Cond} (ws : List Cond) (ps : List Nat) (hp : ws = ps.filterMap (fun i => big[i]?)) (h : ws.all goodWord = true) : GoodIn big ws := by
  intro w hw
  have h1 := List.all_eq_true.mp h w hw
  rw [hp] at hw
  obtain ⟨i, -, hi⟩ := List.mem_filterMap.mp hw
  have hm : w ∈ big := by first | exact List.mem_of_getElem? hi | exact List.getElem?_mem hi
  exact ⟨hm, good_of_word h1⟩
theorem goodIn_app {big a b : List Cond} (ha : GoodIn big a) (hb : GoodIn big b) : GoodIn big (a ++ b) := fun w h => (List.mem_append.mp h).elim (ha w) (hb w)
theorem goodIn_ca {big a b : List Cond} {c : Cond} (ha : GoodIn big (c :: a)) (hb : GoodIn big b) : GoodIn big (c :: (a ++ b)) := fun w h => (List.mem_cons.mp h).elim (fun e => ha w (List.mem_cons.mpr (Or.inl e))) (fun h => (List.mem_append.mp h).elim (fun h => ha w (List.mem_cons.mpr (Or.inr h))) (hb w))
theorem goodIn_sub {big ws : List Cond} (hm : ∀ w ∈ ws, w ∈ big) (h : ws.all goodWord = true) : GoodIn big ws := fun w hw => ⟨hm w hw, good_of_word (List.all_eq_true.mp h w hw)⟩
/-! ===== END ===== -/

/-! ===== BEGIN printed: names, fields, word lists, decode rows ===== -/
def RX0 : String := "AddedCries$Between"
def TX0 : u_T := fun k => match k with
  | 0 => ("AddedCries$Between", "now", "LAddedCries$Grid;", false)
  | _ => ("AddedCries$Between", "then", "LAddedCries$Grid;", false)
def tyX0 : Nat → FieldType := fun k => match k with
  | 0 => .object "AddedCries$Grid"
  | _ => .object "AddedCries$Grid"
abbrev wsX00 : List Cond := u_ws RX0 TX0 2
theorem nmX0 : ∀ a, a < 2 → ∀ b, b < 2 → a ≠ b → (TX0 a).2.1 ≠ (TX0 b).2.1 := by decide +kernel
theorem tyX0_ok : ∀ k, k < 2 → parseFieldDescriptor (TX0 k).2.2.1 = some (tyX0 k) := by decide +kernel
abbrev cX0_init : ByteArray := prog_2_method_1_code
def yX0_init : MethodName := ⟨RX0, "<init>", "()V"⟩
def RX1 : String := "AddedCries$Braid"
def TX1 : u_T := fun k => match k with
  | 0 => ("AddedCries$Braid", "here", "LAddedCries$Grid;", false)
  | _ => ("AddedCries$Braid", "next", "LAddedCries$Grid;", false)
def tyX1 : Nat → FieldType := fun k => match k with
  | 0 => .object "AddedCries$Grid"
  | _ => .object "AddedCries$Grid"
abbrev wsX10 : List Cond := u_ws RX1 TX1 2
theorem nmX1 : ∀ a, a < 2 → ∀ b, b < 2 → a ≠ b → (TX1 a).2.1 ≠ (TX1 b).2.1 := by decide +kernel
theorem tyX1_ok : ∀ k, k < 2 → parseFieldDescriptor (TX1 k).2.2.1 = some (tyX1 k) := by decide +kernel
abbrev cX1_init : ByteArray := prog_3_method_1_code
def yX1_init : MethodName := ⟨RX1, "<init>", "()V"⟩
def RX2 : String := "AddedCries$Cry"
def TX2 : u_T := fun k => match k with
  | 0 => ("AddedCries$Cry", "words", "[I", true)
  | _ => ("AddedCries$Cry", "size", "I", false)
def tyX2 : Nat → FieldType := fun k => match k with
  | 0 => .array .int
  | _ => .int
abbrev wsX20 : List Cond := u_ws RX2 TX2 2
theorem nmX2 : ∀ a, a < 2 → ∀ b, b < 2 → a ≠ b → (TX2 a).2.1 ≠ (TX2 b).2.1 := by decide +kernel
theorem tyX2_ok : ∀ k, k < 2 → parseFieldDescriptor (TX2 k).2.2.1 = some (tyX2 k) := by decide +kernel
abbrev cX2_init : ByteArray := prog_4_method_1_code
def yX2_init : MethodName := ⟨RX2, "<init>", "()V"⟩
abbrev cX2_size : ByteArray := prog_4_method_2_code
def yX2_size : MethodName := ⟨RX2, "size", "()I"⟩
abbrev cX2_isFull : ByteArray := prog_4_method_3_code
def yX2_isFull : MethodName := ⟨RX2, "isFull", "()Z"⟩
abbrev cX2_has : ByteArray := prog_4_method_4_code
def yX2_has : MethodName := ⟨RX2, "has", "(I)Z"⟩
abbrev cX2_at : ByteArray := prog_4_method_5_code
def yX2_at : MethodName := ⟨RX2, "at", "(I)I"⟩
abbrev cX2_clear : ByteArray := prog_4_method_7_code
def yX2_clear : MethodName := ⟨RX2, "clear", "()V"⟩
abbrev cX2_insert : ByteArray := prog_4_method_8_code
def yX2_insert : MethodName := ⟨RX2, "insert", "(II)V"⟩
def RX3 : String := "AddedCries$Fit"
def TX3 : u_T := fun k => match k with
  | 0 => ("AddedCries$Fit", "firsts", "[I", true)
  | 1 => ("AddedCries$Fit", "lasts", "[I", true)
  | _ => ("AddedCries$Fit", "choices", "[J", true)
def tyX3 : Nat → FieldType := fun k => match k with
  | 0 => .array .int
  | 1 => .array .int
  | _ => .array .long
abbrev wsX30 : List Cond := u_ws RX3 TX3 3
theorem nmX3 : ∀ a, a < 3 → ∀ b, b < 3 → a ≠ b → (TX3 a).2.1 ≠ (TX3 b).2.1 := by decide +kernel
theorem tyX3_ok : ∀ k, k < 3 → parseFieldDescriptor (TX3 k).2.2.1 = some (tyX3 k) := by decide +kernel
abbrev cX3_init : ByteArray := prog_5_method_1_code
def yX3_init : MethodName := ⟨RX3, "<init>", "()V"⟩
abbrev cX3_make : ByteArray := prog_5_method_2_code
def yX3_make : MethodName := ⟨RX3, "make", "(LAddedCries$Cry;LAddedCries$Cry;)Z"⟩
abbrev cX3_first : ByteArray := prog_5_method_3_code
def yX3_first : MethodName := ⟨RX3, "first", "(I)I"⟩
abbrev cX3_last : ByteArray := prog_5_method_4_code
def yX3_last : MethodName := ⟨RX3, "last", "(I)I"⟩
abbrev cX3_canStand : ByteArray := prog_5_method_5_code
def yX3_canStand : MethodName := ⟨RX3, "canStand", "(LAddedCries$Cry;LAddedCries$Cry;I)Z"⟩
abbrev cX3_choices : ByteArray := prog_5_method_6_code
def yX3_choices : MethodName := ⟨RX3, "choices", "(LAddedCries$Cry;LAddedCries$Cry;)J"⟩
def RX4 : String := "AddedCries$Grid"
def TX4 : u_T := fun k => match k with
  | _ => ("AddedCries$Grid", "cells", "[J", true)
def tyX4 : Nat → FieldType := fun k => match k with
  | _ => .array .long
abbrev wsX40 : List Cond := u_ws RX4 TX4 1
theorem nmX4 : ∀ a, a < 1 → ∀ b, b < 1 → a ≠ b → (TX4 a).2.1 ≠ (TX4 b).2.1 := by decide +kernel
theorem tyX4_ok : ∀ k, k < 1 → parseFieldDescriptor (TX4 k).2.2.1 = some (tyX4 k) := by decide +kernel
abbrev cX4_init : ByteArray := prog_6_method_1_code
def yX4_init : MethodName := ⟨RX4, "<init>", "()V"⟩
def RX5 : String := "AddedCries$Sayings"
def TX5 : u_T := fun k => match k with
  | 0 => ("AddedCries$Sayings", "ends", "[Z", true)
  | _ => ("AddedCries$Sayings", "found", "[I", true)
def tyX5 : Nat → FieldType := fun k => match k with
  | 0 => .array .boolean
  | _ => .array .int
abbrev wsX50 : List Cond := u_ws RX5 TX5 2
theorem nmX5 : ∀ a, a < 2 → ∀ b, b < 2 → a ≠ b → (TX5 a).2.1 ≠ (TX5 b).2.1 := by decide +kernel
theorem tyX5_ok : ∀ k, k < 2 → parseFieldDescriptor (TX5 k).2.2.1 = some (tyX5 k) := by decide +kernel
abbrev cX5_init : ByteArray := prog_7_method_1_code
def yX5_init : MethodName := ⟨RX5, "<init>", "()V"⟩
abbrev cX5_isSaid : ByteArray := prog_7_method_2_code
def yX5_isSaid : MethodName := ⟨RX5, "isSaid", "(LAddedCries$Cry;[II)Z"⟩
abbrev cX5_after : ByteArray := prog_7_method_5_code
def yX5_after : MethodName := ⟨RX5, "after", "(II[II)I"⟩
def RX6 : String := "AddedCries$Sheet"
def TX6 : u_T := fun k => match k with
  | 0 => ("AddedCries$Sheet", "cells", "[I", true)
  | 1 => ("AddedCries$Sheet", "size", "I", false)
  | _ => ("AddedCries$Sheet", "sort", "I", false)
def tyX6 : Nat → FieldType := fun k => match k with
  | 0 => .array .int
  | 1 => .int
  | _ => .int
abbrev wsX60 : List Cond := u_ws RX6 TX6 3
theorem nmX6 : ∀ a, a < 3 → ∀ b, b < 3 → a ≠ b → (TX6 a).2.1 ≠ (TX6 b).2.1 := by decide +kernel
theorem tyX6_ok : ∀ k, k < 3 → parseFieldDescriptor (TX6 k).2.2.1 = some (tyX6 k) := by decide +kernel
abbrev cX6_init : ByteArray := prog_8_method_1_code
def yX6_init : MethodName := ⟨RX6, "<init>", "()V"⟩
abbrev cX6_isNothing : ByteArray := prog_8_method_2_code
def yX6_isNothing : MethodName := ⟨RX6, "isNothing", "()Z"⟩
abbrev cX6_sort : ByteArray := prog_8_method_3_code
def yX6_sort : MethodName := ⟨RX6, "sort", "()I"⟩
abbrev cX6_renew : ByteArray := prog_8_method_4_code
def yX6_renew : MethodName := ⟨RX6, "renew", "(II)V"⟩
abbrev cX6_hasCells : ByteArray := prog_8_method_6_code
def yX6_hasCells : MethodName := ⟨RX6, "hasCells", "(II)Z"⟩
abbrev cX6_at : ByteArray := prog_8_method_7_code
def yX6_at : MethodName := ⟨RX6, "at", "(I)I"⟩
abbrev cX6_write : ByteArray := prog_8_method_8_code
def yX6_write : MethodName := ⟨RX6, "write", "(II)V"⟩
abbrev cX6_cut : ByteArray := prog_8_method_10_code
def yX6_cut : MethodName := ⟨RX6, "cut", "(I)I"⟩
def RX7 : String := "AddedCries$Weave"
def TX7 : u_T := fun k => match k with
  | 0 => ("AddedCries$Weave", "lengths", "LAddedCries$Grid;", true)
  | _ => ("AddedCries$Weave", "counts", "LAddedCries$Grid;", true)
def tyX7 : Nat → FieldType := fun k => match k with
  | 0 => .object "AddedCries$Grid"
  | _ => .object "AddedCries$Grid"
abbrev wsX70 : List Cond := u_ws RX7 TX7 2
theorem nmX7 : ∀ a, a < 2 → ∀ b, b < 2 → a ≠ b → (TX7 a).2.1 ≠ (TX7 b).2.1 := by decide +kernel
theorem tyX7_ok : ∀ k, k < 2 → parseFieldDescriptor (TX7 k).2.2.1 = some (tyX7 k) := by decide +kernel
abbrev cX7_init : ByteArray := prog_9_method_1_code
def yX7_init : MethodName := ⟨RX7, "<init>", "()V"⟩
def RX8 : String := "AddedCries"
def TX8 : u_T := fun k => match k with
  | 0 => ("AddedCries", "kinds", "[I", true)
  | 1 => ("AddedCries", "days", "[LAddedCries$Cry;", true)
  | 2 => ("AddedCries", "sheets", "[LAddedCries$Sheet;", true)
  | 3 => ("AddedCries", "wordless", "LAddedCries$Cry;", true)
  | 4 => ("AddedCries", "fit", "LAddedCries$Fit;", true)
  | 5 => ("AddedCries", "sayings", "LAddedCries$Sayings;", true)
  | 6 => ("AddedCries", "weave", "LAddedCries$Weave;", true)
  | 7 => ("AddedCries", "braid", "LAddedCries$Braid;", true)
  | 8 => ("AddedCries", "between", "LAddedCries$Between;", true)
  | 9 => ("AddedCries", "fewestParts", "[I", true)
  | 10 => ("AddedCries", "dayCount", "I", false)
  | 11 => ("AddedCries", "traced", "I", false)
  | _ => ("AddedCries", "latestFault", "I", false)
def tyX8 : Nat → FieldType := fun k => match k with
  | 0 => .array .int
  | 1 => .array (.object "AddedCries$Cry")
  | 2 => .array (.object "AddedCries$Sheet")
  | 3 => .object "AddedCries$Cry"
  | 4 => .object "AddedCries$Fit"
  | 5 => .object "AddedCries$Sayings"
  | 6 => .object "AddedCries$Weave"
  | 7 => .object "AddedCries$Braid"
  | 8 => .object "AddedCries$Between"
  | 9 => .array .int
  | 10 => .int
  | 11 => .int
  | _ => .int
abbrev wsX80 : List Cond := u_ws RX8 TX8 13
theorem nmX8 : ∀ a, a < 13 → ∀ b, b < 13 → a ≠ b → (TX8 a).2.1 ≠ (TX8 b).2.1 := by decide +kernel
theorem tyX8_ok : ∀ k, k < 13 → parseFieldDescriptor (TX8 k).2.2.1 = some (tyX8 k) := by decide +kernel
abbrev cX8_init : ByteArray := prog_1_method_1_code
def yX8_init : MethodName := ⟨RX8, "<init>", "()V"⟩
abbrev cX8_cries : ByteArray := prog_1_method_2_code
def yX8_cries : MethodName := ⟨RX8, "cries", "(IIII)I"⟩
abbrev cX8_kind : ByteArray := prog_1_method_3_code
def yX8_kind : MethodName := ⟨RX8, "kind", "(II)I"⟩
abbrev cX8_ofDay : ByteArray := prog_1_method_4_code
def yX8_ofDay : MethodName := ⟨RX8, "ofDay", "(II)I"⟩
abbrev cX8_within : ByteArray := prog_1_method_6_code
def yX8_within : MethodName := ⟨RX8, "within", "(II)I"⟩
abbrev cX8_leftOut : ByteArray := prog_1_method_7_code
def yX8_leftOut : MethodName := ⟨RX8, "leftOut", "()I"⟩
abbrev cX8_said : ByteArray := prog_1_method_8_code
def yX8_said : MethodName := ⟨RX8, "said", "(I)I"⟩
abbrev cX8_ways : ByteArray := prog_1_method_10_code
def yX8_ways : MethodName := ⟨RX8, "ways", "(II)J"⟩
abbrev cX8_place : ByteArray := prog_1_method_11_code
def yX8_place : MethodName := ⟨RX8, "place", "(IIII)I"⟩
abbrev cX8_mayBe : ByteArray := prog_1_method_12_code
def yX8_mayBe : MethodName := ⟨RX8, "mayBe", "(I)I"⟩
abbrev cX8_sheet : ByteArray := prog_1_method_21_code
def yX8_sheet : MethodName := ⟨RX8, "sheet", "(III)I"⟩
abbrev cX8_put : ByteArray := prog_1_method_23_code
def yX8_put : MethodName := ⟨RX8, "put", "(III)I"⟩
abbrev cX8_many : ByteArray := prog_1_method_31_code
def yX8_many : MethodName := ⟨RX8, "many", "()I"⟩
abbrev cX8_isWord : ByteArray := prog_1_method_32_code
def yX8_isWord : MethodName := ⟨RX8, "isWord", "(I)Z"⟩
abbrev cX8_isKind : ByteArray := prog_1_method_33_code
def yX8_isKind : MethodName := ⟨RX8, "isKind", "(I)Z"⟩
abbrev cX8_isSort : ByteArray := prog_1_method_34_code
def yX8_isSort : MethodName := ⟨RX8, "isSort", "(I)Z"⟩
abbrev cX8_isFirstOrSecond : ByteArray := prog_1_method_35_code
def yX8_isFirstOrSecond : MethodName := ⟨RX8, "isFirstOrSecond", "(I)Z"⟩
abbrev cX8_cryOf : ByteArray := prog_1_method_36_code
def yX8_cryOf : MethodName := ⟨RX8, "cryOf", "(I)LAddedCries$Cry;"⟩
abbrev cX8_lastCry : ByteArray := prog_1_method_37_code
def yX8_lastCry : MethodName := ⟨RX8, "lastCry", "()LAddedCries$Cry;"⟩
abbrev cX8_sheetOf : ByteArray := prog_1_method_38_code
def yX8_sheetOf : MethodName := ⟨RX8, "sheetOf", "(I)LAddedCries$Sheet;"⟩
abbrev cX8_fails : ByteArray := prog_1_method_39_code
def yX8_fails : MethodName := ⟨RX8, "fails", "(I)I"⟩
abbrev cX8_readingFault : ByteArray := prog_1_method_40_code
def yX8_readingFault : MethodName := ⟨RX8, "readingFault", "(LAddedCries$Sheet;I)I"⟩
abbrev cX8_isLetter : ByteArray := prog_1_method_41_code
def yX8_isLetter : MethodName := ⟨RX8, "isLetter", "(I)Z"⟩
abbrev cX8_firstFaultOf : ByteArray := prog_1_method_42_code
def yX8_firstFaultOf : MethodName := ⟨RX8, "firstFaultOf", "(LAddedCries$Sheet;II)I"⟩
abbrev cX8_takeText : ByteArray := prog_1_method_43_code
def yX8_takeText : MethodName := ⟨RX8, "takeText", "(LAddedCries$Sheet;II)V"⟩
abbrev cX8_beginDay : ByteArray := prog_1_method_44_code
def yX8_beginDay : MethodName := ⟨RX8, "beginDay", "()V"⟩
def RX9 : String := "AddedCriesModel"
def TX9 : u_T := fun k => match k with
  | _ => ("", "", "", false)
def tyX9 : Nat → FieldType := fun k => match k with
  | _ => .int
abbrev wsX90 : List Cond := u_ws RX9 TX9 0
theorem nmX9 : ∀ a, a < 0 → ∀ b, b < 0 → a ≠ b → (TX9 a).2.1 ≠ (TX9 b).2.1 := by decide +kernel
theorem tyX9_ok : ∀ k, k < 0 → parseFieldDescriptor (TX9 k).2.2.1 = some (tyX9 k) := by decide +kernel
def RJ9 : String := "java/lang/Math"
def TJ9 : u_T := fun k => match k with
  | _ => ("", "", "", false)
def tyJ9 : Nat → FieldType := fun k => match k with
  | _ => .int
abbrev wsJ90 : List Cond := u_ws RJ9 TJ9 0
theorem nmJ9 : ∀ a, a < 0 → ∀ b, b < 0 → a ≠ b → (TJ9 a).2.1 ≠ (TJ9 b).2.1 := by decide +kernel
theorem tyJ9_ok : ∀ k, k < 0 → parseFieldDescriptor (TJ9 k).2.2.1 = some (tyJ9 k) := by decide +kernel
abbrev cJ9_min_7cf53 : ByteArray := prog_12_method_69_code
def yJ9_min_7cf53 : MethodName := ⟨RJ9, "min", "(II)I"⟩
def RJ7 : String := "java/util/Arrays"
def TJ7 : u_T := fun k => match k with
  | _ => ("", "", "", false)
def tyJ7 : Nat → FieldType := fun k => match k with
  | _ => .int
abbrev wsJ70 : List Cond := u_ws RJ7 TJ7 0
theorem nmJ7 : ∀ a, a < 0 → ∀ b, b < 0 → a ≠ b → (TJ7 a).2.1 ≠ (TJ7 b).2.1 := by decide +kernel
theorem tyJ7_ok : ∀ k, k < 0 → parseFieldDescriptor (TJ7 k).2.2.1 = some (tyJ7 k) := by decide +kernel
abbrev cJ7_fill_d0a16 : ByteArray := prog_13_method_101_code
def yJ7_fill_d0a16 : MethodName := ⟨RJ7, "fill", "([JJ)V"⟩
abbrev cJ7_fill_53178 : ByteArray := prog_13_method_103_code
def yJ7_fill_53178 : MethodName := ⟨RJ7, "fill", "([II)V"⟩
def RL : String := "AddedCriesLaw"
abbrev cL_cell : ByteArray := method_2_code
def yL_cell : MethodName := ⟨RL, "cell", "([II)I"⟩
abbrev cL_some : ByteArray := method_3_code
def yL_some : MethodName := ⟨RL, "some", "(II)I"⟩
abbrev cL_put : ByteArray := method_4_code
def yL_put : MethodName := ⟨RL, "put", "(LAddedCries;[III[J[I)I"⟩
abbrev cL_word : ByteArray := method_5_code
def yL_word : MethodName := ⟨RL, "word", "(JI)I"⟩
abbrev cL_with : ByteArray := method_6_code
def yL_with : MethodName := ⟨RL, "with", "(JII)J"⟩
abbrev cL_kinds : ByteArray := method_7_code
def yL_kinds : MethodName := ⟨RL, "kinds", "(LAddedCries;I[I)Z"⟩
abbrev cL_within : ByteArray := method_8_code
def yL_within : MethodName := ⟨RL, "within", "(JIJI)Z"⟩
abbrev cL_part : ByteArray := method_9_code
def yL_part : MethodName := ⟨RL, "part", "(JII)J"⟩
abbrev cL_size : ByteArray := method_10_code
def yL_size : MethodName := ⟨RL, "size", "(I)I"⟩
abbrev cL_said : ByteArray := method_11_code
def yL_said : MethodName := ⟨RL, "said", "([IJI)I"⟩
abbrev cL_law : ByteArray := code
def yL_law : MethodName := ⟨RL, "law", "([I)Z"⟩
def wsX4_init : List Cond := .code yX4_init cX4_init 1 none :: ([.methodLink RX4 3 objectInit, .instanceMethod objectInit, .code objectInit ⟨#[0xb1]⟩ 1 none, .arrayClass .long, .fieldLink RX4 9 "AddedCries$Grid" "cells" "[J"] ++ wsX40)
def wsX0_init : List Cond := .code yX0_init cX0_init 1 none :: ([.methodLink RX0 1 objectInit, .instanceMethod objectInit, .code objectInit ⟨#[0xb1]⟩ 1 none, .classLink RX0 7 RX4, .instantiable RX4 1, .initialized RX4, .fieldLink RX0 10 "AddedCries$Between" "now" "LAddedCries$Grid;", .fieldLink RX0 16 "AddedCries$Between" "then" "LAddedCries$Grid;", .instanceMethod yX4_init, .code yX4_init cX4_init 1 none, .methodLink RX4 3 objectInit, .arrayClass .long, .fieldLink RX4 9 "AddedCries$Grid" "cells" "[J"] ++ wsX40 ++ wsX00)
def wsX1_init : List Cond := .code yX1_init cX1_init 1 none :: ([.methodLink RX1 3 objectInit, .instanceMethod objectInit, .code objectInit ⟨#[0xb1]⟩ 1 none, .classLink RX1 9 RX4, .instantiable RX4 1, .initialized RX4, .fieldLink RX1 12 "AddedCries$Braid" "here" "LAddedCries$Grid;", .fieldLink RX1 18 "AddedCries$Braid" "next" "LAddedCries$Grid;", .instanceMethod yX4_init, .code yX4_init cX4_init 1 none, .methodLink RX4 3 objectInit, .arrayClass .long, .fieldLink RX4 9 "AddedCries$Grid" "cells" "[J"] ++ wsX40 ++ wsX10)
def wsX2_init : List Cond := .code yX2_init cX2_init 1 none :: ([.methodLink RX2 3 objectInit, .instanceMethod objectInit, .code objectInit ⟨#[0xb1]⟩ 1 none, .arrayClass .int, .fieldLink RX2 9 "AddedCries$Cry" "words" "[I", .fieldLink RX2 15 "AddedCries$Cry" "size" "I"] ++ wsX20)
def wsX2_size : List Cond := .code yX2_size cX2_size 1 (some .int) :: ([.fieldLink RX2 15 "AddedCries$Cry" "size" "I"] ++ wsX20)
def wsX2_isFull : List Cond := .code yX2_isFull cX2_isFull 1 (some .boolean) :: ([.fieldLink RX2 15 "AddedCries$Cry" "size" "I"] ++ wsX20)
def wsX2_has : List Cond := .code yX2_has cX2_has 2 (some .boolean) :: ([.fieldLink RX2 15 "AddedCries$Cry" "size" "I"] ++ wsX20)
def wsX2_at : List Cond := .code yX2_at cX2_at 2 (some .int) :: ([.fieldLink RX2 9 "AddedCries$Cry" "words" "[I", .methodLink RX2 19 yX2_has, .instanceMethod yX2_has, .selects RX2 yX2_has yX2_has, .initialized RX2, .code yX2_has cX2_has 2 (some .boolean), .fieldLink RX2 15 "AddedCries$Cry" "size" "I"] ++ wsX20)
def wsX2_clear : List Cond := .code yX2_clear cX2_clear 1 none :: ([.fieldLink RX2 15 "AddedCries$Cry" "size" "I"] ++ wsX20)
def wsX2_insert : List Cond := .code yX2_insert cX2_insert 4 none :: ([.fieldLink RX2 15 "AddedCries$Cry" "size" "I", .fieldLink RX2 9 "AddedCries$Cry" "words" "[I", .methodLink RX2 23 yX2_isFull, .instanceMethod yX2_isFull, .selects RX2 yX2_isFull yX2_isFull, .initialized RX2, .code yX2_isFull cX2_isFull 1 (some .boolean)] ++ wsX20)
def wsX3_init : List Cond := .code yX3_init cX3_init 1 none :: ([.methodLink RX3 3 objectInit, .instanceMethod objectInit, .code objectInit ⟨#[0xb1]⟩ 1 none, .arrayClass .int, .fieldLink RX3 9 "AddedCries$Fit" "firsts" "[I", .fieldLink RX3 15 "AddedCries$Fit" "lasts" "[I", .arrayClass .long, .fieldLink RX3 18 "AddedCries$Fit" "choices" "[J"] ++ wsX30)
def wsX3_make : List Cond := .code yX3_make cX3_make 5 (some .boolean) :: ([.fieldLink RX3 9 "AddedCries$Fit" "firsts" "[I", .fieldLink RX3 15 "AddedCries$Fit" "lasts" "[I", .methodLink RX3 22 yX2_size, .instanceMethod yX2_size, .selects RX2 yX2_size yX2_size, .initialized RX2, .code yX2_size cX2_size 1 (some .int), .fieldLink RX2 15 "AddedCries$Cry" "size" "I", .methodLink RX3 28 yX2_has, .instanceMethod yX2_has, .selects RX2 yX2_has yX2_has, .code yX2_has cX2_has 2 (some .boolean), .methodLink RX3 32 yX2_at, .instanceMethod yX2_at, .selects RX2 yX2_at yX2_at, .code yX2_at cX2_at 2 (some .int), .fieldLink RX2 9 "AddedCries$Cry" "words" "[I", .methodLink RX2 19 yX2_has] ++ wsX30 ++ wsX20)
def wsX3_first : List Cond := .code yX3_first cX3_first 2 (some .int) :: ([.fieldLink RX3 9 "AddedCries$Fit" "firsts" "[I"] ++ wsX30)
def wsX3_last : List Cond := .code yX3_last cX3_last 2 (some .int) :: ([.fieldLink RX3 15 "AddedCries$Fit" "lasts" "[I"] ++ wsX30)
def wsX3_canStand_r1 : List Cond := [Cond.methodLink RX3 36 yX3_make, Cond.instanceMethod yX3_make, Cond.selects RX3 yX3_make yX3_make, Cond.initialized RX3, Cond.code yX3_make cX3_make 5 (some .boolean), Cond.fieldLink RX3 9 "AddedCries$Fit" "firsts" "[I", Cond.fieldLink RX3 15 "AddedCries$Fit" "lasts" "[I", Cond.methodLink RX3 22 yX2_size, Cond.instanceMethod yX2_size, Cond.selects RX2 yX2_size yX2_size, Cond.initialized RX2, Cond.code yX2_size cX2_size 1 (some .int), Cond.fieldLink RX2 15 "AddedCries$Cry" "size" "I", Cond.methodLink RX3 28 yX2_has, Cond.instanceMethod yX2_has, Cond.selects RX2 yX2_has yX2_has, Cond.code yX2_has cX2_has 2 (some .boolean), Cond.methodLink RX3 32 yX2_at, Cond.instanceMethod yX2_at, Cond.selects RX2 yX2_at yX2_at, Cond.code yX2_at cX2_at 2 (some .int), Cond.fieldLink RX2 9 "AddedCries$Cry" "words" "[I", Cond.methodLink RX2 19 yX2_has, Cond.methodLink RX3 40 yX3_first]
def wsX3_canStand_r2 : List Cond := [Cond.instanceMethod yX3_first, Cond.selects RX3 yX3_first yX3_first, Cond.code yX3_first cX3_first 2 (some .int), Cond.methodLink RX3 43 yX3_last, Cond.instanceMethod yX3_last, Cond.selects RX3 yX3_last yX3_last, Cond.code yX3_last cX3_last 2 (some .int)]
def wsX3_canStand : List Cond := .code yX3_canStand cX3_canStand 5 (some .boolean) :: ((wsX3_canStand_r1 ++ wsX3_canStand_r2) ++ wsX30 ++ wsX20)
def wsJ7_fill_d0a16 : List Cond := .code yJ7_fill_d0a16 cJ7_fill_d0a16 5 none :: ([])
def wsX3_choices : List Cond := .code yX3_choices cX3_choices 6 (some .long) :: ([.methodLink RX3 46 Lib.Math.min.name, .static Lib.Math.min.name, .initialized "java/lang/Math", .code Lib.Math.min.name Lib.Math.min.code 2 (some .int), .fieldLink RX3 18 "AddedCries$Fit" "choices" "[J", .methodLink RX3 22 yX2_size, .instanceMethod yX2_size, .selects RX2 yX2_size yX2_size, .initialized RX2, .code yX2_size cX2_size 1 (some .int), .fieldLink RX2 15 "AddedCries$Cry" "size" "I", .methodLink RX3 52 yJ7_fill_d0a16, .static yJ7_fill_d0a16, .initialized RJ7, .code yJ7_fill_d0a16 cJ7_fill_d0a16 5 none, .methodLink RX3 32 yX2_at, .instanceMethod yX2_at, .selects RX2 yX2_at yX2_at, .code yX2_at cX2_at 2 (some .int), .fieldLink RX2 9 "AddedCries$Cry" "words" "[I", .methodLink RX2 19 yX2_has, .instanceMethod yX2_has, .selects RX2 yX2_has yX2_has, .code yX2_has cX2_has 2 (some .boolean)] ++ wsX30 ++ wsX20)
def wsX5_init : List Cond := .code yX5_init cX5_init 1 none :: ([.methodLink RX5 3 objectInit, .instanceMethod objectInit, .code objectInit ⟨#[0xb1]⟩ 1 none, .arrayClass .boolean, .fieldLink RX5 11 "AddedCries$Sayings" "ends" "[Z", .arrayClass .int, .fieldLink RX5 15 "AddedCries$Sayings" "found" "[I"] ++ wsX50)
def wsX5_after : List Cond := .code yX5_after cX5_after 5 (some .int) :: ([])
def wsX5_isSaid : List Cond := .code yX5_isSaid cX5_isSaid 5 (some .boolean) :: ([.methodLink RX5 19 yX2_size, .instanceMethod yX2_size, .selects RX2 yX2_size yX2_size, .initialized RX2, .code yX2_size cX2_size 1 (some .int), .fieldLink RX2 15 "AddedCries$Cry" "size" "I", .methodLink RX5 25 yX2_at, .instanceMethod yX2_at, .selects RX2 yX2_at yX2_at, .code yX2_at cX2_at 2 (some .int), .fieldLink RX2 9 "AddedCries$Cry" "words" "[I", .methodLink RX2 19 yX2_has, .instanceMethod yX2_has, .selects RX2 yX2_has yX2_has, .code yX2_has cX2_has 2 (some .boolean), .methodLink RX5 29 yX5_after, .static yX5_after, .initialized RX5, .code yX5_after cX5_after 5 (some .int)] ++ wsX20)
def wsX6_init : List Cond := .code yX6_init cX6_init 1 none :: ([.methodLink RX6 3 objectInit, .instanceMethod objectInit, .code objectInit ⟨#[0xb1]⟩ 1 none, .arrayClass .int, .fieldLink RX6 9 "AddedCries$Sheet" "cells" "[I", .fieldLink RX6 15 "AddedCries$Sheet" "size" "I", .fieldLink RX6 19 "AddedCries$Sheet" "sort" "I"] ++ wsX60)
def wsX6_isNothing : List Cond := .code yX6_isNothing cX6_isNothing 1 (some .boolean) :: ([.fieldLink RX6 15 "AddedCries$Sheet" "size" "I"] ++ wsX60)
def wsX6_sort : List Cond := .code yX6_sort cX6_sort 1 (some .int) :: ([.fieldLink RX6 19 "AddedCries$Sheet" "sort" "I"] ++ wsX60)
def wsJ7_fill_53178 : List Cond := .code yJ7_fill_53178 cJ7_fill_53178 4 none :: ([])
def wsX6_renew : List Cond := .code yX6_renew cX6_renew 3 none :: ([.fieldLink RX6 9 "AddedCries$Sheet" "cells" "[I", .fieldLink RX6 15 "AddedCries$Sheet" "size" "I", .fieldLink RX6 19 "AddedCries$Sheet" "sort" "I", .methodLink RX6 22 yJ7_fill_53178, .static yJ7_fill_53178, .initialized RJ7, .code yJ7_fill_53178 cJ7_fill_53178 4 none] ++ wsX60)
def wsX6_hasCells : List Cond := .code yX6_hasCells cX6_hasCells 3 (some .boolean) :: ([.fieldLink RX6 15 "AddedCries$Sheet" "size" "I"] ++ wsX60)
def wsX6_at : List Cond := .code yX6_at cX6_at 2 (some .int) :: ([.fieldLink RX6 9 "AddedCries$Sheet" "cells" "[I", .methodLink RX6 28 yX6_hasCells, .instanceMethod yX6_hasCells, .selects RX6 yX6_hasCells yX6_hasCells, .initialized RX6, .code yX6_hasCells cX6_hasCells 3 (some .boolean), .fieldLink RX6 15 "AddedCries$Sheet" "size" "I"] ++ wsX60)
def wsX6_cut : List Cond := .code yX6_cut cX6_cut 2 (some .int) :: ([.fieldLink RX6 19 "AddedCries$Sheet" "sort" "I"] ++ wsX60)
def wsX6_write : List Cond := .code yX6_write cX6_write 3 none :: ([.fieldLink RX6 9 "AddedCries$Sheet" "cells" "[I", .methodLink RX6 28 yX6_hasCells, .instanceMethod yX6_hasCells, .selects RX6 yX6_hasCells yX6_hasCells, .initialized RX6, .code yX6_hasCells cX6_hasCells 3 (some .boolean), .fieldLink RX6 15 "AddedCries$Sheet" "size" "I", .methodLink RX6 32 yX6_cut, .instanceMethod yX6_cut, .selects RX6 yX6_cut yX6_cut, .code yX6_cut cX6_cut 2 (some .int), .fieldLink RX6 19 "AddedCries$Sheet" "sort" "I"] ++ wsX60)
def wsX7_init : List Cond := .code yX7_init cX7_init 1 none :: ([.methodLink RX7 3 objectInit, .instanceMethod objectInit, .code objectInit ⟨#[0xb1]⟩ 1 none, .classLink RX7 9 RX4, .instantiable RX4 1, .initialized RX4, .fieldLink RX7 12 "AddedCries$Weave" "lengths" "LAddedCries$Grid;", .fieldLink RX7 18 "AddedCries$Weave" "counts" "LAddedCries$Grid;", .instanceMethod yX4_init, .code yX4_init cX4_init 1 none, .methodLink RX4 3 objectInit, .arrayClass .long, .fieldLink RX4 9 "AddedCries$Grid" "cells" "[J"] ++ wsX40 ++ wsX70)
def wsX8_init_r1 : List Cond := [Cond.methodLink RX8 5 objectInit, Cond.instanceMethod objectInit, Cond.code objectInit ⟨#[0xb1]⟩ 1 none, Cond.arrayClass .int, Cond.fieldLink RX8 11 "AddedCries" "kinds" "[I", Cond.classLink RX8 15 RX2, Cond.fieldLink RX8 17 "AddedCries" "days" "[LAddedCries$Cry;", Cond.classLink RX8 21 RX6, Cond.fieldLink RX8 23 "AddedCries" "sheets" "[LAddedCries$Sheet;", Cond.instantiable RX2 2, Cond.initialized RX2, Cond.fieldLink RX8 28 "AddedCries" "wordless" "LAddedCries$Cry;", Cond.classLink RX8 32 RX3, Cond.instantiable RX3 3, Cond.initialized RX3, Cond.fieldLink RX8 35 "AddedCries" "fit" "LAddedCries$Fit;", Cond.classLink RX8 39 RX5, Cond.instantiable RX5 2, Cond.initialized RX5, Cond.fieldLink RX8 42 "AddedCries" "sayings" "LAddedCries$Sayings;", Cond.classLink RX8 46 RX7, Cond.instantiable RX7 2, Cond.initialized RX7, Cond.fieldLink RX8 49 "AddedCries" "weave" "LAddedCries$Weave;"]
def wsX8_init_r2 : List Cond := [Cond.classLink RX8 53 RX1, Cond.instantiable RX1 2, Cond.initialized RX1, Cond.fieldLink RX8 56 "AddedCries" "braid" "LAddedCries$Braid;", Cond.classLink RX8 60 RX0, Cond.instantiable RX0 2, Cond.initialized RX0, Cond.fieldLink RX8 63 "AddedCries" "between" "LAddedCries$Between;", Cond.fieldLink RX8 67 "AddedCries" "fewestParts" "[I", Cond.fieldLink RX8 70 "AddedCries" "dayCount" "I", Cond.fieldLink RX8 74 "AddedCries" "traced" "I", Cond.fieldLink RX8 77 "AddedCries" "latestFault" "I", Cond.instantiable RX6 3, Cond.initialized RX6, Cond.instanceMethod yX2_init, Cond.code yX2_init cX2_init 1 none, Cond.methodLink RX2 3 objectInit, Cond.fieldLink RX2 9 "AddedCries$Cry" "words" "[I", Cond.fieldLink RX2 15 "AddedCries$Cry" "size" "I", Cond.instanceMethod yX3_init, Cond.code yX3_init cX3_init 1 none, Cond.methodLink RX3 3 objectInit, Cond.fieldLink RX3 9 "AddedCries$Fit" "firsts" "[I", Cond.fieldLink RX3 15 "AddedCries$Fit" "lasts" "[I"]
def wsX8_init_r3 : List Cond := [Cond.arrayClass .long, Cond.fieldLink RX3 18 "AddedCries$Fit" "choices" "[J", Cond.instanceMethod yX5_init, Cond.code yX5_init cX5_init 1 none, Cond.methodLink RX5 3 objectInit, Cond.arrayClass .boolean, Cond.fieldLink RX5 11 "AddedCries$Sayings" "ends" "[Z", Cond.fieldLink RX5 15 "AddedCries$Sayings" "found" "[I", Cond.instanceMethod yX7_init, Cond.code yX7_init cX7_init 1 none, Cond.methodLink RX7 3 objectInit, Cond.classLink RX7 9 RX4, Cond.instantiable RX4 1, Cond.initialized RX4, Cond.fieldLink RX7 12 "AddedCries$Weave" "lengths" "LAddedCries$Grid;", Cond.fieldLink RX7 18 "AddedCries$Weave" "counts" "LAddedCries$Grid;", Cond.instanceMethod yX4_init, Cond.code yX4_init cX4_init 1 none, Cond.methodLink RX4 3 objectInit, Cond.fieldLink RX4 9 "AddedCries$Grid" "cells" "[J", Cond.instanceMethod yX1_init, Cond.code yX1_init cX1_init 1 none, Cond.methodLink RX1 3 objectInit, Cond.classLink RX1 9 RX4]
def wsX8_init_r4 : List Cond := [Cond.fieldLink RX1 12 "AddedCries$Braid" "here" "LAddedCries$Grid;", Cond.fieldLink RX1 18 "AddedCries$Braid" "next" "LAddedCries$Grid;", Cond.instanceMethod yX0_init, Cond.code yX0_init cX0_init 1 none, Cond.methodLink RX0 1 objectInit, Cond.classLink RX0 7 RX4, Cond.fieldLink RX0 10 "AddedCries$Between" "now" "LAddedCries$Grid;", Cond.fieldLink RX0 16 "AddedCries$Between" "then" "LAddedCries$Grid;", Cond.instanceMethod yX6_init, Cond.code yX6_init cX6_init 1 none, Cond.methodLink RX6 3 objectInit, Cond.fieldLink RX6 9 "AddedCries$Sheet" "cells" "[I", Cond.fieldLink RX6 15 "AddedCries$Sheet" "size" "I", Cond.fieldLink RX6 19 "AddedCries$Sheet" "sort" "I"]
def wsX8_init : List Cond := .code yX8_init cX8_init 2 none :: ((wsX8_init_r1 ++ (wsX8_init_r2 ++ (wsX8_init_r3 ++ wsX8_init_r4))) ++ wsX80 ++ wsX20 ++ wsX30 ++ wsX50 ++ wsX70 ++ wsX10 ++ wsX00 ++ wsX60 ++ wsX40)
def wsX8_sheetOf : List Cond := .code yX8_sheetOf cX8_sheetOf 2 (some (.object "AddedCries$Sheet")) :: ([.fieldLink RX8 23 "AddedCries" "sheets" "[LAddedCries$Sheet;"] ++ wsX80)
def wsX8_isSort : List Cond := .code yX8_isSort cX8_isSort 1 (some .boolean) :: ([])
def wsX8_readingFault : List Cond := .code yX8_readingFault cX8_readingFault 2 (some .int) :: ([.methodLink RX8 207 yX6_isNothing, .instanceMethod yX6_isNothing, .selects RX6 yX6_isNothing yX6_isNothing, .initialized RX6, .code yX6_isNothing cX6_isNothing 1 (some .boolean), .fieldLink RX6 15 "AddedCries$Sheet" "size" "I", .methodLink RX8 217 yX6_sort, .instanceMethod yX6_sort, .selects RX6 yX6_sort yX6_sort, .code yX6_sort cX6_sort 1 (some .int), .fieldLink RX6 19 "AddedCries$Sheet" "sort" "I"] ++ wsX60)
def wsX8_fails : List Cond := .code yX8_fails cX8_fails 2 (some .int) :: ([.fieldLink RX8 77 "AddedCries" "latestFault" "I"] ++ wsX80)
def wsX8_isLetter : List Cond := .code yX8_isLetter cX8_isLetter 1 (some .boolean) :: ([])
def wsX8_firstFaultOf : List Cond := .code yX8_firstFaultOf cX8_firstFaultOf 7 (some .int) :: ([.methodLink RX8 216 yX6_at, .instanceMethod yX6_at, .selects RX6 yX6_at yX6_at, .initialized RX6, .code yX6_at cX6_at 2 (some .int), .fieldLink RX6 9 "AddedCries$Sheet" "cells" "[I", .methodLink RX6 28 yX6_hasCells, .instanceMethod yX6_hasCells, .selects RX6 yX6_hasCells yX6_hasCells, .code yX6_hasCells cX6_hasCells 3 (some .boolean), .fieldLink RX6 15 "AddedCries$Sheet" "size" "I", .methodLink RX8 239 yX8_isLetter, .static yX8_isLetter, .initialized RX8, .code yX8_isLetter cX8_isLetter 1 (some .boolean)] ++ wsX60)
def wsX8_cryOf : List Cond := .code yX8_cryOf cX8_cryOf 2 (some (.object "AddedCries$Cry")) :: ([.fieldLink RX8 70 "AddedCries" "dayCount" "I", .fieldLink RX8 17 "AddedCries" "days" "[LAddedCries$Cry;"] ++ wsX80)
def wsX8_lastCry : List Cond := .code yX8_lastCry cX8_lastCry 1 (some (.object "AddedCries$Cry")) :: ([.fieldLink RX8 70 "AddedCries" "dayCount" "I", .methodLink RX8 115 yX8_cryOf, .instanceMethod yX8_cryOf, .selects RX8 yX8_cryOf yX8_cryOf, .initialized RX8, .code yX8_cryOf cX8_cryOf 2 (some (.object "AddedCries$Cry")), .fieldLink RX8 17 "AddedCries" "days" "[LAddedCries$Cry;"] ++ wsX80)
def wsX8_beginDay : List Cond := .code yX8_beginDay cX8_beginDay 2 none :: ([.fieldLink RX8 70 "AddedCries" "dayCount" "I", .methodLink RX8 129 yX8_lastCry, .instanceMethod yX8_lastCry, .selects RX8 yX8_lastCry yX8_lastCry, .initialized RX8, .code yX8_lastCry cX8_lastCry 1 (some (.object "AddedCries$Cry")), .methodLink RX8 115 yX8_cryOf, .instanceMethod yX8_cryOf, .selects RX8 yX8_cryOf yX8_cryOf, .code yX8_cryOf cX8_cryOf 2 (some (.object "AddedCries$Cry")), .fieldLink RX8 17 "AddedCries" "days" "[LAddedCries$Cry;", .methodLink RX8 245 yX2_clear, .instanceMethod yX2_clear, .selects RX2 yX2_clear yX2_clear, .initialized RX2, .code yX2_clear cX2_clear 1 none, .fieldLink RX2 15 "AddedCries$Cry" "size" "I"] ++ wsX80 ++ wsX20)
def wsX8_takeText_r1 : List Cond := [Cond.fieldLink RX8 70 "AddedCries" "dayCount" "I", Cond.methodLink RX8 242 yX8_beginDay, Cond.instanceMethod yX8_beginDay, Cond.selects RX8 yX8_beginDay yX8_beginDay, Cond.initialized RX8, Cond.code yX8_beginDay cX8_beginDay 2 none, Cond.methodLink RX8 129 yX8_lastCry, Cond.instanceMethod yX8_lastCry, Cond.selects RX8 yX8_lastCry yX8_lastCry, Cond.code yX8_lastCry cX8_lastCry 1 (some (.object "AddedCries$Cry")), Cond.methodLink RX8 115 yX8_cryOf, Cond.instanceMethod yX8_cryOf, Cond.selects RX8 yX8_cryOf yX8_cryOf, Cond.code yX8_cryOf cX8_cryOf 2 (some (.object "AddedCries$Cry")), Cond.fieldLink RX8 17 "AddedCries" "days" "[LAddedCries$Cry;", Cond.methodLink RX8 245 yX2_clear, Cond.instanceMethod yX2_clear, Cond.selects RX2 yX2_clear yX2_clear, Cond.initialized RX2, Cond.code yX2_clear cX2_clear 1 none, Cond.fieldLink RX2 15 "AddedCries$Cry" "size" "I", Cond.methodLink RX8 216 yX6_at, Cond.instanceMethod yX6_at, Cond.selects RX6 yX6_at yX6_at]
def wsX8_takeText_r2 : List Cond := [Cond.initialized RX6, Cond.code yX6_at cX6_at 2 (some .int), Cond.fieldLink RX6 9 "AddedCries$Sheet" "cells" "[I", Cond.methodLink RX6 28 yX6_hasCells, Cond.instanceMethod yX6_hasCells, Cond.selects RX6 yX6_hasCells yX6_hasCells, Cond.code yX6_hasCells cX6_hasCells 3 (some .boolean), Cond.fieldLink RX6 15 "AddedCries$Sheet" "size" "I", Cond.methodLink RX8 239 yX8_isLetter, Cond.static yX8_isLetter, Cond.code yX8_isLetter cX8_isLetter 1 (some .boolean), Cond.methodLink RX8 119 yX2_size, Cond.instanceMethod yX2_size, Cond.selects RX2 yX2_size yX2_size, Cond.code yX2_size cX2_size 1 (some .int), Cond.methodLink RX8 137 yX2_insert, Cond.instanceMethod yX2_insert, Cond.selects RX2 yX2_insert yX2_insert, Cond.code yX2_insert cX2_insert 4 none, Cond.fieldLink RX2 9 "AddedCries$Cry" "words" "[I", Cond.methodLink RX2 23 yX2_isFull, Cond.instanceMethod yX2_isFull, Cond.selects RX2 yX2_isFull yX2_isFull, Cond.code yX2_isFull cX2_isFull 1 (some .boolean)]
def wsX8_takeText : List Cond := .code yX8_takeText cX8_takeText 7 none :: ((wsX8_takeText_r1 ++ wsX8_takeText_r2) ++ wsX80 ++ wsX20 ++ wsX60)
def wsX8_cries_r1 : List Cond := [Cond.fieldLink RX8 77 "AddedCries" "latestFault" "I", Cond.fieldLink RX8 70 "AddedCries" "dayCount" "I", Cond.methodLink RX8 81 yX8_sheetOf, Cond.instanceMethod yX8_sheetOf, Cond.selects RX8 yX8_sheetOf yX8_sheetOf, Cond.initialized RX8, Cond.code yX8_sheetOf cX8_sheetOf 2 (some (.object "AddedCries$Sheet")), Cond.fieldLink RX8 23 "AddedCries" "sheets" "[LAddedCries$Sheet;", Cond.methodLink RX8 85 yX8_isSort, Cond.static yX8_isSort, Cond.code yX8_isSort cX8_isSort 1 (some .boolean), Cond.methodLink RX8 89 yX8_readingFault, Cond.static yX8_readingFault, Cond.code yX8_readingFault cX8_readingFault 2 (some .int), Cond.methodLink RX8 207 yX6_isNothing, Cond.instanceMethod yX6_isNothing, Cond.selects RX6 yX6_isNothing yX6_isNothing, Cond.initialized RX6, Cond.code yX6_isNothing cX6_isNothing 1 (some .boolean), Cond.fieldLink RX6 15 "AddedCries$Sheet" "size" "I", Cond.methodLink RX8 217 yX6_sort, Cond.instanceMethod yX6_sort, Cond.selects RX6 yX6_sort yX6_sort, Cond.code yX6_sort cX6_sort 1 (some .int)]
def wsX8_cries_r2 : List Cond := [Cond.fieldLink RX6 19 "AddedCries$Sheet" "sort" "I", Cond.methodLink RX8 93 yX8_fails, Cond.instanceMethod yX8_fails, Cond.selects RX8 yX8_fails yX8_fails, Cond.code yX8_fails cX8_fails 2 (some .int), Cond.methodLink RX8 97 yX6_hasCells, Cond.instanceMethod yX6_hasCells, Cond.selects RX6 yX6_hasCells yX6_hasCells, Cond.code yX6_hasCells cX6_hasCells 3 (some .boolean), Cond.methodLink RX8 101 yX8_firstFaultOf, Cond.static yX8_firstFaultOf, Cond.code yX8_firstFaultOf cX8_firstFaultOf 7 (some .int), Cond.methodLink RX8 216 yX6_at, Cond.instanceMethod yX6_at, Cond.selects RX6 yX6_at yX6_at, Cond.code yX6_at cX6_at 2 (some .int), Cond.fieldLink RX6 9 "AddedCries$Sheet" "cells" "[I", Cond.methodLink RX6 28 yX6_hasCells, Cond.methodLink RX8 239 yX8_isLetter, Cond.static yX8_isLetter, Cond.code yX8_isLetter cX8_isLetter 1 (some .boolean), Cond.methodLink RX8 105 yX8_takeText, Cond.instanceMethod yX8_takeText, Cond.selects RX8 yX8_takeText yX8_takeText]
def wsX8_cries_r3 : List Cond := [Cond.code yX8_takeText cX8_takeText 7 none, Cond.methodLink RX8 242 yX8_beginDay, Cond.instanceMethod yX8_beginDay, Cond.selects RX8 yX8_beginDay yX8_beginDay, Cond.code yX8_beginDay cX8_beginDay 2 none, Cond.methodLink RX8 129 yX8_lastCry, Cond.instanceMethod yX8_lastCry, Cond.selects RX8 yX8_lastCry yX8_lastCry, Cond.code yX8_lastCry cX8_lastCry 1 (some (.object "AddedCries$Cry")), Cond.methodLink RX8 115 yX8_cryOf, Cond.instanceMethod yX8_cryOf, Cond.selects RX8 yX8_cryOf yX8_cryOf, Cond.code yX8_cryOf cX8_cryOf 2 (some (.object "AddedCries$Cry")), Cond.fieldLink RX8 17 "AddedCries" "days" "[LAddedCries$Cry;", Cond.methodLink RX8 245 yX2_clear, Cond.instanceMethod yX2_clear, Cond.selects RX2 yX2_clear yX2_clear, Cond.initialized RX2, Cond.code yX2_clear cX2_clear 1 none, Cond.fieldLink RX2 15 "AddedCries$Cry" "size" "I", Cond.methodLink RX8 119 yX2_size, Cond.instanceMethod yX2_size, Cond.selects RX2 yX2_size yX2_size, Cond.code yX2_size cX2_size 1 (some .int)]
def wsX8_cries_r4 : List Cond := [Cond.methodLink RX8 137 yX2_insert, Cond.instanceMethod yX2_insert, Cond.selects RX2 yX2_insert yX2_insert, Cond.code yX2_insert cX2_insert 4 none, Cond.fieldLink RX2 9 "AddedCries$Cry" "words" "[I", Cond.methodLink RX2 23 yX2_isFull, Cond.instanceMethod yX2_isFull, Cond.selects RX2 yX2_isFull yX2_isFull, Cond.code yX2_isFull cX2_isFull 1 (some .boolean)]
def wsX8_cries : List Cond := .code yX8_cries cX8_cries 8 (some .int) :: ((wsX8_cries_r1 ++ (wsX8_cries_r2 ++ (wsX8_cries_r3 ++ wsX8_cries_r4))) ++ wsX80 ++ wsX60 ++ wsX20)
def wsX8_isWord : List Cond := .code yX8_isWord cX8_isWord 1 (some .boolean) :: ([])
def wsX8_isKind : List Cond := .code yX8_isKind cX8_isKind 1 (some .boolean) :: ([])
def wsX8_kind : List Cond := .code yX8_kind cX8_kind 4 (some .int) :: ([.fieldLink RX8 11 "AddedCries" "kinds" "[I", .methodLink RX8 109 yX8_isWord, .static yX8_isWord, .initialized RX8, .code yX8_isWord cX8_isWord 1 (some .boolean), .methodLink RX8 112 yX8_isKind, .static yX8_isKind, .code yX8_isKind cX8_isKind 1 (some .boolean)] ++ wsX80)
def wsX8_ofDay : List Cond := .code yX8_ofDay cX8_ofDay 4 (some .int) :: ([.methodLink RX8 115 yX8_cryOf, .instanceMethod yX8_cryOf, .selects RX8 yX8_cryOf yX8_cryOf, .initialized RX8, .code yX8_cryOf cX8_cryOf 2 (some (.object "AddedCries$Cry")), .fieldLink RX8 70 "AddedCries" "dayCount" "I", .fieldLink RX8 17 "AddedCries" "days" "[LAddedCries$Cry;", .methodLink RX8 119 yX2_size, .instanceMethod yX2_size, .selects RX2 yX2_size yX2_size, .initialized RX2, .code yX2_size cX2_size 1 (some .int), .fieldLink RX2 15 "AddedCries$Cry" "size" "I", .methodLink RX8 123 yX2_has, .instanceMethod yX2_has, .selects RX2 yX2_has yX2_has, .code yX2_has cX2_has 2 (some .boolean), .methodLink RX8 126 yX2_at, .instanceMethod yX2_at, .selects RX2 yX2_at yX2_at, .code yX2_at cX2_at 2 (some .int), .fieldLink RX2 9 "AddedCries$Cry" "words" "[I", .methodLink RX2 19 yX2_has] ++ wsX80 ++ wsX20)
def wsX8_within_r1 : List Cond := [Cond.fieldLink RX8 35 "AddedCries" "fit" "LAddedCries$Fit;", Cond.methodLink RX8 115 yX8_cryOf, Cond.instanceMethod yX8_cryOf, Cond.selects RX8 yX8_cryOf yX8_cryOf, Cond.initialized RX8, Cond.code yX8_cryOf cX8_cryOf 2 (some (.object "AddedCries$Cry")), Cond.fieldLink RX8 70 "AddedCries" "dayCount" "I", Cond.fieldLink RX8 17 "AddedCries" "days" "[LAddedCries$Cry;", Cond.methodLink RX8 141 yX3_make, Cond.instanceMethod yX3_make, Cond.selects RX3 yX3_make yX3_make, Cond.initialized RX3, Cond.code yX3_make cX3_make 5 (some .boolean), Cond.fieldLink RX3 9 "AddedCries$Fit" "firsts" "[I", Cond.fieldLink RX3 15 "AddedCries$Fit" "lasts" "[I", Cond.methodLink RX3 22 yX2_size, Cond.instanceMethod yX2_size, Cond.selects RX2 yX2_size yX2_size, Cond.initialized RX2, Cond.code yX2_size cX2_size 1 (some .int), Cond.fieldLink RX2 15 "AddedCries$Cry" "size" "I", Cond.methodLink RX3 28 yX2_has, Cond.instanceMethod yX2_has, Cond.selects RX2 yX2_has yX2_has]
def wsX8_within_r2 : List Cond := [Cond.code yX2_has cX2_has 2 (some .boolean), Cond.methodLink RX3 32 yX2_at, Cond.instanceMethod yX2_at, Cond.selects RX2 yX2_at yX2_at, Cond.code yX2_at cX2_at 2 (some .int), Cond.fieldLink RX2 9 "AddedCries$Cry" "words" "[I", Cond.methodLink RX2 19 yX2_has]
def wsX8_within : List Cond := .code yX8_within cX8_within 5 (some .int) :: ((wsX8_within_r1 ++ wsX8_within_r2) ++ wsX80 ++ wsX30 ++ wsX20)
def wsX8_leftOut_r1 : List Cond := [Cond.fieldLink RX8 70 "AddedCries" "dayCount" "I", Cond.fieldLink RX8 35 "AddedCries" "fit" "LAddedCries$Fit;", Cond.methodLink RX8 115 yX8_cryOf, Cond.instanceMethod yX8_cryOf, Cond.selects RX8 yX8_cryOf yX8_cryOf, Cond.initialized RX8, Cond.code yX8_cryOf cX8_cryOf 2 (some (.object "AddedCries$Cry")), Cond.fieldLink RX8 17 "AddedCries" "days" "[LAddedCries$Cry;", Cond.methodLink RX8 141 yX3_make, Cond.instanceMethod yX3_make, Cond.selects RX3 yX3_make yX3_make, Cond.initialized RX3, Cond.code yX3_make cX3_make 5 (some .boolean), Cond.fieldLink RX3 9 "AddedCries$Fit" "firsts" "[I", Cond.fieldLink RX3 15 "AddedCries$Fit" "lasts" "[I", Cond.methodLink RX3 22 yX2_size, Cond.instanceMethod yX2_size, Cond.selects RX2 yX2_size yX2_size, Cond.initialized RX2, Cond.code yX2_size cX2_size 1 (some .int), Cond.fieldLink RX2 15 "AddedCries$Cry" "size" "I", Cond.methodLink RX3 28 yX2_has, Cond.instanceMethod yX2_has, Cond.selects RX2 yX2_has yX2_has]
def wsX8_leftOut_r2 : List Cond := [Cond.code yX2_has cX2_has 2 (some .boolean), Cond.methodLink RX3 32 yX2_at, Cond.instanceMethod yX2_at, Cond.selects RX2 yX2_at yX2_at, Cond.code yX2_at cX2_at 2 (some .int), Cond.fieldLink RX2 9 "AddedCries$Cry" "words" "[I", Cond.methodLink RX2 19 yX2_has]
def wsX8_leftOut : List Cond := .code yX8_leftOut cX8_leftOut 4 (some .int) :: ((wsX8_leftOut_r1 ++ wsX8_leftOut_r2) ++ wsX80 ++ wsX30 ++ wsX20)
def wsX8_said_r1 : List Cond := [Cond.fieldLink RX8 11 "AddedCries" "kinds" "[I", Cond.methodLink RX8 115 yX8_cryOf, Cond.instanceMethod yX8_cryOf, Cond.selects RX8 yX8_cryOf yX8_cryOf, Cond.initialized RX8, Cond.code yX8_cryOf cX8_cryOf 2 (some (.object "AddedCries$Cry")), Cond.fieldLink RX8 70 "AddedCries" "dayCount" "I", Cond.fieldLink RX8 17 "AddedCries" "days" "[LAddedCries$Cry;", Cond.methodLink RX8 145 yX5_isSaid, Cond.static yX5_isSaid, Cond.initialized RX5, Cond.code yX5_isSaid cX5_isSaid 5 (some .boolean), Cond.methodLink RX5 19 yX2_size, Cond.instanceMethod yX2_size, Cond.selects RX2 yX2_size yX2_size, Cond.initialized RX2, Cond.code yX2_size cX2_size 1 (some .int), Cond.fieldLink RX2 15 "AddedCries$Cry" "size" "I", Cond.methodLink RX5 25 yX2_at, Cond.instanceMethod yX2_at, Cond.selects RX2 yX2_at yX2_at, Cond.code yX2_at cX2_at 2 (some .int), Cond.fieldLink RX2 9 "AddedCries$Cry" "words" "[I", Cond.methodLink RX2 19 yX2_has]
def wsX8_said_r2 : List Cond := [Cond.instanceMethod yX2_has, Cond.selects RX2 yX2_has yX2_has, Cond.code yX2_has cX2_has 2 (some .boolean), Cond.methodLink RX5 29 yX5_after, Cond.static yX5_after, Cond.code yX5_after cX5_after 5 (some .int)]
def wsX8_said : List Cond := .code yX8_said cX8_said 5 (some .int) :: ((wsX8_said_r1 ++ wsX8_said_r2) ++ wsX80 ++ wsX20)
def wsX8_ways_r1 : List Cond := [Cond.constantLong RX8 156 (-9223372036854775808), Cond.fieldLink RX8 35 "AddedCries" "fit" "LAddedCries$Fit;", Cond.methodLink RX8 115 yX8_cryOf, Cond.instanceMethod yX8_cryOf, Cond.selects RX8 yX8_cryOf yX8_cryOf, Cond.initialized RX8, Cond.code yX8_cryOf cX8_cryOf 2 (some (.object "AddedCries$Cry")), Cond.fieldLink RX8 70 "AddedCries" "dayCount" "I", Cond.fieldLink RX8 17 "AddedCries" "days" "[LAddedCries$Cry;", Cond.methodLink RX8 158 yX3_choices, Cond.instanceMethod yX3_choices, Cond.selects RX3 yX3_choices yX3_choices, Cond.initialized RX3, Cond.code yX3_choices cX3_choices 6 (some .long), Cond.methodLink RX3 46 Lib.Math.min.name, Cond.static Lib.Math.min.name, Cond.initialized "java/lang/Math", Cond.code Lib.Math.min.name Lib.Math.min.code 2 (some .int), Cond.fieldLink RX3 18 "AddedCries$Fit" "choices" "[J", Cond.methodLink RX3 22 yX2_size, Cond.instanceMethod yX2_size, Cond.selects RX2 yX2_size yX2_size, Cond.initialized RX2, Cond.code yX2_size cX2_size 1 (some .int)]
def wsX8_ways_r2 : List Cond := [Cond.fieldLink RX2 15 "AddedCries$Cry" "size" "I", Cond.methodLink RX3 52 yJ7_fill_d0a16, Cond.static yJ7_fill_d0a16, Cond.initialized RJ7, Cond.code yJ7_fill_d0a16 cJ7_fill_d0a16 5 none, Cond.methodLink RX3 32 yX2_at, Cond.instanceMethod yX2_at, Cond.selects RX2 yX2_at yX2_at, Cond.code yX2_at cX2_at 2 (some .int), Cond.fieldLink RX2 9 "AddedCries$Cry" "words" "[I", Cond.methodLink RX2 19 yX2_has, Cond.instanceMethod yX2_has, Cond.selects RX2 yX2_has yX2_has, Cond.code yX2_has cX2_has 2 (some .boolean)]
def wsX8_ways : List Cond := .code yX8_ways cX8_ways 5 (some .long) :: ((wsX8_ways_r1 ++ wsX8_ways_r2) ++ wsX80 ++ wsX30 ++ wsX20)
def wsX8_isFirstOrSecond : List Cond := .code yX8_isFirstOrSecond cX8_isFirstOrSecond 1 (some .boolean) :: ([])
def wsX8_place_r1 : List Cond := [Cond.fieldLink RX8 35 "AddedCries" "fit" "LAddedCries$Fit;", Cond.methodLink RX8 115 yX8_cryOf, Cond.instanceMethod yX8_cryOf, Cond.selects RX8 yX8_cryOf yX8_cryOf, Cond.initialized RX8, Cond.code yX8_cryOf cX8_cryOf 2 (some (.object "AddedCries$Cry")), Cond.fieldLink RX8 70 "AddedCries" "dayCount" "I", Cond.fieldLink RX8 17 "AddedCries" "days" "[LAddedCries$Cry;", Cond.methodLink RX8 123 yX2_has, Cond.instanceMethod yX2_has, Cond.selects RX2 yX2_has yX2_has, Cond.initialized RX2, Cond.code yX2_has cX2_has 2 (some .boolean), Cond.fieldLink RX2 15 "AddedCries$Cry" "size" "I", Cond.methodLink RX8 162 yX8_isFirstOrSecond, Cond.static yX8_isFirstOrSecond, Cond.code yX8_isFirstOrSecond cX8_isFirstOrSecond 1 (some .boolean), Cond.methodLink RX8 141 yX3_make, Cond.instanceMethod yX3_make, Cond.selects RX3 yX3_make yX3_make, Cond.initialized RX3, Cond.code yX3_make cX3_make 5 (some .boolean), Cond.fieldLink RX3 9 "AddedCries$Fit" "firsts" "[I", Cond.fieldLink RX3 15 "AddedCries$Fit" "lasts" "[I"]
def wsX8_place_r2 : List Cond := [Cond.methodLink RX3 22 yX2_size, Cond.instanceMethod yX2_size, Cond.selects RX2 yX2_size yX2_size, Cond.code yX2_size cX2_size 1 (some .int), Cond.methodLink RX3 28 yX2_has, Cond.methodLink RX3 32 yX2_at, Cond.instanceMethod yX2_at, Cond.selects RX2 yX2_at yX2_at, Cond.code yX2_at cX2_at 2 (some .int), Cond.fieldLink RX2 9 "AddedCries$Cry" "words" "[I", Cond.methodLink RX2 19 yX2_has, Cond.methodLink RX8 165 yX3_first, Cond.instanceMethod yX3_first, Cond.selects RX3 yX3_first yX3_first, Cond.code yX3_first cX3_first 2 (some .int), Cond.methodLink RX8 168 yX3_last, Cond.instanceMethod yX3_last, Cond.selects RX3 yX3_last yX3_last, Cond.code yX3_last cX3_last 2 (some .int)]
def wsX8_place : List Cond := .code yX8_place cX8_place 7 (some .int) :: ((wsX8_place_r1 ++ wsX8_place_r2) ++ wsX80 ++ wsX20 ++ wsX30)
def wsX8_mayBe_r1 : List Cond := [Cond.fieldLink RX8 70 "AddedCries" "dayCount" "I", Cond.fieldLink RX8 35 "AddedCries" "fit" "LAddedCries$Fit;", Cond.methodLink RX8 129 yX8_lastCry, Cond.instanceMethod yX8_lastCry, Cond.selects RX8 yX8_lastCry yX8_lastCry, Cond.initialized RX8, Cond.code yX8_lastCry cX8_lastCry 1 (some (.object "AddedCries$Cry")), Cond.methodLink RX8 115 yX8_cryOf, Cond.instanceMethod yX8_cryOf, Cond.selects RX8 yX8_cryOf yX8_cryOf, Cond.code yX8_cryOf cX8_cryOf 2 (some (.object "AddedCries$Cry")), Cond.fieldLink RX8 17 "AddedCries" "days" "[LAddedCries$Cry;", Cond.methodLink RX8 123 yX2_has, Cond.instanceMethod yX2_has, Cond.selects RX2 yX2_has yX2_has, Cond.initialized RX2, Cond.code yX2_has cX2_has 2 (some .boolean), Cond.fieldLink RX2 15 "AddedCries$Cry" "size" "I", Cond.methodLink RX8 171 yX3_canStand, Cond.instanceMethod yX3_canStand, Cond.selects RX3 yX3_canStand yX3_canStand, Cond.initialized RX3, Cond.code yX3_canStand cX3_canStand 5 (some .boolean), Cond.methodLink RX3 36 yX3_make]
def wsX8_mayBe_r2 : List Cond := [Cond.instanceMethod yX3_make, Cond.selects RX3 yX3_make yX3_make, Cond.code yX3_make cX3_make 5 (some .boolean), Cond.fieldLink RX3 9 "AddedCries$Fit" "firsts" "[I", Cond.fieldLink RX3 15 "AddedCries$Fit" "lasts" "[I", Cond.methodLink RX3 22 yX2_size, Cond.instanceMethod yX2_size, Cond.selects RX2 yX2_size yX2_size, Cond.code yX2_size cX2_size 1 (some .int), Cond.methodLink RX3 28 yX2_has, Cond.methodLink RX3 32 yX2_at, Cond.instanceMethod yX2_at, Cond.selects RX2 yX2_at yX2_at, Cond.code yX2_at cX2_at 2 (some .int), Cond.fieldLink RX2 9 "AddedCries$Cry" "words" "[I", Cond.methodLink RX2 19 yX2_has, Cond.methodLink RX3 40 yX3_first, Cond.instanceMethod yX3_first, Cond.selects RX3 yX3_first yX3_first, Cond.code yX3_first cX3_first 2 (some .int), Cond.methodLink RX3 43 yX3_last, Cond.instanceMethod yX3_last, Cond.selects RX3 yX3_last yX3_last, Cond.code yX3_last cX3_last 2 (some .int)]
def wsX8_mayBe : List Cond := .code yX8_mayBe cX8_mayBe 6 (some .int) :: ((wsX8_mayBe_r1 ++ wsX8_mayBe_r2) ++ wsX80 ++ wsX20 ++ wsX30)
def wsX8_sheet_r1 : List Cond := [Cond.fieldLink RX8 77 "AddedCries" "latestFault" "I", Cond.methodLink RX8 81 yX8_sheetOf, Cond.instanceMethod yX8_sheetOf, Cond.selects RX8 yX8_sheetOf yX8_sheetOf, Cond.initialized RX8, Cond.code yX8_sheetOf cX8_sheetOf 2 (some (.object "AddedCries$Sheet")), Cond.fieldLink RX8 23 "AddedCries" "sheets" "[LAddedCries$Sheet;", Cond.methodLink RX8 85 yX8_isSort, Cond.static yX8_isSort, Cond.code yX8_isSort cX8_isSort 1 (some .boolean), Cond.methodLink RX8 93 yX8_fails, Cond.instanceMethod yX8_fails, Cond.selects RX8 yX8_fails yX8_fails, Cond.code yX8_fails cX8_fails 2 (some .int), Cond.methodLink RX8 204 yX6_renew, Cond.instanceMethod yX6_renew, Cond.selects RX6 yX6_renew yX6_renew, Cond.initialized RX6, Cond.code yX6_renew cX6_renew 3 none, Cond.fieldLink RX6 9 "AddedCries$Sheet" "cells" "[I", Cond.fieldLink RX6 15 "AddedCries$Sheet" "size" "I", Cond.fieldLink RX6 19 "AddedCries$Sheet" "sort" "I", Cond.methodLink RX6 22 yJ7_fill_53178, Cond.static yJ7_fill_53178]
def wsX8_sheet_r2 : List Cond := [Cond.initialized RJ7, Cond.code yJ7_fill_53178 cJ7_fill_53178 4 none]
def wsX8_sheet : List Cond := .code yX8_sheet cX8_sheet 5 (some .int) :: ((wsX8_sheet_r1 ++ wsX8_sheet_r2) ++ wsX80 ++ wsX60)
def wsX8_put_r1 : List Cond := [Cond.fieldLink RX8 77 "AddedCries" "latestFault" "I", Cond.methodLink RX8 81 yX8_sheetOf, Cond.instanceMethod yX8_sheetOf, Cond.selects RX8 yX8_sheetOf yX8_sheetOf, Cond.initialized RX8, Cond.code yX8_sheetOf cX8_sheetOf 2 (some (.object "AddedCries$Sheet")), Cond.fieldLink RX8 23 "AddedCries" "sheets" "[LAddedCries$Sheet;", Cond.methodLink RX8 207 yX6_isNothing, Cond.instanceMethod yX6_isNothing, Cond.selects RX6 yX6_isNothing yX6_isNothing, Cond.initialized RX6, Cond.code yX6_isNothing cX6_isNothing 1 (some .boolean), Cond.fieldLink RX6 15 "AddedCries$Sheet" "size" "I", Cond.methodLink RX8 93 yX8_fails, Cond.instanceMethod yX8_fails, Cond.selects RX8 yX8_fails yX8_fails, Cond.code yX8_fails cX8_fails 2 (some .int), Cond.methodLink RX8 97 yX6_hasCells, Cond.instanceMethod yX6_hasCells, Cond.selects RX6 yX6_hasCells yX6_hasCells, Cond.code yX6_hasCells cX6_hasCells 3 (some .boolean), Cond.methodLink RX8 213 yX6_write, Cond.instanceMethod yX6_write, Cond.selects RX6 yX6_write yX6_write]
def wsX8_put_r2 : List Cond := [Cond.code yX6_write cX6_write 3 none, Cond.fieldLink RX6 9 "AddedCries$Sheet" "cells" "[I", Cond.methodLink RX6 28 yX6_hasCells, Cond.methodLink RX6 32 yX6_cut, Cond.instanceMethod yX6_cut, Cond.selects RX6 yX6_cut yX6_cut, Cond.code yX6_cut cX6_cut 2 (some .int), Cond.fieldLink RX6 19 "AddedCries$Sheet" "sort" "I"]
def wsX8_put : List Cond := .code yX8_put cX8_put 5 (some .int) :: ((wsX8_put_r1 ++ wsX8_put_r2) ++ wsX80 ++ wsX60)
def wsX8_many : List Cond := .code yX8_many cX8_many 1 (some .int) :: ([.fieldLink RX8 70 "AddedCries" "dayCount" "I"] ++ wsX80)
def wsJ9_min_7cf53 : List Cond := .code yJ9_min_7cf53 cJ9_min_7cf53 2 (some .int) :: ([])
def wsL_cell : List Cond := .code yL_cell cL_cell 2 (some .int) :: ([.constant RL 7 (747796405)])
def wsL_some : List Cond := .code yL_some cL_some 2 (some .int) :: ([.constant RL 8 (2147483647)])
def wsL_with : List Cond := .code yL_with cL_with 6 (some .long) :: ([])
def wsL_word : List Cond := .code yL_word cL_word 3 (some .int) :: ([.constantLong RL 36 (7)])
def wsL_put_r1 : List Cond := [Cond.methodLink RL 9 yL_cell, Cond.static yL_cell, Cond.initialized RL, Cond.code yL_cell cL_cell 2 (some .int), Cond.constant RL 7 (747796405), Cond.methodLink RL 15 yL_some, Cond.static yL_some, Cond.code yL_some cL_some 2 (some .int), Cond.constant RL 8 (2147483647), Cond.methodLink RL 19 yX8_sheet, Cond.instanceMethod yX8_sheet, Cond.selects RX8 yX8_sheet yX8_sheet, Cond.initialized RX8, Cond.code yX8_sheet cX8_sheet 5 (some .int), Cond.fieldLink RX8 77 "AddedCries" "latestFault" "I", Cond.methodLink RX8 81 yX8_sheetOf, Cond.instanceMethod yX8_sheetOf, Cond.selects RX8 yX8_sheetOf yX8_sheetOf, Cond.code yX8_sheetOf cX8_sheetOf 2 (some (.object "AddedCries$Sheet")), Cond.fieldLink RX8 23 "AddedCries" "sheets" "[LAddedCries$Sheet;", Cond.methodLink RX8 85 yX8_isSort, Cond.static yX8_isSort, Cond.code yX8_isSort cX8_isSort 1 (some .boolean), Cond.methodLink RX8 93 yX8_fails]
def wsL_put_r2 : List Cond := [Cond.instanceMethod yX8_fails, Cond.selects RX8 yX8_fails yX8_fails, Cond.code yX8_fails cX8_fails 2 (some .int), Cond.methodLink RX8 204 yX6_renew, Cond.instanceMethod yX6_renew, Cond.selects RX6 yX6_renew yX6_renew, Cond.initialized RX6, Cond.code yX6_renew cX6_renew 3 none, Cond.fieldLink RX6 9 "AddedCries$Sheet" "cells" "[I", Cond.fieldLink RX6 15 "AddedCries$Sheet" "size" "I", Cond.fieldLink RX6 19 "AddedCries$Sheet" "sort" "I", Cond.methodLink RX6 22 yJ7_fill_53178, Cond.static yJ7_fill_53178, Cond.initialized RJ7, Cond.code yJ7_fill_53178 cJ7_fill_53178 4 none, Cond.methodLink RL 25 yL_with, Cond.static yL_with, Cond.code yL_with cL_with 6 (some .long), Cond.methodLink RL 29 yX8_put, Cond.instanceMethod yX8_put, Cond.selects RX8 yX8_put yX8_put, Cond.code yX8_put cX8_put 5 (some .int), Cond.methodLink RX8 207 yX6_isNothing, Cond.instanceMethod yX6_isNothing]
def wsL_put_r3 : List Cond := [Cond.selects RX6 yX6_isNothing yX6_isNothing, Cond.code yX6_isNothing cX6_isNothing 1 (some .boolean), Cond.methodLink RX8 97 yX6_hasCells, Cond.instanceMethod yX6_hasCells, Cond.selects RX6 yX6_hasCells yX6_hasCells, Cond.code yX6_hasCells cX6_hasCells 3 (some .boolean), Cond.methodLink RX8 213 yX6_write, Cond.instanceMethod yX6_write, Cond.selects RX6 yX6_write yX6_write, Cond.code yX6_write cX6_write 3 none, Cond.methodLink RX6 28 yX6_hasCells, Cond.methodLink RX6 32 yX6_cut, Cond.instanceMethod yX6_cut, Cond.selects RX6 yX6_cut yX6_cut, Cond.code yX6_cut cX6_cut 2 (some .int), Cond.methodLink RL 32 yL_word, Cond.static yL_word, Cond.code yL_word cL_word 3 (some .int), Cond.constantLong RL 36 (7)]
def wsL_put : List Cond := .code yL_put cL_put 15 (some .int) :: ((wsL_put_r1 ++ (wsL_put_r2 ++ wsL_put_r3)) ++ wsX80 ++ wsX60)
def wsL_kinds : List Cond := .code yL_kinds cL_kinds 6 (some .boolean) :: ([.methodLink RL 15 yL_some, .static yL_some, .initialized RL, .code yL_some cL_some 2 (some .int), .constant RL 8 (2147483647), .methodLink RL 38 yX8_kind, .instanceMethod yX8_kind, .selects RX8 yX8_kind yX8_kind, .initialized RX8, .code yX8_kind cX8_kind 4 (some .int), .fieldLink RX8 11 "AddedCries" "kinds" "[I", .methodLink RX8 109 yX8_isWord, .static yX8_isWord, .code yX8_isWord cX8_isWord 1 (some .boolean), .methodLink RX8 112 yX8_isKind, .static yX8_isKind, .code yX8_isKind cX8_isKind 1 (some .boolean)] ++ wsX80)
def wsL_within : List Cond := .code yL_within cL_within 8 (some .boolean) :: ([.methodLink RL 32 yL_word, .static yL_word, .initialized RL, .code yL_word cL_word 3 (some .int), .constantLong RL 36 (7)])
def wsL_part : List Cond := .code yL_part cL_part 8 (some .long) :: ([.methodLink RL 32 yL_word, .static yL_word, .initialized RL, .code yL_word cL_word 3 (some .int), .constantLong RL 36 (7)])
def wsL_size : List Cond := .code yL_size cL_size 3 (some .int) :: ([])
def wsL_said : List Cond := .code yL_said cL_said 9 (some .int) :: ([.methodLink RL 32 yL_word, .static yL_word, .initialized RL, .code yL_word cL_word 3 (some .int), .constantLong RL 36 (7)])
end
section
set_option maxRecDepth 20000 in
theorem ggX0_init_X4_init : GoodIn wsX0_init wsX4_init := goodIn_r _ [10, 11, 2, 3, 12, 13, 14] (by decide +kernel) (by decide +kernel)
set_option maxRecDepth 20000 in
theorem gX0_init_X4_init_n9 : GoodIn wsX0_init (wsX4_init) := ggX0_init_X4_init
theorem dX0_init_0 : decode cX0_init 0 = .ok (.aload_n 0, 1) := by decide +kernel
theorem dX0_init_1 : decode cX0_init 1 = .ok (.invokespecial 1, 3) := by decide +kernel
theorem dX0_init_4 : decode cX0_init 4 = .ok (.aload_n 0, 1) := by decide +kernel
theorem dX0_init_5 : decode cX0_init 5 = .ok (.new 7, 3) := by decide +kernel
theorem dX0_init_8 : decode cX0_init 8 = .ok (.dup, 1) := by decide +kernel
theorem dX0_init_9 : decode cX0_init 9 = .ok (.invokespecial 9, 3) := by decide +kernel
theorem dX0_init_12 : decode cX0_init 12 = .ok (.putfield 10, 3) := by decide +kernel
theorem dX0_init_15 : decode cX0_init 15 = .ok (.aload_n 0, 1) := by decide +kernel
theorem dX0_init_16 : decode cX0_init 16 = .ok (.new 7, 3) := by decide +kernel
theorem dX0_init_19 : decode cX0_init 19 = .ok (.dup, 1) := by decide +kernel
theorem dX0_init_20 : decode cX0_init 20 = .ok (.invokespecial 9, 3) := by decide +kernel
theorem dX0_init_23 : decode cX0_init 23 = .ok (.putfield 16, 3) := by decide +kernel
theorem dX0_init_26 : decode cX0_init 26 = .ok (.return_, 1) := by decide +kernel
set_option maxRecDepth 20000 in
theorem ggX1_init_X4_init : GoodIn wsX1_init wsX4_init := goodIn_r _ [10, 11, 2, 3, 12, 13, 14] (by decide +kernel) (by decide +kernel)
set_option maxRecDepth 20000 in
theorem gX1_init_X4_init_n11 : GoodIn wsX1_init (wsX4_init) := ggX1_init_X4_init
theorem dX1_init_0 : decode cX1_init 0 = .ok (.aload_n 0, 1) := by decide +kernel
theorem dX1_init_1 : decode cX1_init 1 = .ok (.invokespecial 3, 3) := by decide +kernel
theorem dX1_init_4 : decode cX1_init 4 = .ok (.aload_n 0, 1) := by decide +kernel
theorem dX1_init_5 : decode cX1_init 5 = .ok (.new 9, 3) := by decide +kernel
theorem dX1_init_8 : decode cX1_init 8 = .ok (.dup, 1) := by decide +kernel
theorem dX1_init_9 : decode cX1_init 9 = .ok (.invokespecial 11, 3) := by decide +kernel
theorem dX1_init_12 : decode cX1_init 12 = .ok (.putfield 12, 3) := by decide +kernel
theorem dX1_init_15 : decode cX1_init 15 = .ok (.aload_n 0, 1) := by decide +kernel
theorem dX1_init_16 : decode cX1_init 16 = .ok (.new 9, 3) := by decide +kernel
theorem dX1_init_19 : decode cX1_init 19 = .ok (.dup, 1) := by decide +kernel
theorem dX1_init_20 : decode cX1_init 20 = .ok (.invokespecial 11, 3) := by decide +kernel
theorem dX1_init_23 : decode cX1_init 23 = .ok (.putfield 18, 3) := by decide +kernel
theorem dX1_init_26 : decode cX1_init 26 = .ok (.return_, 1) := by decide +kernel
theorem dX2_init_0 : decode cX2_init 0 = .ok (.aload_n 0, 1) := by decide +kernel
theorem dX2_init_1 : decode cX2_init 1 = .ok (.invokespecial 3, 3) := by decide +kernel
theorem dX2_init_4 : decode cX2_init 4 = .ok (.aload_n 0, 1) := by decide +kernel
theorem dX2_init_5 : decode cX2_init 5 = .ok (.bipush 12, 2) := by decide +kernel
theorem dX2_init_7 : decode cX2_init 7 = .ok (.newarray .int, 2) := by decide +kernel
theorem dX2_init_9 : decode cX2_init 9 = .ok (.putfield 9, 3) := by decide +kernel
theorem dX2_init_12 : decode cX2_init 12 = .ok (.aload_n 0, 1) := by decide +kernel
theorem dX2_init_13 : decode cX2_init 13 = .ok (.iconst 0, 1) := by decide +kernel
theorem dX2_init_14 : decode cX2_init 14 = .ok (.putfield 15, 3) := by decide +kernel
theorem dX2_init_17 : decode cX2_init 17 = .ok (.return_, 1) := by decide +kernel
theorem dX2_size_0 : decode cX2_size 0 = .ok (.aload_n 0, 1) := by decide +kernel
theorem dX2_size_1 : decode cX2_size 1 = .ok (.getfield 15, 3) := by decide +kernel
theorem dX2_size_4 : decode cX2_size 4 = .ok (.ireturn, 1) := by decide +kernel
theorem dX2_isFull_0 : decode cX2_isFull 0 = .ok (.aload_n 0, 1) := by decide +kernel
theorem dX2_isFull_1 : decode cX2_isFull 1 = .ok (.getfield 15, 3) := by decide +kernel
theorem dX2_isFull_4 : decode cX2_isFull 4 = .ok (.bipush 12, 2) := by decide +kernel
theorem dX2_isFull_6 : decode cX2_isFull 6 = .ok (.if_icmp .lt 7, 3) := by decide +kernel
theorem dX2_isFull_9 : decode cX2_isFull 9 = .ok (.iconst 1, 1) := by decide +kernel
theorem dX2_isFull_10 : decode cX2_isFull 10 = .ok (.goto 4, 3) := by decide +kernel
theorem dX2_isFull_13 : decode cX2_isFull 13 = .ok (.iconst 0, 1) := by decide +kernel
theorem dX2_isFull_14 : decode cX2_isFull 14 = .ok (.ireturn, 1) := by decide +kernel
theorem dX2_has_0 : decode cX2_has 0 = .ok (.iload_n 1, 1) := by decide +kernel
theorem dX2_has_1 : decode cX2_has 1 = .ok (.ifCond .lt 15, 3) := by decide +kernel
theorem dX2_has_4 : decode cX2_has 4 = .ok (.iload_n 1, 1) := by decide +kernel
theorem dX2_has_5 : decode cX2_has 5 = .ok (.aload_n 0, 1) := by decide +kernel
theorem dX2_has_6 : decode cX2_has 6 = .ok (.getfield 15, 3) := by decide +kernel
theorem dX2_has_9 : decode cX2_has 9 = .ok (.if_icmp .ge 7, 3) := by decide +kernel
theorem dX2_has_12 : decode cX2_has 12 = .ok (.iconst 1, 1) := by decide +kernel
theorem dX2_has_13 : decode cX2_has 13 = .ok (.goto 4, 3) := by decide +kernel
theorem dX2_has_16 : decode cX2_has 16 = .ok (.iconst 0, 1) := by decide +kernel
theorem dX2_has_17 : decode cX2_has 17 = .ok (.ireturn, 1) := by decide +kernel
set_option maxRecDepth 20000 in
theorem ggX2_at_X2_has : GoodIn wsX2_at wsX2_has := goodIn_r _ [6, 7, 8, 9] (by decide +kernel) (by decide +kernel)
set_option maxRecDepth 20000 in
theorem gX2_at_X2_has : GoodIn wsX2_at (wsV RX2 19 RX2 yX2_has wsX2_has) := goodIn_app (goodIn_of _ (by decide +kernel)) ggX2_at_X2_has
theorem dX2_at_0 : decode cX2_at 0 = .ok (.aload_n 0, 1) := by decide +kernel
theorem dX2_at_1 : decode cX2_at 1 = .ok (.iload_n 1, 1) := by decide +kernel
theorem dX2_at_2 : decode cX2_at 2 = .ok (.invokevirtual 19, 3) := by decide +kernel
theorem dX2_at_5 : decode cX2_at 5 = .ok (.ifCond .eq 12, 3) := by decide +kernel
theorem dX2_at_8 : decode cX2_at 8 = .ok (.aload_n 0, 1) := by decide +kernel
theorem dX2_at_9 : decode cX2_at 9 = .ok (.getfield 9, 3) := by decide +kernel
theorem dX2_at_12 : decode cX2_at 12 = .ok (.iload_n 1, 1) := by decide +kernel
theorem dX2_at_13 : decode cX2_at 13 = .ok (.iaload, 1) := by decide +kernel
theorem dX2_at_14 : decode cX2_at 14 = .ok (.goto 5, 3) := by decide +kernel
theorem dX2_at_17 : decode cX2_at 17 = .ok (.bipush (-9), 2) := by decide +kernel
theorem dX2_at_19 : decode cX2_at 19 = .ok (.ireturn, 1) := by decide +kernel
theorem dX2_clear_0 : decode cX2_clear 0 = .ok (.aload_n 0, 1) := by decide +kernel
theorem dX2_clear_1 : decode cX2_clear 1 = .ok (.iconst 0, 1) := by decide +kernel
theorem dX2_clear_2 : decode cX2_clear 2 = .ok (.putfield 15, 3) := by decide +kernel
theorem dX2_clear_5 : decode cX2_clear 5 = .ok (.return_, 1) := by decide +kernel
set_option maxRecDepth 20000 in
theorem ggX2_insert_X2_isFull : GoodIn wsX2_insert wsX2_isFull := goodIn_r _ [7, 1, 8, 9] (by decide +kernel) (by decide +kernel)
set_option maxRecDepth 20000 in
theorem gX2_insert_X2_isFull : GoodIn wsX2_insert (wsV RX2 23 RX2 yX2_isFull wsX2_isFull) := goodIn_app (goodIn_of _ (by decide +kernel)) ggX2_insert_X2_isFull
theorem dX2_insert_0 : decode cX2_insert 0 = .ok (.aload_n 0, 1) := by decide +kernel
theorem dX2_insert_1 : decode cX2_insert 1 = .ok (.invokevirtual 23, 3) := by decide +kernel
theorem dX2_insert_4 : decode cX2_insert 4 = .ok (.ifCond .ne 15, 3) := by decide +kernel
theorem dX2_insert_7 : decode cX2_insert 7 = .ok (.iload_n 1, 1) := by decide +kernel
theorem dX2_insert_8 : decode cX2_insert 8 = .ok (.ifCond .lt 11, 3) := by decide +kernel
theorem dX2_insert_11 : decode cX2_insert 11 = .ok (.iload_n 1, 1) := by decide +kernel
theorem dX2_insert_12 : decode cX2_insert 12 = .ok (.aload_n 0, 1) := by decide +kernel
theorem dX2_insert_13 : decode cX2_insert 13 = .ok (.getfield 15, 3) := by decide +kernel
theorem dX2_insert_16 : decode cX2_insert 16 = .ok (.if_icmp .le 4, 3) := by decide +kernel
theorem dX2_insert_19 : decode cX2_insert 19 = .ok (.return_, 1) := by decide +kernel
theorem dX2_insert_20 : decode cX2_insert 20 = .ok (.aload_n 0, 1) := by decide +kernel
theorem dX2_insert_21 : decode cX2_insert 21 = .ok (.getfield 15, 3) := by decide +kernel
theorem dX2_insert_24 : decode cX2_insert 24 = .ok (.istore_n 3, 1) := by decide +kernel
theorem dX2_insert_25 : decode cX2_insert 25 = .ok (.iload_n 3, 1) := by decide +kernel
theorem dX2_insert_26 : decode cX2_insert 26 = .ok (.iload_n 1, 1) := by decide +kernel
theorem dX2_insert_27 : decode cX2_insert 27 = .ok (.if_icmp .le 23, 3) := by decide +kernel
theorem dX2_insert_30 : decode cX2_insert 30 = .ok (.aload_n 0, 1) := by decide +kernel
theorem dX2_insert_31 : decode cX2_insert 31 = .ok (.getfield 9, 3) := by decide +kernel
theorem dX2_insert_34 : decode cX2_insert 34 = .ok (.iload_n 3, 1) := by decide +kernel
theorem dX2_insert_35 : decode cX2_insert 35 = .ok (.aload_n 0, 1) := by decide +kernel
theorem dX2_insert_36 : decode cX2_insert 36 = .ok (.getfield 9, 3) := by decide +kernel
theorem dX2_insert_39 : decode cX2_insert 39 = .ok (.iload_n 3, 1) := by decide +kernel
theorem dX2_insert_40 : decode cX2_insert 40 = .ok (.iconst 1, 1) := by decide +kernel
theorem dX2_insert_41 : decode cX2_insert 41 = .ok (.isub, 1) := by decide +kernel
theorem dX2_insert_42 : decode cX2_insert 42 = .ok (.iaload, 1) := by decide +kernel
theorem dX2_insert_43 : decode cX2_insert 43 = .ok (.iastore, 1) := by decide +kernel
theorem dX2_insert_44 : decode cX2_insert 44 = .ok (.iinc 3 (-1), 3) := by decide +kernel
theorem dX2_insert_47 : decode cX2_insert 47 = .ok (.goto (-22), 3) := by decide +kernel
theorem dX2_insert_50 : decode cX2_insert 50 = .ok (.aload_n 0, 1) := by decide +kernel
theorem dX2_insert_51 : decode cX2_insert 51 = .ok (.getfield 9, 3) := by decide +kernel
theorem dX2_insert_54 : decode cX2_insert 54 = .ok (.iload_n 1, 1) := by decide +kernel
theorem dX2_insert_55 : decode cX2_insert 55 = .ok (.iload_n 2, 1) := by decide +kernel
theorem dX2_insert_56 : decode cX2_insert 56 = .ok (.iastore, 1) := by decide +kernel
theorem dX2_insert_57 : decode cX2_insert 57 = .ok (.aload_n 0, 1) := by decide +kernel
theorem dX2_insert_58 : decode cX2_insert 58 = .ok (.dup, 1) := by decide +kernel
theorem dX2_insert_59 : decode cX2_insert 59 = .ok (.getfield 15, 3) := by decide +kernel
theorem dX2_insert_62 : decode cX2_insert 62 = .ok (.iconst 1, 1) := by decide +kernel
theorem dX2_insert_63 : decode cX2_insert 63 = .ok (.iadd, 1) := by decide +kernel
theorem dX2_insert_64 : decode cX2_insert 64 = .ok (.putfield 15, 3) := by decide +kernel
theorem dX2_insert_67 : decode cX2_insert 67 = .ok (.return_, 1) := by decide +kernel
theorem dX3_init_0 : decode cX3_init 0 = .ok (.aload_n 0, 1) := by decide +kernel
theorem dX3_init_1 : decode cX3_init 1 = .ok (.invokespecial 3, 3) := by decide +kernel
theorem dX3_init_4 : decode cX3_init 4 = .ok (.aload_n 0, 1) := by decide +kernel
theorem dX3_init_5 : decode cX3_init 5 = .ok (.bipush 12, 2) := by decide +kernel
theorem dX3_init_7 : decode cX3_init 7 = .ok (.newarray .int, 2) := by decide +kernel
theorem dX3_init_9 : decode cX3_init 9 = .ok (.putfield 9, 3) := by decide +kernel
theorem dX3_init_12 : decode cX3_init 12 = .ok (.aload_n 0, 1) := by decide +kernel
theorem dX3_init_13 : decode cX3_init 13 = .ok (.bipush 12, 2) := by decide +kernel
theorem dX3_init_15 : decode cX3_init 15 = .ok (.newarray .int, 2) := by decide +kernel
theorem dX3_init_17 : decode cX3_init 17 = .ok (.putfield 15, 3) := by decide +kernel
theorem dX3_init_20 : decode cX3_init 20 = .ok (.aload_n 0, 1) := by decide +kernel
theorem dX3_init_21 : decode cX3_init 21 = .ok (.bipush 13, 2) := by decide +kernel
theorem dX3_init_23 : decode cX3_init 23 = .ok (.newarray .long, 2) := by decide +kernel
theorem dX3_init_25 : decode cX3_init 25 = .ok (.putfield 18, 3) := by decide +kernel
theorem dX3_init_28 : decode cX3_init 28 = .ok (.return_, 1) := by decide +kernel
set_option maxRecDepth 20000 in
theorem ggX3_make_X2_size : GoodIn wsX3_make wsX2_size := goodIn_r _ [7, 8, 22, 23] (by decide +kernel) (by decide +kernel)
set_option maxRecDepth 20000 in
theorem gX3_make_X2_size : GoodIn wsX3_make (wsV RX3 22 RX2 yX2_size wsX2_size) := goodIn_app (goodIn_of _ (by decide +kernel)) ggX3_make_X2_size
set_option maxRecDepth 20000 in
theorem ggX3_make_X2_has : GoodIn wsX3_make wsX2_has := goodIn_r _ [12, 8, 22, 23] (by decide +kernel) (by decide +kernel)
set_option maxRecDepth 20000 in
theorem gX3_make_X2_has : GoodIn wsX3_make (wsV RX3 28 RX2 yX2_has wsX2_has) := goodIn_app (goodIn_of _ (by decide +kernel)) ggX3_make_X2_has
set_option maxRecDepth 20000 in
theorem ggX3_make_X2_at : GoodIn wsX3_make wsX2_at := goodIn_r _ [16, 17, 18, 10, 11, 6, 12, 8, 22, 23] (by decide +kernel) (by decide +kernel)
set_option maxRecDepth 20000 in
theorem gX3_make_X2_at : GoodIn wsX3_make (wsV RX3 32 RX2 yX2_at wsX2_at) := goodIn_app (goodIn_of _ (by decide +kernel)) ggX3_make_X2_at
theorem dX3_make_0 : decode cX3_make 0 = .ok (.iconst 0, 1) := by decide +kernel
theorem dX3_make_1 : decode cX3_make 1 = .ok (.istore_n 3, 1) := by decide +kernel
theorem dX3_make_2 : decode cX3_make 2 = .ok (.iconst 0, 1) := by decide +kernel
theorem dX3_make_3 : decode cX3_make 3 = .ok (.istore 4, 2) := by decide +kernel
theorem dX3_make_5 : decode cX3_make 5 = .ok (.iload 4, 2) := by decide +kernel
theorem dX3_make_7 : decode cX3_make 7 = .ok (.aload_n 2, 1) := by decide +kernel
theorem dX3_make_8 : decode cX3_make 8 = .ok (.invokevirtual 22, 3) := by decide +kernel
theorem dX3_make_11 : decode cX3_make 11 = .ok (.if_icmp .ge 42, 3) := by decide +kernel
theorem dX3_make_14 : decode cX3_make 14 = .ok (.aload_n 1, 1) := by decide +kernel
theorem dX3_make_15 : decode cX3_make 15 = .ok (.iload_n 3, 1) := by decide +kernel
theorem dX3_make_16 : decode cX3_make 16 = .ok (.invokevirtual 28, 3) := by decide +kernel
theorem dX3_make_19 : decode cX3_make 19 = .ok (.ifCond .eq 28, 3) := by decide +kernel
theorem dX3_make_22 : decode cX3_make 22 = .ok (.aload_n 1, 1) := by decide +kernel
theorem dX3_make_23 : decode cX3_make 23 = .ok (.iload_n 3, 1) := by decide +kernel
theorem dX3_make_24 : decode cX3_make 24 = .ok (.invokevirtual 32, 3) := by decide +kernel
theorem dX3_make_27 : decode cX3_make 27 = .ok (.aload_n 2, 1) := by decide +kernel
theorem dX3_make_28 : decode cX3_make 28 = .ok (.iload 4, 2) := by decide +kernel
theorem dX3_make_30 : decode cX3_make 30 = .ok (.invokevirtual 32, 3) := by decide +kernel
theorem dX3_make_33 : decode cX3_make 33 = .ok (.if_icmp .ne 14, 3) := by decide +kernel
theorem dX3_make_36 : decode cX3_make 36 = .ok (.aload_n 0, 1) := by decide +kernel
theorem dX3_make_37 : decode cX3_make 37 = .ok (.getfield 9, 3) := by decide +kernel
theorem dX3_make_40 : decode cX3_make 40 = .ok (.iload_n 3, 1) := by decide +kernel
theorem dX3_make_41 : decode cX3_make 41 = .ok (.iload 4, 2) := by decide +kernel
theorem dX3_make_43 : decode cX3_make 43 = .ok (.iastore, 1) := by decide +kernel
theorem dX3_make_44 : decode cX3_make 44 = .ok (.iinc 3 1, 3) := by decide +kernel
theorem dX3_make_47 : decode cX3_make 47 = .ok (.iinc 4 1, 3) := by decide +kernel
theorem dX3_make_50 : decode cX3_make 50 = .ok (.goto (-45), 3) := by decide +kernel
theorem dX3_make_53 : decode cX3_make 53 = .ok (.iload_n 3, 1) := by decide +kernel
theorem dX3_make_54 : decode cX3_make 54 = .ok (.aload_n 1, 1) := by decide +kernel
theorem dX3_make_55 : decode cX3_make 55 = .ok (.invokevirtual 22, 3) := by decide +kernel
theorem dX3_make_58 : decode cX3_make 58 = .ok (.if_icmp .ge 5, 3) := by decide +kernel
theorem dX3_make_61 : decode cX3_make 61 = .ok (.iconst 0, 1) := by decide +kernel
theorem dX3_make_62 : decode cX3_make 62 = .ok (.ireturn, 1) := by decide +kernel
theorem dX3_make_63 : decode cX3_make 63 = .ok (.aload_n 1, 1) := by decide +kernel
theorem dX3_make_64 : decode cX3_make 64 = .ok (.invokevirtual 22, 3) := by decide +kernel
theorem dX3_make_67 : decode cX3_make 67 = .ok (.iconst 1, 1) := by decide +kernel
theorem dX3_make_68 : decode cX3_make 68 = .ok (.isub, 1) := by decide +kernel
theorem dX3_make_69 : decode cX3_make 69 = .ok (.istore_n 3, 1) := by decide +kernel
theorem dX3_make_70 : decode cX3_make 70 = .ok (.aload_n 2, 1) := by decide +kernel
theorem dX3_make_71 : decode cX3_make 71 = .ok (.invokevirtual 22, 3) := by decide +kernel
theorem dX3_make_74 : decode cX3_make 74 = .ok (.iconst 1, 1) := by decide +kernel
theorem dX3_make_75 : decode cX3_make 75 = .ok (.isub, 1) := by decide +kernel
theorem dX3_make_76 : decode cX3_make 76 = .ok (.istore 4, 2) := by decide +kernel
theorem dX3_make_78 : decode cX3_make 78 = .ok (.iload 4, 2) := by decide +kernel
theorem dX3_make_80 : decode cX3_make 80 = .ok (.ifCond .lt 42, 3) := by decide +kernel
theorem dX3_make_83 : decode cX3_make 83 = .ok (.aload_n 1, 1) := by decide +kernel
theorem dX3_make_84 : decode cX3_make 84 = .ok (.iload_n 3, 1) := by decide +kernel
theorem dX3_make_85 : decode cX3_make 85 = .ok (.invokevirtual 28, 3) := by decide +kernel
theorem dX3_make_88 : decode cX3_make 88 = .ok (.ifCond .eq 28, 3) := by decide +kernel
theorem dX3_make_91 : decode cX3_make 91 = .ok (.aload_n 1, 1) := by decide +kernel
theorem dX3_make_92 : decode cX3_make 92 = .ok (.iload_n 3, 1) := by decide +kernel
theorem dX3_make_93 : decode cX3_make 93 = .ok (.invokevirtual 32, 3) := by decide +kernel
theorem dX3_make_96 : decode cX3_make 96 = .ok (.aload_n 2, 1) := by decide +kernel
theorem dX3_make_97 : decode cX3_make 97 = .ok (.iload 4, 2) := by decide +kernel
theorem dX3_make_99 : decode cX3_make 99 = .ok (.invokevirtual 32, 3) := by decide +kernel
theorem dX3_make_102 : decode cX3_make 102 = .ok (.if_icmp .ne 14, 3) := by decide +kernel
theorem dX3_make_105 : decode cX3_make 105 = .ok (.aload_n 0, 1) := by decide +kernel
theorem dX3_make_106 : decode cX3_make 106 = .ok (.getfield 15, 3) := by decide +kernel
theorem dX3_make_109 : decode cX3_make 109 = .ok (.iload_n 3, 1) := by decide +kernel
theorem dX3_make_110 : decode cX3_make 110 = .ok (.iload 4, 2) := by decide +kernel
theorem dX3_make_112 : decode cX3_make 112 = .ok (.iastore, 1) := by decide +kernel
theorem dX3_make_113 : decode cX3_make 113 = .ok (.iinc 3 (-1), 3) := by decide +kernel
theorem dX3_make_116 : decode cX3_make 116 = .ok (.iinc 4 (-1), 3) := by decide +kernel
theorem dX3_make_119 : decode cX3_make 119 = .ok (.goto (-41), 3) := by decide +kernel
theorem dX3_make_122 : decode cX3_make 122 = .ok (.iconst 1, 1) := by decide +kernel
theorem dX3_make_123 : decode cX3_make 123 = .ok (.ireturn, 1) := by decide +kernel
theorem dX3_first_0 : decode cX3_first 0 = .ok (.iload_n 1, 1) := by decide +kernel
theorem dX3_first_1 : decode cX3_first 1 = .ok (.ifCond .lt 18, 3) := by decide +kernel
theorem dX3_first_4 : decode cX3_first 4 = .ok (.iload_n 1, 1) := by decide +kernel
theorem dX3_first_5 : decode cX3_first 5 = .ok (.bipush 12, 2) := by decide +kernel
theorem dX3_first_7 : decode cX3_first 7 = .ok (.if_icmp .ge 12, 3) := by decide +kernel
theorem dX3_first_10 : decode cX3_first 10 = .ok (.aload_n 0, 1) := by decide +kernel
theorem dX3_first_11 : decode cX3_first 11 = .ok (.getfield 9, 3) := by decide +kernel
theorem dX3_first_14 : decode cX3_first 14 = .ok (.iload_n 1, 1) := by decide +kernel
theorem dX3_first_15 : decode cX3_first 15 = .ok (.iaload, 1) := by decide +kernel
theorem dX3_first_16 : decode cX3_first 16 = .ok (.goto 5, 3) := by decide +kernel
theorem dX3_first_19 : decode cX3_first 19 = .ok (.bipush (-9), 2) := by decide +kernel
theorem dX3_first_21 : decode cX3_first 21 = .ok (.ireturn, 1) := by decide +kernel
theorem dX3_last_0 : decode cX3_last 0 = .ok (.iload_n 1, 1) := by decide +kernel
theorem dX3_last_1 : decode cX3_last 1 = .ok (.ifCond .lt 18, 3) := by decide +kernel
theorem dX3_last_4 : decode cX3_last 4 = .ok (.iload_n 1, 1) := by decide +kernel
theorem dX3_last_5 : decode cX3_last 5 = .ok (.bipush 12, 2) := by decide +kernel
theorem dX3_last_7 : decode cX3_last 7 = .ok (.if_icmp .ge 12, 3) := by decide +kernel
theorem dX3_last_10 : decode cX3_last 10 = .ok (.aload_n 0, 1) := by decide +kernel
theorem dX3_last_11 : decode cX3_last 11 = .ok (.getfield 15, 3) := by decide +kernel
theorem dX3_last_14 : decode cX3_last 14 = .ok (.iload_n 1, 1) := by decide +kernel
theorem dX3_last_15 : decode cX3_last 15 = .ok (.iaload, 1) := by decide +kernel
theorem dX3_last_16 : decode cX3_last 16 = .ok (.goto 5, 3) := by decide +kernel
theorem dX3_last_19 : decode cX3_last 19 = .ok (.bipush (-9), 2) := by decide +kernel
theorem dX3_last_21 : decode cX3_last 21 = .ok (.ireturn, 1) := by decide +kernel
set_option maxRecDepth 20000 in
theorem ggX3_canStand_X3_make : GoodIn wsX3_canStand wsX3_make := goodIn_r _ [5, 6, 7, 8, 9, 10, 11, 12, 13, 14, 15, 16, 17, 18, 19, 20, 21, 22, 23, 32, 33, 34, 35, 36] (by decide +kernel) (by decide +kernel)
set_option maxRecDepth 20000 in
theorem gX3_canStand_X3_make : GoodIn wsX3_canStand (wsV RX3 36 RX3 yX3_make wsX3_make) := goodIn_app (goodIn_of _ (by decide +kernel)) ggX3_canStand_X3_make
set_option maxRecDepth 20000 in
theorem ggX3_canStand_X2_size : GoodIn wsX3_canStand wsX2_size := goodIn_r _ [12, 13, 35, 36] (by decide +kernel) (by decide +kernel)
set_option maxRecDepth 20000 in
theorem gX3_canStand_X2_size : GoodIn wsX3_canStand (wsV RX3 22 RX2 yX2_size wsX2_size) := goodIn_app (goodIn_of _ (by decide +kernel)) ggX3_canStand_X2_size
set_option maxRecDepth 20000 in
theorem ggX3_canStand_X2_at : GoodIn wsX3_canStand wsX2_at := goodIn_r _ [21, 22, 23, 15, 16, 11, 17, 13, 35, 36] (by decide +kernel) (by decide +kernel)
set_option maxRecDepth 20000 in
theorem gX3_canStand_X2_at : GoodIn wsX3_canStand (wsV RX3 32 RX2 yX2_at wsX2_at) := goodIn_app (goodIn_of _ (by decide +kernel)) ggX3_canStand_X2_at
set_option maxRecDepth 20000 in
theorem ggX3_canStand_X3_first : GoodIn wsX3_canStand wsX3_first := goodIn_r _ [27, 6, 32, 33, 34] (by decide +kernel) (by decide +kernel)
set_option maxRecDepth 20000 in
theorem gX3_canStand_X3_first : GoodIn wsX3_canStand (wsV RX3 40 RX3 yX3_first wsX3_first) := goodIn_app (goodIn_of _ (by decide +kernel)) ggX3_canStand_X3_first
set_option maxRecDepth 20000 in
theorem ggX3_canStand_X3_last : GoodIn wsX3_canStand wsX3_last := goodIn_r _ [31, 7, 32, 33, 34] (by decide +kernel) (by decide +kernel)
set_option maxRecDepth 20000 in
theorem gX3_canStand_X3_last : GoodIn wsX3_canStand (wsV RX3 43 RX3 yX3_last wsX3_last) := goodIn_app (goodIn_of _ (by decide +kernel)) ggX3_canStand_X3_last
theorem dX3_canStand_0 : decode cX3_canStand 0 = .ok (.aload_n 0, 1) := by decide +kernel
theorem dX3_canStand_1 : decode cX3_canStand 1 = .ok (.aload_n 1, 1) := by decide +kernel
theorem dX3_canStand_2 : decode cX3_canStand 2 = .ok (.aload_n 2, 1) := by decide +kernel
theorem dX3_canStand_3 : decode cX3_canStand 3 = .ok (.invokevirtual 36, 3) := by decide +kernel
theorem dX3_canStand_6 : decode cX3_canStand 6 = .ok (.ifCond .ne 5, 3) := by decide +kernel
theorem dX3_canStand_9 : decode cX3_canStand 9 = .ok (.iconst 0, 1) := by decide +kernel
theorem dX3_canStand_10 : decode cX3_canStand 10 = .ok (.ireturn, 1) := by decide +kernel
theorem dX3_canStand_11 : decode cX3_canStand 11 = .ok (.iconst 0, 1) := by decide +kernel
theorem dX3_canStand_12 : decode cX3_canStand 12 = .ok (.istore 4, 2) := by decide +kernel
theorem dX3_canStand_14 : decode cX3_canStand 14 = .ok (.iload 4, 2) := by decide +kernel
theorem dX3_canStand_16 : decode cX3_canStand 16 = .ok (.aload_n 1, 1) := by decide +kernel
theorem dX3_canStand_17 : decode cX3_canStand 17 = .ok (.invokevirtual 22, 3) := by decide +kernel
theorem dX3_canStand_20 : decode cX3_canStand 20 = .ok (.if_icmp .ge 45, 3) := by decide +kernel
theorem dX3_canStand_23 : decode cX3_canStand 23 = .ok (.aload_n 1, 1) := by decide +kernel
theorem dX3_canStand_24 : decode cX3_canStand 24 = .ok (.iload 4, 2) := by decide +kernel
theorem dX3_canStand_26 : decode cX3_canStand 26 = .ok (.invokevirtual 32, 3) := by decide +kernel
theorem dX3_canStand_29 : decode cX3_canStand 29 = .ok (.aload_n 2, 1) := by decide +kernel
theorem dX3_canStand_30 : decode cX3_canStand 30 = .ok (.iload_n 3, 1) := by decide +kernel
theorem dX3_canStand_31 : decode cX3_canStand 31 = .ok (.invokevirtual 32, 3) := by decide +kernel
theorem dX3_canStand_34 : decode cX3_canStand 34 = .ok (.if_icmp .ne 25, 3) := by decide +kernel
theorem dX3_canStand_37 : decode cX3_canStand 37 = .ok (.aload_n 0, 1) := by decide +kernel
theorem dX3_canStand_38 : decode cX3_canStand 38 = .ok (.iload 4, 2) := by decide +kernel
theorem dX3_canStand_40 : decode cX3_canStand 40 = .ok (.invokevirtual 40, 3) := by decide +kernel
theorem dX3_canStand_43 : decode cX3_canStand 43 = .ok (.iload_n 3, 1) := by decide +kernel
theorem dX3_canStand_44 : decode cX3_canStand 44 = .ok (.if_icmp .gt 15, 3) := by decide +kernel
theorem dX3_canStand_47 : decode cX3_canStand 47 = .ok (.iload_n 3, 1) := by decide +kernel
theorem dX3_canStand_48 : decode cX3_canStand 48 = .ok (.aload_n 0, 1) := by decide +kernel
theorem dX3_canStand_49 : decode cX3_canStand 49 = .ok (.iload 4, 2) := by decide +kernel
theorem dX3_canStand_51 : decode cX3_canStand 51 = .ok (.invokevirtual 43, 3) := by decide +kernel
theorem dX3_canStand_54 : decode cX3_canStand 54 = .ok (.if_icmp .gt 5, 3) := by decide +kernel
theorem dX3_canStand_57 : decode cX3_canStand 57 = .ok (.iconst 1, 1) := by decide +kernel
theorem dX3_canStand_58 : decode cX3_canStand 58 = .ok (.ireturn, 1) := by decide +kernel
theorem dX3_canStand_59 : decode cX3_canStand 59 = .ok (.iinc 4 1, 3) := by decide +kernel
theorem dX3_canStand_62 : decode cX3_canStand 62 = .ok (.goto (-48), 3) := by decide +kernel
theorem dX3_canStand_65 : decode cX3_canStand 65 = .ok (.iconst 0, 1) := by decide +kernel
theorem dX3_canStand_66 : decode cX3_canStand 66 = .ok (.ireturn, 1) := by decide +kernel
set_option maxRecDepth 20000 in
theorem ggX3_choices_X2_size : GoodIn wsX3_choices wsX2_size := goodIn_r _ [10, 11, 28, 29] (by decide +kernel) (by decide +kernel)
set_option maxRecDepth 20000 in
theorem gX3_choices_X2_size : GoodIn wsX3_choices (wsV RX3 22 RX2 yX2_size wsX2_size) := goodIn_app (goodIn_of _ (by decide +kernel)) ggX3_choices_X2_size
set_option maxRecDepth 20000 in
theorem ggX3_choices_J7_fill_d0a16 : GoodIn wsX3_choices wsJ7_fill_d0a16 := goodIn_r _ [15] (by decide +kernel) (by decide +kernel)
set_option maxRecDepth 20000 in
theorem gX3_choices_J7_fill_d0a16 : GoodIn wsX3_choices (va_wsS RX3 52 yJ7_fill_d0a16 wsJ7_fill_d0a16) := goodIn_app (goodIn_of _ (by decide +kernel)) ggX3_choices_J7_fill_d0a16
set_option maxRecDepth 20000 in
theorem ggX3_choices_X2_at : GoodIn wsX3_choices wsX2_at := goodIn_r _ [19, 20, 21, 22, 23, 9, 24, 11, 28, 29] (by decide +kernel) (by decide +kernel)
set_option maxRecDepth 20000 in
theorem gX3_choices_X2_at : GoodIn wsX3_choices (wsV RX3 32 RX2 yX2_at wsX2_at) := goodIn_app (goodIn_of _ (by decide +kernel)) ggX3_choices_X2_at
theorem dX3_choices_0 : decode cX3_choices 0 = .ok (.aload_n 1, 1) := by decide +kernel
theorem dX3_choices_1 : decode cX3_choices 1 = .ok (.invokevirtual 22, 3) := by decide +kernel
theorem dX3_choices_4 : decode cX3_choices 4 = .ok (.bipush 12, 2) := by decide +kernel
theorem dX3_choices_6 : decode cX3_choices 6 = .ok (.invokestatic 46, 3) := by decide +kernel
theorem dX3_choices_9 : decode cX3_choices 9 = .ok (.istore_n 3, 1) := by decide +kernel
theorem dX3_choices_10 : decode cX3_choices 10 = .ok (.aload_n 0, 1) := by decide +kernel
theorem dX3_choices_11 : decode cX3_choices 11 = .ok (.getfield 18, 3) := by decide +kernel
theorem dX3_choices_14 : decode cX3_choices 14 = .ok (.lconst 0, 1) := by decide +kernel
theorem dX3_choices_15 : decode cX3_choices 15 = .ok (.invokestatic 52, 3) := by decide +kernel
theorem dX3_choices_18 : decode cX3_choices 18 = .ok (.aload_n 0, 1) := by decide +kernel
theorem dX3_choices_19 : decode cX3_choices 19 = .ok (.getfield 18, 3) := by decide +kernel
theorem dX3_choices_22 : decode cX3_choices 22 = .ok (.iconst 0, 1) := by decide +kernel
theorem dX3_choices_23 : decode cX3_choices 23 = .ok (.lconst 1, 1) := by decide +kernel
theorem dX3_choices_24 : decode cX3_choices 24 = .ok (.lastore, 1) := by decide +kernel
theorem dX3_choices_25 : decode cX3_choices 25 = .ok (.iconst 0, 1) := by decide +kernel
theorem dX3_choices_26 : decode cX3_choices 26 = .ok (.istore 4, 2) := by decide +kernel
theorem dX3_choices_28 : decode cX3_choices 28 = .ok (.iload 4, 2) := by decide +kernel
theorem dX3_choices_30 : decode cX3_choices 30 = .ok (.aload_n 2, 1) := by decide +kernel
theorem dX3_choices_31 : decode cX3_choices 31 = .ok (.invokevirtual 22, 3) := by decide +kernel
theorem dX3_choices_34 : decode cX3_choices 34 = .ok (.if_icmp .ge 59, 3) := by decide +kernel
theorem dX3_choices_37 : decode cX3_choices 37 = .ok (.iload_n 3, 1) := by decide +kernel
theorem dX3_choices_38 : decode cX3_choices 38 = .ok (.istore 5, 2) := by decide +kernel
theorem dX3_choices_40 : decode cX3_choices 40 = .ok (.iload 5, 2) := by decide +kernel
theorem dX3_choices_42 : decode cX3_choices 42 = .ok (.ifCond .le 45, 3) := by decide +kernel
theorem dX3_choices_45 : decode cX3_choices 45 = .ok (.aload_n 1, 1) := by decide +kernel
theorem dX3_choices_46 : decode cX3_choices 46 = .ok (.iload 5, 2) := by decide +kernel
theorem dX3_choices_48 : decode cX3_choices 48 = .ok (.iconst 1, 1) := by decide +kernel
theorem dX3_choices_49 : decode cX3_choices 49 = .ok (.isub, 1) := by decide +kernel
theorem dX3_choices_50 : decode cX3_choices 50 = .ok (.invokevirtual 32, 3) := by decide +kernel
theorem dX3_choices_53 : decode cX3_choices 53 = .ok (.aload_n 2, 1) := by decide +kernel
theorem dX3_choices_54 : decode cX3_choices 54 = .ok (.iload 4, 2) := by decide +kernel
theorem dX3_choices_56 : decode cX3_choices 56 = .ok (.invokevirtual 32, 3) := by decide +kernel
theorem dX3_choices_59 : decode cX3_choices 59 = .ok (.if_icmp .ne 22, 3) := by decide +kernel
theorem dX3_choices_62 : decode cX3_choices 62 = .ok (.aload_n 0, 1) := by decide +kernel
theorem dX3_choices_63 : decode cX3_choices 63 = .ok (.getfield 18, 3) := by decide +kernel
theorem dX3_choices_66 : decode cX3_choices 66 = .ok (.iload 5, 2) := by decide +kernel
theorem dX3_choices_68 : decode cX3_choices 68 = .ok (.dup2, 1) := by decide +kernel
theorem dX3_choices_69 : decode cX3_choices 69 = .ok (.laload, 1) := by decide +kernel
theorem dX3_choices_70 : decode cX3_choices 70 = .ok (.aload_n 0, 1) := by decide +kernel
theorem dX3_choices_71 : decode cX3_choices 71 = .ok (.getfield 18, 3) := by decide +kernel
theorem dX3_choices_74 : decode cX3_choices 74 = .ok (.iload 5, 2) := by decide +kernel
theorem dX3_choices_76 : decode cX3_choices 76 = .ok (.iconst 1, 1) := by decide +kernel
theorem dX3_choices_77 : decode cX3_choices 77 = .ok (.isub, 1) := by decide +kernel
theorem dX3_choices_78 : decode cX3_choices 78 = .ok (.laload, 1) := by decide +kernel
theorem dX3_choices_79 : decode cX3_choices 79 = .ok (.ladd, 1) := by decide +kernel
theorem dX3_choices_80 : decode cX3_choices 80 = .ok (.lastore, 1) := by decide +kernel
theorem dX3_choices_81 : decode cX3_choices 81 = .ok (.iinc 5 (-1), 3) := by decide +kernel
theorem dX3_choices_84 : decode cX3_choices 84 = .ok (.goto (-44), 3) := by decide +kernel
theorem dX3_choices_87 : decode cX3_choices 87 = .ok (.iinc 4 1, 3) := by decide +kernel
theorem dX3_choices_90 : decode cX3_choices 90 = .ok (.goto (-62), 3) := by decide +kernel
theorem dX3_choices_93 : decode cX3_choices 93 = .ok (.aload_n 0, 1) := by decide +kernel
theorem dX3_choices_94 : decode cX3_choices 94 = .ok (.getfield 18, 3) := by decide +kernel
theorem dX3_choices_97 : decode cX3_choices 97 = .ok (.iload_n 3, 1) := by decide +kernel
theorem dX3_choices_98 : decode cX3_choices 98 = .ok (.laload, 1) := by decide +kernel
theorem dX3_choices_99 : decode cX3_choices 99 = .ok (.lreturn, 1) := by decide +kernel
theorem dX4_init_0 : decode cX4_init 0 = .ok (.aload_n 0, 1) := by decide +kernel
theorem dX4_init_1 : decode cX4_init 1 = .ok (.invokespecial 3, 3) := by decide +kernel
theorem dX4_init_4 : decode cX4_init 4 = .ok (.aload_n 0, 1) := by decide +kernel
theorem dX4_init_5 : decode cX4_init 5 = .ok (.sipush 169, 3) := by decide +kernel
theorem dX4_init_8 : decode cX4_init 8 = .ok (.newarray .long, 2) := by decide +kernel
theorem dX4_init_10 : decode cX4_init 10 = .ok (.putfield 9, 3) := by decide +kernel
theorem dX4_init_13 : decode cX4_init 13 = .ok (.return_, 1) := by decide +kernel
theorem dX5_init_0 : decode cX5_init 0 = .ok (.aload_n 0, 1) := by decide +kernel
theorem dX5_init_1 : decode cX5_init 1 = .ok (.invokespecial 3, 3) := by decide +kernel
theorem dX5_init_4 : decode cX5_init 4 = .ok (.aload_n 0, 1) := by decide +kernel
theorem dX5_init_5 : decode cX5_init 5 = .ok (.bipush 104, 2) := by decide +kernel
theorem dX5_init_7 : decode cX5_init 7 = .ok (.newarray .boolean, 2) := by decide +kernel
theorem dX5_init_9 : decode cX5_init 9 = .ok (.putfield 11, 3) := by decide +kernel
theorem dX5_init_12 : decode cX5_init 12 = .ok (.aload_n 0, 1) := by decide +kernel
theorem dX5_init_13 : decode cX5_init 13 = .ok (.iconst 2, 1) := by decide +kernel
theorem dX5_init_14 : decode cX5_init 14 = .ok (.newarray .int, 2) := by decide +kernel
theorem dX5_init_16 : decode cX5_init 16 = .ok (.putfield 15, 3) := by decide +kernel
theorem dX5_init_19 : decode cX5_init 19 = .ok (.return_, 1) := by decide +kernel
set_option maxRecDepth 20000 in
theorem ggX5_isSaid_X2_size : GoodIn wsX5_isSaid wsX2_size := goodIn_r _ [5, 6, 20, 21] (by decide +kernel) (by decide +kernel)
set_option maxRecDepth 20000 in
theorem gX5_isSaid_X2_size : GoodIn wsX5_isSaid (wsV RX5 19 RX2 yX2_size wsX2_size) := goodIn_app (goodIn_of _ (by decide +kernel)) ggX5_isSaid_X2_size
set_option maxRecDepth 20000 in
theorem ggX5_isSaid_X2_at : GoodIn wsX5_isSaid wsX2_at := goodIn_r _ [10, 11, 12, 13, 14, 4, 15, 6, 20, 21] (by decide +kernel) (by decide +kernel)
set_option maxRecDepth 20000 in
theorem gX5_isSaid_X2_at : GoodIn wsX5_isSaid (wsV RX5 25 RX2 yX2_at wsX2_at) := goodIn_app (goodIn_of _ (by decide +kernel)) ggX5_isSaid_X2_at
set_option maxRecDepth 20000 in
theorem ggX5_isSaid_X5_after : GoodIn wsX5_isSaid wsX5_after := goodIn_r _ [19] (by decide +kernel) (by decide +kernel)
set_option maxRecDepth 20000 in
theorem gX5_isSaid_X5_after : GoodIn wsX5_isSaid (va_wsS RX5 29 yX5_after wsX5_after) := goodIn_app (goodIn_of _ (by decide +kernel)) ggX5_isSaid_X5_after
theorem dX5_isSaid_0 : decode cX5_isSaid 0 = .ok (.iconst 0, 1) := by decide +kernel
theorem dX5_isSaid_1 : decode cX5_isSaid 1 = .ok (.istore_n 3, 1) := by decide +kernel
theorem dX5_isSaid_2 : decode cX5_isSaid 2 = .ok (.iconst 0, 1) := by decide +kernel
theorem dX5_isSaid_3 : decode cX5_isSaid 3 = .ok (.istore 4, 2) := by decide +kernel
theorem dX5_isSaid_5 : decode cX5_isSaid 5 = .ok (.iload 4, 2) := by decide +kernel
theorem dX5_isSaid_7 : decode cX5_isSaid 7 = .ok (.aload_n 0, 1) := by decide +kernel
theorem dX5_isSaid_8 : decode cX5_isSaid 8 = .ok (.invokevirtual 19, 3) := by decide +kernel
theorem dX5_isSaid_11 : decode cX5_isSaid 11 = .ok (.if_icmp .ge 22, 3) := by decide +kernel
theorem dX5_isSaid_14 : decode cX5_isSaid 14 = .ok (.iload_n 3, 1) := by decide +kernel
theorem dX5_isSaid_15 : decode cX5_isSaid 15 = .ok (.aload_n 0, 1) := by decide +kernel
theorem dX5_isSaid_16 : decode cX5_isSaid 16 = .ok (.iload 4, 2) := by decide +kernel
theorem dX5_isSaid_18 : decode cX5_isSaid 18 = .ok (.invokevirtual 25, 3) := by decide +kernel
theorem dX5_isSaid_21 : decode cX5_isSaid 21 = .ok (.aload_n 1, 1) := by decide +kernel
theorem dX5_isSaid_22 : decode cX5_isSaid 22 = .ok (.iload_n 2, 1) := by decide +kernel
theorem dX5_isSaid_23 : decode cX5_isSaid 23 = .ok (.invokestatic 29, 3) := by decide +kernel
theorem dX5_isSaid_26 : decode cX5_isSaid 26 = .ok (.istore_n 3, 1) := by decide +kernel
theorem dX5_isSaid_27 : decode cX5_isSaid 27 = .ok (.iinc 4 1, 3) := by decide +kernel
theorem dX5_isSaid_30 : decode cX5_isSaid 30 = .ok (.goto (-25), 3) := by decide +kernel
theorem dX5_isSaid_33 : decode cX5_isSaid 33 = .ok (.iload_n 3, 1) := by decide +kernel
theorem dX5_isSaid_34 : decode cX5_isSaid 34 = .ok (.iconst 1, 1) := by decide +kernel
theorem dX5_isSaid_35 : decode cX5_isSaid 35 = .ok (.iand, 1) := by decide +kernel
theorem dX5_isSaid_36 : decode cX5_isSaid 36 = .ok (.ifCond .eq 7, 3) := by decide +kernel
theorem dX5_isSaid_39 : decode cX5_isSaid 39 = .ok (.iconst 1, 1) := by decide +kernel
theorem dX5_isSaid_40 : decode cX5_isSaid 40 = .ok (.goto 4, 3) := by decide +kernel
theorem dX5_isSaid_43 : decode cX5_isSaid 43 = .ok (.iconst 0, 1) := by decide +kernel
theorem dX5_isSaid_44 : decode cX5_isSaid 44 = .ok (.ireturn, 1) := by decide +kernel
theorem dX5_after_0 : decode cX5_after 0 = .ok (.iload_n 1, 1) := by decide +kernel
theorem dX5_after_1 : decode cX5_after 1 = .ok (.ifCond .lt 9, 3) := by decide +kernel
theorem dX5_after_4 : decode cX5_after 4 = .ok (.iload_n 1, 1) := by decide +kernel
theorem dX5_after_5 : decode cX5_after 5 = .ok (.aload_n 2, 1) := by decide +kernel
theorem dX5_after_6 : decode cX5_after 6 = .ok (.arraylength, 1) := by decide +kernel
theorem dX5_after_7 : decode cX5_after 7 = .ok (.if_icmp .lt 5, 3) := by decide +kernel
theorem dX5_after_10 : decode cX5_after 10 = .ok (.iload_n 0, 1) := by decide +kernel
theorem dX5_after_11 : decode cX5_after 11 = .ok (.ireturn, 1) := by decide +kernel
theorem dX5_after_12 : decode cX5_after 12 = .ok (.aload_n 2, 1) := by decide +kernel
theorem dX5_after_13 : decode cX5_after 13 = .ok (.iload_n 1, 1) := by decide +kernel
theorem dX5_after_14 : decode cX5_after 14 = .ok (.iaload, 1) := by decide +kernel
theorem dX5_after_15 : decode cX5_after 15 = .ok (.ifCond .ne 36, 3) := by decide +kernel
theorem dX5_after_18 : decode cX5_after 18 = .ok (.iload_n 0, 1) := by decide +kernel
theorem dX5_after_19 : decode cX5_after 19 = .ok (.iconst 2, 1) := by decide +kernel
theorem dX5_after_20 : decode cX5_after 20 = .ok (.iand, 1) := by decide +kernel
theorem dX5_after_21 : decode cX5_after 21 = .ok (.ifCond .eq 7, 3) := by decide +kernel
theorem dX5_after_24 : decode cX5_after 24 = .ok (.iconst 1, 1) := by decide +kernel
theorem dX5_after_25 : decode cX5_after 25 = .ok (.goto 4, 3) := by decide +kernel
theorem dX5_after_28 : decode cX5_after 28 = .ok (.iconst 0, 1) := by decide +kernel
theorem dX5_after_29 : decode cX5_after 29 = .ok (.istore 4, 2) := by decide +kernel
theorem dX5_after_31 : decode cX5_after 31 = .ok (.iload_n 1, 1) := by decide +kernel
theorem dX5_after_32 : decode cX5_after 32 = .ok (.iload_n 3, 1) := by decide +kernel
theorem dX5_after_33 : decode cX5_after 33 = .ok (.if_icmp .ne 14, 3) := by decide +kernel
theorem dX5_after_36 : decode cX5_after 36 = .ok (.iload 4, 2) := by decide +kernel
theorem dX5_after_38 : decode cX5_after 38 = .ok (.ifCond .eq 7, 3) := by decide +kernel
theorem dX5_after_41 : decode cX5_after 41 = .ok (.iconst 4, 1) := by decide +kernel
theorem dX5_after_42 : decode cX5_after 42 = .ok (.goto 4, 3) := by decide +kernel
theorem dX5_after_45 : decode cX5_after 45 = .ok (.iconst 5, 1) := by decide +kernel
theorem dX5_after_46 : decode cX5_after 46 = .ok (.ireturn, 1) := by decide +kernel
theorem dX5_after_47 : decode cX5_after 47 = .ok (.iload_n 0, 1) := by decide +kernel
theorem dX5_after_48 : decode cX5_after 48 = .ok (.iconst 1, 1) := by decide +kernel
theorem dX5_after_49 : decode cX5_after 49 = .ok (.iand, 1) := by decide +kernel
theorem dX5_after_50 : decode cX5_after 50 = .ok (.ireturn, 1) := by decide +kernel
theorem dX5_after_51 : decode cX5_after 51 = .ok (.aload_n 2, 1) := by decide +kernel
theorem dX5_after_52 : decode cX5_after 52 = .ok (.iload_n 1, 1) := by decide +kernel
theorem dX5_after_53 : decode cX5_after 53 = .ok (.iaload, 1) := by decide +kernel
theorem dX5_after_54 : decode cX5_after 54 = .ok (.iconst 2, 1) := by decide +kernel
theorem dX5_after_55 : decode cX5_after 55 = .ok (.if_icmp .ne 13, 3) := by decide +kernel
theorem dX5_after_58 : decode cX5_after 58 = .ok (.iload_n 0, 1) := by decide +kernel
theorem dX5_after_59 : decode cX5_after 59 = .ok (.iconst 4, 1) := by decide +kernel
theorem dX5_after_60 : decode cX5_after 60 = .ok (.iand, 1) := by decide +kernel
theorem dX5_after_61 : decode cX5_after 61 = .ok (.ifCond .eq 7, 3) := by decide +kernel
theorem dX5_after_64 : decode cX5_after 64 = .ok (.iconst 1, 1) := by decide +kernel
theorem dX5_after_65 : decode cX5_after 65 = .ok (.goto 4, 3) := by decide +kernel
theorem dX5_after_68 : decode cX5_after 68 = .ok (.iconst 0, 1) := by decide +kernel
theorem dX5_after_69 : decode cX5_after 69 = .ok (.istore 4, 2) := by decide +kernel
theorem dX5_after_71 : decode cX5_after 71 = .ok (.iload 4, 2) := by decide +kernel
theorem dX5_after_73 : decode cX5_after 73 = .ok (.ifCond .eq 10, 3) := by decide +kernel
theorem dX5_after_76 : decode cX5_after 76 = .ok (.iload_n 0, 1) := by decide +kernel
theorem dX5_after_77 : decode cX5_after 77 = .ok (.bipush (-2), 2) := by decide +kernel
theorem dX5_after_79 : decode cX5_after 79 = .ok (.iand, 1) := by decide +kernel
theorem dX5_after_80 : decode cX5_after 80 = .ok (.goto 4, 3) := by decide +kernel
theorem dX5_after_83 : decode cX5_after 83 = .ok (.iload_n 0, 1) := by decide +kernel
theorem dX5_after_84 : decode cX5_after 84 = .ok (.iconst 2, 1) := by decide +kernel
theorem dX5_after_85 : decode cX5_after 85 = .ok (.ixor, 1) := by decide +kernel
theorem dX5_after_86 : decode cX5_after 86 = .ok (.ireturn, 1) := by decide +kernel
theorem dX6_init_0 : decode cX6_init 0 = .ok (.aload_n 0, 1) := by decide +kernel
theorem dX6_init_1 : decode cX6_init 1 = .ok (.invokespecial 3, 3) := by decide +kernel
theorem dX6_init_4 : decode cX6_init 4 = .ok (.aload_n 0, 1) := by decide +kernel
theorem dX6_init_5 : decode cX6_init 5 = .ok (.bipush 80, 2) := by decide +kernel
theorem dX6_init_7 : decode cX6_init 7 = .ok (.newarray .int, 2) := by decide +kernel
theorem dX6_init_9 : decode cX6_init 9 = .ok (.putfield 9, 3) := by decide +kernel
theorem dX6_init_12 : decode cX6_init 12 = .ok (.aload_n 0, 1) := by decide +kernel
theorem dX6_init_13 : decode cX6_init 13 = .ok (.iconst (-1), 1) := by decide +kernel
theorem dX6_init_14 : decode cX6_init 14 = .ok (.putfield 15, 3) := by decide +kernel
theorem dX6_init_17 : decode cX6_init 17 = .ok (.aload_n 0, 1) := by decide +kernel
theorem dX6_init_18 : decode cX6_init 18 = .ok (.iconst 0, 1) := by decide +kernel
theorem dX6_init_19 : decode cX6_init 19 = .ok (.putfield 19, 3) := by decide +kernel
theorem dX6_init_22 : decode cX6_init 22 = .ok (.return_, 1) := by decide +kernel
theorem dX6_isNothing_0 : decode cX6_isNothing 0 = .ok (.aload_n 0, 1) := by decide +kernel
theorem dX6_isNothing_1 : decode cX6_isNothing 1 = .ok (.getfield 15, 3) := by decide +kernel
theorem dX6_isNothing_4 : decode cX6_isNothing 4 = .ok (.iconst (-1), 1) := by decide +kernel
theorem dX6_isNothing_5 : decode cX6_isNothing 5 = .ok (.if_icmp .ne 7, 3) := by decide +kernel
theorem dX6_isNothing_8 : decode cX6_isNothing 8 = .ok (.iconst 1, 1) := by decide +kernel
theorem dX6_isNothing_9 : decode cX6_isNothing 9 = .ok (.goto 4, 3) := by decide +kernel
theorem dX6_isNothing_12 : decode cX6_isNothing 12 = .ok (.iconst 0, 1) := by decide +kernel
theorem dX6_isNothing_13 : decode cX6_isNothing 13 = .ok (.ireturn, 1) := by decide +kernel
theorem dX6_sort_0 : decode cX6_sort 0 = .ok (.aload_n 0, 1) := by decide +kernel
theorem dX6_sort_1 : decode cX6_sort 1 = .ok (.getfield 19, 3) := by decide +kernel
theorem dX6_sort_4 : decode cX6_sort 4 = .ok (.ireturn, 1) := by decide +kernel
set_option maxRecDepth 20000 in
theorem ggX6_renew_J7_fill_53178 : GoodIn wsX6_renew wsJ7_fill_53178 := goodIn_r _ [7] (by decide +kernel) (by decide +kernel)
set_option maxRecDepth 20000 in
theorem gX6_renew_J7_fill_53178 : GoodIn wsX6_renew (va_wsS RX6 22 yJ7_fill_53178 wsJ7_fill_53178) := goodIn_app (goodIn_of _ (by decide +kernel)) ggX6_renew_J7_fill_53178
theorem dX6_renew_0 : decode cX6_renew 0 = .ok (.iload_n 2, 1) := by decide +kernel
theorem dX6_renew_1 : decode cX6_renew 1 = .ok (.ifCond .lt 9, 3) := by decide +kernel
theorem dX6_renew_4 : decode cX6_renew 4 = .ok (.iload_n 2, 1) := by decide +kernel
theorem dX6_renew_5 : decode cX6_renew 5 = .ok (.bipush 80, 2) := by decide +kernel
theorem dX6_renew_7 : decode cX6_renew 7 = .ok (.if_icmp .le 4, 3) := by decide +kernel
theorem dX6_renew_10 : decode cX6_renew 10 = .ok (.return_, 1) := by decide +kernel
theorem dX6_renew_11 : decode cX6_renew 11 = .ok (.aload_n 0, 1) := by decide +kernel
theorem dX6_renew_12 : decode cX6_renew 12 = .ok (.getfield 9, 3) := by decide +kernel
theorem dX6_renew_15 : decode cX6_renew 15 = .ok (.iconst 0, 1) := by decide +kernel
theorem dX6_renew_16 : decode cX6_renew 16 = .ok (.invokestatic 22, 3) := by decide +kernel
theorem dX6_renew_19 : decode cX6_renew 19 = .ok (.aload_n 0, 1) := by decide +kernel
theorem dX6_renew_20 : decode cX6_renew 20 = .ok (.iload_n 2, 1) := by decide +kernel
theorem dX6_renew_21 : decode cX6_renew 21 = .ok (.putfield 15, 3) := by decide +kernel
theorem dX6_renew_24 : decode cX6_renew 24 = .ok (.aload_n 0, 1) := by decide +kernel
theorem dX6_renew_25 : decode cX6_renew 25 = .ok (.iload_n 1, 1) := by decide +kernel
theorem dX6_renew_26 : decode cX6_renew 26 = .ok (.putfield 19, 3) := by decide +kernel
theorem dX6_renew_29 : decode cX6_renew 29 = .ok (.return_, 1) := by decide +kernel
theorem dX6_hasCells_0 : decode cX6_hasCells 0 = .ok (.iload_n 1, 1) := by decide +kernel
theorem dX6_hasCells_1 : decode cX6_hasCells 1 = .ok (.ifCond .lt 25, 3) := by decide +kernel
theorem dX6_hasCells_4 : decode cX6_hasCells 4 = .ok (.iload_n 2, 1) := by decide +kernel
theorem dX6_hasCells_5 : decode cX6_hasCells 5 = .ok (.ifCond .lt 21, 3) := by decide +kernel
theorem dX6_hasCells_8 : decode cX6_hasCells 8 = .ok (.iload_n 1, 1) := by decide +kernel
theorem dX6_hasCells_9 : decode cX6_hasCells 9 = .ok (.i2l, 1) := by decide +kernel
theorem dX6_hasCells_10 : decode cX6_hasCells 10 = .ok (.iload_n 2, 1) := by decide +kernel
theorem dX6_hasCells_11 : decode cX6_hasCells 11 = .ok (.i2l, 1) := by decide +kernel
theorem dX6_hasCells_12 : decode cX6_hasCells 12 = .ok (.ladd, 1) := by decide +kernel
theorem dX6_hasCells_13 : decode cX6_hasCells 13 = .ok (.aload_n 0, 1) := by decide +kernel
theorem dX6_hasCells_14 : decode cX6_hasCells 14 = .ok (.getfield 15, 3) := by decide +kernel
theorem dX6_hasCells_17 : decode cX6_hasCells 17 = .ok (.i2l, 1) := by decide +kernel
theorem dX6_hasCells_18 : decode cX6_hasCells 18 = .ok (.lcmp, 1) := by decide +kernel
theorem dX6_hasCells_19 : decode cX6_hasCells 19 = .ok (.ifCond .gt 7, 3) := by decide +kernel
theorem dX6_hasCells_22 : decode cX6_hasCells 22 = .ok (.iconst 1, 1) := by decide +kernel
theorem dX6_hasCells_23 : decode cX6_hasCells 23 = .ok (.goto 4, 3) := by decide +kernel
theorem dX6_hasCells_26 : decode cX6_hasCells 26 = .ok (.iconst 0, 1) := by decide +kernel
theorem dX6_hasCells_27 : decode cX6_hasCells 27 = .ok (.ireturn, 1) := by decide +kernel
set_option maxRecDepth 20000 in
theorem ggX6_at_X6_hasCells : GoodIn wsX6_at wsX6_hasCells := goodIn_r _ [6, 7, 8, 9, 10] (by decide +kernel) (by decide +kernel)
set_option maxRecDepth 20000 in
theorem gX6_at_X6_hasCells : GoodIn wsX6_at (wsV RX6 28 RX6 yX6_hasCells wsX6_hasCells) := goodIn_app (goodIn_of _ (by decide +kernel)) ggX6_at_X6_hasCells
theorem dX6_at_0 : decode cX6_at 0 = .ok (.aload_n 0, 1) := by decide +kernel
theorem dX6_at_1 : decode cX6_at 1 = .ok (.iload_n 1, 1) := by decide +kernel
theorem dX6_at_2 : decode cX6_at 2 = .ok (.iconst 1, 1) := by decide +kernel
theorem dX6_at_3 : decode cX6_at 3 = .ok (.invokevirtual 28, 3) := by decide +kernel
theorem dX6_at_6 : decode cX6_at 6 = .ok (.ifCond .eq 12, 3) := by decide +kernel
theorem dX6_at_9 : decode cX6_at 9 = .ok (.aload_n 0, 1) := by decide +kernel
theorem dX6_at_10 : decode cX6_at 10 = .ok (.getfield 9, 3) := by decide +kernel
theorem dX6_at_13 : decode cX6_at 13 = .ok (.iload_n 1, 1) := by decide +kernel
theorem dX6_at_14 : decode cX6_at 14 = .ok (.iaload, 1) := by decide +kernel
theorem dX6_at_15 : decode cX6_at 15 = .ok (.goto 4, 3) := by decide +kernel
theorem dX6_at_18 : decode cX6_at 18 = .ok (.iconst 0, 1) := by decide +kernel
theorem dX6_at_19 : decode cX6_at 19 = .ok (.ireturn, 1) := by decide +kernel
set_option maxRecDepth 20000 in
theorem ggX6_write_X6_hasCells : GoodIn wsX6_write wsX6_hasCells := goodIn_r _ [6, 7, 13, 14, 15] (by decide +kernel) (by decide +kernel)
set_option maxRecDepth 20000 in
theorem gX6_write_X6_hasCells : GoodIn wsX6_write (wsV RX6 28 RX6 yX6_hasCells wsX6_hasCells) := goodIn_app (goodIn_of _ (by decide +kernel)) ggX6_write_X6_hasCells
set_option maxRecDepth 20000 in
theorem ggX6_write_X6_cut : GoodIn wsX6_write wsX6_cut := goodIn_r _ [11, 12, 13, 14, 15] (by decide +kernel) (by decide +kernel)
set_option maxRecDepth 20000 in
theorem gX6_write_X6_cut : GoodIn wsX6_write (wsV RX6 32 RX6 yX6_cut wsX6_cut) := goodIn_app (goodIn_of _ (by decide +kernel)) ggX6_write_X6_cut
theorem dX6_write_0 : decode cX6_write 0 = .ok (.aload_n 0, 1) := by decide +kernel
theorem dX6_write_1 : decode cX6_write 1 = .ok (.iload_n 1, 1) := by decide +kernel
theorem dX6_write_2 : decode cX6_write 2 = .ok (.iconst 1, 1) := by decide +kernel
theorem dX6_write_3 : decode cX6_write 3 = .ok (.invokevirtual 28, 3) := by decide +kernel
theorem dX6_write_6 : decode cX6_write 6 = .ok (.ifCond .eq 14, 3) := by decide +kernel
theorem dX6_write_9 : decode cX6_write 9 = .ok (.aload_n 0, 1) := by decide +kernel
theorem dX6_write_10 : decode cX6_write 10 = .ok (.getfield 9, 3) := by decide +kernel
theorem dX6_write_13 : decode cX6_write 13 = .ok (.iload_n 1, 1) := by decide +kernel
theorem dX6_write_14 : decode cX6_write 14 = .ok (.aload_n 0, 1) := by decide +kernel
theorem dX6_write_15 : decode cX6_write 15 = .ok (.iload_n 2, 1) := by decide +kernel
theorem dX6_write_16 : decode cX6_write 16 = .ok (.invokevirtual 32, 3) := by decide +kernel
theorem dX6_write_19 : decode cX6_write 19 = .ok (.iastore, 1) := by decide +kernel
theorem dX6_write_20 : decode cX6_write 20 = .ok (.return_, 1) := by decide +kernel
theorem dX6_cut_0 : decode cX6_cut 0 = .ok (.aload_n 0, 1) := by decide +kernel
theorem dX6_cut_1 : decode cX6_cut 1 = .ok (.getfield 19, 3) := by decide +kernel
theorem dX6_cut_4 : decode cX6_cut 4 = .ok (.ifCond .ne 6, 3) := by decide +kernel
theorem dX6_cut_7 : decode cX6_cut 7 = .ok (.iload_n 1, 1) := by decide +kernel
theorem dX6_cut_8 : decode cX6_cut 8 = .ok (.i2b, 1) := by decide +kernel
theorem dX6_cut_9 : decode cX6_cut 9 = .ok (.ireturn, 1) := by decide +kernel
theorem dX6_cut_10 : decode cX6_cut 10 = .ok (.aload_n 0, 1) := by decide +kernel
theorem dX6_cut_11 : decode cX6_cut 11 = .ok (.getfield 19, 3) := by decide +kernel
theorem dX6_cut_14 : decode cX6_cut 14 = .ok (.iconst 1, 1) := by decide +kernel
theorem dX6_cut_15 : decode cX6_cut 15 = .ok (.if_icmp .ne 8, 3) := by decide +kernel
theorem dX6_cut_18 : decode cX6_cut 18 = .ok (.iload_n 1, 1) := by decide +kernel
theorem dX6_cut_19 : decode cX6_cut 19 = .ok (.i2s, 1) := by decide +kernel
theorem dX6_cut_20 : decode cX6_cut 20 = .ok (.goto 4, 3) := by decide +kernel
theorem dX6_cut_23 : decode cX6_cut 23 = .ok (.iload_n 1, 1) := by decide +kernel
theorem dX6_cut_24 : decode cX6_cut 24 = .ok (.ireturn, 1) := by decide +kernel
set_option maxRecDepth 20000 in
theorem ggX7_init_X4_init : GoodIn wsX7_init wsX4_init := goodIn_r _ [10, 11, 2, 3, 12, 13, 14] (by decide +kernel) (by decide +kernel)
set_option maxRecDepth 20000 in
theorem gX7_init_X4_init_n11 : GoodIn wsX7_init (wsX4_init) := ggX7_init_X4_init
theorem dX7_init_0 : decode cX7_init 0 = .ok (.aload_n 0, 1) := by decide +kernel
theorem dX7_init_1 : decode cX7_init 1 = .ok (.invokespecial 3, 3) := by decide +kernel
theorem dX7_init_4 : decode cX7_init 4 = .ok (.aload_n 0, 1) := by decide +kernel
theorem dX7_init_5 : decode cX7_init 5 = .ok (.new 9, 3) := by decide +kernel
theorem dX7_init_8 : decode cX7_init 8 = .ok (.dup, 1) := by decide +kernel
theorem dX7_init_9 : decode cX7_init 9 = .ok (.invokespecial 11, 3) := by decide +kernel
theorem dX7_init_12 : decode cX7_init 12 = .ok (.putfield 12, 3) := by decide +kernel
theorem dX7_init_15 : decode cX7_init 15 = .ok (.aload_n 0, 1) := by decide +kernel
theorem dX7_init_16 : decode cX7_init 16 = .ok (.new 9, 3) := by decide +kernel
theorem dX7_init_19 : decode cX7_init 19 = .ok (.dup, 1) := by decide +kernel
theorem dX7_init_20 : decode cX7_init 20 = .ok (.invokespecial 11, 3) := by decide +kernel
theorem dX7_init_23 : decode cX7_init 23 = .ok (.putfield 18, 3) := by decide +kernel
theorem dX7_init_26 : decode cX7_init 26 = .ok (.return_, 1) := by decide +kernel
set_option maxRecDepth 20000 in
theorem ggX8_init_X2_init : GoodIn wsX8_init wsX2_init := goodIn_r _ [40, 41, 2, 3, 4, 42, 43, 100, 101] (by decide +kernel) (by decide +kernel)
set_option maxRecDepth 20000 in
theorem gX8_init_X2_init_n27 : GoodIn wsX8_init (wsX2_init) := ggX8_init_X2_init
set_option maxRecDepth 20000 in
theorem ggX8_init_X3_init : GoodIn wsX8_init wsX3_init := goodIn_r _ [45, 46, 2, 3, 4, 47, 48, 49, 50, 102, 103, 104] (by decide +kernel) (by decide +kernel)
set_option maxRecDepth 20000 in
theorem gX8_init_X3_init_n34 : GoodIn wsX8_init (wsX3_init) := ggX8_init_X3_init
set_option maxRecDepth 20000 in
theorem ggX8_init_X5_init : GoodIn wsX8_init wsX5_init := goodIn_r _ [52, 53, 2, 3, 54, 55, 4, 56, 105, 106] (by decide +kernel) (by decide +kernel)
set_option maxRecDepth 20000 in
theorem gX8_init_X5_init_n41 : GoodIn wsX8_init (wsX5_init) := ggX8_init_X5_init
set_option maxRecDepth 20000 in
theorem ggX8_init_X7_init : GoodIn wsX8_init wsX7_init := goodIn_r _ [58, 59, 2, 3, 60, 61, 62, 63, 64, 65, 66, 67, 49, 68, 116, 107, 108] (by decide +kernel) (by decide +kernel)
set_option maxRecDepth 20000 in
theorem gX8_init_X7_init_n48 : GoodIn wsX8_init (wsX7_init) := ggX8_init_X7_init
set_option maxRecDepth 20000 in
theorem ggX8_init_X1_init : GoodIn wsX8_init wsX1_init := goodIn_r _ [70, 71, 2, 3, 72, 61, 62, 73, 74, 65, 66, 67, 49, 68, 116, 109, 110] (by decide +kernel) (by decide +kernel)
set_option maxRecDepth 20000 in
theorem gX8_init_X1_init_n55 : GoodIn wsX8_init (wsX1_init) := ggX8_init_X1_init
set_option maxRecDepth 20000 in
theorem ggX8_init_X0_init : GoodIn wsX8_init wsX0_init := goodIn_r _ [76, 77, 2, 3, 78, 61, 62, 79, 80, 65, 66, 67, 49, 68, 116, 111, 112] (by decide +kernel) (by decide +kernel)
set_option maxRecDepth 20000 in
theorem gX8_init_X0_init_n62 : GoodIn wsX8_init (wsX0_init) := ggX8_init_X0_init
set_option maxRecDepth 20000 in
theorem ggX8_init_X6_init : GoodIn wsX8_init wsX6_init := goodIn_r _ [82, 83, 2, 3, 4, 84, 85, 86, 113, 114, 115] (by decide +kernel) (by decide +kernel)
set_option maxRecDepth 20000 in
theorem gX8_init_X6_init_n80 : GoodIn wsX8_init (wsX6_init) := ggX8_init_X6_init
theorem dX8_init_0 : decode cX8_init 0 = .ok (.aload_n 0, 1) := by decide +kernel
theorem dX8_init_1 : decode cX8_init 1 = .ok (.invokespecial 5, 3) := by decide +kernel
theorem dX8_init_4 : decode cX8_init 4 = .ok (.aload_n 0, 1) := by decide +kernel
theorem dX8_init_5 : decode cX8_init 5 = .ok (.bipush 8, 2) := by decide +kernel
theorem dX8_init_7 : decode cX8_init 7 = .ok (.newarray .int, 2) := by decide +kernel
theorem dX8_init_9 : decode cX8_init 9 = .ok (.putfield 11, 3) := by decide +kernel
theorem dX8_init_12 : decode cX8_init 12 = .ok (.aload_n 0, 1) := by decide +kernel
theorem dX8_init_13 : decode cX8_init 13 = .ok (.bipush 6, 2) := by decide +kernel
theorem dX8_init_15 : decode cX8_init 15 = .ok (.anewarray 15, 3) := by decide +kernel
theorem dX8_init_18 : decode cX8_init 18 = .ok (.putfield 17, 3) := by decide +kernel
theorem dX8_init_21 : decode cX8_init 21 = .ok (.aload_n 0, 1) := by decide +kernel
theorem dX8_init_22 : decode cX8_init 22 = .ok (.iconst 4, 1) := by decide +kernel
theorem dX8_init_23 : decode cX8_init 23 = .ok (.anewarray 21, 3) := by decide +kernel
theorem dX8_init_26 : decode cX8_init 26 = .ok (.putfield 23, 3) := by decide +kernel
theorem dX8_init_29 : decode cX8_init 29 = .ok (.aload_n 0, 1) := by decide +kernel
theorem dX8_init_30 : decode cX8_init 30 = .ok (.new 15, 3) := by decide +kernel
theorem dX8_init_33 : decode cX8_init 33 = .ok (.dup, 1) := by decide +kernel
theorem dX8_init_34 : decode cX8_init 34 = .ok (.invokespecial 27, 3) := by decide +kernel
theorem dX8_init_37 : decode cX8_init 37 = .ok (.putfield 28, 3) := by decide +kernel
theorem dX8_init_40 : decode cX8_init 40 = .ok (.aload_n 0, 1) := by decide +kernel
theorem dX8_init_41 : decode cX8_init 41 = .ok (.new 32, 3) := by decide +kernel
theorem dX8_init_44 : decode cX8_init 44 = .ok (.dup, 1) := by decide +kernel
theorem dX8_init_45 : decode cX8_init 45 = .ok (.invokespecial 34, 3) := by decide +kernel
theorem dX8_init_48 : decode cX8_init 48 = .ok (.putfield 35, 3) := by decide +kernel
theorem dX8_init_51 : decode cX8_init 51 = .ok (.aload_n 0, 1) := by decide +kernel
theorem dX8_init_52 : decode cX8_init 52 = .ok (.new 39, 3) := by decide +kernel
theorem dX8_init_55 : decode cX8_init 55 = .ok (.dup, 1) := by decide +kernel
theorem dX8_init_56 : decode cX8_init 56 = .ok (.invokespecial 41, 3) := by decide +kernel
theorem dX8_init_59 : decode cX8_init 59 = .ok (.putfield 42, 3) := by decide +kernel
theorem dX8_init_62 : decode cX8_init 62 = .ok (.aload_n 0, 1) := by decide +kernel
theorem dX8_init_63 : decode cX8_init 63 = .ok (.new 46, 3) := by decide +kernel
theorem dX8_init_66 : decode cX8_init 66 = .ok (.dup, 1) := by decide +kernel
theorem dX8_init_67 : decode cX8_init 67 = .ok (.invokespecial 48, 3) := by decide +kernel
theorem dX8_init_70 : decode cX8_init 70 = .ok (.putfield 49, 3) := by decide +kernel
theorem dX8_init_73 : decode cX8_init 73 = .ok (.aload_n 0, 1) := by decide +kernel
theorem dX8_init_74 : decode cX8_init 74 = .ok (.new 53, 3) := by decide +kernel
theorem dX8_init_77 : decode cX8_init 77 = .ok (.dup, 1) := by decide +kernel
theorem dX8_init_78 : decode cX8_init 78 = .ok (.invokespecial 55, 3) := by decide +kernel
theorem dX8_init_81 : decode cX8_init 81 = .ok (.putfield 56, 3) := by decide +kernel
theorem dX8_init_84 : decode cX8_init 84 = .ok (.aload_n 0, 1) := by decide +kernel
theorem dX8_init_85 : decode cX8_init 85 = .ok (.new 60, 3) := by decide +kernel
theorem dX8_init_88 : decode cX8_init 88 = .ok (.dup, 1) := by decide +kernel
theorem dX8_init_89 : decode cX8_init 89 = .ok (.invokespecial 62, 3) := by decide +kernel
theorem dX8_init_92 : decode cX8_init 92 = .ok (.putfield 63, 3) := by decide +kernel
theorem dX8_init_95 : decode cX8_init 95 = .ok (.aload_n 0, 1) := by decide +kernel
theorem dX8_init_96 : decode cX8_init 96 = .ok (.bipush 13, 2) := by decide +kernel
theorem dX8_init_98 : decode cX8_init 98 = .ok (.newarray .int, 2) := by decide +kernel
theorem dX8_init_100 : decode cX8_init 100 = .ok (.putfield 67, 3) := by decide +kernel
theorem dX8_init_103 : decode cX8_init 103 = .ok (.aload_n 0, 1) := by decide +kernel
theorem dX8_init_104 : decode cX8_init 104 = .ok (.iconst 0, 1) := by decide +kernel
theorem dX8_init_105 : decode cX8_init 105 = .ok (.putfield 70, 3) := by decide +kernel
theorem dX8_init_108 : decode cX8_init 108 = .ok (.aload_n 0, 1) := by decide +kernel
theorem dX8_init_109 : decode cX8_init 109 = .ok (.iconst 0, 1) := by decide +kernel
theorem dX8_init_110 : decode cX8_init 110 = .ok (.putfield 74, 3) := by decide +kernel
theorem dX8_init_113 : decode cX8_init 113 = .ok (.aload_n 0, 1) := by decide +kernel
end
section
theorem dX8_init_114 : decode cX8_init 114 = .ok (.iconst 0, 1) := by decide +kernel
theorem dX8_init_115 : decode cX8_init 115 = .ok (.putfield 77, 3) := by decide +kernel
theorem dX8_init_118 : decode cX8_init 118 = .ok (.iconst 0, 1) := by decide +kernel
theorem dX8_init_119 : decode cX8_init 119 = .ok (.istore_n 1, 1) := by decide +kernel
theorem dX8_init_120 : decode cX8_init 120 = .ok (.iload_n 1, 1) := by decide +kernel
theorem dX8_init_121 : decode cX8_init 121 = .ok (.bipush 6, 2) := by decide +kernel
theorem dX8_init_123 : decode cX8_init 123 = .ok (.if_icmp .ge 22, 3) := by decide +kernel
theorem dX8_init_126 : decode cX8_init 126 = .ok (.aload_n 0, 1) := by decide +kernel
theorem dX8_init_127 : decode cX8_init 127 = .ok (.getfield 17, 3) := by decide +kernel
theorem dX8_init_130 : decode cX8_init 130 = .ok (.iload_n 1, 1) := by decide +kernel
theorem dX8_init_131 : decode cX8_init 131 = .ok (.new 15, 3) := by decide +kernel
theorem dX8_init_134 : decode cX8_init 134 = .ok (.dup, 1) := by decide +kernel
theorem dX8_init_135 : decode cX8_init 135 = .ok (.invokespecial 27, 3) := by decide +kernel
theorem dX8_init_138 : decode cX8_init 138 = .ok (.aastore, 1) := by decide +kernel
theorem dX8_init_139 : decode cX8_init 139 = .ok (.iinc 1 1, 3) := by decide +kernel
theorem dX8_init_142 : decode cX8_init 142 = .ok (.goto (-22), 3) := by decide +kernel
theorem dX8_init_145 : decode cX8_init 145 = .ok (.iconst 0, 1) := by decide +kernel
theorem dX8_init_146 : decode cX8_init 146 = .ok (.istore_n 1, 1) := by decide +kernel
theorem dX8_init_147 : decode cX8_init 147 = .ok (.iload_n 1, 1) := by decide +kernel
theorem dX8_init_148 : decode cX8_init 148 = .ok (.iconst 4, 1) := by decide +kernel
theorem dX8_init_149 : decode cX8_init 149 = .ok (.if_icmp .ge 22, 3) := by decide +kernel
theorem dX8_init_152 : decode cX8_init 152 = .ok (.aload_n 0, 1) := by decide +kernel
theorem dX8_init_153 : decode cX8_init 153 = .ok (.getfield 23, 3) := by decide +kernel
theorem dX8_init_156 : decode cX8_init 156 = .ok (.iload_n 1, 1) := by decide +kernel
theorem dX8_init_157 : decode cX8_init 157 = .ok (.new 21, 3) := by decide +kernel
theorem dX8_init_160 : decode cX8_init 160 = .ok (.dup, 1) := by decide +kernel
theorem dX8_init_161 : decode cX8_init 161 = .ok (.invokespecial 80, 3) := by decide +kernel
theorem dX8_init_164 : decode cX8_init 164 = .ok (.aastore, 1) := by decide +kernel
theorem dX8_init_165 : decode cX8_init 165 = .ok (.iinc 1 1, 3) := by decide +kernel
theorem dX8_init_168 : decode cX8_init 168 = .ok (.goto (-21), 3) := by decide +kernel
theorem dX8_init_171 : decode cX8_init 171 = .ok (.return_, 1) := by decide +kernel
set_option maxRecDepth 20000 in
theorem ggX8_cries_X8_sheetOf : GoodIn wsX8_cries wsX8_sheetOf := goodIn_r _ [7, 8, 82, 83, 84, 85, 86, 87, 88, 89, 90, 91, 92, 93, 94] (by decide +kernel) (by decide +kernel)
set_option maxRecDepth 20000 in
theorem gX8_cries_X8_sheetOf : GoodIn wsX8_cries (wsV RX8 81 RX8 yX8_sheetOf wsX8_sheetOf) := goodIn_app (goodIn_of _ (by decide +kernel)) ggX8_cries_X8_sheetOf
set_option maxRecDepth 20000 in
theorem ggX8_cries_X8_isSort : GoodIn wsX8_cries wsX8_isSort := goodIn_r _ [11] (by decide +kernel) (by decide +kernel)
set_option maxRecDepth 20000 in
theorem gX8_cries_X8_isSort : GoodIn wsX8_cries (va_wsS RX8 85 yX8_isSort wsX8_isSort) := goodIn_app (goodIn_of _ (by decide +kernel)) ggX8_cries_X8_isSort
set_option maxRecDepth 20000 in
theorem ggX8_cries_X8_readingFault : GoodIn wsX8_cries wsX8_readingFault := goodIn_r _ [14, 15, 16, 17, 18, 19, 20, 21, 22, 23, 24, 25, 95, 96, 97] (by decide +kernel) (by decide +kernel)
set_option maxRecDepth 20000 in
theorem gX8_cries_X8_readingFault : GoodIn wsX8_cries (va_wsS RX8 89 yX8_readingFault wsX8_readingFault) := goodIn_app (goodIn_of _ (by decide +kernel)) ggX8_cries_X8_readingFault
set_option maxRecDepth 20000 in
theorem ggX8_cries_X8_fails : GoodIn wsX8_cries wsX8_fails := goodIn_r _ [29, 1, 82, 83, 84, 85, 86, 87, 88, 89, 90, 91, 92, 93, 94] (by decide +kernel) (by decide +kernel)
set_option maxRecDepth 20000 in
theorem gX8_cries_X8_fails : GoodIn wsX8_cries (wsV RX8 93 RX8 yX8_fails wsX8_fails) := goodIn_app (goodIn_of _ (by decide +kernel)) ggX8_cries_X8_fails
set_option maxRecDepth 20000 in
theorem ggX8_cries_X6_hasCells : GoodIn wsX8_cries wsX6_hasCells := goodIn_r _ [33, 20, 95, 96, 97] (by decide +kernel) (by decide +kernel)
set_option maxRecDepth 20000 in
theorem gX8_cries_X6_hasCells : GoodIn wsX8_cries (wsV RX8 97 RX6 yX6_hasCells wsX6_hasCells) := goodIn_app (goodIn_of _ (by decide +kernel)) ggX8_cries_X6_hasCells
set_option maxRecDepth 20000 in
theorem ggX8_cries_X8_firstFaultOf : GoodIn wsX8_cries wsX8_firstFaultOf := goodIn_r _ [36, 37, 38, 39, 18, 40, 41, 42, 31, 32, 33, 20, 43, 44, 6, 45, 95, 96, 97] (by decide +kernel) (by decide +kernel)
set_option maxRecDepth 20000 in
theorem gX8_cries_X8_firstFaultOf : GoodIn wsX8_cries (va_wsS RX8 101 yX8_firstFaultOf wsX8_firstFaultOf) := goodIn_app (goodIn_of _ (by decide +kernel)) ggX8_cries_X8_firstFaultOf
set_option maxRecDepth 20000 in
theorem ggX8_cries_X8_takeText : GoodIn wsX8_cries wsX8_takeText := goodIn_r _ [49, 2, 50, 51, 52, 6, 53, 54, 55, 56, 57, 58, 59, 60, 61, 62, 63, 64, 65, 66, 67, 68, 37, 38, 39, 18, 40, 41, 42, 31, 32, 33, 20, 43, 44, 45, 69, 70, 71, 72, 73, 74, 75, 76, 77, 78, 79, 80, 81, 82, 83, 84, 85, 86, 87, 88, 89, 90, 91, 92, 93, 94, 98, 99, 95, 96, 97] (by decide +kernel) (by decide +kernel)
set_option maxRecDepth 20000 in
theorem gX8_cries_X8_takeText : GoodIn wsX8_cries (wsV RX8 105 RX8 yX8_takeText wsX8_takeText) := goodIn_app (goodIn_of _ (by decide +kernel)) ggX8_cries_X8_takeText
theorem dX8_cries_0 : decode cX8_cries 0 = .ok (.aload_n 0, 1) := by decide +kernel
theorem dX8_cries_1 : decode cX8_cries 1 = .ok (.iconst 0, 1) := by decide +kernel
theorem dX8_cries_2 : decode cX8_cries 2 = .ok (.putfield 77, 3) := by decide +kernel
theorem dX8_cries_5 : decode cX8_cries 5 = .ok (.aload_n 0, 1) := by decide +kernel
theorem dX8_cries_6 : decode cX8_cries 6 = .ok (.iload_n 1, 1) := by decide +kernel
theorem dX8_cries_7 : decode cX8_cries 7 = .ok (.invokevirtual 81, 3) := by decide +kernel
theorem dX8_cries_10 : decode cX8_cries 10 = .ok (.astore 5, 2) := by decide +kernel
theorem dX8_cries_12 : decode cX8_cries 12 = .ok (.aload 5, 2) := by decide +kernel
theorem dX8_cries_14 : decode cX8_cries 14 = .ok (.ifnonnull 5, 3) := by decide +kernel
theorem dX8_cries_17 : decode cX8_cries 17 = .ok (.iconst (-1), 1) := by decide +kernel
theorem dX8_cries_18 : decode cX8_cries 18 = .ok (.ireturn, 1) := by decide +kernel
theorem dX8_cries_19 : decode cX8_cries 19 = .ok (.iload_n 2, 1) := by decide +kernel
theorem dX8_cries_20 : decode cX8_cries 20 = .ok (.invokestatic 85, 3) := by decide +kernel
theorem dX8_cries_23 : decode cX8_cries 23 = .ok (.ifCond .ne 6, 3) := by decide +kernel
theorem dX8_cries_26 : decode cX8_cries 26 = .ok (.bipush (-2), 2) := by decide +kernel
theorem dX8_cries_28 : decode cX8_cries 28 = .ok (.ireturn, 1) := by decide +kernel
theorem dX8_cries_29 : decode cX8_cries 29 = .ok (.aload 5, 2) := by decide +kernel
theorem dX8_cries_31 : decode cX8_cries 31 = .ok (.iload_n 2, 1) := by decide +kernel
theorem dX8_cries_32 : decode cX8_cries 32 = .ok (.invokestatic 89, 3) := by decide +kernel
theorem dX8_cries_35 : decode cX8_cries 35 = .ok (.istore 6, 2) := by decide +kernel
theorem dX8_cries_37 : decode cX8_cries 37 = .ok (.iload 6, 2) := by decide +kernel
theorem dX8_cries_39 : decode cX8_cries 39 = .ok (.ifCond .eq 10, 3) := by decide +kernel
theorem dX8_cries_42 : decode cX8_cries 42 = .ok (.aload_n 0, 1) := by decide +kernel
theorem dX8_cries_43 : decode cX8_cries 43 = .ok (.iload 6, 2) := by decide +kernel
theorem dX8_cries_45 : decode cX8_cries 45 = .ok (.invokevirtual 93, 3) := by decide +kernel
theorem dX8_cries_48 : decode cX8_cries 48 = .ok (.ireturn, 1) := by decide +kernel
theorem dX8_cries_49 : decode cX8_cries 49 = .ok (.iload 4, 2) := by decide +kernel
theorem dX8_cries_51 : decode cX8_cries 51 = .ok (.ifCond .ge 9, 3) := by decide +kernel
theorem dX8_cries_54 : decode cX8_cries 54 = .ok (.aload_n 0, 1) := by decide +kernel
theorem dX8_cries_55 : decode cX8_cries 55 = .ok (.iconst 4, 1) := by decide +kernel
theorem dX8_cries_56 : decode cX8_cries 56 = .ok (.invokevirtual 93, 3) := by decide +kernel
theorem dX8_cries_59 : decode cX8_cries 59 = .ok (.ireturn, 1) := by decide +kernel
theorem dX8_cries_60 : decode cX8_cries 60 = .ok (.aload 5, 2) := by decide +kernel
theorem dX8_cries_62 : decode cX8_cries 62 = .ok (.iload_n 3, 1) := by decide +kernel
theorem dX8_cries_63 : decode cX8_cries 63 = .ok (.iload 4, 2) := by decide +kernel
theorem dX8_cries_65 : decode cX8_cries 65 = .ok (.invokevirtual 97, 3) := by decide +kernel
theorem dX8_cries_68 : decode cX8_cries 68 = .ok (.ifCond .ne 9, 3) := by decide +kernel
theorem dX8_cries_71 : decode cX8_cries 71 = .ok (.aload_n 0, 1) := by decide +kernel
theorem dX8_cries_72 : decode cX8_cries 72 = .ok (.iconst 3, 1) := by decide +kernel
theorem dX8_cries_73 : decode cX8_cries 73 = .ok (.invokevirtual 93, 3) := by decide +kernel
theorem dX8_cries_76 : decode cX8_cries 76 = .ok (.ireturn, 1) := by decide +kernel
theorem dX8_cries_77 : decode cX8_cries 77 = .ok (.aload 5, 2) := by decide +kernel
theorem dX8_cries_79 : decode cX8_cries 79 = .ok (.iload_n 3, 1) := by decide +kernel
theorem dX8_cries_80 : decode cX8_cries 80 = .ok (.iload 4, 2) := by decide +kernel
theorem dX8_cries_82 : decode cX8_cries 82 = .ok (.invokestatic 101, 3) := by decide +kernel
theorem dX8_cries_85 : decode cX8_cries 85 = .ok (.istore 7, 2) := by decide +kernel
theorem dX8_cries_87 : decode cX8_cries 87 = .ok (.iload 7, 2) := by decide +kernel
theorem dX8_cries_89 : decode cX8_cries 89 = .ok (.bipush (-9), 2) := by decide +kernel
theorem dX8_cries_91 : decode cX8_cries 91 = .ok (.if_icmp .eq 9, 3) := by decide +kernel
theorem dX8_cries_94 : decode cX8_cries 94 = .ok (.bipush (-100), 2) := by decide +kernel
theorem dX8_cries_96 : decode cX8_cries 96 = .ok (.iload 7, 2) := by decide +kernel
theorem dX8_cries_98 : decode cX8_cries 98 = .ok (.isub, 1) := by decide +kernel
theorem dX8_cries_99 : decode cX8_cries 99 = .ok (.ireturn, 1) := by decide +kernel
theorem dX8_cries_100 : decode cX8_cries 100 = .ok (.aload_n 0, 1) := by decide +kernel
theorem dX8_cries_101 : decode cX8_cries 101 = .ok (.aload 5, 2) := by decide +kernel
theorem dX8_cries_103 : decode cX8_cries 103 = .ok (.iload_n 3, 1) := by decide +kernel
theorem dX8_cries_104 : decode cX8_cries 104 = .ok (.iload 4, 2) := by decide +kernel
theorem dX8_cries_106 : decode cX8_cries 106 = .ok (.invokevirtual 105, 3) := by decide +kernel
theorem dX8_cries_109 : decode cX8_cries 109 = .ok (.aload_n 0, 1) := by decide +kernel
theorem dX8_cries_110 : decode cX8_cries 110 = .ok (.getfield 70, 3) := by decide +kernel
theorem dX8_cries_113 : decode cX8_cries 113 = .ok (.ireturn, 1) := by decide +kernel
set_option maxRecDepth 20000 in
theorem ggX8_kind_X8_isWord : GoodIn wsX8_kind wsX8_isWord := goodIn_r _ [5] (by decide +kernel) (by decide +kernel)
set_option maxRecDepth 20000 in
theorem gX8_kind_X8_isWord : GoodIn wsX8_kind (va_wsS RX8 109 yX8_isWord wsX8_isWord) := goodIn_app (goodIn_of _ (by decide +kernel)) ggX8_kind_X8_isWord
set_option maxRecDepth 20000 in
theorem ggX8_kind_X8_isKind : GoodIn wsX8_kind wsX8_isKind := goodIn_r _ [8] (by decide +kernel) (by decide +kernel)
set_option maxRecDepth 20000 in
theorem gX8_kind_X8_isKind : GoodIn wsX8_kind (va_wsS RX8 112 yX8_isKind wsX8_isKind) := goodIn_app (goodIn_of _ (by decide +kernel)) ggX8_kind_X8_isKind
theorem dX8_kind_0 : decode cX8_kind 0 = .ok (.iload_n 1, 1) := by decide +kernel
theorem dX8_kind_1 : decode cX8_kind 1 = .ok (.invokestatic 109, 3) := by decide +kernel
theorem dX8_kind_4 : decode cX8_kind 4 = .ok (.ifCond .ne 5, 3) := by decide +kernel
theorem dX8_kind_7 : decode cX8_kind 7 = .ok (.iconst (-1), 1) := by decide +kernel
theorem dX8_kind_8 : decode cX8_kind 8 = .ok (.ireturn, 1) := by decide +kernel
theorem dX8_kind_9 : decode cX8_kind 9 = .ok (.iload_n 2, 1) := by decide +kernel
theorem dX8_kind_10 : decode cX8_kind 10 = .ok (.invokestatic 112, 3) := by decide +kernel
theorem dX8_kind_13 : decode cX8_kind 13 = .ok (.ifCond .ne 6, 3) := by decide +kernel
theorem dX8_kind_16 : decode cX8_kind 16 = .ok (.bipush (-2), 2) := by decide +kernel
theorem dX8_kind_18 : decode cX8_kind 18 = .ok (.ireturn, 1) := by decide +kernel
theorem dX8_kind_19 : decode cX8_kind 19 = .ok (.aload_n 0, 1) := by decide +kernel
theorem dX8_kind_20 : decode cX8_kind 20 = .ok (.getfield 11, 3) := by decide +kernel
theorem dX8_kind_23 : decode cX8_kind 23 = .ok (.iload_n 1, 1) := by decide +kernel
theorem dX8_kind_24 : decode cX8_kind 24 = .ok (.iaload, 1) := by decide +kernel
theorem dX8_kind_25 : decode cX8_kind 25 = .ok (.istore_n 3, 1) := by decide +kernel
theorem dX8_kind_26 : decode cX8_kind 26 = .ok (.aload_n 0, 1) := by decide +kernel
theorem dX8_kind_27 : decode cX8_kind 27 = .ok (.getfield 11, 3) := by decide +kernel
theorem dX8_kind_30 : decode cX8_kind 30 = .ok (.iload_n 1, 1) := by decide +kernel
theorem dX8_kind_31 : decode cX8_kind 31 = .ok (.iload_n 2, 1) := by decide +kernel
theorem dX8_kind_32 : decode cX8_kind 32 = .ok (.iastore, 1) := by decide +kernel
theorem dX8_kind_33 : decode cX8_kind 33 = .ok (.iload_n 3, 1) := by decide +kernel
theorem dX8_kind_34 : decode cX8_kind 34 = .ok (.ireturn, 1) := by decide +kernel
set_option maxRecDepth 20000 in
theorem ggX8_ofDay_X8_cryOf : GoodIn wsX8_ofDay wsX8_cryOf := goodIn_r _ [5, 6, 7, 24, 25, 26, 27, 28, 29, 30, 31, 32, 33, 34, 35, 36] (by decide +kernel) (by decide +kernel)
set_option maxRecDepth 20000 in
theorem gX8_ofDay_X8_cryOf : GoodIn wsX8_ofDay (wsV RX8 115 RX8 yX8_cryOf wsX8_cryOf) := goodIn_app (goodIn_of _ (by decide +kernel)) ggX8_ofDay_X8_cryOf
set_option maxRecDepth 20000 in
theorem ggX8_ofDay_X2_size : GoodIn wsX8_ofDay wsX2_size := goodIn_r _ [12, 13, 37, 38] (by decide +kernel) (by decide +kernel)
set_option maxRecDepth 20000 in
theorem gX8_ofDay_X2_size : GoodIn wsX8_ofDay (wsV RX8 119 RX2 yX2_size wsX2_size) := goodIn_app (goodIn_of _ (by decide +kernel)) ggX8_ofDay_X2_size
set_option maxRecDepth 20000 in
theorem ggX8_ofDay_X2_has : GoodIn wsX8_ofDay wsX2_has := goodIn_r _ [17, 13, 37, 38] (by decide +kernel) (by decide +kernel)
set_option maxRecDepth 20000 in
theorem gX8_ofDay_X2_has : GoodIn wsX8_ofDay (wsV RX8 123 RX2 yX2_has wsX2_has) := goodIn_app (goodIn_of _ (by decide +kernel)) ggX8_ofDay_X2_has
set_option maxRecDepth 20000 in
theorem ggX8_ofDay_X2_at : GoodIn wsX8_ofDay wsX2_at := goodIn_r _ [21, 22, 23, 15, 16, 11, 17, 13, 37, 38] (by decide +kernel) (by decide +kernel)
set_option maxRecDepth 20000 in
theorem gX8_ofDay_X2_at : GoodIn wsX8_ofDay (wsV RX8 126 RX2 yX2_at wsX2_at) := goodIn_app (goodIn_of _ (by decide +kernel)) ggX8_ofDay_X2_at
theorem dX8_ofDay_0 : decode cX8_ofDay 0 = .ok (.aload_n 0, 1) := by decide +kernel
theorem dX8_ofDay_1 : decode cX8_ofDay 1 = .ok (.iload_n 1, 1) := by decide +kernel
theorem dX8_ofDay_2 : decode cX8_ofDay 2 = .ok (.invokevirtual 115, 3) := by decide +kernel
theorem dX8_ofDay_5 : decode cX8_ofDay 5 = .ok (.astore_n 3, 1) := by decide +kernel
theorem dX8_ofDay_6 : decode cX8_ofDay 6 = .ok (.aload_n 3, 1) := by decide +kernel
theorem dX8_ofDay_7 : decode cX8_ofDay 7 = .ok (.ifnonnull 5, 3) := by decide +kernel
theorem dX8_ofDay_10 : decode cX8_ofDay 10 = .ok (.iconst (-1), 1) := by decide +kernel
theorem dX8_ofDay_11 : decode cX8_ofDay 11 = .ok (.ireturn, 1) := by decide +kernel
theorem dX8_ofDay_12 : decode cX8_ofDay 12 = .ok (.iload_n 2, 1) := by decide +kernel
theorem dX8_ofDay_13 : decode cX8_ofDay 13 = .ok (.iconst (-1), 1) := by decide +kernel
theorem dX8_ofDay_14 : decode cX8_ofDay 14 = .ok (.if_icmp .ne 8, 3) := by decide +kernel
theorem dX8_ofDay_17 : decode cX8_ofDay 17 = .ok (.aload_n 3, 1) := by decide +kernel
theorem dX8_ofDay_18 : decode cX8_ofDay 18 = .ok (.invokevirtual 119, 3) := by decide +kernel
theorem dX8_ofDay_21 : decode cX8_ofDay 21 = .ok (.ireturn, 1) := by decide +kernel
theorem dX8_ofDay_22 : decode cX8_ofDay 22 = .ok (.aload_n 3, 1) := by decide +kernel
theorem dX8_ofDay_23 : decode cX8_ofDay 23 = .ok (.iload_n 2, 1) := by decide +kernel
theorem dX8_ofDay_24 : decode cX8_ofDay 24 = .ok (.invokevirtual 123, 3) := by decide +kernel
theorem dX8_ofDay_27 : decode cX8_ofDay 27 = .ok (.ifCond .eq 11, 3) := by decide +kernel
theorem dX8_ofDay_30 : decode cX8_ofDay 30 = .ok (.aload_n 3, 1) := by decide +kernel
theorem dX8_ofDay_31 : decode cX8_ofDay 31 = .ok (.iload_n 2, 1) := by decide +kernel
theorem dX8_ofDay_32 : decode cX8_ofDay 32 = .ok (.invokevirtual 126, 3) := by decide +kernel
theorem dX8_ofDay_35 : decode cX8_ofDay 35 = .ok (.goto 4, 3) := by decide +kernel
theorem dX8_ofDay_38 : decode cX8_ofDay 38 = .ok (.iconst (-1), 1) := by decide +kernel
theorem dX8_ofDay_39 : decode cX8_ofDay 39 = .ok (.ireturn, 1) := by decide +kernel
set_option maxRecDepth 20000 in
theorem ggX8_within_X8_cryOf : GoodIn wsX8_within wsX8_cryOf := goodIn_r _ [6, 7, 8, 32, 33, 34, 35, 36, 37, 38, 39, 40, 41, 42, 43, 44] (by decide +kernel) (by decide +kernel)
set_option maxRecDepth 20000 in
theorem gX8_within_X8_cryOf : GoodIn wsX8_within (wsV RX8 115 RX8 yX8_cryOf wsX8_cryOf) := goodIn_app (goodIn_of _ (by decide +kernel)) ggX8_within_X8_cryOf
set_option maxRecDepth 20000 in
theorem ggX8_within_X3_make : GoodIn wsX8_within wsX3_make := goodIn_r _ [13, 14, 15, 16, 17, 18, 19, 20, 21, 22, 23, 24, 25, 26, 27, 28, 29, 30, 31, 45, 46, 47, 48, 49] (by decide +kernel) (by decide +kernel)
set_option maxRecDepth 20000 in
theorem gX8_within_X3_make : GoodIn wsX8_within (wsV RX8 141 RX3 yX3_make wsX3_make) := goodIn_app (goodIn_of _ (by decide +kernel)) ggX8_within_X3_make
theorem dX8_within_0 : decode cX8_within 0 = .ok (.aload_n 0, 1) := by decide +kernel
theorem dX8_within_1 : decode cX8_within 1 = .ok (.iload_n 1, 1) := by decide +kernel
theorem dX8_within_2 : decode cX8_within 2 = .ok (.invokevirtual 115, 3) := by decide +kernel
theorem dX8_within_5 : decode cX8_within 5 = .ok (.astore_n 3, 1) := by decide +kernel
theorem dX8_within_6 : decode cX8_within 6 = .ok (.aload_n 0, 1) := by decide +kernel
theorem dX8_within_7 : decode cX8_within 7 = .ok (.iload_n 2, 1) := by decide +kernel
theorem dX8_within_8 : decode cX8_within 8 = .ok (.invokevirtual 115, 3) := by decide +kernel
theorem dX8_within_11 : decode cX8_within 11 = .ok (.astore 4, 2) := by decide +kernel
theorem dX8_within_13 : decode cX8_within 13 = .ok (.aload_n 3, 1) := by decide +kernel
theorem dX8_within_14 : decode cX8_within 14 = .ok (.ifnull 8, 3) := by decide +kernel
theorem dX8_within_17 : decode cX8_within 17 = .ok (.aload 4, 2) := by decide +kernel
theorem dX8_within_19 : decode cX8_within 19 = .ok (.ifnonnull 5, 3) := by decide +kernel
theorem dX8_within_22 : decode cX8_within 22 = .ok (.iconst (-1), 1) := by decide +kernel
theorem dX8_within_23 : decode cX8_within 23 = .ok (.ireturn, 1) := by decide +kernel
theorem dX8_within_24 : decode cX8_within 24 = .ok (.aload_n 0, 1) := by decide +kernel
theorem dX8_within_25 : decode cX8_within 25 = .ok (.getfield 35, 3) := by decide +kernel
theorem dX8_within_28 : decode cX8_within 28 = .ok (.aload_n 3, 1) := by decide +kernel
theorem dX8_within_29 : decode cX8_within 29 = .ok (.aload 4, 2) := by decide +kernel
theorem dX8_within_31 : decode cX8_within 31 = .ok (.invokevirtual 141, 3) := by decide +kernel
theorem dX8_within_34 : decode cX8_within 34 = .ok (.ifCond .eq 7, 3) := by decide +kernel
theorem dX8_within_37 : decode cX8_within 37 = .ok (.iconst 1, 1) := by decide +kernel
theorem dX8_within_38 : decode cX8_within 38 = .ok (.goto 4, 3) := by decide +kernel
theorem dX8_within_41 : decode cX8_within 41 = .ok (.iconst 0, 1) := by decide +kernel
theorem dX8_within_42 : decode cX8_within 42 = .ok (.ireturn, 1) := by decide +kernel
set_option maxRecDepth 20000 in
theorem ggX8_leftOut_X8_cryOf : GoodIn wsX8_leftOut wsX8_cryOf := goodIn_r _ [7, 1, 8, 32, 33, 34, 35, 36, 37, 38, 39, 40, 41, 42, 43, 44] (by decide +kernel) (by decide +kernel)
set_option maxRecDepth 20000 in
theorem gX8_leftOut_X8_cryOf : GoodIn wsX8_leftOut (wsV RX8 115 RX8 yX8_cryOf wsX8_cryOf) := goodIn_app (goodIn_of _ (by decide +kernel)) ggX8_leftOut_X8_cryOf
set_option maxRecDepth 20000 in
theorem ggX8_leftOut_X3_make : GoodIn wsX8_leftOut wsX3_make := goodIn_r _ [13, 14, 15, 16, 17, 18, 19, 20, 21, 22, 23, 24, 25, 26, 27, 28, 29, 30, 31, 45, 46, 47, 48, 49] (by decide +kernel) (by decide +kernel)
set_option maxRecDepth 20000 in
theorem gX8_leftOut_X3_make : GoodIn wsX8_leftOut (wsV RX8 141 RX3 yX3_make wsX3_make) := goodIn_app (goodIn_of _ (by decide +kernel)) ggX8_leftOut_X3_make
theorem dX8_leftOut_0 : decode cX8_leftOut 0 = .ok (.iconst 1, 1) := by decide +kernel
theorem dX8_leftOut_1 : decode cX8_leftOut 1 = .ok (.istore_n 1, 1) := by decide +kernel
theorem dX8_leftOut_2 : decode cX8_leftOut 2 = .ok (.iload_n 1, 1) := by decide +kernel
theorem dX8_leftOut_3 : decode cX8_leftOut 3 = .ok (.aload_n 0, 1) := by decide +kernel
theorem dX8_leftOut_4 : decode cX8_leftOut 4 = .ok (.getfield 70, 3) := by decide +kernel
theorem dX8_leftOut_7 : decode cX8_leftOut 7 = .ok (.if_icmp .ge 45, 3) := by decide +kernel
theorem dX8_leftOut_10 : decode cX8_leftOut 10 = .ok (.aload_n 0, 1) := by decide +kernel
theorem dX8_leftOut_11 : decode cX8_leftOut 11 = .ok (.iload_n 1, 1) := by decide +kernel
theorem dX8_leftOut_12 : decode cX8_leftOut 12 = .ok (.iconst 1, 1) := by decide +kernel
theorem dX8_leftOut_13 : decode cX8_leftOut 13 = .ok (.isub, 1) := by decide +kernel
theorem dX8_leftOut_14 : decode cX8_leftOut 14 = .ok (.invokevirtual 115, 3) := by decide +kernel
theorem dX8_leftOut_17 : decode cX8_leftOut 17 = .ok (.astore_n 2, 1) := by decide +kernel
theorem dX8_leftOut_18 : decode cX8_leftOut 18 = .ok (.aload_n 0, 1) := by decide +kernel
theorem dX8_leftOut_19 : decode cX8_leftOut 19 = .ok (.iload_n 1, 1) := by decide +kernel
theorem dX8_leftOut_20 : decode cX8_leftOut 20 = .ok (.invokevirtual 115, 3) := by decide +kernel
theorem dX8_leftOut_23 : decode cX8_leftOut 23 = .ok (.astore_n 3, 1) := by decide +kernel
theorem dX8_leftOut_24 : decode cX8_leftOut 24 = .ok (.aload_n 2, 1) := by decide +kernel
theorem dX8_leftOut_25 : decode cX8_leftOut 25 = .ok (.ifnull 21, 3) := by decide +kernel
theorem dX8_leftOut_28 : decode cX8_leftOut 28 = .ok (.aload_n 3, 1) := by decide +kernel
theorem dX8_leftOut_29 : decode cX8_leftOut 29 = .ok (.ifnull 17, 3) := by decide +kernel
theorem dX8_leftOut_32 : decode cX8_leftOut 32 = .ok (.aload_n 0, 1) := by decide +kernel
theorem dX8_leftOut_33 : decode cX8_leftOut 33 = .ok (.getfield 35, 3) := by decide +kernel
theorem dX8_leftOut_36 : decode cX8_leftOut 36 = .ok (.aload_n 2, 1) := by decide +kernel
theorem dX8_leftOut_37 : decode cX8_leftOut 37 = .ok (.aload_n 3, 1) := by decide +kernel
theorem dX8_leftOut_38 : decode cX8_leftOut 38 = .ok (.invokevirtual 141, 3) := by decide +kernel
theorem dX8_leftOut_41 : decode cX8_leftOut 41 = .ok (.ifCond .ne 5, 3) := by decide +kernel
theorem dX8_leftOut_44 : decode cX8_leftOut 44 = .ok (.iload_n 1, 1) := by decide +kernel
theorem dX8_leftOut_45 : decode cX8_leftOut 45 = .ok (.ireturn, 1) := by decide +kernel
theorem dX8_leftOut_46 : decode cX8_leftOut 46 = .ok (.iinc 1 1, 3) := by decide +kernel
theorem dX8_leftOut_49 : decode cX8_leftOut 49 = .ok (.goto (-47), 3) := by decide +kernel
theorem dX8_leftOut_52 : decode cX8_leftOut 52 = .ok (.bipush (-9), 2) := by decide +kernel
theorem dX8_leftOut_54 : decode cX8_leftOut 54 = .ok (.ireturn, 1) := by decide +kernel
set_option maxRecDepth 20000 in
theorem ggX8_said_X8_cryOf : GoodIn wsX8_said wsX8_cryOf := goodIn_r _ [6, 7, 8, 31, 32, 33, 34, 35, 36, 37, 38, 39, 40, 41, 42, 43] (by decide +kernel) (by decide +kernel)
set_option maxRecDepth 20000 in
theorem gX8_said_X8_cryOf : GoodIn wsX8_said (wsV RX8 115 RX8 yX8_cryOf wsX8_cryOf) := goodIn_app (goodIn_of _ (by decide +kernel)) ggX8_said_X8_cryOf
set_option maxRecDepth 20000 in
theorem ggX8_said_X5_isSaid : GoodIn wsX8_said wsX5_isSaid := goodIn_r _ [12, 13, 14, 15, 16, 17, 18, 19, 20, 21, 22, 23, 24, 25, 26, 27, 28, 29, 11, 30, 44, 45] (by decide +kernel) (by decide +kernel)
set_option maxRecDepth 20000 in
theorem gX8_said_X5_isSaid : GoodIn wsX8_said (va_wsS RX8 145 yX5_isSaid wsX5_isSaid) := goodIn_app (goodIn_of _ (by decide +kernel)) ggX8_said_X5_isSaid
theorem dX8_said_0 : decode cX8_said 0 = .ok (.aload_n 0, 1) := by decide +kernel
theorem dX8_said_1 : decode cX8_said 1 = .ok (.iload_n 1, 1) := by decide +kernel
theorem dX8_said_2 : decode cX8_said 2 = .ok (.invokevirtual 115, 3) := by decide +kernel
theorem dX8_said_5 : decode cX8_said 5 = .ok (.astore_n 2, 1) := by decide +kernel
theorem dX8_said_6 : decode cX8_said 6 = .ok (.aload_n 2, 1) := by decide +kernel
theorem dX8_said_7 : decode cX8_said 7 = .ok (.ifnonnull 5, 3) := by decide +kernel
theorem dX8_said_10 : decode cX8_said 10 = .ok (.iconst (-1), 1) := by decide +kernel
theorem dX8_said_11 : decode cX8_said 11 = .ok (.ireturn, 1) := by decide +kernel
theorem dX8_said_12 : decode cX8_said 12 = .ok (.iconst 0, 1) := by decide +kernel
theorem dX8_said_13 : decode cX8_said 13 = .ok (.istore_n 3, 1) := by decide +kernel
theorem dX8_said_14 : decode cX8_said 14 = .ok (.iconst 0, 1) := by decide +kernel
theorem dX8_said_15 : decode cX8_said 15 = .ok (.istore 4, 2) := by decide +kernel
theorem dX8_said_17 : decode cX8_said 17 = .ok (.iload 4, 2) := by decide +kernel
theorem dX8_said_19 : decode cX8_said 19 = .ok (.bipush 8, 2) := by decide +kernel
theorem dX8_said_21 : decode cX8_said 21 = .ok (.if_icmp .ge 39, 3) := by decide +kernel
theorem dX8_said_24 : decode cX8_said 24 = .ok (.aload_n 0, 1) := by decide +kernel
theorem dX8_said_25 : decode cX8_said 25 = .ok (.getfield 11, 3) := by decide +kernel
theorem dX8_said_28 : decode cX8_said 28 = .ok (.iload 4, 2) := by decide +kernel
theorem dX8_said_30 : decode cX8_said 30 = .ok (.iaload, 1) := by decide +kernel
theorem dX8_said_31 : decode cX8_said 31 = .ok (.ifCond .ne 23, 3) := by decide +kernel
theorem dX8_said_34 : decode cX8_said 34 = .ok (.aload_n 2, 1) := by decide +kernel
theorem dX8_said_35 : decode cX8_said 35 = .ok (.aload_n 0, 1) := by decide +kernel
theorem dX8_said_36 : decode cX8_said 36 = .ok (.getfield 11, 3) := by decide +kernel
theorem dX8_said_39 : decode cX8_said 39 = .ok (.iload 4, 2) := by decide +kernel
theorem dX8_said_41 : decode cX8_said 41 = .ok (.invokestatic 145, 3) := by decide +kernel
theorem dX8_said_44 : decode cX8_said 44 = .ok (.ifCond .eq 10, 3) := by decide +kernel
theorem dX8_said_47 : decode cX8_said 47 = .ok (.iload_n 3, 1) := by decide +kernel
theorem dX8_said_48 : decode cX8_said 48 = .ok (.iconst 1, 1) := by decide +kernel
theorem dX8_said_49 : decode cX8_said 49 = .ok (.iload 4, 2) := by decide +kernel
theorem dX8_said_51 : decode cX8_said 51 = .ok (.ishl, 1) := by decide +kernel
theorem dX8_said_52 : decode cX8_said 52 = .ok (.ior, 1) := by decide +kernel
theorem dX8_said_53 : decode cX8_said 53 = .ok (.istore_n 3, 1) := by decide +kernel
theorem dX8_said_54 : decode cX8_said 54 = .ok (.iinc 4 1, 3) := by decide +kernel
theorem dX8_said_57 : decode cX8_said 57 = .ok (.goto (-40), 3) := by decide +kernel
theorem dX8_said_60 : decode cX8_said 60 = .ok (.iload_n 3, 1) := by decide +kernel
theorem dX8_said_61 : decode cX8_said 61 = .ok (.ireturn, 1) := by decide +kernel
set_option maxRecDepth 20000 in
theorem ggX8_ways_X8_cryOf : GoodIn wsX8_ways wsX8_cryOf := goodIn_r _ [7, 8, 9, 39, 40, 41, 42, 43, 44, 45, 46, 47, 48, 49, 50, 51] (by decide +kernel) (by decide +kernel)
set_option maxRecDepth 20000 in
theorem gX8_ways_X8_cryOf : GoodIn wsX8_ways (wsV RX8 115 RX8 yX8_cryOf wsX8_cryOf) := goodIn_app (goodIn_of _ (by decide +kernel)) ggX8_ways_X8_cryOf
set_option maxRecDepth 20000 in
theorem ggX8_ways_X3_choices : GoodIn wsX8_ways wsX3_choices := goodIn_r _ [14, 15, 16, 17, 18, 19, 20, 21, 22, 23, 24, 25, 26, 27, 28, 29, 30, 31, 32, 33, 34, 35, 36, 37, 38, 52, 53, 54, 55, 56] (by decide +kernel) (by decide +kernel)
set_option maxRecDepth 20000 in
theorem gX8_ways_X3_choices : GoodIn wsX8_ways (wsV RX8 158 RX3 yX3_choices wsX3_choices) := goodIn_app (goodIn_of _ (by decide +kernel)) ggX8_ways_X3_choices
theorem dX8_ways_0 : decode cX8_ways 0 = .ok (.aload_n 0, 1) := by decide +kernel
theorem dX8_ways_1 : decode cX8_ways 1 = .ok (.iload_n 1, 1) := by decide +kernel
theorem dX8_ways_2 : decode cX8_ways 2 = .ok (.invokevirtual 115, 3) := by decide +kernel
theorem dX8_ways_5 : decode cX8_ways 5 = .ok (.astore_n 3, 1) := by decide +kernel
theorem dX8_ways_6 : decode cX8_ways 6 = .ok (.aload_n 0, 1) := by decide +kernel
theorem dX8_ways_7 : decode cX8_ways 7 = .ok (.iload_n 2, 1) := by decide +kernel
theorem dX8_ways_8 : decode cX8_ways 8 = .ok (.invokevirtual 115, 3) := by decide +kernel
theorem dX8_ways_11 : decode cX8_ways 11 = .ok (.astore 4, 2) := by decide +kernel
theorem dX8_ways_13 : decode cX8_ways 13 = .ok (.aload_n 3, 1) := by decide +kernel
theorem dX8_ways_14 : decode cX8_ways 14 = .ok (.ifnull 8, 3) := by decide +kernel
theorem dX8_ways_17 : decode cX8_ways 17 = .ok (.aload 4, 2) := by decide +kernel
theorem dX8_ways_19 : decode cX8_ways 19 = .ok (.ifnonnull 7, 3) := by decide +kernel
theorem dX8_ways_22 : decode cX8_ways 22 = .ok (.ldc2_w 156, 3) := by decide +kernel
theorem dX8_ways_25 : decode cX8_ways 25 = .ok (.lreturn, 1) := by decide +kernel
theorem dX8_ways_26 : decode cX8_ways 26 = .ok (.aload_n 0, 1) := by decide +kernel
theorem dX8_ways_27 : decode cX8_ways 27 = .ok (.getfield 35, 3) := by decide +kernel
theorem dX8_ways_30 : decode cX8_ways 30 = .ok (.aload_n 3, 1) := by decide +kernel
theorem dX8_ways_31 : decode cX8_ways 31 = .ok (.aload 4, 2) := by decide +kernel
theorem dX8_ways_33 : decode cX8_ways 33 = .ok (.invokevirtual 158, 3) := by decide +kernel
theorem dX8_ways_36 : decode cX8_ways 36 = .ok (.lreturn, 1) := by decide +kernel
set_option maxRecDepth 20000 in
theorem ggX8_place_X8_cryOf : GoodIn wsX8_place wsX8_cryOf := goodIn_r _ [6, 7, 8, 44, 45, 46, 47, 48, 49, 50, 51, 52, 53, 54, 55, 56] (by decide +kernel) (by decide +kernel)
set_option maxRecDepth 20000 in
theorem gX8_place_X8_cryOf : GoodIn wsX8_place (wsV RX8 115 RX8 yX8_cryOf wsX8_cryOf) := goodIn_app (goodIn_of _ (by decide +kernel)) ggX8_place_X8_cryOf
set_option maxRecDepth 20000 in
theorem ggX8_place_X2_has : GoodIn wsX8_place wsX2_has := goodIn_r _ [13, 14, 57, 58] (by decide +kernel) (by decide +kernel)
set_option maxRecDepth 20000 in
theorem gX8_place_X2_has : GoodIn wsX8_place (wsV RX8 123 RX2 yX2_has wsX2_has) := goodIn_app (goodIn_of _ (by decide +kernel)) ggX8_place_X2_has
set_option maxRecDepth 20000 in
theorem ggX8_place_X8_isFirstOrSecond : GoodIn wsX8_place wsX8_isFirstOrSecond := goodIn_r _ [17] (by decide +kernel) (by decide +kernel)
set_option maxRecDepth 20000 in
theorem gX8_place_X8_isFirstOrSecond : GoodIn wsX8_place (va_wsS RX8 162 yX8_isFirstOrSecond wsX8_isFirstOrSecond) := goodIn_app (goodIn_of _ (by decide +kernel)) ggX8_place_X8_isFirstOrSecond
set_option maxRecDepth 20000 in
theorem ggX8_place_X3_make : GoodIn wsX8_place wsX3_make := goodIn_r _ [22, 23, 24, 25, 26, 27, 12, 28, 14, 29, 10, 11, 13, 30, 31, 32, 33, 34, 35, 59, 60, 61, 57, 58] (by decide +kernel) (by decide +kernel)
set_option maxRecDepth 20000 in
theorem gX8_place_X3_make : GoodIn wsX8_place (wsV RX8 141 RX3 yX3_make wsX3_make) := goodIn_app (goodIn_of _ (by decide +kernel)) ggX8_place_X3_make
set_option maxRecDepth 20000 in
theorem ggX8_place_X3_first : GoodIn wsX8_place wsX3_first := goodIn_r _ [39, 23, 59, 60, 61] (by decide +kernel) (by decide +kernel)
set_option maxRecDepth 20000 in
theorem gX8_place_X3_first : GoodIn wsX8_place (wsV RX8 165 RX3 yX3_first wsX3_first) := goodIn_app (goodIn_of _ (by decide +kernel)) ggX8_place_X3_first
set_option maxRecDepth 20000 in
theorem ggX8_place_X3_last : GoodIn wsX8_place wsX3_last := goodIn_r _ [43, 24, 59, 60, 61] (by decide +kernel) (by decide +kernel)
set_option maxRecDepth 20000 in
theorem gX8_place_X3_last : GoodIn wsX8_place (wsV RX8 168 RX3 yX3_last wsX3_last) := goodIn_app (goodIn_of _ (by decide +kernel)) ggX8_place_X3_last
theorem dX8_place_0 : decode cX8_place 0 = .ok (.aload_n 0, 1) := by decide +kernel
theorem dX8_place_1 : decode cX8_place 1 = .ok (.iload_n 1, 1) := by decide +kernel
theorem dX8_place_2 : decode cX8_place 2 = .ok (.invokevirtual 115, 3) := by decide +kernel
theorem dX8_place_5 : decode cX8_place 5 = .ok (.astore 5, 2) := by decide +kernel
theorem dX8_place_7 : decode cX8_place 7 = .ok (.aload_n 0, 1) := by decide +kernel
theorem dX8_place_8 : decode cX8_place 8 = .ok (.iload_n 2, 1) := by decide +kernel
theorem dX8_place_9 : decode cX8_place 9 = .ok (.invokevirtual 115, 3) := by decide +kernel
theorem dX8_place_12 : decode cX8_place 12 = .ok (.astore 6, 2) := by decide +kernel
theorem dX8_place_14 : decode cX8_place 14 = .ok (.aload 5, 2) := by decide +kernel
theorem dX8_place_16 : decode cX8_place 16 = .ok (.ifnull 17, 3) := by decide +kernel
theorem dX8_place_19 : decode cX8_place 19 = .ok (.aload 6, 2) := by decide +kernel
theorem dX8_place_21 : decode cX8_place 21 = .ok (.ifnull 12, 3) := by decide +kernel
theorem dX8_place_24 : decode cX8_place 24 = .ok (.aload 5, 2) := by decide +kernel
theorem dX8_place_26 : decode cX8_place 26 = .ok (.iload_n 3, 1) := by decide +kernel
theorem dX8_place_27 : decode cX8_place 27 = .ok (.invokevirtual 123, 3) := by decide +kernel
theorem dX8_place_30 : decode cX8_place 30 = .ok (.ifCond .ne 5, 3) := by decide +kernel
theorem dX8_place_33 : decode cX8_place 33 = .ok (.iconst (-1), 1) := by decide +kernel
theorem dX8_place_34 : decode cX8_place 34 = .ok (.ireturn, 1) := by decide +kernel
theorem dX8_place_35 : decode cX8_place 35 = .ok (.iload 4, 2) := by decide +kernel
theorem dX8_place_37 : decode cX8_place 37 = .ok (.invokestatic 162, 3) := by decide +kernel
theorem dX8_place_40 : decode cX8_place 40 = .ok (.ifCond .ne 6, 3) := by decide +kernel
theorem dX8_place_43 : decode cX8_place 43 = .ok (.bipush (-2), 2) := by decide +kernel
theorem dX8_place_45 : decode cX8_place 45 = .ok (.ireturn, 1) := by decide +kernel
theorem dX8_place_46 : decode cX8_place 46 = .ok (.aload_n 0, 1) := by decide +kernel
theorem dX8_place_47 : decode cX8_place 47 = .ok (.getfield 35, 3) := by decide +kernel
theorem dX8_place_50 : decode cX8_place 50 = .ok (.aload 5, 2) := by decide +kernel
theorem dX8_place_52 : decode cX8_place 52 = .ok (.aload 6, 2) := by decide +kernel
theorem dX8_place_54 : decode cX8_place 54 = .ok (.invokevirtual 141, 3) := by decide +kernel
theorem dX8_place_57 : decode cX8_place 57 = .ok (.ifCond .ne 6, 3) := by decide +kernel
theorem dX8_place_60 : decode cX8_place 60 = .ok (.bipush (-9), 2) := by decide +kernel
theorem dX8_place_62 : decode cX8_place 62 = .ok (.ireturn, 1) := by decide +kernel
theorem dX8_place_63 : decode cX8_place 63 = .ok (.iload 4, 2) := by decide +kernel
theorem dX8_place_65 : decode cX8_place 65 = .ok (.ifCond .ne 14, 3) := by decide +kernel
theorem dX8_place_68 : decode cX8_place 68 = .ok (.aload_n 0, 1) := by decide +kernel
theorem dX8_place_69 : decode cX8_place 69 = .ok (.getfield 35, 3) := by decide +kernel
theorem dX8_place_72 : decode cX8_place 72 = .ok (.iload_n 3, 1) := by decide +kernel
theorem dX8_place_73 : decode cX8_place 73 = .ok (.invokevirtual 165, 3) := by decide +kernel
theorem dX8_place_76 : decode cX8_place 76 = .ok (.goto 11, 3) := by decide +kernel
theorem dX8_place_79 : decode cX8_place 79 = .ok (.aload_n 0, 1) := by decide +kernel
theorem dX8_place_80 : decode cX8_place 80 = .ok (.getfield 35, 3) := by decide +kernel
theorem dX8_place_83 : decode cX8_place 83 = .ok (.iload_n 3, 1) := by decide +kernel
theorem dX8_place_84 : decode cX8_place 84 = .ok (.invokevirtual 168, 3) := by decide +kernel
theorem dX8_place_87 : decode cX8_place 87 = .ok (.ireturn, 1) := by decide +kernel
set_option maxRecDepth 20000 in
theorem ggX8_mayBe_X8_lastCry : GoodIn wsX8_mayBe wsX8_lastCry := goodIn_r _ [7, 1, 8, 9, 10, 6, 11, 12, 49, 50, 51, 52, 53, 54, 55, 56, 57, 58, 59, 60, 61] (by decide +kernel) (by decide +kernel)
set_option maxRecDepth 20000 in
theorem gX8_mayBe_X8_lastCry : GoodIn wsX8_mayBe (wsV RX8 129 RX8 yX8_lastCry wsX8_lastCry) := goodIn_app (goodIn_of _ (by decide +kernel)) ggX8_mayBe_X8_lastCry
set_option maxRecDepth 20000 in
theorem ggX8_mayBe_X2_has : GoodIn wsX8_mayBe wsX2_has := goodIn_r _ [17, 18, 62, 63] (by decide +kernel) (by decide +kernel)
set_option maxRecDepth 20000 in
theorem gX8_mayBe_X2_has : GoodIn wsX8_mayBe (wsV RX8 123 RX2 yX2_has wsX2_has) := goodIn_app (goodIn_of _ (by decide +kernel)) ggX8_mayBe_X2_has
set_option maxRecDepth 20000 in
theorem ggX8_mayBe_X8_cryOf : GoodIn wsX8_mayBe wsX8_cryOf := goodIn_r _ [11, 1, 12, 49, 50, 51, 52, 53, 54, 55, 56, 57, 58, 59, 60, 61] (by decide +kernel) (by decide +kernel)
set_option maxRecDepth 20000 in
theorem gX8_mayBe_X8_cryOf : GoodIn wsX8_mayBe (wsV RX8 115 RX8 yX8_cryOf wsX8_cryOf) := goodIn_app (goodIn_of _ (by decide +kernel)) ggX8_mayBe_X8_cryOf
set_option maxRecDepth 20000 in
theorem ggX8_mayBe_X3_canStand : GoodIn wsX8_mayBe wsX3_canStand := goodIn_r _ [23, 24, 25, 26, 22, 27, 28, 29, 30, 31, 32, 16, 33, 18, 34, 14, 15, 17, 35, 36, 37, 38, 39, 40, 41, 42, 43, 44, 45, 46, 47, 48, 64, 65, 66, 62, 63] (by decide +kernel) (by decide +kernel)
set_option maxRecDepth 20000 in
theorem gX8_mayBe_X3_canStand : GoodIn wsX8_mayBe (wsV RX8 171 RX3 yX3_canStand wsX3_canStand) := goodIn_app (goodIn_of _ (by decide +kernel)) ggX8_mayBe_X3_canStand
theorem dX8_mayBe_0 : decode cX8_mayBe 0 = .ok (.aload_n 0, 1) := by decide +kernel
theorem dX8_mayBe_1 : decode cX8_mayBe 1 = .ok (.invokevirtual 129, 3) := by decide +kernel
theorem dX8_mayBe_4 : decode cX8_mayBe 4 = .ok (.astore_n 2, 1) := by decide +kernel
theorem dX8_mayBe_5 : decode cX8_mayBe 5 = .ok (.aload_n 2, 1) := by decide +kernel
theorem dX8_mayBe_6 : decode cX8_mayBe 6 = .ok (.ifnull 11, 3) := by decide +kernel
theorem dX8_mayBe_9 : decode cX8_mayBe 9 = .ok (.aload_n 2, 1) := by decide +kernel
theorem dX8_mayBe_10 : decode cX8_mayBe 10 = .ok (.iload_n 1, 1) := by decide +kernel
theorem dX8_mayBe_11 : decode cX8_mayBe 11 = .ok (.invokevirtual 123, 3) := by decide +kernel
theorem dX8_mayBe_14 : decode cX8_mayBe 14 = .ok (.ifCond .ne 5, 3) := by decide +kernel
theorem dX8_mayBe_17 : decode cX8_mayBe 17 = .ok (.iconst (-1), 1) := by decide +kernel
theorem dX8_mayBe_18 : decode cX8_mayBe 18 = .ok (.ireturn, 1) := by decide +kernel
theorem dX8_mayBe_19 : decode cX8_mayBe 19 = .ok (.iconst 0, 1) := by decide +kernel
theorem dX8_mayBe_20 : decode cX8_mayBe 20 = .ok (.istore_n 3, 1) := by decide +kernel
theorem dX8_mayBe_21 : decode cX8_mayBe 21 = .ok (.iconst 0, 1) := by decide +kernel
theorem dX8_mayBe_22 : decode cX8_mayBe 22 = .ok (.istore 4, 2) := by decide +kernel
theorem dX8_mayBe_24 : decode cX8_mayBe 24 = .ok (.iload 4, 2) := by decide +kernel
theorem dX8_mayBe_26 : decode cX8_mayBe 26 = .ok (.aload_n 0, 1) := by decide +kernel
theorem dX8_mayBe_27 : decode cX8_mayBe 27 = .ok (.getfield 70, 3) := by decide +kernel
theorem dX8_mayBe_30 : decode cX8_mayBe 30 = .ok (.if_icmp .ge 43, 3) := by decide +kernel
theorem dX8_mayBe_33 : decode cX8_mayBe 33 = .ok (.aload_n 0, 1) := by decide +kernel
theorem dX8_mayBe_34 : decode cX8_mayBe 34 = .ok (.iload 4, 2) := by decide +kernel
theorem dX8_mayBe_36 : decode cX8_mayBe 36 = .ok (.invokevirtual 115, 3) := by decide +kernel
theorem dX8_mayBe_39 : decode cX8_mayBe 39 = .ok (.astore 5, 2) := by decide +kernel
theorem dX8_mayBe_41 : decode cX8_mayBe 41 = .ok (.aload 5, 2) := by decide +kernel
theorem dX8_mayBe_43 : decode cX8_mayBe 43 = .ok (.ifnull 24, 3) := by decide +kernel
theorem dX8_mayBe_46 : decode cX8_mayBe 46 = .ok (.aload_n 0, 1) := by decide +kernel
theorem dX8_mayBe_47 : decode cX8_mayBe 47 = .ok (.getfield 35, 3) := by decide +kernel
theorem dX8_mayBe_50 : decode cX8_mayBe 50 = .ok (.aload 5, 2) := by decide +kernel
theorem dX8_mayBe_52 : decode cX8_mayBe 52 = .ok (.aload_n 2, 1) := by decide +kernel
theorem dX8_mayBe_53 : decode cX8_mayBe 53 = .ok (.iload_n 1, 1) := by decide +kernel
theorem dX8_mayBe_54 : decode cX8_mayBe 54 = .ok (.invokevirtual 171, 3) := by decide +kernel
theorem dX8_mayBe_57 : decode cX8_mayBe 57 = .ok (.ifCond .eq 10, 3) := by decide +kernel
theorem dX8_mayBe_60 : decode cX8_mayBe 60 = .ok (.iload_n 3, 1) := by decide +kernel
theorem dX8_mayBe_61 : decode cX8_mayBe 61 = .ok (.iconst 1, 1) := by decide +kernel
theorem dX8_mayBe_62 : decode cX8_mayBe 62 = .ok (.iload 4, 2) := by decide +kernel
theorem dX8_mayBe_64 : decode cX8_mayBe 64 = .ok (.ishl, 1) := by decide +kernel
theorem dX8_mayBe_65 : decode cX8_mayBe 65 = .ok (.ior, 1) := by decide +kernel
theorem dX8_mayBe_66 : decode cX8_mayBe 66 = .ok (.istore_n 3, 1) := by decide +kernel
theorem dX8_mayBe_67 : decode cX8_mayBe 67 = .ok (.iinc 4 1, 3) := by decide +kernel
theorem dX8_mayBe_70 : decode cX8_mayBe 70 = .ok (.goto (-46), 3) := by decide +kernel
theorem dX8_mayBe_73 : decode cX8_mayBe 73 = .ok (.iload_n 3, 1) := by decide +kernel
theorem dX8_mayBe_74 : decode cX8_mayBe 74 = .ok (.ireturn, 1) := by decide +kernel
set_option maxRecDepth 20000 in
theorem ggX8_sheet_X8_sheetOf : GoodIn wsX8_sheet wsX8_sheetOf := goodIn_r _ [6, 7, 27, 28, 29, 30, 31, 32, 33, 34, 35, 36, 37, 38, 39] (by decide +kernel) (by decide +kernel)
set_option maxRecDepth 20000 in
theorem gX8_sheet_X8_sheetOf : GoodIn wsX8_sheet (wsV RX8 81 RX8 yX8_sheetOf wsX8_sheetOf) := goodIn_app (goodIn_of _ (by decide +kernel)) ggX8_sheet_X8_sheetOf
set_option maxRecDepth 20000 in
theorem ggX8_sheet_X8_isSort : GoodIn wsX8_sheet wsX8_isSort := goodIn_r _ [10] (by decide +kernel) (by decide +kernel)
set_option maxRecDepth 20000 in
theorem gX8_sheet_X8_isSort : GoodIn wsX8_sheet (va_wsS RX8 85 yX8_isSort wsX8_isSort) := goodIn_app (goodIn_of _ (by decide +kernel)) ggX8_sheet_X8_isSort
set_option maxRecDepth 20000 in
theorem ggX8_sheet_X8_fails : GoodIn wsX8_sheet wsX8_fails := goodIn_r _ [14, 1, 27, 28, 29, 30, 31, 32, 33, 34, 35, 36, 37, 38, 39] (by decide +kernel) (by decide +kernel)
set_option maxRecDepth 20000 in
theorem gX8_sheet_X8_fails : GoodIn wsX8_sheet (wsV RX8 93 RX8 yX8_fails wsX8_fails) := goodIn_app (goodIn_of _ (by decide +kernel)) ggX8_sheet_X8_fails
set_option maxRecDepth 20000 in
theorem ggX8_sheet_X6_renew : GoodIn wsX8_sheet wsX6_renew := goodIn_r _ [19, 20, 21, 22, 23, 24, 25, 26, 40, 41, 42] (by decide +kernel) (by decide +kernel)
set_option maxRecDepth 20000 in
theorem gX8_sheet_X6_renew : GoodIn wsX8_sheet (wsV RX8 204 RX6 yX6_renew wsX6_renew) := goodIn_app (goodIn_of _ (by decide +kernel)) ggX8_sheet_X6_renew
theorem dX8_sheet_0 : decode cX8_sheet 0 = .ok (.aload_n 0, 1) := by decide +kernel
theorem dX8_sheet_1 : decode cX8_sheet 1 = .ok (.iconst 0, 1) := by decide +kernel
theorem dX8_sheet_2 : decode cX8_sheet 2 = .ok (.putfield 77, 3) := by decide +kernel
theorem dX8_sheet_5 : decode cX8_sheet 5 = .ok (.aload_n 0, 1) := by decide +kernel
theorem dX8_sheet_6 : decode cX8_sheet 6 = .ok (.iload_n 1, 1) := by decide +kernel
theorem dX8_sheet_7 : decode cX8_sheet 7 = .ok (.invokevirtual 81, 3) := by decide +kernel
theorem dX8_sheet_10 : decode cX8_sheet 10 = .ok (.astore 4, 2) := by decide +kernel
theorem dX8_sheet_12 : decode cX8_sheet 12 = .ok (.aload 4, 2) := by decide +kernel
theorem dX8_sheet_14 : decode cX8_sheet 14 = .ok (.ifnonnull 5, 3) := by decide +kernel
theorem dX8_sheet_17 : decode cX8_sheet 17 = .ok (.iconst (-1), 1) := by decide +kernel
theorem dX8_sheet_18 : decode cX8_sheet 18 = .ok (.ireturn, 1) := by decide +kernel
theorem dX8_sheet_19 : decode cX8_sheet 19 = .ok (.iload_n 2, 1) := by decide +kernel
theorem dX8_sheet_20 : decode cX8_sheet 20 = .ok (.invokestatic 85, 3) := by decide +kernel
theorem dX8_sheet_23 : decode cX8_sheet 23 = .ok (.ifCond .eq 9, 3) := by decide +kernel
theorem dX8_sheet_26 : decode cX8_sheet 26 = .ok (.iload_n 3, 1) := by decide +kernel
theorem dX8_sheet_27 : decode cX8_sheet 27 = .ok (.bipush 80, 2) := by decide +kernel
theorem dX8_sheet_29 : decode cX8_sheet 29 = .ok (.if_icmp .le 6, 3) := by decide +kernel
theorem dX8_sheet_32 : decode cX8_sheet 32 = .ok (.bipush (-2), 2) := by decide +kernel
theorem dX8_sheet_34 : decode cX8_sheet 34 = .ok (.ireturn, 1) := by decide +kernel
theorem dX8_sheet_35 : decode cX8_sheet 35 = .ok (.iload_n 3, 1) := by decide +kernel
theorem dX8_sheet_36 : decode cX8_sheet 36 = .ok (.ifCond .ge 9, 3) := by decide +kernel
theorem dX8_sheet_39 : decode cX8_sheet 39 = .ok (.aload_n 0, 1) := by decide +kernel
theorem dX8_sheet_40 : decode cX8_sheet 40 = .ok (.iconst 4, 1) := by decide +kernel
theorem dX8_sheet_41 : decode cX8_sheet 41 = .ok (.invokevirtual 93, 3) := by decide +kernel
theorem dX8_sheet_44 : decode cX8_sheet 44 = .ok (.ireturn, 1) := by decide +kernel
theorem dX8_sheet_45 : decode cX8_sheet 45 = .ok (.aload 4, 2) := by decide +kernel
theorem dX8_sheet_47 : decode cX8_sheet 47 = .ok (.iload_n 2, 1) := by decide +kernel
theorem dX8_sheet_48 : decode cX8_sheet 48 = .ok (.iload_n 3, 1) := by decide +kernel
theorem dX8_sheet_49 : decode cX8_sheet 49 = .ok (.invokevirtual 204, 3) := by decide +kernel
theorem dX8_sheet_52 : decode cX8_sheet 52 = .ok (.iconst 1, 1) := by decide +kernel
theorem dX8_sheet_53 : decode cX8_sheet 53 = .ok (.ireturn, 1) := by decide +kernel
set_option maxRecDepth 20000 in
theorem ggX8_put_X8_sheetOf : GoodIn wsX8_put wsX8_sheetOf := goodIn_r _ [6, 7, 33, 34, 35, 36, 37, 38, 39, 40, 41, 42, 43, 44, 45] (by decide +kernel) (by decide +kernel)
set_option maxRecDepth 20000 in
theorem gX8_put_X8_sheetOf : GoodIn wsX8_put (wsV RX8 81 RX8 yX8_sheetOf wsX8_sheetOf) := goodIn_app (goodIn_of _ (by decide +kernel)) ggX8_put_X8_sheetOf
set_option maxRecDepth 20000 in
theorem ggX8_put_X6_isNothing : GoodIn wsX8_put wsX6_isNothing := goodIn_r _ [12, 13, 46, 47, 48] (by decide +kernel) (by decide +kernel)
set_option maxRecDepth 20000 in
theorem gX8_put_X6_isNothing : GoodIn wsX8_put (wsV RX8 207 RX6 yX6_isNothing wsX6_isNothing) := goodIn_app (goodIn_of _ (by decide +kernel)) ggX8_put_X6_isNothing
set_option maxRecDepth 20000 in
theorem ggX8_put_X8_fails : GoodIn wsX8_put wsX8_fails := goodIn_r _ [17, 1, 33, 34, 35, 36, 37, 38, 39, 40, 41, 42, 43, 44, 45] (by decide +kernel) (by decide +kernel)
set_option maxRecDepth 20000 in
theorem gX8_put_X8_fails : GoodIn wsX8_put (wsV RX8 93 RX8 yX8_fails wsX8_fails) := goodIn_app (goodIn_of _ (by decide +kernel)) ggX8_put_X8_fails
set_option maxRecDepth 20000 in
theorem ggX8_put_X6_hasCells : GoodIn wsX8_put wsX6_hasCells := goodIn_r _ [21, 13, 46, 47, 48] (by decide +kernel) (by decide +kernel)
set_option maxRecDepth 20000 in
theorem gX8_put_X6_hasCells : GoodIn wsX8_put (wsV RX8 97 RX6 yX6_hasCells wsX6_hasCells) := goodIn_app (goodIn_of _ (by decide +kernel)) ggX8_put_X6_hasCells
set_option maxRecDepth 20000 in
theorem ggX8_put_X6_write : GoodIn wsX8_put wsX6_write := goodIn_r _ [25, 26, 27, 19, 20, 11, 21, 13, 28, 29, 30, 31, 32, 46, 47, 48] (by decide +kernel) (by decide +kernel)
set_option maxRecDepth 20000 in
theorem gX8_put_X6_write : GoodIn wsX8_put (wsV RX8 213 RX6 yX6_write wsX6_write) := goodIn_app (goodIn_of _ (by decide +kernel)) ggX8_put_X6_write
theorem dX8_put_0 : decode cX8_put 0 = .ok (.aload_n 0, 1) := by decide +kernel
theorem dX8_put_1 : decode cX8_put 1 = .ok (.iconst 0, 1) := by decide +kernel
theorem dX8_put_2 : decode cX8_put 2 = .ok (.putfield 77, 3) := by decide +kernel
theorem dX8_put_5 : decode cX8_put 5 = .ok (.aload_n 0, 1) := by decide +kernel
theorem dX8_put_6 : decode cX8_put 6 = .ok (.iload_n 1, 1) := by decide +kernel
theorem dX8_put_7 : decode cX8_put 7 = .ok (.invokevirtual 81, 3) := by decide +kernel
theorem dX8_put_10 : decode cX8_put 10 = .ok (.astore 4, 2) := by decide +kernel
theorem dX8_put_12 : decode cX8_put 12 = .ok (.aload 4, 2) := by decide +kernel
theorem dX8_put_14 : decode cX8_put 14 = .ok (.ifnonnull 5, 3) := by decide +kernel
theorem dX8_put_17 : decode cX8_put 17 = .ok (.iconst (-1), 1) := by decide +kernel
theorem dX8_put_18 : decode cX8_put 18 = .ok (.ireturn, 1) := by decide +kernel
theorem dX8_put_19 : decode cX8_put 19 = .ok (.aload 4, 2) := by decide +kernel
theorem dX8_put_21 : decode cX8_put 21 = .ok (.invokevirtual 207, 3) := by decide +kernel
theorem dX8_put_24 : decode cX8_put 24 = .ok (.ifCond .eq 9, 3) := by decide +kernel
theorem dX8_put_27 : decode cX8_put 27 = .ok (.aload_n 0, 1) := by decide +kernel
theorem dX8_put_28 : decode cX8_put 28 = .ok (.iconst 1, 1) := by decide +kernel
theorem dX8_put_29 : decode cX8_put 29 = .ok (.invokevirtual 93, 3) := by decide +kernel
theorem dX8_put_32 : decode cX8_put 32 = .ok (.ireturn, 1) := by decide +kernel
theorem dX8_put_33 : decode cX8_put 33 = .ok (.aload 4, 2) := by decide +kernel
theorem dX8_put_35 : decode cX8_put 35 = .ok (.iload_n 2, 1) := by decide +kernel
theorem dX8_put_36 : decode cX8_put 36 = .ok (.iconst 1, 1) := by decide +kernel
theorem dX8_put_37 : decode cX8_put 37 = .ok (.invokevirtual 97, 3) := by decide +kernel
theorem dX8_put_40 : decode cX8_put 40 = .ok (.ifCond .ne 9, 3) := by decide +kernel
theorem dX8_put_43 : decode cX8_put 43 = .ok (.aload_n 0, 1) := by decide +kernel
theorem dX8_put_44 : decode cX8_put 44 = .ok (.iconst 3, 1) := by decide +kernel
theorem dX8_put_45 : decode cX8_put 45 = .ok (.invokevirtual 93, 3) := by decide +kernel
theorem dX8_put_48 : decode cX8_put 48 = .ok (.ireturn, 1) := by decide +kernel
theorem dX8_put_49 : decode cX8_put 49 = .ok (.aload 4, 2) := by decide +kernel
theorem dX8_put_51 : decode cX8_put 51 = .ok (.iload_n 2, 1) := by decide +kernel
theorem dX8_put_52 : decode cX8_put 52 = .ok (.iload_n 3, 1) := by decide +kernel
theorem dX8_put_53 : decode cX8_put 53 = .ok (.invokevirtual 213, 3) := by decide +kernel
theorem dX8_put_56 : decode cX8_put 56 = .ok (.iconst 1, 1) := by decide +kernel
theorem dX8_put_57 : decode cX8_put 57 = .ok (.ireturn, 1) := by decide +kernel
theorem dX8_many_0 : decode cX8_many 0 = .ok (.aload_n 0, 1) := by decide +kernel
theorem dX8_many_1 : decode cX8_many 1 = .ok (.getfield 70, 3) := by decide +kernel
theorem dX8_many_4 : decode cX8_many 4 = .ok (.ireturn, 1) := by decide +kernel
theorem dX8_isWord_0 : decode cX8_isWord 0 = .ok (.iload_n 0, 1) := by decide +kernel
theorem dX8_isWord_1 : decode cX8_isWord 1 = .ok (.ifCond .lt 13, 3) := by decide +kernel
theorem dX8_isWord_4 : decode cX8_isWord 4 = .ok (.iload_n 0, 1) := by decide +kernel
theorem dX8_isWord_5 : decode cX8_isWord 5 = .ok (.bipush 8, 2) := by decide +kernel
theorem dX8_isWord_7 : decode cX8_isWord 7 = .ok (.if_icmp .ge 7, 3) := by decide +kernel
theorem dX8_isWord_10 : decode cX8_isWord 10 = .ok (.iconst 1, 1) := by decide +kernel
theorem dX8_isWord_11 : decode cX8_isWord 11 = .ok (.goto 4, 3) := by decide +kernel
theorem dX8_isWord_14 : decode cX8_isWord 14 = .ok (.iconst 0, 1) := by decide +kernel
theorem dX8_isWord_15 : decode cX8_isWord 15 = .ok (.ireturn, 1) := by decide +kernel
theorem dX8_isKind_0 : decode cX8_isKind 0 = .ok (.iload_n 0, 1) := by decide +kernel
theorem dX8_isKind_1 : decode cX8_isKind 1 = .ok (.ifCond .lt 12, 3) := by decide +kernel
theorem dX8_isKind_4 : decode cX8_isKind 4 = .ok (.iload_n 0, 1) := by decide +kernel
theorem dX8_isKind_5 : decode cX8_isKind 5 = .ok (.iconst 3, 1) := by decide +kernel
theorem dX8_isKind_6 : decode cX8_isKind 6 = .ok (.if_icmp .ge 7, 3) := by decide +kernel
theorem dX8_isKind_9 : decode cX8_isKind 9 = .ok (.iconst 1, 1) := by decide +kernel
theorem dX8_isKind_10 : decode cX8_isKind 10 = .ok (.goto 4, 3) := by decide +kernel
theorem dX8_isKind_13 : decode cX8_isKind 13 = .ok (.iconst 0, 1) := by decide +kernel
theorem dX8_isKind_14 : decode cX8_isKind 14 = .ok (.ireturn, 1) := by decide +kernel
theorem dX8_isSort_0 : decode cX8_isSort 0 = .ok (.iload_n 0, 1) := by decide +kernel
theorem dX8_isSort_1 : decode cX8_isSort 1 = .ok (.ifCond .lt 12, 3) := by decide +kernel
theorem dX8_isSort_4 : decode cX8_isSort 4 = .ok (.iload_n 0, 1) := by decide +kernel
theorem dX8_isSort_5 : decode cX8_isSort 5 = .ok (.iconst 3, 1) := by decide +kernel
theorem dX8_isSort_6 : decode cX8_isSort 6 = .ok (.if_icmp .ge 7, 3) := by decide +kernel
theorem dX8_isSort_9 : decode cX8_isSort 9 = .ok (.iconst 1, 1) := by decide +kernel
theorem dX8_isSort_10 : decode cX8_isSort 10 = .ok (.goto 4, 3) := by decide +kernel
theorem dX8_isSort_13 : decode cX8_isSort 13 = .ok (.iconst 0, 1) := by decide +kernel
theorem dX8_isSort_14 : decode cX8_isSort 14 = .ok (.ireturn, 1) := by decide +kernel
theorem dX8_isFirstOrSecond_0 : decode cX8_isFirstOrSecond 0 = .ok (.iload_n 0, 1) := by decide +kernel
theorem dX8_isFirstOrSecond_1 : decode cX8_isFirstOrSecond 1 = .ok (.ifCond .eq 8, 3) := by decide +kernel
theorem dX8_isFirstOrSecond_4 : decode cX8_isFirstOrSecond 4 = .ok (.iload_n 0, 1) := by decide +kernel
theorem dX8_isFirstOrSecond_5 : decode cX8_isFirstOrSecond 5 = .ok (.iconst 1, 1) := by decide +kernel
theorem dX8_isFirstOrSecond_6 : decode cX8_isFirstOrSecond 6 = .ok (.if_icmp .ne 7, 3) := by decide +kernel
theorem dX8_isFirstOrSecond_9 : decode cX8_isFirstOrSecond 9 = .ok (.iconst 1, 1) := by decide +kernel
theorem dX8_isFirstOrSecond_10 : decode cX8_isFirstOrSecond 10 = .ok (.goto 4, 3) := by decide +kernel
theorem dX8_isFirstOrSecond_13 : decode cX8_isFirstOrSecond 13 = .ok (.iconst 0, 1) := by decide +kernel
theorem dX8_isFirstOrSecond_14 : decode cX8_isFirstOrSecond 14 = .ok (.ireturn, 1) := by decide +kernel
theorem dX8_cryOf_0 : decode cX8_cryOf 0 = .ok (.iload_n 1, 1) := by decide +kernel
theorem dX8_cryOf_1 : decode cX8_cryOf 1 = .ok (.ifCond .lt 26, 3) := by decide +kernel
theorem dX8_cryOf_4 : decode cX8_cryOf 4 = .ok (.iload_n 1, 1) := by decide +kernel
theorem dX8_cryOf_5 : decode cX8_cryOf 5 = .ok (.aload_n 0, 1) := by decide +kernel
theorem dX8_cryOf_6 : decode cX8_cryOf 6 = .ok (.getfield 70, 3) := by decide +kernel
theorem dX8_cryOf_9 : decode cX8_cryOf 9 = .ok (.if_icmp .ge 18, 3) := by decide +kernel
theorem dX8_cryOf_12 : decode cX8_cryOf 12 = .ok (.iload_n 1, 1) := by decide +kernel
theorem dX8_cryOf_13 : decode cX8_cryOf 13 = .ok (.bipush 6, 2) := by decide +kernel
theorem dX8_cryOf_15 : decode cX8_cryOf 15 = .ok (.if_icmp .ge 12, 3) := by decide +kernel
theorem dX8_cryOf_18 : decode cX8_cryOf 18 = .ok (.aload_n 0, 1) := by decide +kernel
theorem dX8_cryOf_19 : decode cX8_cryOf 19 = .ok (.getfield 17, 3) := by decide +kernel
theorem dX8_cryOf_22 : decode cX8_cryOf 22 = .ok (.iload_n 1, 1) := by decide +kernel
theorem dX8_cryOf_23 : decode cX8_cryOf 23 = .ok (.aaload, 1) := by decide +kernel
theorem dX8_cryOf_24 : decode cX8_cryOf 24 = .ok (.goto 4, 3) := by decide +kernel
theorem dX8_cryOf_27 : decode cX8_cryOf 27 = .ok (.aconst_null, 1) := by decide +kernel
theorem dX8_cryOf_28 : decode cX8_cryOf 28 = .ok (.areturn, 1) := by decide +kernel
set_option maxRecDepth 20000 in
theorem ggX8_lastCry_X8_cryOf : GoodIn wsX8_lastCry wsX8_cryOf := goodIn_r _ [6, 1, 7, 8, 9, 10, 11, 12, 13, 14, 15, 16, 17, 18, 19, 20] (by decide +kernel) (by decide +kernel)
set_option maxRecDepth 20000 in
theorem gX8_lastCry_X8_cryOf : GoodIn wsX8_lastCry (wsV RX8 115 RX8 yX8_cryOf wsX8_cryOf) := goodIn_app (goodIn_of _ (by decide +kernel)) ggX8_lastCry_X8_cryOf
theorem dX8_lastCry_0 : decode cX8_lastCry 0 = .ok (.aload_n 0, 1) := by decide +kernel
theorem dX8_lastCry_1 : decode cX8_lastCry 1 = .ok (.aload_n 0, 1) := by decide +kernel
theorem dX8_lastCry_2 : decode cX8_lastCry 2 = .ok (.getfield 70, 3) := by decide +kernel
theorem dX8_lastCry_5 : decode cX8_lastCry 5 = .ok (.iconst 1, 1) := by decide +kernel
theorem dX8_lastCry_6 : decode cX8_lastCry 6 = .ok (.isub, 1) := by decide +kernel
theorem dX8_lastCry_7 : decode cX8_lastCry 7 = .ok (.invokevirtual 115, 3) := by decide +kernel
theorem dX8_lastCry_10 : decode cX8_lastCry 10 = .ok (.areturn, 1) := by decide +kernel
theorem dX8_sheetOf_0 : decode cX8_sheetOf 0 = .ok (.iload_n 1, 1) := by decide +kernel
theorem dX8_sheetOf_1 : decode cX8_sheetOf 1 = .ok (.ifCond .lt 17, 3) := by decide +kernel
theorem dX8_sheetOf_4 : decode cX8_sheetOf 4 = .ok (.iload_n 1, 1) := by decide +kernel
theorem dX8_sheetOf_5 : decode cX8_sheetOf 5 = .ok (.iconst 4, 1) := by decide +kernel
theorem dX8_sheetOf_6 : decode cX8_sheetOf 6 = .ok (.if_icmp .ge 12, 3) := by decide +kernel
theorem dX8_sheetOf_9 : decode cX8_sheetOf 9 = .ok (.aload_n 0, 1) := by decide +kernel
theorem dX8_sheetOf_10 : decode cX8_sheetOf 10 = .ok (.getfield 23, 3) := by decide +kernel
theorem dX8_sheetOf_13 : decode cX8_sheetOf 13 = .ok (.iload_n 1, 1) := by decide +kernel
theorem dX8_sheetOf_14 : decode cX8_sheetOf 14 = .ok (.aaload, 1) := by decide +kernel
theorem dX8_sheetOf_15 : decode cX8_sheetOf 15 = .ok (.goto 4, 3) := by decide +kernel
theorem dX8_sheetOf_18 : decode cX8_sheetOf 18 = .ok (.aconst_null, 1) := by decide +kernel
theorem dX8_sheetOf_19 : decode cX8_sheetOf 19 = .ok (.areturn, 1) := by decide +kernel
theorem dX8_fails_0 : decode cX8_fails 0 = .ok (.aload_n 0, 1) := by decide +kernel
theorem dX8_fails_1 : decode cX8_fails 1 = .ok (.iload_n 1, 1) := by decide +kernel
theorem dX8_fails_2 : decode cX8_fails 2 = .ok (.putfield 77, 3) := by decide +kernel
theorem dX8_fails_5 : decode cX8_fails 5 = .ok (.bipush (-10), 2) := by decide +kernel
theorem dX8_fails_7 : decode cX8_fails 7 = .ok (.iload_n 1, 1) := by decide +kernel
theorem dX8_fails_8 : decode cX8_fails 8 = .ok (.isub, 1) := by decide +kernel
theorem dX8_fails_9 : decode cX8_fails 9 = .ok (.ireturn, 1) := by decide +kernel
set_option maxRecDepth 20000 in
theorem ggX8_readingFault_X6_isNothing : GoodIn wsX8_readingFault wsX6_isNothing := goodIn_r _ [5, 6, 12, 13, 14] (by decide +kernel) (by decide +kernel)
set_option maxRecDepth 20000 in
theorem gX8_readingFault_X6_isNothing : GoodIn wsX8_readingFault (wsV RX8 207 RX6 yX6_isNothing wsX6_isNothing) := goodIn_app (goodIn_of _ (by decide +kernel)) ggX8_readingFault_X6_isNothing
set_option maxRecDepth 20000 in
theorem ggX8_readingFault_X6_sort : GoodIn wsX8_readingFault wsX6_sort := goodIn_r _ [10, 11, 12, 13, 14] (by decide +kernel) (by decide +kernel)
set_option maxRecDepth 20000 in
theorem gX8_readingFault_X6_sort : GoodIn wsX8_readingFault (wsV RX8 217 RX6 yX6_sort wsX6_sort) := goodIn_app (goodIn_of _ (by decide +kernel)) ggX8_readingFault_X6_sort
theorem dX8_readingFault_0 : decode cX8_readingFault 0 = .ok (.aload_n 0, 1) := by decide +kernel
theorem dX8_readingFault_1 : decode cX8_readingFault 1 = .ok (.invokevirtual 207, 3) := by decide +kernel
theorem dX8_readingFault_4 : decode cX8_readingFault 4 = .ok (.ifCond .eq 5, 3) := by decide +kernel
theorem dX8_readingFault_7 : decode cX8_readingFault 7 = .ok (.iconst 1, 1) := by decide +kernel
theorem dX8_readingFault_8 : decode cX8_readingFault 8 = .ok (.ireturn, 1) := by decide +kernel
theorem dX8_readingFault_9 : decode cX8_readingFault 9 = .ok (.aload_n 0, 1) := by decide +kernel
theorem dX8_readingFault_10 : decode cX8_readingFault 10 = .ok (.invokevirtual 217, 3) := by decide +kernel
theorem dX8_readingFault_13 : decode cX8_readingFault 13 = .ok (.iload_n 1, 1) := by decide +kernel
theorem dX8_readingFault_14 : decode cX8_readingFault 14 = .ok (.if_icmp .ne 7, 3) := by decide +kernel
theorem dX8_readingFault_17 : decode cX8_readingFault 17 = .ok (.iconst 0, 1) := by decide +kernel
theorem dX8_readingFault_18 : decode cX8_readingFault 18 = .ok (.goto 4, 3) := by decide +kernel
theorem dX8_readingFault_21 : decode cX8_readingFault 21 = .ok (.iconst 2, 1) := by decide +kernel
theorem dX8_readingFault_22 : decode cX8_readingFault 22 = .ok (.ireturn, 1) := by decide +kernel
theorem dX8_isLetter_0 : decode cX8_isLetter 0 = .ok (.iload_n 0, 1) := by decide +kernel
theorem dX8_isLetter_1 : decode cX8_isLetter 1 = .ok (.bipush 97, 2) := by decide +kernel
theorem dX8_isLetter_3 : decode cX8_isLetter 3 = .ok (.if_icmp .lt 13, 3) := by decide +kernel
theorem dX8_isLetter_6 : decode cX8_isLetter 6 = .ok (.iload_n 0, 1) := by decide +kernel
theorem dX8_isLetter_7 : decode cX8_isLetter 7 = .ok (.bipush 105, 2) := by decide +kernel
theorem dX8_isLetter_9 : decode cX8_isLetter 9 = .ok (.if_icmp .ge 7, 3) := by decide +kernel
theorem dX8_isLetter_12 : decode cX8_isLetter 12 = .ok (.iconst 1, 1) := by decide +kernel
theorem dX8_isLetter_13 : decode cX8_isLetter 13 = .ok (.goto 4, 3) := by decide +kernel
theorem dX8_isLetter_16 : decode cX8_isLetter 16 = .ok (.iconst 0, 1) := by decide +kernel
theorem dX8_isLetter_17 : decode cX8_isLetter 17 = .ok (.ireturn, 1) := by decide +kernel
set_option maxRecDepth 20000 in
theorem ggX8_firstFaultOf_X6_at : GoodIn wsX8_firstFaultOf wsX6_at := goodIn_r _ [5, 6, 7, 8, 9, 4, 10, 11, 16, 17, 18] (by decide +kernel) (by decide +kernel)
set_option maxRecDepth 20000 in
theorem gX8_firstFaultOf_X6_at : GoodIn wsX8_firstFaultOf (wsV RX8 216 RX6 yX6_at wsX6_at) := goodIn_app (goodIn_of _ (by decide +kernel)) ggX8_firstFaultOf_X6_at
set_option maxRecDepth 20000 in
theorem ggX8_firstFaultOf_X8_isLetter : GoodIn wsX8_firstFaultOf wsX8_isLetter := goodIn_r _ [15] (by decide +kernel) (by decide +kernel)
set_option maxRecDepth 20000 in
theorem gX8_firstFaultOf_X8_isLetter : GoodIn wsX8_firstFaultOf (va_wsS RX8 239 yX8_isLetter wsX8_isLetter) := goodIn_app (goodIn_of _ (by decide +kernel)) ggX8_firstFaultOf_X8_isLetter
end
section
theorem dX8_firstFaultOf_0 : decode cX8_firstFaultOf 0 = .ok (.iconst 1, 1) := by decide +kernel
theorem dX8_firstFaultOf_1 : decode cX8_firstFaultOf 1 = .ok (.istore_n 3, 1) := by decide +kernel
theorem dX8_firstFaultOf_2 : decode cX8_firstFaultOf 2 = .ok (.iconst 0, 1) := by decide +kernel
theorem dX8_firstFaultOf_3 : decode cX8_firstFaultOf 3 = .ok (.istore 4, 2) := by decide +kernel
theorem dX8_firstFaultOf_5 : decode cX8_firstFaultOf 5 = .ok (.iconst 0, 1) := by decide +kernel
theorem dX8_firstFaultOf_6 : decode cX8_firstFaultOf 6 = .ok (.istore 5, 2) := by decide +kernel
theorem dX8_firstFaultOf_8 : decode cX8_firstFaultOf 8 = .ok (.iload 5, 2) := by decide +kernel
theorem dX8_firstFaultOf_10 : decode cX8_firstFaultOf 10 = .ok (.iload_n 2, 1) := by decide +kernel
theorem dX8_firstFaultOf_11 : decode cX8_firstFaultOf 11 = .ok (.if_icmp .ge 70, 3) := by decide +kernel
theorem dX8_firstFaultOf_14 : decode cX8_firstFaultOf 14 = .ok (.aload_n 0, 1) := by decide +kernel
theorem dX8_firstFaultOf_15 : decode cX8_firstFaultOf 15 = .ok (.iload_n 1, 1) := by decide +kernel
theorem dX8_firstFaultOf_16 : decode cX8_firstFaultOf 16 = .ok (.iload 5, 2) := by decide +kernel
theorem dX8_firstFaultOf_18 : decode cX8_firstFaultOf 18 = .ok (.iadd, 1) := by decide +kernel
theorem dX8_firstFaultOf_19 : decode cX8_firstFaultOf 19 = .ok (.invokevirtual 216, 3) := by decide +kernel
theorem dX8_firstFaultOf_22 : decode cX8_firstFaultOf 22 = .ok (.istore 6, 2) := by decide +kernel
theorem dX8_firstFaultOf_24 : decode cX8_firstFaultOf 24 = .ok (.iload 6, 2) := by decide +kernel
theorem dX8_firstFaultOf_26 : decode cX8_firstFaultOf 26 = .ok (.invokestatic 239, 3) := by decide +kernel
theorem dX8_firstFaultOf_29 : decode cX8_firstFaultOf 29 = .ok (.ifCond .eq 16, 3) := by decide +kernel
theorem dX8_firstFaultOf_32 : decode cX8_firstFaultOf 32 = .ok (.iload 4, 2) := by decide +kernel
theorem dX8_firstFaultOf_34 : decode cX8_firstFaultOf 34 = .ok (.bipush 12, 2) := by decide +kernel
theorem dX8_firstFaultOf_36 : decode cX8_firstFaultOf 36 = .ok (.if_icmp .ge 9, 3) := by decide +kernel
theorem dX8_firstFaultOf_39 : decode cX8_firstFaultOf 39 = .ok (.iinc 4 1, 3) := by decide +kernel
theorem dX8_firstFaultOf_42 : decode cX8_firstFaultOf 42 = .ok (.goto 33, 3) := by decide +kernel
theorem dX8_firstFaultOf_45 : decode cX8_firstFaultOf 45 = .ok (.iload 6, 2) := by decide +kernel
theorem dX8_firstFaultOf_47 : decode cX8_firstFaultOf 47 = .ok (.bipush 59, 2) := by decide +kernel
theorem dX8_firstFaultOf_49 : decode cX8_firstFaultOf 49 = .ok (.if_icmp .ne 23, 3) := by decide +kernel
theorem dX8_firstFaultOf_52 : decode cX8_firstFaultOf 52 = .ok (.iload 4, 2) := by decide +kernel
theorem dX8_firstFaultOf_54 : decode cX8_firstFaultOf 54 = .ok (.ifCond .le 18, 3) := by decide +kernel
theorem dX8_firstFaultOf_57 : decode cX8_firstFaultOf 57 = .ok (.iload_n 3, 1) := by decide +kernel
theorem dX8_firstFaultOf_58 : decode cX8_firstFaultOf 58 = .ok (.bipush 6, 2) := by decide +kernel
theorem dX8_firstFaultOf_60 : decode cX8_firstFaultOf 60 = .ok (.if_icmp .ge 12, 3) := by decide +kernel
theorem dX8_firstFaultOf_63 : decode cX8_firstFaultOf 63 = .ok (.iinc 3 1, 3) := by decide +kernel
theorem dX8_firstFaultOf_66 : decode cX8_firstFaultOf 66 = .ok (.iconst 0, 1) := by decide +kernel
theorem dX8_firstFaultOf_67 : decode cX8_firstFaultOf 67 = .ok (.istore 4, 2) := by decide +kernel
theorem dX8_firstFaultOf_69 : decode cX8_firstFaultOf 69 = .ok (.goto 6, 3) := by decide +kernel
theorem dX8_firstFaultOf_72 : decode cX8_firstFaultOf 72 = .ok (.iload 5, 2) := by decide +kernel
theorem dX8_firstFaultOf_74 : decode cX8_firstFaultOf 74 = .ok (.ireturn, 1) := by decide +kernel
theorem dX8_firstFaultOf_75 : decode cX8_firstFaultOf 75 = .ok (.iinc 5 1, 3) := by decide +kernel
theorem dX8_firstFaultOf_78 : decode cX8_firstFaultOf 78 = .ok (.goto (-70), 3) := by decide +kernel
theorem dX8_firstFaultOf_81 : decode cX8_firstFaultOf 81 = .ok (.iload 4, 2) := by decide +kernel
theorem dX8_firstFaultOf_83 : decode cX8_firstFaultOf 83 = .ok (.ifCond .ne 7, 3) := by decide +kernel
theorem dX8_firstFaultOf_86 : decode cX8_firstFaultOf 86 = .ok (.iload_n 2, 1) := by decide +kernel
theorem dX8_firstFaultOf_87 : decode cX8_firstFaultOf 87 = .ok (.goto 5, 3) := by decide +kernel
theorem dX8_firstFaultOf_90 : decode cX8_firstFaultOf 90 = .ok (.bipush (-9), 2) := by decide +kernel
theorem dX8_firstFaultOf_92 : decode cX8_firstFaultOf 92 = .ok (.ireturn, 1) := by decide +kernel
set_option maxRecDepth 20000 in
theorem ggX8_takeText_X8_beginDay : GoodIn wsX8_takeText wsX8_beginDay := goodIn_r _ [6, 1, 7, 8, 9, 5, 10, 11, 12, 13, 14, 15, 16, 17, 18, 19, 20, 21, 49, 50, 51, 52, 53, 54, 55, 56, 57, 58, 59, 60, 61, 62, 63] (by decide +kernel) (by decide +kernel)
set_option maxRecDepth 20000 in
theorem gX8_takeText_X8_beginDay : GoodIn wsX8_takeText (wsV RX8 242 RX8 yX8_beginDay wsX8_beginDay) := goodIn_app (goodIn_of _ (by decide +kernel)) ggX8_takeText_X8_beginDay
set_option maxRecDepth 20000 in
theorem ggX8_takeText_X6_at : GoodIn wsX8_takeText wsX6_at := goodIn_r _ [26, 27, 28, 29, 30, 25, 31, 32, 64, 65, 66] (by decide +kernel) (by decide +kernel)
set_option maxRecDepth 20000 in
theorem gX8_takeText_X6_at : GoodIn wsX8_takeText (wsV RX8 216 RX6 yX6_at wsX6_at) := goodIn_app (goodIn_of _ (by decide +kernel)) ggX8_takeText_X6_at
set_option maxRecDepth 20000 in
theorem ggX8_takeText_X8_lastCry : GoodIn wsX8_takeText wsX8_lastCry := goodIn_r _ [10, 1, 11, 12, 13, 5, 14, 15, 49, 50, 51, 52, 53, 54, 55, 56, 57, 58, 59, 60, 61] (by decide +kernel) (by decide +kernel)
set_option maxRecDepth 20000 in
theorem gX8_takeText_X8_lastCry : GoodIn wsX8_takeText (wsV RX8 129 RX8 yX8_lastCry wsX8_lastCry) := goodIn_app (goodIn_of _ (by decide +kernel)) ggX8_takeText_X8_lastCry
set_option maxRecDepth 20000 in
theorem ggX8_takeText_X8_isLetter : GoodIn wsX8_takeText wsX8_isLetter := goodIn_r _ [35] (by decide +kernel) (by decide +kernel)
set_option maxRecDepth 20000 in
theorem gX8_takeText_X8_isLetter : GoodIn wsX8_takeText (va_wsS RX8 239 yX8_isLetter wsX8_isLetter) := goodIn_app (goodIn_of _ (by decide +kernel)) ggX8_takeText_X8_isLetter
set_option maxRecDepth 20000 in
theorem ggX8_takeText_X2_size : GoodIn wsX8_takeText wsX2_size := goodIn_r _ [39, 21, 62, 63] (by decide +kernel) (by decide +kernel)
set_option maxRecDepth 20000 in
theorem gX8_takeText_X2_size : GoodIn wsX8_takeText (wsV RX8 119 RX2 yX2_size wsX2_size) := goodIn_app (goodIn_of _ (by decide +kernel)) ggX8_takeText_X2_size
set_option maxRecDepth 20000 in
theorem ggX8_takeText_X2_insert : GoodIn wsX8_takeText wsX2_insert := goodIn_r _ [43, 21, 44, 45, 46, 47, 19, 48, 62, 63] (by decide +kernel) (by decide +kernel)
set_option maxRecDepth 20000 in
theorem gX8_takeText_X2_insert : GoodIn wsX8_takeText (wsV RX8 137 RX2 yX2_insert wsX2_insert) := goodIn_app (goodIn_of _ (by decide +kernel)) ggX8_takeText_X2_insert
theorem dX8_takeText_0 : decode cX8_takeText 0 = .ok (.aload_n 0, 1) := by decide +kernel
theorem dX8_takeText_1 : decode cX8_takeText 1 = .ok (.iconst 0, 1) := by decide +kernel
theorem dX8_takeText_2 : decode cX8_takeText 2 = .ok (.putfield 70, 3) := by decide +kernel
theorem dX8_takeText_5 : decode cX8_takeText 5 = .ok (.aload_n 0, 1) := by decide +kernel
theorem dX8_takeText_6 : decode cX8_takeText 6 = .ok (.invokevirtual 242, 3) := by decide +kernel
theorem dX8_takeText_9 : decode cX8_takeText 9 = .ok (.iconst 0, 1) := by decide +kernel
theorem dX8_takeText_10 : decode cX8_takeText 10 = .ok (.istore 4, 2) := by decide +kernel
theorem dX8_takeText_12 : decode cX8_takeText 12 = .ok (.iload 4, 2) := by decide +kernel
theorem dX8_takeText_14 : decode cX8_takeText 14 = .ok (.iload_n 3, 1) := by decide +kernel
theorem dX8_takeText_15 : decode cX8_takeText 15 = .ok (.if_icmp .ge 67, 3) := by decide +kernel
theorem dX8_takeText_18 : decode cX8_takeText 18 = .ok (.aload_n 1, 1) := by decide +kernel
theorem dX8_takeText_19 : decode cX8_takeText 19 = .ok (.iload_n 2, 1) := by decide +kernel
theorem dX8_takeText_20 : decode cX8_takeText 20 = .ok (.iload 4, 2) := by decide +kernel
theorem dX8_takeText_22 : decode cX8_takeText 22 = .ok (.iadd, 1) := by decide +kernel
theorem dX8_takeText_23 : decode cX8_takeText 23 = .ok (.invokevirtual 216, 3) := by decide +kernel
theorem dX8_takeText_26 : decode cX8_takeText 26 = .ok (.istore 5, 2) := by decide +kernel
theorem dX8_takeText_28 : decode cX8_takeText 28 = .ok (.aload_n 0, 1) := by decide +kernel
theorem dX8_takeText_29 : decode cX8_takeText 29 = .ok (.invokevirtual 129, 3) := by decide +kernel
theorem dX8_takeText_32 : decode cX8_takeText 32 = .ok (.astore 6, 2) := by decide +kernel
theorem dX8_takeText_34 : decode cX8_takeText 34 = .ok (.iload 5, 2) := by decide +kernel
theorem dX8_takeText_36 : decode cX8_takeText 36 = .ok (.bipush 59, 2) := by decide +kernel
theorem dX8_takeText_38 : decode cX8_takeText 38 = .ok (.if_icmp .ne 10, 3) := by decide +kernel
theorem dX8_takeText_41 : decode cX8_takeText 41 = .ok (.aload_n 0, 1) := by decide +kernel
theorem dX8_takeText_42 : decode cX8_takeText 42 = .ok (.invokevirtual 242, 3) := by decide +kernel
theorem dX8_takeText_45 : decode cX8_takeText 45 = .ok (.goto 31, 3) := by decide +kernel
theorem dX8_takeText_48 : decode cX8_takeText 48 = .ok (.aload 6, 2) := by decide +kernel
theorem dX8_takeText_50 : decode cX8_takeText 50 = .ok (.ifnull 26, 3) := by decide +kernel
theorem dX8_takeText_53 : decode cX8_takeText 53 = .ok (.iload 5, 2) := by decide +kernel
theorem dX8_takeText_55 : decode cX8_takeText 55 = .ok (.invokestatic 239, 3) := by decide +kernel
theorem dX8_takeText_58 : decode cX8_takeText 58 = .ok (.ifCond .eq 18, 3) := by decide +kernel
theorem dX8_takeText_61 : decode cX8_takeText 61 = .ok (.aload 6, 2) := by decide +kernel
theorem dX8_takeText_63 : decode cX8_takeText 63 = .ok (.aload 6, 2) := by decide +kernel
theorem dX8_takeText_65 : decode cX8_takeText 65 = .ok (.invokevirtual 119, 3) := by decide +kernel
theorem dX8_takeText_68 : decode cX8_takeText 68 = .ok (.iload 5, 2) := by decide +kernel
theorem dX8_takeText_70 : decode cX8_takeText 70 = .ok (.bipush 97, 2) := by decide +kernel
theorem dX8_takeText_72 : decode cX8_takeText 72 = .ok (.isub, 1) := by decide +kernel
theorem dX8_takeText_73 : decode cX8_takeText 73 = .ok (.invokevirtual 137, 3) := by decide +kernel
theorem dX8_takeText_76 : decode cX8_takeText 76 = .ok (.iinc 4 1, 3) := by decide +kernel
theorem dX8_takeText_79 : decode cX8_takeText 79 = .ok (.goto (-67), 3) := by decide +kernel
theorem dX8_takeText_82 : decode cX8_takeText 82 = .ok (.return_, 1) := by decide +kernel
set_option maxRecDepth 20000 in
theorem ggX8_beginDay_X8_lastCry : GoodIn wsX8_beginDay wsX8_lastCry := goodIn_r _ [6, 1, 7, 8, 9, 5, 10, 11, 18, 19, 20, 21, 22, 23, 24, 25, 26, 27, 28, 29, 30] (by decide +kernel) (by decide +kernel)
set_option maxRecDepth 20000 in
theorem gX8_beginDay_X8_lastCry : GoodIn wsX8_beginDay (wsV RX8 129 RX8 yX8_lastCry wsX8_lastCry) := goodIn_app (goodIn_of _ (by decide +kernel)) ggX8_beginDay_X8_lastCry
set_option maxRecDepth 20000 in
theorem ggX8_beginDay_X2_clear : GoodIn wsX8_beginDay wsX2_clear := goodIn_r _ [16, 17, 31, 32] (by decide +kernel) (by decide +kernel)
set_option maxRecDepth 20000 in
theorem gX8_beginDay_X2_clear : GoodIn wsX8_beginDay (wsV RX8 245 RX2 yX2_clear wsX2_clear) := goodIn_app (goodIn_of _ (by decide +kernel)) ggX8_beginDay_X2_clear
theorem dX8_beginDay_0 : decode cX8_beginDay 0 = .ok (.aload_n 0, 1) := by decide +kernel
theorem dX8_beginDay_1 : decode cX8_beginDay 1 = .ok (.getfield 70, 3) := by decide +kernel
theorem dX8_beginDay_4 : decode cX8_beginDay 4 = .ok (.bipush 6, 2) := by decide +kernel
theorem dX8_beginDay_6 : decode cX8_beginDay 6 = .ok (.if_icmp .lt 4, 3) := by decide +kernel
theorem dX8_beginDay_9 : decode cX8_beginDay 9 = .ok (.return_, 1) := by decide +kernel
theorem dX8_beginDay_10 : decode cX8_beginDay 10 = .ok (.aload_n 0, 1) := by decide +kernel
theorem dX8_beginDay_11 : decode cX8_beginDay 11 = .ok (.dup, 1) := by decide +kernel
theorem dX8_beginDay_12 : decode cX8_beginDay 12 = .ok (.getfield 70, 3) := by decide +kernel
theorem dX8_beginDay_15 : decode cX8_beginDay 15 = .ok (.iconst 1, 1) := by decide +kernel
theorem dX8_beginDay_16 : decode cX8_beginDay 16 = .ok (.iadd, 1) := by decide +kernel
theorem dX8_beginDay_17 : decode cX8_beginDay 17 = .ok (.putfield 70, 3) := by decide +kernel
theorem dX8_beginDay_20 : decode cX8_beginDay 20 = .ok (.aload_n 0, 1) := by decide +kernel
theorem dX8_beginDay_21 : decode cX8_beginDay 21 = .ok (.invokevirtual 129, 3) := by decide +kernel
theorem dX8_beginDay_24 : decode cX8_beginDay 24 = .ok (.astore_n 1, 1) := by decide +kernel
theorem dX8_beginDay_25 : decode cX8_beginDay 25 = .ok (.aload_n 1, 1) := by decide +kernel
theorem dX8_beginDay_26 : decode cX8_beginDay 26 = .ok (.ifnull 7, 3) := by decide +kernel
theorem dX8_beginDay_29 : decode cX8_beginDay 29 = .ok (.aload_n 1, 1) := by decide +kernel
theorem dX8_beginDay_30 : decode cX8_beginDay 30 = .ok (.invokevirtual 245, 3) := by decide +kernel
theorem dX8_beginDay_33 : decode cX8_beginDay 33 = .ok (.return_, 1) := by decide +kernel
theorem dJ9_min_7cf53_0 : decode cJ9_min_7cf53 0 = .ok (.iload_n 0, 1) := by decide +kernel
theorem dJ9_min_7cf53_1 : decode cJ9_min_7cf53 1 = .ok (.iload_n 1, 1) := by decide +kernel
theorem dJ9_min_7cf53_2 : decode cJ9_min_7cf53 2 = .ok (.if_icmp .gt 7, 3) := by decide +kernel
theorem dJ9_min_7cf53_5 : decode cJ9_min_7cf53 5 = .ok (.iload_n 0, 1) := by decide +kernel
theorem dJ9_min_7cf53_6 : decode cJ9_min_7cf53 6 = .ok (.goto 4, 3) := by decide +kernel
theorem dJ9_min_7cf53_9 : decode cJ9_min_7cf53 9 = .ok (.iload_n 1, 1) := by decide +kernel
theorem dJ9_min_7cf53_10 : decode cJ9_min_7cf53 10 = .ok (.ireturn, 1) := by decide +kernel
theorem dJ7_fill_d0a16_0 : decode cJ7_fill_d0a16 0 = .ok (.iconst 0, 1) := by decide +kernel
theorem dJ7_fill_d0a16_1 : decode cJ7_fill_d0a16 1 = .ok (.istore_n 3, 1) := by decide +kernel
theorem dJ7_fill_d0a16_2 : decode cJ7_fill_d0a16 2 = .ok (.aload_n 0, 1) := by decide +kernel
theorem dJ7_fill_d0a16_3 : decode cJ7_fill_d0a16 3 = .ok (.arraylength, 1) := by decide +kernel
theorem dJ7_fill_d0a16_4 : decode cJ7_fill_d0a16 4 = .ok (.istore 4, 2) := by decide +kernel
theorem dJ7_fill_d0a16_6 : decode cJ7_fill_d0a16 6 = .ok (.iload_n 3, 1) := by decide +kernel
theorem dJ7_fill_d0a16_7 : decode cJ7_fill_d0a16 7 = .ok (.iload 4, 2) := by decide +kernel
theorem dJ7_fill_d0a16_9 : decode cJ7_fill_d0a16 9 = .ok (.if_icmp .ge 13, 3) := by decide +kernel
theorem dJ7_fill_d0a16_12 : decode cJ7_fill_d0a16 12 = .ok (.aload_n 0, 1) := by decide +kernel
theorem dJ7_fill_d0a16_13 : decode cJ7_fill_d0a16 13 = .ok (.iload_n 3, 1) := by decide +kernel
theorem dJ7_fill_d0a16_14 : decode cJ7_fill_d0a16 14 = .ok (.lload_n 1, 1) := by decide +kernel
theorem dJ7_fill_d0a16_15 : decode cJ7_fill_d0a16 15 = .ok (.lastore, 1) := by decide +kernel
theorem dJ7_fill_d0a16_16 : decode cJ7_fill_d0a16 16 = .ok (.iinc 3 1, 3) := by decide +kernel
theorem dJ7_fill_d0a16_19 : decode cJ7_fill_d0a16 19 = .ok (.goto (-13), 3) := by decide +kernel
theorem dJ7_fill_d0a16_22 : decode cJ7_fill_d0a16 22 = .ok (.return_, 1) := by decide +kernel
theorem dJ7_fill_53178_0 : decode cJ7_fill_53178 0 = .ok (.iconst 0, 1) := by decide +kernel
theorem dJ7_fill_53178_1 : decode cJ7_fill_53178 1 = .ok (.istore_n 2, 1) := by decide +kernel
theorem dJ7_fill_53178_2 : decode cJ7_fill_53178 2 = .ok (.aload_n 0, 1) := by decide +kernel
theorem dJ7_fill_53178_3 : decode cJ7_fill_53178 3 = .ok (.arraylength, 1) := by decide +kernel
theorem dJ7_fill_53178_4 : decode cJ7_fill_53178 4 = .ok (.istore_n 3, 1) := by decide +kernel
theorem dJ7_fill_53178_5 : decode cJ7_fill_53178 5 = .ok (.iload_n 2, 1) := by decide +kernel
theorem dJ7_fill_53178_6 : decode cJ7_fill_53178 6 = .ok (.iload_n 3, 1) := by decide +kernel
theorem dJ7_fill_53178_7 : decode cJ7_fill_53178 7 = .ok (.if_icmp .ge 13, 3) := by decide +kernel
theorem dJ7_fill_53178_10 : decode cJ7_fill_53178 10 = .ok (.aload_n 0, 1) := by decide +kernel
theorem dJ7_fill_53178_11 : decode cJ7_fill_53178 11 = .ok (.iload_n 2, 1) := by decide +kernel
theorem dJ7_fill_53178_12 : decode cJ7_fill_53178 12 = .ok (.iload_n 1, 1) := by decide +kernel
theorem dJ7_fill_53178_13 : decode cJ7_fill_53178 13 = .ok (.iastore, 1) := by decide +kernel
theorem dJ7_fill_53178_14 : decode cJ7_fill_53178 14 = .ok (.iinc 2 1, 3) := by decide +kernel
theorem dJ7_fill_53178_17 : decode cJ7_fill_53178 17 = .ok (.goto (-12), 3) := by decide +kernel
theorem dJ7_fill_53178_20 : decode cJ7_fill_53178 20 = .ok (.return_, 1) := by decide +kernel
theorem dL_cell_0 : decode cL_cell 0 = .ok (.iload_n 1, 1) := by decide +kernel
theorem dL_cell_1 : decode cL_cell 1 = .ok (.aload_n 0, 1) := by decide +kernel
theorem dL_cell_2 : decode cL_cell 2 = .ok (.arraylength, 1) := by decide +kernel
theorem dL_cell_3 : decode cL_cell 3 = .ok (.if_icmp .ge 9, 3) := by decide +kernel
theorem dL_cell_6 : decode cL_cell 6 = .ok (.aload_n 0, 1) := by decide +kernel
theorem dL_cell_7 : decode cL_cell 7 = .ok (.iload_n 1, 1) := by decide +kernel
theorem dL_cell_8 : decode cL_cell 8 = .ok (.iaload, 1) := by decide +kernel
theorem dL_cell_9 : decode cL_cell 9 = .ok (.goto 9, 3) := by decide +kernel
theorem dL_cell_12 : decode cL_cell 12 = .ok (.ldc 7, 2) := by decide +kernel
theorem dL_cell_14 : decode cL_cell 14 = .ok (.iload_n 1, 1) := by decide +kernel
theorem dL_cell_15 : decode cL_cell 15 = .ok (.iconst 1, 1) := by decide +kernel
theorem dL_cell_16 : decode cL_cell 16 = .ok (.iadd, 1) := by decide +kernel
theorem dL_cell_17 : decode cL_cell 17 = .ok (.imul, 1) := by decide +kernel
theorem dL_cell_18 : decode cL_cell 18 = .ok (.ireturn, 1) := by decide +kernel
theorem dL_some_0 : decode cL_some 0 = .ok (.iload_n 0, 1) := by decide +kernel
theorem dL_some_1 : decode cL_some 1 = .ok (.ldc 8, 2) := by decide +kernel
theorem dL_some_3 : decode cL_some 3 = .ok (.iand, 1) := by decide +kernel
theorem dL_some_4 : decode cL_some 4 = .ok (.iload_n 1, 1) := by decide +kernel
theorem dL_some_5 : decode cL_some 5 = .ok (.irem, 1) := by decide +kernel
theorem dL_some_6 : decode cL_some 6 = .ok (.ireturn, 1) := by decide +kernel
set_option maxRecDepth 20000 in
theorem ggL_put_L_cell : GoodIn wsL_put wsL_cell := goodIn_r _ [4, 5] (by decide +kernel) (by decide +kernel)
set_option maxRecDepth 20000 in
theorem gL_put_L_cell : GoodIn wsL_put (va_wsS RL 9 yL_cell wsL_cell) := goodIn_app (goodIn_of _ (by decide +kernel)) ggL_put_L_cell
set_option maxRecDepth 20000 in
theorem ggL_put_L_some : GoodIn wsL_put wsL_some := goodIn_r _ [8, 9] (by decide +kernel) (by decide +kernel)
set_option maxRecDepth 20000 in
theorem gL_put_L_some : GoodIn wsL_put (va_wsS RL 15 yL_some wsL_some) := goodIn_app (goodIn_of _ (by decide +kernel)) ggL_put_L_some
set_option maxRecDepth 20000 in
theorem ggL_put_X8_sheet : GoodIn wsL_put wsX8_sheet := goodIn_r _ [14, 15, 16, 17, 18, 13, 19, 20, 21, 22, 23, 24, 25, 26, 27, 28, 29, 30, 31, 32, 33, 34, 35, 36, 37, 38, 39, 68, 69, 70, 71, 72, 73, 74, 75, 76, 77, 78, 79, 80, 81, 82, 83] (by decide +kernel) (by decide +kernel)
set_option maxRecDepth 20000 in
theorem gL_put_X8_sheet : GoodIn wsL_put (wsV RL 19 RX8 yX8_sheet wsX8_sheet) := goodIn_app (goodIn_of _ (by decide +kernel)) ggL_put_X8_sheet
set_option maxRecDepth 20000 in
theorem ggL_put_L_with : GoodIn wsL_put wsL_with := goodIn_r _ [42] (by decide +kernel) (by decide +kernel)
set_option maxRecDepth 20000 in
theorem gL_put_L_with : GoodIn wsL_put (va_wsS RL 25 yL_with wsL_with) := goodIn_app (goodIn_of _ (by decide +kernel)) ggL_put_L_with
set_option maxRecDepth 20000 in
theorem ggL_put_X8_put : GoodIn wsL_put wsX8_put := goodIn_r _ [46, 15, 16, 17, 18, 13, 19, 20, 47, 48, 49, 31, 50, 34, 24, 25, 26, 27, 51, 52, 53, 54, 55, 56, 57, 58, 33, 59, 60, 61, 62, 63, 35, 68, 69, 70, 71, 72, 73, 74, 75, 76, 77, 78, 79, 80, 81, 82, 83] (by decide +kernel) (by decide +kernel)
set_option maxRecDepth 20000 in
theorem gL_put_X8_put : GoodIn wsL_put (wsV RL 29 RX8 yX8_put wsX8_put) := goodIn_app (goodIn_of _ (by decide +kernel)) ggL_put_X8_put
set_option maxRecDepth 20000 in
theorem ggL_put_L_word : GoodIn wsL_put wsL_word := goodIn_r _ [66, 67] (by decide +kernel) (by decide +kernel)
set_option maxRecDepth 20000 in
theorem gL_put_L_word : GoodIn wsL_put (va_wsS RL 32 yL_word wsL_word) := goodIn_app (goodIn_of _ (by decide +kernel)) ggL_put_L_word
theorem dL_put_0 : decode cL_put 0 = .ok (.aload_n 1, 1) := by decide +kernel
theorem dL_put_1 : decode cL_put 1 = .ok (.iload_n 2, 1) := by decide +kernel
theorem dL_put_2 : decode cL_put 2 = .ok (.invokestatic 9, 3) := by decide +kernel
theorem dL_put_5 : decode cL_put 5 = .ok (.istore 6, 2) := by decide +kernel
theorem dL_put_7 : decode cL_put 7 = .ok (.aload 5, 2) := by decide +kernel
theorem dL_put_9 : decode cL_put 9 = .ok (.iconst 0, 1) := by decide +kernel
theorem dL_put_10 : decode cL_put 10 = .ok (.iconst 1, 1) := by decide +kernel
theorem dL_put_11 : decode cL_put 11 = .ok (.iload 6, 2) := by decide +kernel
theorem dL_put_13 : decode cL_put 13 = .ok (.bipush 6, 2) := by decide +kernel
theorem dL_put_15 : decode cL_put 15 = .ok (.invokestatic 15, 3) := by decide +kernel
theorem dL_put_18 : decode cL_put 18 = .ok (.iadd, 1) := by decide +kernel
theorem dL_put_19 : decode cL_put 19 = .ok (.iastore, 1) := by decide +kernel
theorem dL_put_20 : decode cL_put 20 = .ok (.aload_n 0, 1) := by decide +kernel
theorem dL_put_21 : decode cL_put 21 = .ok (.iconst 0, 1) := by decide +kernel
theorem dL_put_22 : decode cL_put 22 = .ok (.iconst 0, 1) := by decide +kernel
theorem dL_put_23 : decode cL_put 23 = .ok (.bipush 80, 2) := by decide +kernel
theorem dL_put_25 : decode cL_put 25 = .ok (.invokevirtual 19, 3) := by decide +kernel
theorem dL_put_28 : decode cL_put 28 = .ok (.iconst 1, 1) := by decide +kernel
theorem dL_put_29 : decode cL_put 29 = .ok (.if_icmp .eq 6, 3) := by decide +kernel
theorem dL_put_32 : decode cL_put 32 = .ok (.bipush (-99), 2) := by decide +kernel
theorem dL_put_34 : decode cL_put 34 = .ok (.ireturn, 1) := by decide +kernel
theorem dL_put_35 : decode cL_put 35 = .ok (.iconst 0, 1) := by decide +kernel
theorem dL_put_36 : decode cL_put 36 = .ok (.istore 7, 2) := by decide +kernel
theorem dL_put_38 : decode cL_put 38 = .ok (.iconst 0, 1) := by decide +kernel
theorem dL_put_39 : decode cL_put 39 = .ok (.istore 8, 2) := by decide +kernel
theorem dL_put_41 : decode cL_put 41 = .ok (.iload 8, 2) := by decide +kernel
theorem dL_put_43 : decode cL_put 43 = .ok (.aload 5, 2) := by decide +kernel
theorem dL_put_45 : decode cL_put 45 = .ok (.iconst 0, 1) := by decide +kernel
theorem dL_put_46 : decode cL_put 46 = .ok (.iaload, 1) := by decide +kernel
theorem dL_put_47 : decode cL_put 47 = .ok (.if_icmp .ge 305, 3) := by decide +kernel
theorem dL_put_50 : decode cL_put 50 = .ok (.aload_n 1, 1) := by decide +kernel
theorem dL_put_51 : decode cL_put 51 = .ok (.iload_n 2, 1) := by decide +kernel
theorem dL_put_52 : decode cL_put 52 = .ok (.iconst 1, 1) := by decide +kernel
theorem dL_put_53 : decode cL_put 53 = .ok (.iadd, 1) := by decide +kernel
theorem dL_put_54 : decode cL_put 54 = .ok (.iload 8, 2) := by decide +kernel
theorem dL_put_56 : decode cL_put 56 = .ok (.iconst 3, 1) := by decide +kernel
theorem dL_put_57 : decode cL_put 57 = .ok (.irem, 1) := by decide +kernel
theorem dL_put_58 : decode cL_put 58 = .ok (.iadd, 1) := by decide +kernel
theorem dL_put_59 : decode cL_put 59 = .ok (.invokestatic 9, 3) := by decide +kernel
theorem dL_put_62 : decode cL_put 62 = .ok (.iload 8, 2) := by decide +kernel
theorem dL_put_64 : decode cL_put 64 = .ok (.iconst 3, 1) := by decide +kernel
theorem dL_put_65 : decode cL_put 65 = .ok (.idiv, 1) := by decide +kernel
theorem dL_put_66 : decode cL_put 66 = .ok (.bipush 9, 2) := by decide +kernel
theorem dL_put_68 : decode cL_put 68 = .ok (.imul, 1) := by decide +kernel
theorem dL_put_69 : decode cL_put 69 = .ok (.ishr, 1) := by decide +kernel
theorem dL_put_70 : decode cL_put 70 = .ok (.istore 9, 2) := by decide +kernel
theorem dL_put_72 : decode cL_put 72 = .ok (.iload 8, 2) := by decide +kernel
theorem dL_put_74 : decode cL_put 74 = .ok (.ifCond .le 16, 3) := by decide +kernel
theorem dL_put_77 : decode cL_put 77 = .ok (.iload 9, 2) := by decide +kernel
theorem dL_put_79 : decode cL_put 79 = .ok (.iconst 4, 1) := by decide +kernel
theorem dL_put_80 : decode cL_put 80 = .ok (.invokestatic 15, 3) := by decide +kernel
theorem dL_put_83 : decode cL_put 83 = .ok (.ifCond .le 7, 3) := by decide +kernel
theorem dL_put_86 : decode cL_put 86 = .ok (.iconst 1, 1) := by decide +kernel
theorem dL_put_87 : decode cL_put 87 = .ok (.goto 4, 3) := by decide +kernel
theorem dL_put_90 : decode cL_put 90 = .ok (.iconst 0, 1) := by decide +kernel
theorem dL_put_91 : decode cL_put 91 = .ok (.istore 10, 2) := by decide +kernel
theorem dL_put_93 : decode cL_put 93 = .ok (.aload 4, 2) := by decide +kernel
theorem dL_put_95 : decode cL_put 95 = .ok (.iload 8, 2) := by decide +kernel
theorem dL_put_97 : decode cL_put 97 = .ok (.iload 10, 2) := by decide +kernel
theorem dL_put_99 : decode cL_put 99 = .ok (.ifCond .eq 13, 3) := by decide +kernel
theorem dL_put_102 : decode cL_put 102 = .ok (.aload 4, 2) := by decide +kernel
theorem dL_put_104 : decode cL_put 104 = .ok (.iload 8, 2) := by decide +kernel
theorem dL_put_106 : decode cL_put 106 = .ok (.iconst 1, 1) := by decide +kernel
theorem dL_put_107 : decode cL_put 107 = .ok (.isub, 1) := by decide +kernel
theorem dL_put_108 : decode cL_put 108 = .ok (.laload, 1) := by decide +kernel
theorem dL_put_109 : decode cL_put 109 = .ok (.goto 4, 3) := by decide +kernel
theorem dL_put_112 : decode cL_put 112 = .ok (.lconst 0, 1) := by decide +kernel
theorem dL_put_113 : decode cL_put 113 = .ok (.lastore, 1) := by decide +kernel
theorem dL_put_114 : decode cL_put 114 = .ok (.aload 5, 2) := by decide +kernel
theorem dL_put_116 : decode cL_put 116 = .ok (.iconst 1, 1) := by decide +kernel
theorem dL_put_117 : decode cL_put 117 = .ok (.iload 8, 2) := by decide +kernel
theorem dL_put_119 : decode cL_put 119 = .ok (.iadd, 1) := by decide +kernel
theorem dL_put_120 : decode cL_put 120 = .ok (.iload 10, 2) := by decide +kernel
theorem dL_put_122 : decode cL_put 122 = .ok (.ifCond .eq 11, 3) := by decide +kernel
theorem dL_put_125 : decode cL_put 125 = .ok (.aload 5, 2) := by decide +kernel
theorem dL_put_127 : decode cL_put 127 = .ok (.iload 8, 2) := by decide +kernel
theorem dL_put_129 : decode cL_put 129 = .ok (.iaload, 1) := by decide +kernel
theorem dL_put_130 : decode cL_put 130 = .ok (.goto 4, 3) := by decide +kernel
theorem dL_put_133 : decode cL_put 133 = .ok (.iconst 0, 1) := by decide +kernel
theorem dL_put_134 : decode cL_put 134 = .ok (.iastore, 1) := by decide +kernel
theorem dL_put_135 : decode cL_put 135 = .ok (.iload 10, 2) := by decide +kernel
theorem dL_put_137 : decode cL_put 137 = .ok (.ifCond .eq 14, 3) := by decide +kernel
theorem dL_put_140 : decode cL_put 140 = .ok (.iload 9, 2) := by decide +kernel
theorem dL_put_142 : decode cL_put 142 = .ok (.iconst 2, 1) := by decide +kernel
theorem dL_put_143 : decode cL_put 143 = .ok (.ishr, 1) := by decide +kernel
theorem dL_put_144 : decode cL_put 144 = .ok (.iconst 3, 1) := by decide +kernel
theorem dL_put_145 : decode cL_put 145 = .ok (.invokestatic 15, 3) := by decide +kernel
theorem dL_put_148 : decode cL_put 148 = .ok (.goto 14, 3) := by decide +kernel
theorem dL_put_151 : decode cL_put 151 = .ok (.iconst 1, 1) := by decide +kernel
theorem dL_put_152 : decode cL_put 152 = .ok (.iload 9, 2) := by decide +kernel
theorem dL_put_154 : decode cL_put 154 = .ok (.iconst 2, 1) := by decide +kernel
theorem dL_put_155 : decode cL_put 155 = .ok (.ishr, 1) := by decide +kernel
theorem dL_put_156 : decode cL_put 156 = .ok (.bipush 6, 2) := by decide +kernel
theorem dL_put_158 : decode cL_put 158 = .ok (.invokestatic 15, 3) := by decide +kernel
theorem dL_put_161 : decode cL_put 161 = .ok (.iadd, 1) := by decide +kernel
theorem dL_put_162 : decode cL_put 162 = .ok (.istore 11, 2) := by decide +kernel
theorem dL_put_164 : decode cL_put 164 = .ok (.iconst 0, 1) := by decide +kernel
theorem dL_put_165 : decode cL_put 165 = .ok (.istore 12, 2) := by decide +kernel
theorem dL_put_167 : decode cL_put 167 = .ok (.iload 12, 2) := by decide +kernel
theorem dL_put_169 : decode cL_put 169 = .ok (.iload 11, 2) := by decide +kernel
theorem dL_put_171 : decode cL_put 171 = .ok (.if_icmp .ge 100, 3) := by decide +kernel
theorem dL_put_174 : decode cL_put 174 = .ok (.aload 5, 2) := by decide +kernel
theorem dL_put_176 : decode cL_put 176 = .ok (.iconst 1, 1) := by decide +kernel
theorem dL_put_177 : decode cL_put 177 = .ok (.iload 8, 2) := by decide +kernel
theorem dL_put_179 : decode cL_put 179 = .ok (.iadd, 1) := by decide +kernel
theorem dL_put_180 : decode cL_put 180 = .ok (.iaload, 1) := by decide +kernel
theorem dL_put_181 : decode cL_put 181 = .ok (.iload_n 3, 1) := by decide +kernel
theorem dL_put_182 : decode cL_put 182 = .ok (.if_icmp .ge 89, 3) := by decide +kernel
theorem dL_put_185 : decode cL_put 185 = .ok (.iload 9, 2) := by decide +kernel
theorem dL_put_187 : decode cL_put 187 = .ok (.iconst 4, 1) := by decide +kernel
theorem dL_put_188 : decode cL_put 188 = .ok (.iload 12, 2) := by decide +kernel
theorem dL_put_190 : decode cL_put 190 = .ok (.iadd, 1) := by decide +kernel
theorem dL_put_191 : decode cL_put 191 = .ok (.ishr, 1) := by decide +kernel
theorem dL_put_192 : decode cL_put 192 = .ok (.aload 5, 2) := by decide +kernel
theorem dL_put_194 : decode cL_put 194 = .ok (.iconst 1, 1) := by decide +kernel
theorem dL_put_195 : decode cL_put 195 = .ok (.iload 8, 2) := by decide +kernel
theorem dL_put_197 : decode cL_put 197 = .ok (.iadd, 1) := by decide +kernel
theorem dL_put_198 : decode cL_put 198 = .ok (.iaload, 1) := by decide +kernel
theorem dL_put_199 : decode cL_put 199 = .ok (.iconst 1, 1) := by decide +kernel
theorem dL_put_200 : decode cL_put 200 = .ok (.iadd, 1) := by decide +kernel
theorem dL_put_201 : decode cL_put 201 = .ok (.invokestatic 15, 3) := by decide +kernel
theorem dL_put_204 : decode cL_put 204 = .ok (.istore 13, 2) := by decide +kernel
theorem dL_put_206 : decode cL_put 206 = .ok (.iload 9, 2) := by decide +kernel
theorem dL_put_208 : decode cL_put 208 = .ok (.iconst 3, 1) := by decide +kernel
theorem dL_put_209 : decode cL_put 209 = .ok (.iconst 2, 1) := by decide +kernel
theorem dL_put_210 : decode cL_put 210 = .ok (.iload 12, 2) := by decide +kernel
theorem dL_put_212 : decode cL_put 212 = .ok (.imul, 1) := by decide +kernel
theorem dL_put_213 : decode cL_put 213 = .ok (.iadd, 1) := by decide +kernel
theorem dL_put_214 : decode cL_put 214 = .ok (.ishr, 1) := by decide +kernel
theorem dL_put_215 : decode cL_put 215 = .ok (.iload 6, 2) := by decide +kernel
theorem dL_put_217 : decode cL_put 217 = .ok (.iconst 5, 1) := by decide +kernel
theorem dL_put_218 : decode cL_put 218 = .ok (.ishr, 1) := by decide +kernel
theorem dL_put_219 : decode cL_put 219 = .ok (.iconst 2, 1) := by decide +kernel
theorem dL_put_220 : decode cL_put 220 = .ok (.invokestatic 15, 3) := by decide +kernel
theorem dL_put_223 : decode cL_put 223 = .ok (.ifCond .ne 8, 3) := by decide +kernel
theorem dL_put_226 : decode cL_put 226 = .ok (.bipush 8, 2) := by decide +kernel
theorem dL_put_228 : decode cL_put 228 = .ok (.goto 4, 3) := by decide +kernel
theorem dL_put_231 : decode cL_put 231 = .ok (.iconst 3, 1) := by decide +kernel
theorem dL_put_232 : decode cL_put 232 = .ok (.invokestatic 15, 3) := by decide +kernel
theorem dL_put_235 : decode cL_put 235 = .ok (.istore 14, 2) := by decide +kernel
theorem dL_put_237 : decode cL_put 237 = .ok (.aload 4, 2) := by decide +kernel
theorem dL_put_239 : decode cL_put 239 = .ok (.iload 8, 2) := by decide +kernel
theorem dL_put_241 : decode cL_put 241 = .ok (.aload 4, 2) := by decide +kernel
theorem dL_put_243 : decode cL_put 243 = .ok (.iload 8, 2) := by decide +kernel
theorem dL_put_245 : decode cL_put 245 = .ok (.laload, 1) := by decide +kernel
theorem dL_put_246 : decode cL_put 246 = .ok (.iload 13, 2) := by decide +kernel
theorem dL_put_248 : decode cL_put 248 = .ok (.iload 14, 2) := by decide +kernel
theorem dL_put_250 : decode cL_put 250 = .ok (.invokestatic 25, 3) := by decide +kernel
theorem dL_put_253 : decode cL_put 253 = .ok (.lastore, 1) := by decide +kernel
theorem dL_put_254 : decode cL_put 254 = .ok (.aload 5, 2) := by decide +kernel
theorem dL_put_256 : decode cL_put 256 = .ok (.iconst 1, 1) := by decide +kernel
theorem dL_put_257 : decode cL_put 257 = .ok (.iload 8, 2) := by decide +kernel
theorem dL_put_259 : decode cL_put 259 = .ok (.iadd, 1) := by decide +kernel
theorem dL_put_260 : decode cL_put 260 = .ok (.dup2, 1) := by decide +kernel
theorem dL_put_261 : decode cL_put 261 = .ok (.iaload, 1) := by decide +kernel
theorem dL_put_262 : decode cL_put 262 = .ok (.iconst 1, 1) := by decide +kernel
theorem dL_put_263 : decode cL_put 263 = .ok (.iadd, 1) := by decide +kernel
theorem dL_put_264 : decode cL_put 264 = .ok (.iastore, 1) := by decide +kernel
theorem dL_put_265 : decode cL_put 265 = .ok (.iinc 12 1, 3) := by decide +kernel
theorem dL_put_268 : decode cL_put 268 = .ok (.goto (-101), 3) := by decide +kernel
theorem dL_put_271 : decode cL_put 271 = .ok (.iload 8, 2) := by decide +kernel
theorem dL_put_273 : decode cL_put 273 = .ok (.ifCond .le 22, 3) := by decide +kernel
theorem dL_put_276 : decode cL_put 276 = .ok (.aload_n 0, 1) := by decide +kernel
theorem dL_put_277 : decode cL_put 277 = .ok (.iconst 0, 1) := by decide +kernel
theorem dL_put_278 : decode cL_put 278 = .ok (.iload 7, 2) := by decide +kernel
theorem dL_put_280 : decode cL_put 280 = .ok (.iinc 7 1, 3) := by decide +kernel
theorem dL_put_283 : decode cL_put 283 = .ok (.bipush 59, 2) := by decide +kernel
theorem dL_put_285 : decode cL_put 285 = .ok (.invokevirtual 29, 3) := by decide +kernel
theorem dL_put_288 : decode cL_put 288 = .ok (.iconst 1, 1) := by decide +kernel
theorem dL_put_289 : decode cL_put 289 = .ok (.if_icmp .eq 6, 3) := by decide +kernel
theorem dL_put_292 : decode cL_put 292 = .ok (.bipush (-99), 2) := by decide +kernel
theorem dL_put_294 : decode cL_put 294 = .ok (.ireturn, 1) := by decide +kernel
theorem dL_put_295 : decode cL_put 295 = .ok (.iconst 0, 1) := by decide +kernel
theorem dL_put_296 : decode cL_put 296 = .ok (.istore 12, 2) := by decide +kernel
theorem dL_put_298 : decode cL_put 298 = .ok (.iload 12, 2) := by decide +kernel
theorem dL_put_300 : decode cL_put 300 = .ok (.aload 5, 2) := by decide +kernel
theorem dL_put_302 : decode cL_put 302 = .ok (.iconst 1, 1) := by decide +kernel
theorem dL_put_303 : decode cL_put 303 = .ok (.iload 8, 2) := by decide +kernel
theorem dL_put_305 : decode cL_put 305 = .ok (.iadd, 1) := by decide +kernel
theorem dL_put_306 : decode cL_put 306 = .ok (.iaload, 1) := by decide +kernel
theorem dL_put_307 : decode cL_put 307 = .ok (.if_icmp .ge 39, 3) := by decide +kernel
theorem dL_put_310 : decode cL_put 310 = .ok (.aload_n 0, 1) := by decide +kernel
theorem dL_put_311 : decode cL_put 311 = .ok (.iconst 0, 1) := by decide +kernel
theorem dL_put_312 : decode cL_put 312 = .ok (.iload 7, 2) := by decide +kernel
theorem dL_put_314 : decode cL_put 314 = .ok (.iinc 7 1, 3) := by decide +kernel
theorem dL_put_317 : decode cL_put 317 = .ok (.bipush 97, 2) := by decide +kernel
theorem dL_put_319 : decode cL_put 319 = .ok (.aload 4, 2) := by decide +kernel
theorem dL_put_321 : decode cL_put 321 = .ok (.iload 8, 2) := by decide +kernel
theorem dL_put_323 : decode cL_put 323 = .ok (.laload, 1) := by decide +kernel
theorem dL_put_324 : decode cL_put 324 = .ok (.iload 12, 2) := by decide +kernel
theorem dL_put_326 : decode cL_put 326 = .ok (.invokestatic 32, 3) := by decide +kernel
theorem dL_put_329 : decode cL_put 329 = .ok (.iadd, 1) := by decide +kernel
theorem dL_put_330 : decode cL_put 330 = .ok (.invokevirtual 29, 3) := by decide +kernel
theorem dL_put_333 : decode cL_put 333 = .ok (.iconst 1, 1) := by decide +kernel
theorem dL_put_334 : decode cL_put 334 = .ok (.if_icmp .eq 6, 3) := by decide +kernel
theorem dL_put_337 : decode cL_put 337 = .ok (.bipush (-99), 2) := by decide +kernel
theorem dL_put_339 : decode cL_put 339 = .ok (.ireturn, 1) := by decide +kernel
theorem dL_put_340 : decode cL_put 340 = .ok (.iinc 12 1, 3) := by decide +kernel
theorem dL_put_343 : decode cL_put 343 = .ok (.goto (-45), 3) := by decide +kernel
theorem dL_put_346 : decode cL_put 346 = .ok (.iinc 8 1, 3) := by decide +kernel
theorem dL_put_349 : decode cL_put 349 = .ok (.goto (-308), 3) := by decide +kernel
theorem dL_put_352 : decode cL_put 352 = .ok (.iload 7, 2) := by decide +kernel
theorem dL_put_354 : decode cL_put 354 = .ok (.ireturn, 1) := by decide +kernel
theorem dL_word_0 : decode cL_word 0 = .ok (.lload_n 0, 1) := by decide +kernel
theorem dL_word_1 : decode cL_word 1 = .ok (.iconst 3, 1) := by decide +kernel
theorem dL_word_2 : decode cL_word 2 = .ok (.iload_n 2, 1) := by decide +kernel
theorem dL_word_3 : decode cL_word 3 = .ok (.imul, 1) := by decide +kernel
theorem dL_word_4 : decode cL_word 4 = .ok (.lshr, 1) := by decide +kernel
theorem dL_word_5 : decode cL_word 5 = .ok (.ldc2_w 36, 3) := by decide +kernel
theorem dL_word_8 : decode cL_word 8 = .ok (.land, 1) := by decide +kernel
theorem dL_word_9 : decode cL_word 9 = .ok (.l2i, 1) := by decide +kernel
theorem dL_word_10 : decode cL_word 10 = .ok (.ireturn, 1) := by decide +kernel
theorem dL_with_0 : decode cL_with 0 = .ok (.lload_n 0, 1) := by decide +kernel
theorem dL_with_1 : decode cL_with 1 = .ok (.lconst 1, 1) := by decide +kernel
theorem dL_with_2 : decode cL_with 2 = .ok (.iconst 3, 1) := by decide +kernel
theorem dL_with_3 : decode cL_with 3 = .ok (.iload_n 2, 1) := by decide +kernel
theorem dL_with_4 : decode cL_with 4 = .ok (.imul, 1) := by decide +kernel
theorem dL_with_5 : decode cL_with 5 = .ok (.lshl, 1) := by decide +kernel
theorem dL_with_6 : decode cL_with 6 = .ok (.lconst 1, 1) := by decide +kernel
theorem dL_with_7 : decode cL_with 7 = .ok (.lsub, 1) := by decide +kernel
theorem dL_with_8 : decode cL_with 8 = .ok (.land, 1) := by decide +kernel
theorem dL_with_9 : decode cL_with 9 = .ok (.lstore 4, 2) := by decide +kernel
theorem dL_with_11 : decode cL_with 11 = .ok (.lload 4, 2) := by decide +kernel
theorem dL_with_13 : decode cL_with 13 = .ok (.iload_n 3, 1) := by decide +kernel
theorem dL_with_14 : decode cL_with 14 = .ok (.i2l, 1) := by decide +kernel
theorem dL_with_15 : decode cL_with 15 = .ok (.iconst 3, 1) := by decide +kernel
theorem dL_with_16 : decode cL_with 16 = .ok (.iload_n 2, 1) := by decide +kernel
theorem dL_with_17 : decode cL_with 17 = .ok (.imul, 1) := by decide +kernel
theorem dL_with_18 : decode cL_with 18 = .ok (.lshl, 1) := by decide +kernel
theorem dL_with_19 : decode cL_with 19 = .ok (.lor, 1) := by decide +kernel
theorem dL_with_20 : decode cL_with 20 = .ok (.lload_n 0, 1) := by decide +kernel
theorem dL_with_21 : decode cL_with 21 = .ok (.iconst 3, 1) := by decide +kernel
theorem dL_with_22 : decode cL_with 22 = .ok (.iload_n 2, 1) := by decide +kernel
theorem dL_with_23 : decode cL_with 23 = .ok (.imul, 1) := by decide +kernel
theorem dL_with_24 : decode cL_with 24 = .ok (.lshr, 1) := by decide +kernel
theorem dL_with_25 : decode cL_with 25 = .ok (.iconst 3, 1) := by decide +kernel
theorem dL_with_26 : decode cL_with 26 = .ok (.iload_n 2, 1) := by decide +kernel
theorem dL_with_27 : decode cL_with 27 = .ok (.imul, 1) := by decide +kernel
theorem dL_with_28 : decode cL_with 28 = .ok (.iconst 3, 1) := by decide +kernel
theorem dL_with_29 : decode cL_with 29 = .ok (.iadd, 1) := by decide +kernel
theorem dL_with_30 : decode cL_with 30 = .ok (.lshl, 1) := by decide +kernel
theorem dL_with_31 : decode cL_with 31 = .ok (.lor, 1) := by decide +kernel
theorem dL_with_32 : decode cL_with 32 = .ok (.lreturn, 1) := by decide +kernel
set_option maxRecDepth 20000 in
theorem ggL_kinds_L_some : GoodIn wsL_kinds wsL_some := goodIn_r _ [4, 5] (by decide +kernel) (by decide +kernel)
set_option maxRecDepth 20000 in
theorem gL_kinds_L_some : GoodIn wsL_kinds (va_wsS RL 15 yL_some wsL_some) := goodIn_app (goodIn_of _ (by decide +kernel)) ggL_kinds_L_some
set_option maxRecDepth 20000 in
theorem ggL_kinds_X8_kind : GoodIn wsL_kinds wsX8_kind := goodIn_r _ [10, 11, 12, 13, 9, 14, 15, 16, 17, 18, 19, 20, 21, 22, 23, 24, 25, 26, 27, 28, 29, 30] (by decide +kernel) (by decide +kernel)
set_option maxRecDepth 20000 in
theorem gL_kinds_X8_kind : GoodIn wsL_kinds (wsV RL 38 RX8 yX8_kind wsX8_kind) := goodIn_app (goodIn_of _ (by decide +kernel)) ggL_kinds_X8_kind
theorem dL_kinds_0 : decode cL_kinds 0 = .ok (.iconst 0, 1) := by decide +kernel
theorem dL_kinds_1 : decode cL_kinds 1 = .ok (.istore_n 3, 1) := by decide +kernel
theorem dL_kinds_2 : decode cL_kinds 2 = .ok (.iload_n 3, 1) := by decide +kernel
theorem dL_kinds_3 : decode cL_kinds 3 = .ok (.iconst 3, 1) := by decide +kernel
theorem dL_kinds_4 : decode cL_kinds 4 = .ok (.if_icmp .ge 57, 3) := by decide +kernel
theorem dL_kinds_7 : decode cL_kinds 7 = .ok (.iload_n 1, 1) := by decide +kernel
theorem dL_kinds_8 : decode cL_kinds 8 = .ok (.iconst 4, 1) := by decide +kernel
theorem dL_kinds_9 : decode cL_kinds 9 = .ok (.iload_n 3, 1) := by decide +kernel
theorem dL_kinds_10 : decode cL_kinds 10 = .ok (.imul, 1) := by decide +kernel
theorem dL_kinds_11 : decode cL_kinds 11 = .ok (.ishr, 1) := by decide +kernel
theorem dL_kinds_12 : decode cL_kinds 12 = .ok (.bipush 8, 2) := by decide +kernel
theorem dL_kinds_14 : decode cL_kinds 14 = .ok (.invokestatic 15, 3) := by decide +kernel
theorem dL_kinds_17 : decode cL_kinds 17 = .ok (.istore 4, 2) := by decide +kernel
theorem dL_kinds_19 : decode cL_kinds 19 = .ok (.iload_n 1, 1) := by decide +kernel
theorem dL_kinds_20 : decode cL_kinds 20 = .ok (.iconst 3, 1) := by decide +kernel
theorem dL_kinds_21 : decode cL_kinds 21 = .ok (.iconst 4, 1) := by decide +kernel
theorem dL_kinds_22 : decode cL_kinds 22 = .ok (.iload_n 3, 1) := by decide +kernel
theorem dL_kinds_23 : decode cL_kinds 23 = .ok (.imul, 1) := by decide +kernel
theorem dL_kinds_24 : decode cL_kinds 24 = .ok (.iadd, 1) := by decide +kernel
theorem dL_kinds_25 : decode cL_kinds 25 = .ok (.ishr, 1) := by decide +kernel
theorem dL_kinds_26 : decode cL_kinds 26 = .ok (.iconst 3, 1) := by decide +kernel
theorem dL_kinds_27 : decode cL_kinds 27 = .ok (.invokestatic 15, 3) := by decide +kernel
theorem dL_kinds_30 : decode cL_kinds 30 = .ok (.istore 5, 2) := by decide +kernel
theorem dL_kinds_32 : decode cL_kinds 32 = .ok (.aload_n 0, 1) := by decide +kernel
theorem dL_kinds_33 : decode cL_kinds 33 = .ok (.iload 4, 2) := by decide +kernel
theorem dL_kinds_35 : decode cL_kinds 35 = .ok (.iload 5, 2) := by decide +kernel
theorem dL_kinds_37 : decode cL_kinds 37 = .ok (.invokevirtual 38, 3) := by decide +kernel
theorem dL_kinds_40 : decode cL_kinds 40 = .ok (.aload_n 2, 1) := by decide +kernel
theorem dL_kinds_41 : decode cL_kinds 41 = .ok (.iload 4, 2) := by decide +kernel
theorem dL_kinds_43 : decode cL_kinds 43 = .ok (.iaload, 1) := by decide +kernel
theorem dL_kinds_44 : decode cL_kinds 44 = .ok (.if_icmp .eq 5, 3) := by decide +kernel
theorem dL_kinds_47 : decode cL_kinds 47 = .ok (.iconst 0, 1) := by decide +kernel
theorem dL_kinds_48 : decode cL_kinds 48 = .ok (.ireturn, 1) := by decide +kernel
theorem dL_kinds_49 : decode cL_kinds 49 = .ok (.aload_n 2, 1) := by decide +kernel
theorem dL_kinds_50 : decode cL_kinds 50 = .ok (.iload 4, 2) := by decide +kernel
theorem dL_kinds_52 : decode cL_kinds 52 = .ok (.iload 5, 2) := by decide +kernel
theorem dL_kinds_54 : decode cL_kinds 54 = .ok (.iastore, 1) := by decide +kernel
theorem dL_kinds_55 : decode cL_kinds 55 = .ok (.iinc 3 1, 3) := by decide +kernel
theorem dL_kinds_58 : decode cL_kinds 58 = .ok (.goto (-56), 3) := by decide +kernel
theorem dL_kinds_61 : decode cL_kinds 61 = .ok (.iconst 1, 1) := by decide +kernel
theorem dL_kinds_62 : decode cL_kinds 62 = .ok (.ireturn, 1) := by decide +kernel
set_option maxRecDepth 20000 in
theorem ggL_within_L_word : GoodIn wsL_within wsL_word := goodIn_r _ [4, 5] (by decide +kernel) (by decide +kernel)
set_option maxRecDepth 20000 in
theorem gL_within_L_word : GoodIn wsL_within (va_wsS RL 32 yL_word wsL_word) := goodIn_app (goodIn_of _ (by decide +kernel)) ggL_within_L_word
theorem dL_within_0 : decode cL_within 0 = .ok (.iconst 0, 1) := by decide +kernel
theorem dL_within_1 : decode cL_within 1 = .ok (.istore 6, 2) := by decide +kernel
theorem dL_within_3 : decode cL_within 3 = .ok (.iconst 0, 1) := by decide +kernel
theorem dL_within_4 : decode cL_within 4 = .ok (.istore 7, 2) := by decide +kernel
theorem dL_within_6 : decode cL_within 6 = .ok (.iload 7, 2) := by decide +kernel
theorem dL_within_8 : decode cL_within 8 = .ok (.iload 5, 2) := by decide +kernel
theorem dL_within_10 : decode cL_within 10 = .ok (.if_icmp .ge 40, 3) := by decide +kernel
theorem dL_within_13 : decode cL_within 13 = .ok (.iload 6, 2) := by decide +kernel
theorem dL_within_15 : decode cL_within 15 = .ok (.iload_n 2, 1) := by decide +kernel
theorem dL_within_16 : decode cL_within 16 = .ok (.if_icmp .ge 34, 3) := by decide +kernel
theorem dL_within_19 : decode cL_within 19 = .ok (.iload 6, 2) := by decide +kernel
theorem dL_within_21 : decode cL_within 21 = .ok (.lload_n 0, 1) := by decide +kernel
theorem dL_within_22 : decode cL_within 22 = .ok (.iload 6, 2) := by decide +kernel
theorem dL_within_24 : decode cL_within 24 = .ok (.invokestatic 32, 3) := by decide +kernel
theorem dL_within_27 : decode cL_within 27 = .ok (.lload_n 3, 1) := by decide +kernel
theorem dL_within_28 : decode cL_within 28 = .ok (.iload 7, 2) := by decide +kernel
theorem dL_within_30 : decode cL_within 30 = .ok (.invokestatic 32, 3) := by decide +kernel
theorem dL_within_33 : decode cL_within 33 = .ok (.if_icmp .ne 7, 3) := by decide +kernel
theorem dL_within_36 : decode cL_within 36 = .ok (.iconst 1, 1) := by decide +kernel
theorem dL_within_37 : decode cL_within 37 = .ok (.goto 4, 3) := by decide +kernel
theorem dL_within_40 : decode cL_within 40 = .ok (.iconst 0, 1) := by decide +kernel
theorem dL_within_41 : decode cL_within 41 = .ok (.iadd, 1) := by decide +kernel
theorem dL_within_42 : decode cL_within 42 = .ok (.istore 6, 2) := by decide +kernel
theorem dL_within_44 : decode cL_within 44 = .ok (.iinc 7 1, 3) := by decide +kernel
theorem dL_within_47 : decode cL_within 47 = .ok (.goto (-41), 3) := by decide +kernel
theorem dL_within_50 : decode cL_within 50 = .ok (.iload 6, 2) := by decide +kernel
theorem dL_within_52 : decode cL_within 52 = .ok (.iload_n 2, 1) := by decide +kernel
theorem dL_within_53 : decode cL_within 53 = .ok (.if_icmp .ne 7, 3) := by decide +kernel
theorem dL_within_56 : decode cL_within 56 = .ok (.iconst 1, 1) := by decide +kernel
theorem dL_within_57 : decode cL_within 57 = .ok (.goto 4, 3) := by decide +kernel
theorem dL_within_60 : decode cL_within 60 = .ok (.iconst 0, 1) := by decide +kernel
theorem dL_within_61 : decode cL_within 61 = .ok (.ireturn, 1) := by decide +kernel
set_option maxRecDepth 20000 in
theorem ggL_part_L_word : GoodIn wsL_part wsL_word := goodIn_r _ [4, 5] (by decide +kernel) (by decide +kernel)
set_option maxRecDepth 20000 in
theorem gL_part_L_word : GoodIn wsL_part (va_wsS RL 32 yL_word wsL_word) := goodIn_app (goodIn_of _ (by decide +kernel)) ggL_part_L_word
theorem dL_part_0 : decode cL_part 0 = .ok (.lconst 0, 1) := by decide +kernel
theorem dL_part_1 : decode cL_part 1 = .ok (.lstore 4, 2) := by decide +kernel
theorem dL_part_3 : decode cL_part 3 = .ok (.iconst 0, 1) := by decide +kernel
theorem dL_part_4 : decode cL_part 4 = .ok (.istore 6, 2) := by decide +kernel
theorem dL_part_6 : decode cL_part 6 = .ok (.iconst 0, 1) := by decide +kernel
theorem dL_part_7 : decode cL_part 7 = .ok (.istore 7, 2) := by decide +kernel
theorem dL_part_9 : decode cL_part 9 = .ok (.iload 7, 2) := by decide +kernel
theorem dL_part_11 : decode cL_part 11 = .ok (.iload_n 2, 1) := by decide +kernel
theorem dL_part_12 : decode cL_part 12 = .ok (.if_icmp .ge 41, 3) := by decide +kernel
theorem dL_part_15 : decode cL_part 15 = .ok (.iload_n 3, 1) := by decide +kernel
theorem dL_part_16 : decode cL_part 16 = .ok (.iload 7, 2) := by decide +kernel
theorem dL_part_18 : decode cL_part 18 = .ok (.ishr, 1) := by decide +kernel
theorem dL_part_19 : decode cL_part 19 = .ok (.iconst 1, 1) := by decide +kernel
theorem dL_part_20 : decode cL_part 20 = .ok (.iand, 1) := by decide +kernel
theorem dL_part_21 : decode cL_part 21 = .ok (.ifCond .ne 6, 3) := by decide +kernel
theorem dL_part_24 : decode cL_part 24 = .ok (.goto 23, 3) := by decide +kernel
theorem dL_part_27 : decode cL_part 27 = .ok (.lload 4, 2) := by decide +kernel
theorem dL_part_29 : decode cL_part 29 = .ok (.lload_n 0, 1) := by decide +kernel
theorem dL_part_30 : decode cL_part 30 = .ok (.iload 7, 2) := by decide +kernel
theorem dL_part_32 : decode cL_part 32 = .ok (.invokestatic 32, 3) := by decide +kernel
theorem dL_part_35 : decode cL_part 35 = .ok (.i2l, 1) := by decide +kernel
theorem dL_part_36 : decode cL_part 36 = .ok (.iconst 3, 1) := by decide +kernel
theorem dL_part_37 : decode cL_part 37 = .ok (.iload 6, 2) := by decide +kernel
theorem dL_part_39 : decode cL_part 39 = .ok (.imul, 1) := by decide +kernel
theorem dL_part_40 : decode cL_part 40 = .ok (.lshl, 1) := by decide +kernel
theorem dL_part_41 : decode cL_part 41 = .ok (.lor, 1) := by decide +kernel
theorem dL_part_42 : decode cL_part 42 = .ok (.lstore 4, 2) := by decide +kernel
theorem dL_part_44 : decode cL_part 44 = .ok (.iinc 6 1, 3) := by decide +kernel
theorem dL_part_47 : decode cL_part 47 = .ok (.iinc 7 1, 3) := by decide +kernel
theorem dL_part_50 : decode cL_part 50 = .ok (.goto (-41), 3) := by decide +kernel
theorem dL_part_53 : decode cL_part 53 = .ok (.lload 4, 2) := by decide +kernel
theorem dL_part_55 : decode cL_part 55 = .ok (.lreturn, 1) := by decide +kernel
theorem dL_size_0 : decode cL_size 0 = .ok (.iconst 0, 1) := by decide +kernel
theorem dL_size_1 : decode cL_size 1 = .ok (.istore_n 1, 1) := by decide +kernel
theorem dL_size_2 : decode cL_size 2 = .ok (.iload_n 0, 1) := by decide +kernel
theorem dL_size_3 : decode cL_size 3 = .ok (.istore_n 2, 1) := by decide +kernel
theorem dL_size_4 : decode cL_size 4 = .ok (.iload_n 2, 1) := by decide +kernel
theorem dL_size_5 : decode cL_size 5 = .ok (.ifCond .le 15, 3) := by decide +kernel
theorem dL_size_8 : decode cL_size 8 = .ok (.iinc 1 1, 3) := by decide +kernel
theorem dL_size_11 : decode cL_size 11 = .ok (.iload_n 2, 1) := by decide +kernel
theorem dL_size_12 : decode cL_size 12 = .ok (.iload_n 2, 1) := by decide +kernel
theorem dL_size_13 : decode cL_size 13 = .ok (.iconst 1, 1) := by decide +kernel
theorem dL_size_14 : decode cL_size 14 = .ok (.isub, 1) := by decide +kernel
theorem dL_size_15 : decode cL_size 15 = .ok (.iand, 1) := by decide +kernel
theorem dL_size_16 : decode cL_size 16 = .ok (.istore_n 2, 1) := by decide +kernel
theorem dL_size_17 : decode cL_size 17 = .ok (.goto (-13), 3) := by decide +kernel
theorem dL_size_20 : decode cL_size 20 = .ok (.iload_n 1, 1) := by decide +kernel
theorem dL_size_21 : decode cL_size 21 = .ok (.ireturn, 1) := by decide +kernel
set_option maxRecDepth 20000 in
theorem ggL_said_L_word : GoodIn wsL_said wsL_word := goodIn_r _ [4, 5] (by decide +kernel) (by decide +kernel)
set_option maxRecDepth 20000 in
theorem gL_said_L_word : GoodIn wsL_said (va_wsS RL 32 yL_word wsL_word) := goodIn_app (goodIn_of _ (by decide +kernel)) ggL_said_L_word
theorem dL_said_0 : decode cL_said 0 = .ok (.iconst 0, 1) := by decide +kernel
theorem dL_said_1 : decode cL_said 1 = .ok (.istore 4, 2) := by decide +kernel
theorem dL_said_3 : decode cL_said 3 = .ok (.iconst 0, 1) := by decide +kernel
theorem dL_said_4 : decode cL_said 4 = .ok (.istore 5, 2) := by decide +kernel
theorem dL_said_6 : decode cL_said 6 = .ok (.iconst (-1), 1) := by decide +kernel
theorem dL_said_7 : decode cL_said 7 = .ok (.istore 6, 2) := by decide +kernel
theorem dL_said_9 : decode cL_said 9 = .ok (.iconst 0, 1) := by decide +kernel
theorem dL_said_10 : decode cL_said 10 = .ok (.istore 7, 2) := by decide +kernel
theorem dL_said_12 : decode cL_said 12 = .ok (.iload 7, 2) := by decide +kernel
theorem dL_said_14 : decode cL_said 14 = .ok (.iload_n 3, 1) := by decide +kernel
theorem dL_said_15 : decode cL_said 15 = .ok (.if_icmp .ge 98, 3) := by decide +kernel
theorem dL_said_18 : decode cL_said 18 = .ok (.lload_n 1, 1) := by decide +kernel
theorem dL_said_19 : decode cL_said 19 = .ok (.iload 7, 2) := by decide +kernel
theorem dL_said_21 : decode cL_said 21 = .ok (.invokestatic 32, 3) := by decide +kernel
theorem dL_said_24 : decode cL_said 24 = .ok (.istore 8, 2) := by decide +kernel
theorem dL_said_26 : decode cL_said 26 = .ok (.aload_n 0, 1) := by decide +kernel
theorem dL_said_27 : decode cL_said 27 = .ok (.iload 8, 2) := by decide +kernel
theorem dL_said_29 : decode cL_said 29 = .ok (.iaload, 1) := by decide +kernel
theorem dL_said_30 : decode cL_said 30 = .ok (.ifCond .le 9, 3) := by decide +kernel
theorem dL_said_33 : decode cL_said 33 = .ok (.iload 5, 2) := by decide +kernel
theorem dL_said_35 : decode cL_said 35 = .ok (.iconst 1, 1) := by decide +kernel
theorem dL_said_36 : decode cL_said 36 = .ok (.ixor, 1) := by decide +kernel
theorem dL_said_37 : decode cL_said 37 = .ok (.istore 5, 2) := by decide +kernel
theorem dL_said_39 : decode cL_said 39 = .ok (.aload_n 0, 1) := by decide +kernel
theorem dL_said_40 : decode cL_said 40 = .ok (.iload 8, 2) := by decide +kernel
theorem dL_said_42 : decode cL_said 42 = .ok (.iaload, 1) := by decide +kernel
theorem dL_said_43 : decode cL_said 43 = .ok (.iconst 2, 1) := by decide +kernel
theorem dL_said_44 : decode cL_said 44 = .ok (.if_icmp .ne 19, 3) := by decide +kernel
theorem dL_said_47 : decode cL_said 47 = .ok (.iload 6, 2) := by decide +kernel
theorem dL_said_49 : decode cL_said 49 = .ok (.ifCond .lt 14, 3) := by decide +kernel
theorem dL_said_52 : decode cL_said 52 = .ok (.iload 4, 2) := by decide +kernel
theorem dL_said_54 : decode cL_said 54 = .ok (.iconst 1, 1) := by decide +kernel
theorem dL_said_55 : decode cL_said 55 = .ok (.iload 6, 2) := by decide +kernel
theorem dL_said_57 : decode cL_said 57 = .ok (.ishl, 1) := by decide +kernel
theorem dL_said_58 : decode cL_said 58 = .ok (.iconst (-1), 1) := by decide +kernel
theorem dL_said_59 : decode cL_said 59 = .ok (.ixor, 1) := by decide +kernel
theorem dL_said_60 : decode cL_said 60 = .ok (.iand, 1) := by decide +kernel
theorem dL_said_61 : decode cL_said 61 = .ok (.istore 4, 2) := by decide +kernel
theorem dL_said_63 : decode cL_said 63 = .ok (.aload_n 0, 1) := by decide +kernel
theorem dL_said_64 : decode cL_said 64 = .ok (.iload 8, 2) := by decide +kernel
theorem dL_said_66 : decode cL_said 66 = .ok (.iaload, 1) := by decide +kernel
theorem dL_said_67 : decode cL_said 67 = .ok (.ifCond .le 6, 3) := by decide +kernel
theorem dL_said_70 : decode cL_said 70 = .ok (.goto 37, 3) := by decide +kernel
theorem dL_said_73 : decode cL_said 73 = .ok (.iload 5, 2) := by decide +kernel
theorem dL_said_75 : decode cL_said 75 = .ok (.iconst 1, 1) := by decide +kernel
theorem dL_said_76 : decode cL_said 76 = .ok (.if_icmp .ne 15, 3) := by decide +kernel
theorem dL_said_79 : decode cL_said 79 = .ok (.iload 4, 2) := by decide +kernel
theorem dL_said_81 : decode cL_said 81 = .ok (.iconst 1, 1) := by decide +kernel
theorem dL_said_82 : decode cL_said 82 = .ok (.iload 8, 2) := by decide +kernel
theorem dL_said_84 : decode cL_said 84 = .ok (.ishl, 1) := by decide +kernel
theorem dL_said_85 : decode cL_said 85 = .ok (.iconst (-1), 1) := by decide +kernel
theorem dL_said_86 : decode cL_said 86 = .ok (.ixor, 1) := by decide +kernel
theorem dL_said_87 : decode cL_said 87 = .ok (.iand, 1) := by decide +kernel
theorem dL_said_88 : decode cL_said 88 = .ok (.goto 10, 3) := by decide +kernel
theorem dL_said_91 : decode cL_said 91 = .ok (.iload 4, 2) := by decide +kernel
theorem dL_said_93 : decode cL_said 93 = .ok (.iconst 1, 1) := by decide +kernel
theorem dL_said_94 : decode cL_said 94 = .ok (.iload 8, 2) := by decide +kernel
theorem dL_said_96 : decode cL_said 96 = .ok (.ishl, 1) := by decide +kernel
theorem dL_said_97 : decode cL_said 97 = .ok (.ior, 1) := by decide +kernel
theorem dL_said_98 : decode cL_said 98 = .ok (.istore 4, 2) := by decide +kernel
theorem dL_said_100 : decode cL_said 100 = .ok (.iconst 0, 1) := by decide +kernel
theorem dL_said_101 : decode cL_said 101 = .ok (.istore 5, 2) := by decide +kernel
theorem dL_said_103 : decode cL_said 103 = .ok (.iload 8, 2) := by decide +kernel
theorem dL_said_105 : decode cL_said 105 = .ok (.istore 6, 2) := by decide +kernel
theorem dL_said_107 : decode cL_said 107 = .ok (.iinc 7 1, 3) := by decide +kernel
theorem dL_said_110 : decode cL_said 110 = .ok (.goto (-98), 3) := by decide +kernel
theorem dL_said_113 : decode cL_said 113 = .ok (.iload 4, 2) := by decide +kernel
theorem dL_said_115 : decode cL_said 115 = .ok (.ireturn, 1) := by decide +kernel
end
section
abbrev tt_cl : List vw_C := [(RX0, TX0, 2), (RX1, TX1, 2), (RX2, TX2, 2), (RX3, TX3, 3), (RX4, TX4, 1), (RX5, TX5, 2), (RX6, TX6, 3), (RX7, TX7, 2), (RX8, TX8, 13)]
/-- a method that makes no cell, by its body's walk -/
theorem tt_M.of0 {cl : List vw_C} {l : Launch} {y : MethodName} {ws ws' : List Cond} {rm : Room} {vs : List Value} {h : tt_H} {P : Option Value → tt_H → Prop} {cc : ByteArray} {maxL : Nat} {ret : Option FieldType} (hy : plainName y.cls = true) (hw : ws = Cond.code y cc maxL ret :: ws') (hsl : (lg_sl vs).length ≤ maxL)
    (body : ∀ (p : Program) (e : Env) (s : State) (m : MethodId) (args : Array Value) (below : List Frame) (meth : Method) (c : Code) (D : va_G) (ca ad : Nat → Nat) (n sz : Nat), tt_wf n h → s.heap.size = sz → tt_X cl (p, l, e, rm, s, m, args, below, meth, c, MQ below (tt_Q cl D ca ad n sz false P) args s 0 0 (tt_A ad n sz), D, ca, tt_A ad n sz, maxL, some n) cc y.cls ret ws → (y.name = "<init>" → meth.name = "<init>") →
      tt_T cl (p, l, e, rm, s, m, args, below, meth, c, MQ below (tt_Q cl D ca ad n sz false P) args s 0 0 (tt_A ad n sz), D, ca, tt_A ad n sz, maxL, some n) ad 0 0 0 (tt_args 0 vs) [] h) : tt_M cl l y ws rm 0 0 false vs h P :=
  tt_M.of hy hw hsl (fun p e s m args below meth c D ca ad n sz h1 h2 h3 h4 => body p e s m args below meth c D ca ad n sz h1 h2 h3 h4)
theorem gg_opt_none {α : Type} (a : α) (f : Nat → α) : gg_opt none a f = a := rfl
theorem gg_opt_some {α : Type} (b : Nat) (a : α) (f : Nat → α) : gg_opt (some b) a f = f b := rfl
/-- an answer that is a boolean: 0 or 1 -/
def gg_b (x : Int32) : Option Unit := if x = 0 ∨ x = 1 then some () else none
theorem gg_b_ok {x : Int32} {u : Unit} (e : gg_b x = some u) : narrow .boolean (.int x) = .int x := by
  unfold gg_b at e
  by_cases hc : x = 0 ∨ x = 1
  · rcases hc with rfl | rfl <;> rfl
  · rw [if_neg hc] at e; cases e
theorem tt_rf_or (r : Option Nat) : va_rf r = .null ∨ ∃ a, va_rf r = .ref a := by
  cases r with
  | none => exact Or.inl rfl
  | some a => exact Or.inr ⟨a, rfl⟩
theorem tt_setL {cl : List vw_C} {K : tt_K} {ad : Nat → Nat} {kc ks pc : Nat} {L L2 : List (Nat × Value)} {st : List Value} {h : tt_H} (e : L = L2) (kk : tt_T cl K ad kc ks pc L2 st h) : tt_T cl K ad kc ks pc L st h := e ▸ kk
end
section
def s_J7_fill_53178_L5 : Nat → Nat → Int32 → Int32 → Int32 → tt_H → Option (Unit × tt_H)
  | 0, _, _, _, _, _ => none
  | n + 1, b0, x1, x2, x3, h =>
    if x3 ≤ x2 then
      some ((), h)
    else
    (gg_is h b0 x2 x1).bind fun h13 =>
    s_J7_fill_53178_L5 n b0 x1 (x2 + 1) x3 h13
def s_J7_fill_53178 (b0 : Nat) (x1 : Int32) (h : tt_H) : Option (Unit × tt_H) :=
  (gg_len h b0).bind fun z3 =>
  s_J7_fill_53178_L5 1000 b0 x1 0 z3 h
abbrev rm_J7_fill_53178 : Room := { frames := 0, cells := 0, slots := 0, locals := 0 }
set_option maxHeartbeats 4000000 in
set_option maxRecDepth 100000 in
theorem c_J7_fill_53178 (l : Launch) {b0 : Nat} {x1 : Int32} {h : tt_H} {ρ : Unit × tt_H} (hs : s_J7_fill_53178 b0 x1 h = some ρ) : tt_M tt_cl l yJ7_fill_53178 wsJ7_fill_53178 rm_J7_fill_53178 0 0 false [.ref b0, .int x1] h (tt_ret (none) ρ.2) := by
  refine tt_M.of0 (cc := cJ7_fill_53178) (maxL := 4) (ret := none) (by decide +kernel) rfl (Nat.le_of_ble_eq_true rfl) ?_
  intro p e s m args below meth c D ca ad n0 sz hwf hsz X hini
  unfold s_J7_fill_53178 at hs
  have t_5 : ∀ (fu : Nat) (b0 : Nat) (x1 : Int32) (x2 : Int32) (x3 : Int32) (h : tt_H), s_J7_fill_53178_L5 fu b0 x1 x2 x3 h = some ρ → tt_T tt_cl (p, l, e, rm_J7_fill_53178, s, m, args, below, meth, c, MQ below (tt_Q tt_cl D ca ad n0 sz false (tt_ret (none) ρ.2)) args s 0 0 (tt_A ad n0 sz), D, ca, tt_A ad n0 sz, 4, some n0) ad 0 0 5 [(0, .ref b0), (1, .int x1), (2, .int x2), (3, .int x3)] [] h := by
    intro fu
    induction fu with
    | zero => intro b0 x1 x2 x3 h hs; exact absurd hs (by rw [s_J7_fill_53178_L5]; exact fun q => by cases q)
    | succ n5 ih =>
      intro b0 x1 x2 x3 h hs
      rw [s_J7_fill_53178_L5] at hs
      have t_5 := ih
      refine tt_iload_n X dJ7_fill_53178_5 rfl ?_
      refine tt_iload_n X dJ7_fill_53178_6 rfl ?_
      refine tt_icmp_ge (tgt := 20) X dJ7_fill_53178_7 (by decide) (fun c7 => ?_) (fun c7 => ?_)
      · rw [if_pos c7] at hs
        obtain rfl := Option.some.inj hs
        exact tt_vret X rfl dJ7_fill_53178_20 ⟨rfl, rfl⟩
      · rw [if_neg c7] at hs
        refine tt_aload_n X dJ7_fill_53178_10 rfl ?_
        refine tt_iload_n X dJ7_fill_53178_11 rfl ?_
        refine tt_iload_n X dJ7_fill_53178_12 rfl ?_
        obtain ⟨h13, e13, hs⟩ := gg_bind hs
        refine zr_is X e13 dJ7_fill_53178_13 ?_
        refine tt_iinc (v := x2 + 1) X dJ7_fill_53178_14 rfl rfl (Nat.le_of_ble_eq_true rfl) ?_
        refine tt_goto (tgt := 5) X dJ7_fill_53178_17 (by decide) ?_
        refine tt_drop [0, 1, 2, 3] ?_
        exact t_5 b0 x1 (x2 + 1) x3 h13 hs
  refine tt_iconst (v := 0) X dJ7_fill_53178_0 (by decide) ?_
  refine tt_istore_n X dJ7_fill_53178_1 (Nat.le_of_ble_eq_true rfl) ?_
  refine tt_aload_n X dJ7_fill_53178_2 rfl ?_
  obtain ⟨z3, e3, hs⟩ := gg_bind hs
  refine zr_len X e3 dJ7_fill_53178_3 ?_
  refine tt_istore_n X dJ7_fill_53178_4 (Nat.le_of_ble_eq_true rfl) ?_
  refine tt_drop [0, 1, 2, 3] ?_
  exact t_5 1000 b0 x1 0 z3 h hs

def s_J7_fill_d0a16_L6 : Nat → Nat → Int64 → Int32 → Int32 → tt_H → Option (Unit × tt_H)
  | 0, _, _, _, _, _ => none
  | n + 1, b0, y1, x3, x4, h =>
    if x4 ≤ x3 then
      some ((), h)
    else
    (gg_js h b0 x3 y1).bind fun h15 =>
    s_J7_fill_d0a16_L6 n b0 y1 (x3 + 1) x4 h15
def s_J7_fill_d0a16 (b0 : Nat) (y1 : Int64) (h : tt_H) : Option (Unit × tt_H) :=
  (gg_len h b0).bind fun z3 =>
  s_J7_fill_d0a16_L6 1000 b0 y1 0 z3 h
abbrev rm_J7_fill_d0a16 : Room := { frames := 0, cells := 0, slots := 0, locals := 0 }
set_option maxHeartbeats 4000000 in
set_option maxRecDepth 100000 in
theorem c_J7_fill_d0a16 (l : Launch) {b0 : Nat} {y1 : Int64} {h : tt_H} {ρ : Unit × tt_H} (hs : s_J7_fill_d0a16 b0 y1 h = some ρ) : tt_M tt_cl l yJ7_fill_d0a16 wsJ7_fill_d0a16 rm_J7_fill_d0a16 0 0 false [.ref b0, .long y1] h (tt_ret (none) ρ.2) := by
  refine tt_M.of0 (cc := cJ7_fill_d0a16) (maxL := 5) (ret := none) (by decide +kernel) rfl (Nat.le_of_ble_eq_true rfl) ?_
  intro p e s m args below meth c D ca ad n0 sz hwf hsz X hini
  unfold s_J7_fill_d0a16 at hs
  have t_6 : ∀ (fu : Nat) (b0 : Nat) (y1 : Int64) (x3 : Int32) (x4 : Int32) (h : tt_H), s_J7_fill_d0a16_L6 fu b0 y1 x3 x4 h = some ρ → tt_T tt_cl (p, l, e, rm_J7_fill_d0a16, s, m, args, below, meth, c, MQ below (tt_Q tt_cl D ca ad n0 sz false (tt_ret (none) ρ.2)) args s 0 0 (tt_A ad n0 sz), D, ca, tt_A ad n0 sz, 5, some n0) ad 0 0 6 [(0, .ref b0), (1, .long y1), (3, .int x3), (4, .int x4)] [] h := by
    intro fu
    induction fu with
    | zero => intro b0 y1 x3 x4 h hs; exact absurd hs (by rw [s_J7_fill_d0a16_L6]; exact fun q => by cases q)
    | succ n6 ih =>
      intro b0 y1 x3 x4 h hs
      rw [s_J7_fill_d0a16_L6] at hs
      have t_6 := ih
      refine tt_iload_n X dJ7_fill_d0a16_6 rfl ?_
      refine tt_iload X dJ7_fill_d0a16_7 rfl ?_
      refine tt_icmp_ge (tgt := 22) X dJ7_fill_d0a16_9 (by decide) (fun c9 => ?_) (fun c9 => ?_)
      · rw [if_pos c9] at hs
        obtain rfl := Option.some.inj hs
        exact tt_vret X rfl dJ7_fill_d0a16_22 ⟨rfl, rfl⟩
      · rw [if_neg c9] at hs
        refine tt_aload_n X dJ7_fill_d0a16_12 rfl ?_
        refine tt_iload_n X dJ7_fill_d0a16_13 rfl ?_
        refine tt_lload_n X dJ7_fill_d0a16_14 rfl ?_
        obtain ⟨h15, e15, hs⟩ := gg_bind hs
        refine zr_js X e15 dJ7_fill_d0a16_15 ?_
        refine tt_iinc (v := x3 + 1) X dJ7_fill_d0a16_16 rfl rfl (Nat.le_of_ble_eq_true rfl) ?_
        refine tt_goto (tgt := 6) X dJ7_fill_d0a16_19 (by decide) ?_
        refine tt_drop [0, 1, 3, 4] ?_
        exact t_6 b0 y1 (x3 + 1) x4 h15 hs
  refine tt_iconst (v := 0) X dJ7_fill_d0a16_0 (by decide) ?_
  refine tt_istore_n X dJ7_fill_d0a16_1 (Nat.le_of_ble_eq_true rfl) ?_
  refine tt_aload_n X dJ7_fill_d0a16_2 rfl ?_
  obtain ⟨z3, e3, hs⟩ := gg_bind hs
  refine zr_len X e3 dJ7_fill_d0a16_3 ?_
  refine tt_istore X dJ7_fill_d0a16_4 (Nat.le_of_ble_eq_true rfl) ?_
  refine tt_drop [0, 1, 3, 4] ?_
  exact t_6 1000 b0 y1 0 z3 h hs

theorem in_X6_renew_X6 : ∀ w ∈ u_ws RX6 TX6 3, w ∈ wsX6_renew := by decide +kernel
def s_X6_renew (b0 : Nat) (x1 : Int32) (x2 : Int32) (h : tt_H) : Option (Unit × tt_H) :=
  if x2 < 0 then
    some ((), h)
  else
  if x2 ≤ 80 then
    (gg_fr h b0 6 0).bind fun o12 =>
    (s_J7_fill_53178 o12 0 h).bind fun w16 =>
    (gg_put w16.2 b0 6 1 (.int x2)).bind fun h21 =>
    (gg_put h21 b0 6 2 (.int x1)).bind fun h26 =>
    some ((), h26)
  else
  some ((), h)
abbrev rm_X6_renew : Room := { frames := 1, cells := 0, slots := 0, locals := 23 }
set_option maxHeartbeats 4000000 in
set_option maxRecDepth 100000 in
theorem c_X6_renew (l : Launch) {b0 : Nat} {x1 : Int32} {x2 : Int32} {h : tt_H} {ρ : Unit × tt_H} (hs : s_X6_renew b0 x1 x2 h = some ρ) : tt_M tt_cl l yX6_renew wsX6_renew rm_X6_renew 0 0 false [.ref b0, .int x1, .int x2] h (tt_ret (none) ρ.2) := by
  refine tt_M.of0 (cc := cX6_renew) (maxL := 3) (ret := none) (by decide +kernel) rfl (Nat.le_of_ble_eq_true rfl) ?_
  intro p e s m args below meth c D ca ad n0 sz hwf hsz X hini
  unfold s_X6_renew at hs
  refine tt_iload_n X dX6_renew_0 rfl ?_
  refine tt_if_lt (tgt := 10) X dX6_renew_1 (by decide) (fun c1 => ?_) (fun c1 => ?_)
  · rw [if_pos c1] at hs
    obtain rfl := Option.some.inj hs
    exact tt_vret X rfl dX6_renew_10 ⟨rfl, rfl⟩
  · rw [if_neg c1] at hs
    refine tt_iload_n X dX6_renew_4 rfl ?_
    refine tt_bipush (v := 80) X dX6_renew_5 (by decide) ?_
    refine tt_icmp_le (tgt := 11) X dX6_renew_7 (by decide) (fun c7 => ?_) (fun c7 => ?_)
    · rw [if_pos c7] at hs
      refine tt_aload_n X dX6_renew_11 rfl ?_
      obtain ⟨o12, e12, hs⟩ := gg_bind hs
      refine zr_fr X e12 rfl in_X6_renew_X6 (by decide) (by decide +kernel) rfl dX6_renew_12 ?_
      refine tt_iconst (v := 0) X dX6_renew_15 (by decide) ?_
      obtain ⟨w16, e16, hs⟩ := gg_bind hs
      refine zr_callS X (c_J7_fill_53178 l e16) (fun hts => va_cwS 2 hts gX6_renew_J7_fill_53178 rfl rfl rfl (by decide +kernel) ⟨by decide, by decide⟩) rfl rfl (Nat.le_of_ble_eq_true rfl) dX6_renew_16 ⟨Nat.zero_le _, Nat.zero_le _⟩ ?_
      refine tt_aload_n X dX6_renew_19 rfl ?_
      refine tt_iload_n X dX6_renew_20 rfl ?_
      obtain ⟨h21, e21, hs⟩ := gg_bind hs
      refine zr_put X e21 rfl in_X6_renew_X6 tyX6 tyX6_ok nmX6 (by decide) (by decide +kernel) rfl rfl (fun _ => rfl) (fun _ => rfl) dX6_renew_21 ?_
      refine tt_aload_n X dX6_renew_24 rfl ?_
      refine tt_iload_n X dX6_renew_25 rfl ?_
      obtain ⟨h26, e26, hs⟩ := gg_bind hs
      refine zr_put X e26 rfl in_X6_renew_X6 tyX6 tyX6_ok nmX6 (by decide) (by decide +kernel) rfl rfl (fun _ => rfl) (fun _ => rfl) dX6_renew_26 ?_
      obtain rfl := Option.some.inj hs
      exact tt_vret X rfl dX6_renew_29 ⟨rfl, rfl⟩
    · rw [if_neg c7] at hs
      obtain rfl := Option.some.inj hs
      exact tt_vret X rfl dX6_renew_10 ⟨rfl, rfl⟩

theorem in_X6_isNothing_X6 : ∀ w ∈ u_ws RX6 TX6 3, w ∈ wsX6_isNothing := by decide +kernel
def s_X6_isNothing (b0 : Nat) (h : tt_H) : Option (Int32 × tt_H) :=
  (gg_fi h b0 6 1).bind fun z1 =>
  if z1 = ((-1)) then
    some (1, h)
  else
  some (0, h)
abbrev rm_X6_isNothing : Room := { frames := 0, cells := 0, slots := 0, locals := 0 }
set_option maxHeartbeats 4000000 in
set_option maxRecDepth 100000 in
theorem c_X6_isNothing (l : Launch) {b0 : Nat} {h : tt_H} {ρ : Int32 × tt_H} (hs : s_X6_isNothing b0 h = some ρ) : tt_M tt_cl l yX6_isNothing wsX6_isNothing rm_X6_isNothing 0 0 false [.ref b0] h (tt_ret (some (.int ρ.1)) ρ.2) := by
  refine tt_M.of0 (cc := cX6_isNothing) (maxL := 1) (ret := (some .boolean)) (by decide +kernel) rfl (Nat.le_of_ble_eq_true rfl) ?_
  intro p e s m args below meth c D ca ad n0 sz hwf hsz X hini
  unfold s_X6_isNothing at hs
  refine tt_aload_n X dX6_isNothing_0 rfl ?_
  obtain ⟨z1, e1, hs⟩ := gg_bind hs
  refine zr_fi X e1 rfl in_X6_isNothing_X6 (by decide) (by decide +kernel) rfl dX6_isNothing_1 ?_
  refine tt_iconst (v := (-1)) X dX6_isNothing_4 (by decide) ?_
  refine tt_icmp_ne (tgt := 12) X dX6_isNothing_5 (by decide) (fun c5 => ?_) (fun c5 => ?_)
  · rw [if_neg c5] at hs
    refine tt_iconst (v := 0) X dX6_isNothing_12 (by decide) ?_
    obtain rfl := Option.some.inj hs
    exact tt_zret X rfl rfl dX6_isNothing_13 ⟨rfl, rfl⟩
  · rw [if_pos c5] at hs
    refine tt_iconst (v := 1) X dX6_isNothing_8 (by decide) ?_
    refine tt_goto (tgt := 13) X dX6_isNothing_9 (by decide) ?_
    obtain rfl := Option.some.inj hs
    exact tt_zret X rfl rfl dX6_isNothing_13 ⟨rfl, rfl⟩

theorem in_X6_hasCells_X6 : ∀ w ∈ u_ws RX6 TX6 3, w ∈ wsX6_hasCells := by decide +kernel
def s_X6_hasCells (b0 : Nat) (x1 : Int32) (x2 : Int32) (h : tt_H) : Option (Int32 × tt_H) :=
  if x1 < 0 then
    some (0, h)
  else
  if x2 < 0 then
    some (0, h)
  else
  (gg_fi h b0 6 1).bind fun z14 =>
  if 0 < (lg_cmp (x1.toInt64 + x2.toInt64) z14.toInt64) then
    some (0, h)
  else
  some (1, h)
abbrev rm_X6_hasCells : Room := { frames := 0, cells := 0, slots := 0, locals := 0 }
set_option maxHeartbeats 4000000 in
set_option maxRecDepth 100000 in
theorem c_X6_hasCells (l : Launch) {b0 : Nat} {x1 : Int32} {x2 : Int32} {h : tt_H} {ρ : Int32 × tt_H} (hs : s_X6_hasCells b0 x1 x2 h = some ρ) : tt_M tt_cl l yX6_hasCells wsX6_hasCells rm_X6_hasCells 0 0 false [.ref b0, .int x1, .int x2] h (tt_ret (some (.int ρ.1)) ρ.2) := by
  refine tt_M.of0 (cc := cX6_hasCells) (maxL := 3) (ret := (some .boolean)) (by decide +kernel) rfl (Nat.le_of_ble_eq_true rfl) ?_
  intro p e s m args below meth c D ca ad n0 sz hwf hsz X hini
  unfold s_X6_hasCells at hs
  refine tt_iload_n X dX6_hasCells_0 rfl ?_
  refine tt_if_lt (tgt := 26) X dX6_hasCells_1 (by decide) (fun c1 => ?_) (fun c1 => ?_)
  · rw [if_pos c1] at hs
    refine tt_iconst (v := 0) X dX6_hasCells_26 (by decide) ?_
    obtain rfl := Option.some.inj hs
    exact tt_zret X rfl rfl dX6_hasCells_27 ⟨rfl, rfl⟩
  · rw [if_neg c1] at hs
    refine tt_iload_n X dX6_hasCells_4 rfl ?_
    refine tt_if_lt (tgt := 26) X dX6_hasCells_5 (by decide) (fun c5 => ?_) (fun c5 => ?_)
    · rw [if_pos c5] at hs
      refine tt_iconst (v := 0) X dX6_hasCells_26 (by decide) ?_
      obtain rfl := Option.some.inj hs
      exact tt_zret X rfl rfl dX6_hasCells_27 ⟨rfl, rfl⟩
    · rw [if_neg c5] at hs
      refine tt_iload_n X dX6_hasCells_8 rfl ?_
      refine tt_i2l X dX6_hasCells_9 ?_
      refine tt_iload_n X dX6_hasCells_10 rfl ?_
      refine tt_i2l X dX6_hasCells_11 ?_
      refine tt_ladd X dX6_hasCells_12 ?_
      refine tt_aload_n X dX6_hasCells_13 rfl ?_
      obtain ⟨z14, e14, hs⟩ := gg_bind hs
      refine zr_fi X e14 rfl in_X6_hasCells_X6 (by decide) (by decide +kernel) rfl dX6_hasCells_14 ?_
      refine tt_i2l X dX6_hasCells_17 ?_
      refine tt_lcmp X dX6_hasCells_18 ?_
      refine tt_if_gt (tgt := 26) X dX6_hasCells_19 (by decide) (fun c19 => ?_) (fun c19 => ?_)
      · rw [if_pos c19] at hs
        refine tt_iconst (v := 0) X dX6_hasCells_26 (by decide) ?_
        obtain rfl := Option.some.inj hs
        exact tt_zret X rfl rfl dX6_hasCells_27 ⟨rfl, rfl⟩
      · rw [if_neg c19] at hs
        refine tt_iconst (v := 1) X dX6_hasCells_22 (by decide) ?_
        refine tt_goto (tgt := 27) X dX6_hasCells_23 (by decide) ?_
        obtain rfl := Option.some.inj hs
        exact tt_zret X rfl rfl dX6_hasCells_27 ⟨rfl, rfl⟩

theorem in_X6_cut_X6 : ∀ w ∈ u_ws RX6 TX6 3, w ∈ wsX6_cut := by decide +kernel
def s_X6_cut (b0 : Nat) (x1 : Int32) (h : tt_H) : Option (Int32 × tt_H) :=
  (gg_fi h b0 6 2).bind fun z1 =>
  if z1 = 0 then
    some (x1.toInt8.toInt32, h)
  else
  (gg_fi h b0 6 2).bind fun z11 =>
  if z11 = 1 then
    some (x1.toInt16.toInt32, h)
  else
  some (x1, h)
abbrev rm_X6_cut : Room := { frames := 0, cells := 0, slots := 0, locals := 0 }
set_option maxHeartbeats 4000000 in
set_option maxRecDepth 100000 in
theorem c_X6_cut (l : Launch) {b0 : Nat} {x1 : Int32} {h : tt_H} {ρ : Int32 × tt_H} (hs : s_X6_cut b0 x1 h = some ρ) : tt_M tt_cl l yX6_cut wsX6_cut rm_X6_cut 0 0 false [.ref b0, .int x1] h (tt_ret (some (.int ρ.1)) ρ.2) := by
  refine tt_M.of0 (cc := cX6_cut) (maxL := 2) (ret := (some .int)) (by decide +kernel) rfl (Nat.le_of_ble_eq_true rfl) ?_
  intro p e s m args below meth c D ca ad n0 sz hwf hsz X hini
  unfold s_X6_cut at hs
  refine tt_aload_n X dX6_cut_0 rfl ?_
  obtain ⟨z1, e1, hs⟩ := gg_bind hs
  refine zr_fi X e1 rfl in_X6_cut_X6 (by decide) (by decide +kernel) rfl dX6_cut_1 ?_
  refine tt_if_ne (tgt := 10) X dX6_cut_4 (by decide) (fun c4 => ?_) (fun c4 => ?_)
  · rw [if_neg c4] at hs
    refine tt_aload_n X dX6_cut_10 rfl ?_
    obtain ⟨z11, e11, hs⟩ := gg_bind hs
    refine zr_fi X e11 rfl in_X6_cut_X6 (by decide) (by decide +kernel) rfl dX6_cut_11 ?_
    refine tt_iconst (v := 1) X dX6_cut_14 (by decide) ?_
    refine tt_icmp_ne (tgt := 23) X dX6_cut_15 (by decide) (fun c15 => ?_) (fun c15 => ?_)
    · rw [if_neg c15] at hs
      refine tt_iload_n X dX6_cut_23 rfl ?_
      obtain rfl := Option.some.inj hs
      exact tt_iret X rfl dX6_cut_24 ⟨rfl, rfl⟩
    · rw [if_pos c15] at hs
      refine tt_iload_n X dX6_cut_18 rfl ?_
      refine tt_i2s X dX6_cut_19 ?_
      refine tt_goto (tgt := 24) X dX6_cut_20 (by decide) ?_
      obtain rfl := Option.some.inj hs
      exact tt_iret X rfl dX6_cut_24 ⟨rfl, rfl⟩
  · rw [if_pos c4] at hs
    refine tt_iload_n X dX6_cut_7 rfl ?_
    refine tt_i2b X dX6_cut_8 ?_
    obtain rfl := Option.some.inj hs
    exact tt_iret X rfl dX6_cut_9 ⟨rfl, rfl⟩

theorem in_X6_write_X6 : ∀ w ∈ u_ws RX6 TX6 3, w ∈ wsX6_write := by decide +kernel
def s_X6_write (b0 : Nat) (x1 : Int32) (x2 : Int32) (h : tt_H) : Option (Unit × tt_H) :=
  (gg_obj h b0 6).bind fun _ =>
  (s_X6_hasCells b0 x1 1 h).bind fun w3 =>
  if w3.1 = 0 then
    some ((), w3.2)
  else
  (gg_fr w3.2 b0 6 0).bind fun o10 =>
  (gg_obj w3.2 b0 6).bind fun _ =>
  (s_X6_cut b0 x2 w3.2).bind fun w16 =>
  (gg_is w16.2 o10 x1 w16.1).bind fun h19 =>
  some ((), h19)
abbrev rm_X6_write : Room := { frames := 1, cells := 0, slots := 0, locals := 22 }
set_option maxHeartbeats 4000000 in
set_option maxRecDepth 100000 in
theorem c_X6_write (l : Launch) {b0 : Nat} {x1 : Int32} {x2 : Int32} {h : tt_H} {ρ : Unit × tt_H} (hs : s_X6_write b0 x1 x2 h = some ρ) : tt_M tt_cl l yX6_write wsX6_write rm_X6_write 0 0 false [.ref b0, .int x1, .int x2] h (tt_ret (none) ρ.2) := by
  refine tt_M.of0 (cc := cX6_write) (maxL := 3) (ret := none) (by decide +kernel) rfl (Nat.le_of_ble_eq_true rfl) ?_
  intro p e s m args below meth c D ca ad n0 sz hwf hsz X hini
  unfold s_X6_write at hs
  refine tt_aload_n X dX6_write_0 rfl ?_
  refine tt_iload_n X dX6_write_1 rfl ?_
  refine tt_iconst (v := 1) X dX6_write_2 (by decide) ?_
  obtain ⟨o3, f3, hs⟩ := gg_bind hs
  obtain ⟨w3, e3, hs⟩ := gg_bind hs
  refine zr_callV X f3 rfl (c_X6_hasCells l e3) (fun hts => cwV 2 hts gX6_write_X6_hasCells rfl rfl rfl (by decide +kernel) ⟨by decide, by decide⟩) rfl rfl (Nat.le_of_ble_eq_true rfl) dX6_write_3 ⟨Nat.zero_le _, Nat.zero_le _⟩ ?_
  refine tt_if_eq (tgt := 20) X dX6_write_6 (by decide) (fun c6 => ?_) (fun c6 => ?_)
  · rw [if_pos c6] at hs
    obtain rfl := Option.some.inj hs
    exact tt_vret X rfl dX6_write_20 ⟨rfl, rfl⟩
  · rw [if_neg c6] at hs
    refine tt_aload_n X dX6_write_9 rfl ?_
    obtain ⟨o10, e10, hs⟩ := gg_bind hs
    refine zr_fr X e10 rfl in_X6_write_X6 (by decide) (by decide +kernel) rfl dX6_write_10 ?_
    refine tt_iload_n X dX6_write_13 rfl ?_
    refine tt_aload_n X dX6_write_14 rfl ?_
    refine tt_iload_n X dX6_write_15 rfl ?_
    obtain ⟨o16, f16, hs⟩ := gg_bind hs
    obtain ⟨w16, e16, hs⟩ := gg_bind hs
    refine zr_callV X f16 rfl (c_X6_cut l e16) (fun hts => cwV 1 hts gX6_write_X6_cut rfl rfl rfl (by decide +kernel) ⟨by decide, by decide⟩) rfl rfl (Nat.le_of_ble_eq_true rfl) dX6_write_16 ⟨Nat.zero_le _, Nat.zero_le _⟩ ?_
    obtain ⟨h19, e19, hs⟩ := gg_bind hs
    refine zr_is X e19 dX6_write_19 ?_
    obtain rfl := Option.some.inj hs
    exact tt_vret X rfl dX6_write_20 ⟨rfl, rfl⟩

theorem in_X6_sort_X6 : ∀ w ∈ u_ws RX6 TX6 3, w ∈ wsX6_sort := by decide +kernel
def s_X6_sort (b0 : Nat) (h : tt_H) : Option (Int32 × tt_H) :=
  (gg_fi h b0 6 2).bind fun z1 =>
  some (z1, h)
abbrev rm_X6_sort : Room := { frames := 0, cells := 0, slots := 0, locals := 0 }
set_option maxHeartbeats 4000000 in
set_option maxRecDepth 100000 in
theorem c_X6_sort (l : Launch) {b0 : Nat} {h : tt_H} {ρ : Int32 × tt_H} (hs : s_X6_sort b0 h = some ρ) : tt_M tt_cl l yX6_sort wsX6_sort rm_X6_sort 0 0 false [.ref b0] h (tt_ret (some (.int ρ.1)) ρ.2) := by
  refine tt_M.of0 (cc := cX6_sort) (maxL := 1) (ret := (some .int)) (by decide +kernel) rfl (Nat.le_of_ble_eq_true rfl) ?_
  intro p e s m args below meth c D ca ad n0 sz hwf hsz X hini
  unfold s_X6_sort at hs
  refine tt_aload_n X dX6_sort_0 rfl ?_
  obtain ⟨z1, e1, hs⟩ := gg_bind hs
  refine zr_fi X e1 rfl in_X6_sort_X6 (by decide) (by decide +kernel) rfl dX6_sort_1 ?_
  obtain rfl := Option.some.inj hs
  exact tt_iret X rfl dX6_sort_4 ⟨rfl, rfl⟩

theorem in_X6_at_X6 : ∀ w ∈ u_ws RX6 TX6 3, w ∈ wsX6_at := by decide +kernel
def s_X6_at (b0 : Nat) (x1 : Int32) (h : tt_H) : Option (Int32 × tt_H) :=
  (gg_obj h b0 6).bind fun _ =>
  (s_X6_hasCells b0 x1 1 h).bind fun w3 =>
  if w3.1 = 0 then
    some (0, w3.2)
  else
  (gg_fr w3.2 b0 6 0).bind fun o10 =>
  (gg_il w3.2 o10 x1).bind fun z14 =>
  some (z14, w3.2)
abbrev rm_X6_at : Room := { frames := 1, cells := 0, slots := 0, locals := 22 }
set_option maxHeartbeats 4000000 in
set_option maxRecDepth 100000 in
theorem c_X6_at (l : Launch) {b0 : Nat} {x1 : Int32} {h : tt_H} {ρ : Int32 × tt_H} (hs : s_X6_at b0 x1 h = some ρ) : tt_M tt_cl l yX6_at wsX6_at rm_X6_at 0 0 false [.ref b0, .int x1] h (tt_ret (some (.int ρ.1)) ρ.2) := by
  refine tt_M.of0 (cc := cX6_at) (maxL := 2) (ret := (some .int)) (by decide +kernel) rfl (Nat.le_of_ble_eq_true rfl) ?_
  intro p e s m args below meth c D ca ad n0 sz hwf hsz X hini
  unfold s_X6_at at hs
  refine tt_aload_n X dX6_at_0 rfl ?_
  refine tt_iload_n X dX6_at_1 rfl ?_
  refine tt_iconst (v := 1) X dX6_at_2 (by decide) ?_
  obtain ⟨o3, f3, hs⟩ := gg_bind hs
  obtain ⟨w3, e3, hs⟩ := gg_bind hs
  refine zr_callV X f3 rfl (c_X6_hasCells l e3) (fun hts => cwV 2 hts gX6_at_X6_hasCells rfl rfl rfl (by decide +kernel) ⟨by decide, by decide⟩) rfl rfl (Nat.le_of_ble_eq_true rfl) dX6_at_3 ⟨Nat.zero_le _, Nat.zero_le _⟩ ?_
  refine tt_if_eq (tgt := 18) X dX6_at_6 (by decide) (fun c6 => ?_) (fun c6 => ?_)
  · rw [if_pos c6] at hs
    refine tt_iconst (v := 0) X dX6_at_18 (by decide) ?_
    obtain rfl := Option.some.inj hs
    exact tt_iret X rfl dX6_at_19 ⟨rfl, rfl⟩
  · rw [if_neg c6] at hs
    refine tt_aload_n X dX6_at_9 rfl ?_
    obtain ⟨o10, e10, hs⟩ := gg_bind hs
    refine zr_fr X e10 rfl in_X6_at_X6 (by decide) (by decide +kernel) rfl dX6_at_10 ?_
    refine tt_iload_n X dX6_at_13 rfl ?_
    obtain ⟨z14, e14, hs⟩ := gg_bind hs
    refine zr_il X e14 dX6_at_14 ?_
    refine tt_goto (tgt := 19) X dX6_at_15 (by decide) ?_
    obtain rfl := Option.some.inj hs
    exact tt_iret X rfl dX6_at_19 ⟨rfl, rfl⟩

theorem in_X2_clear_X2 : ∀ w ∈ u_ws RX2 TX2 2, w ∈ wsX2_clear := by decide +kernel
def s_X2_clear (b0 : Nat) (h : tt_H) : Option (Unit × tt_H) :=
  (gg_put h b0 2 1 (.int 0)).bind fun h2 =>
  some ((), h2)
abbrev rm_X2_clear : Room := { frames := 0, cells := 0, slots := 0, locals := 0 }
set_option maxHeartbeats 4000000 in
set_option maxRecDepth 100000 in
theorem c_X2_clear (l : Launch) {b0 : Nat} {h : tt_H} {ρ : Unit × tt_H} (hs : s_X2_clear b0 h = some ρ) : tt_M tt_cl l yX2_clear wsX2_clear rm_X2_clear 0 0 false [.ref b0] h (tt_ret (none) ρ.2) := by
  refine tt_M.of0 (cc := cX2_clear) (maxL := 1) (ret := none) (by decide +kernel) rfl (Nat.le_of_ble_eq_true rfl) ?_
  intro p e s m args below meth c D ca ad n0 sz hwf hsz X hini
  unfold s_X2_clear at hs
  refine tt_aload_n X dX2_clear_0 rfl ?_
  refine tt_iconst (v := 0) X dX2_clear_1 (by decide) ?_
  obtain ⟨h2, e2, hs⟩ := gg_bind hs
  refine zr_put X e2 rfl in_X2_clear_X2 tyX2 tyX2_ok nmX2 (by decide) (by decide +kernel) rfl rfl (fun _ => rfl) (fun _ => rfl) dX2_clear_2 ?_
  obtain rfl := Option.some.inj hs
  exact tt_vret X rfl dX2_clear_5 ⟨rfl, rfl⟩

theorem in_X2_size_X2 : ∀ w ∈ u_ws RX2 TX2 2, w ∈ wsX2_size := by decide +kernel
def s_X2_size (b0 : Nat) (h : tt_H) : Option (Int32 × tt_H) :=
  (gg_fi h b0 2 1).bind fun z1 =>
  some (z1, h)
abbrev rm_X2_size : Room := { frames := 0, cells := 0, slots := 0, locals := 0 }
set_option maxHeartbeats 4000000 in
set_option maxRecDepth 100000 in
theorem c_X2_size (l : Launch) {b0 : Nat} {h : tt_H} {ρ : Int32 × tt_H} (hs : s_X2_size b0 h = some ρ) : tt_M tt_cl l yX2_size wsX2_size rm_X2_size 0 0 false [.ref b0] h (tt_ret (some (.int ρ.1)) ρ.2) := by
  refine tt_M.of0 (cc := cX2_size) (maxL := 1) (ret := (some .int)) (by decide +kernel) rfl (Nat.le_of_ble_eq_true rfl) ?_
  intro p e s m args below meth c D ca ad n0 sz hwf hsz X hini
  unfold s_X2_size at hs
  refine tt_aload_n X dX2_size_0 rfl ?_
  obtain ⟨z1, e1, hs⟩ := gg_bind hs
  refine zr_fi X e1 rfl in_X2_size_X2 (by decide) (by decide +kernel) rfl dX2_size_1 ?_
  obtain rfl := Option.some.inj hs
  exact tt_iret X rfl dX2_size_4 ⟨rfl, rfl⟩

theorem in_X2_isFull_X2 : ∀ w ∈ u_ws RX2 TX2 2, w ∈ wsX2_isFull := by decide +kernel
def s_X2_isFull (b0 : Nat) (h : tt_H) : Option (Int32 × tt_H) :=
  (gg_fi h b0 2 1).bind fun z1 =>
  if z1 < 12 then
    some (0, h)
  else
  some (1, h)
abbrev rm_X2_isFull : Room := { frames := 0, cells := 0, slots := 0, locals := 0 }
set_option maxHeartbeats 4000000 in
set_option maxRecDepth 100000 in
theorem c_X2_isFull (l : Launch) {b0 : Nat} {h : tt_H} {ρ : Int32 × tt_H} (hs : s_X2_isFull b0 h = some ρ) : tt_M tt_cl l yX2_isFull wsX2_isFull rm_X2_isFull 0 0 false [.ref b0] h (tt_ret (some (.int ρ.1)) ρ.2) := by
  refine tt_M.of0 (cc := cX2_isFull) (maxL := 1) (ret := (some .boolean)) (by decide +kernel) rfl (Nat.le_of_ble_eq_true rfl) ?_
  intro p e s m args below meth c D ca ad n0 sz hwf hsz X hini
  unfold s_X2_isFull at hs
  refine tt_aload_n X dX2_isFull_0 rfl ?_
  obtain ⟨z1, e1, hs⟩ := gg_bind hs
  refine zr_fi X e1 rfl in_X2_isFull_X2 (by decide) (by decide +kernel) rfl dX2_isFull_1 ?_
  refine tt_bipush (v := 12) X dX2_isFull_4 (by decide) ?_
  refine tt_icmp_lt (tgt := 13) X dX2_isFull_6 (by decide) (fun c6 => ?_) (fun c6 => ?_)
  · rw [if_pos c6] at hs
    refine tt_iconst (v := 0) X dX2_isFull_13 (by decide) ?_
    obtain rfl := Option.some.inj hs
    exact tt_zret X rfl rfl dX2_isFull_14 ⟨rfl, rfl⟩
  · rw [if_neg c6] at hs
    refine tt_iconst (v := 1) X dX2_isFull_9 (by decide) ?_
    refine tt_goto (tgt := 14) X dX2_isFull_10 (by decide) ?_
    obtain rfl := Option.some.inj hs
    exact tt_zret X rfl rfl dX2_isFull_14 ⟨rfl, rfl⟩

theorem in_X2_insert_X2 : ∀ w ∈ u_ws RX2 TX2 2, w ∈ wsX2_insert := by decide +kernel
def s_X2_insert_L25 : Nat → Nat → Int32 → Int32 → Int32 → tt_H → Option (Unit × tt_H)
  | 0, _, _, _, _, _ => none
  | n + 1, b0, x1, x2, x3, h =>
    if x3 ≤ x1 then
      (gg_fr h b0 2 0).bind fun o51 =>
      (gg_is h o51 x1 x2).bind fun h56 =>
      (gg_fi h56 b0 2 1).bind fun z59 =>
      (gg_put h56 b0 2 1 (.int (z59 + 1))).bind fun h64 =>
      some ((), h64)
    else
    (gg_fr h b0 2 0).bind fun o31 =>
    (gg_fr h b0 2 0).bind fun o36 =>
    (gg_il h o36 (x3 - 1)).bind fun z42 =>
    (gg_is h o31 x3 z42).bind fun h43 =>
    s_X2_insert_L25 n b0 x1 x2 (x3 + (-1)) h43
def s_X2_insert (b0 : Nat) (x1 : Int32) (x2 : Int32) (h : tt_H) : Option (Unit × tt_H) :=
  (gg_obj h b0 2).bind fun _ =>
  (s_X2_isFull b0 h).bind fun w1 =>
  if w1.1 = 0 then
    if x1 < 0 then
      some ((), w1.2)
    else
    (gg_fi w1.2 b0 2 1).bind fun z13 =>
    if x1 ≤ z13 then
      (gg_fi w1.2 b0 2 1).bind fun z21 =>
      s_X2_insert_L25 1000 b0 x1 x2 z21 w1.2
    else
    some ((), w1.2)
  else
  some ((), w1.2)
abbrev rm_X2_insert : Room := { frames := 1, cells := 0, slots := 0, locals := 20 }
set_option maxHeartbeats 4000000 in
set_option maxRecDepth 100000 in
theorem c_X2_insert (l : Launch) {b0 : Nat} {x1 : Int32} {x2 : Int32} {h : tt_H} {ρ : Unit × tt_H} (hs : s_X2_insert b0 x1 x2 h = some ρ) : tt_M tt_cl l yX2_insert wsX2_insert rm_X2_insert 0 0 false [.ref b0, .int x1, .int x2] h (tt_ret (none) ρ.2) := by
  refine tt_M.of0 (cc := cX2_insert) (maxL := 4) (ret := none) (by decide +kernel) rfl (Nat.le_of_ble_eq_true rfl) ?_
  intro p e s m args below meth c D ca ad n0 sz hwf hsz X hini
  unfold s_X2_insert at hs
  have t_25 : ∀ (fu : Nat) (b0 : Nat) (x1 : Int32) (x2 : Int32) (x3 : Int32) (h : tt_H), s_X2_insert_L25 fu b0 x1 x2 x3 h = some ρ → tt_T tt_cl (p, l, e, rm_X2_insert, s, m, args, below, meth, c, MQ below (tt_Q tt_cl D ca ad n0 sz false (tt_ret (none) ρ.2)) args s 0 0 (tt_A ad n0 sz), D, ca, tt_A ad n0 sz, 4, some n0) ad 0 0 25 [(0, .ref b0), (1, .int x1), (2, .int x2), (3, .int x3)] [] h := by
    intro fu
    induction fu with
    | zero => intro b0 x1 x2 x3 h hs; exact absurd hs (by rw [s_X2_insert_L25]; exact fun q => by cases q)
    | succ n25 ih =>
      intro b0 x1 x2 x3 h hs
      rw [s_X2_insert_L25] at hs
      have t_25 := ih
      refine tt_iload_n X dX2_insert_25 rfl ?_
      refine tt_iload_n X dX2_insert_26 rfl ?_
      refine tt_icmp_le (tgt := 50) X dX2_insert_27 (by decide) (fun c27 => ?_) (fun c27 => ?_)
      · rw [if_pos c27] at hs
        refine tt_aload_n X dX2_insert_50 rfl ?_
        obtain ⟨o51, e51, hs⟩ := gg_bind hs
        refine zr_fr X e51 rfl in_X2_insert_X2 (by decide) (by decide +kernel) rfl dX2_insert_51 ?_
        refine tt_iload_n X dX2_insert_54 rfl ?_
        refine tt_iload_n X dX2_insert_55 rfl ?_
        obtain ⟨h56, e56, hs⟩ := gg_bind hs
        refine zr_is X e56 dX2_insert_56 ?_
        refine tt_aload_n X dX2_insert_57 rfl ?_
        refine tt_dup X dX2_insert_58 rfl ?_
        obtain ⟨z59, e59, hs⟩ := gg_bind hs
        refine zr_fi X e59 rfl in_X2_insert_X2 (by decide) (by decide +kernel) rfl dX2_insert_59 ?_
        refine tt_iconst (v := 1) X dX2_insert_62 (by decide) ?_
        refine tt_iadd X dX2_insert_63 ?_
        obtain ⟨h64, e64, hs⟩ := gg_bind hs
        refine zr_put X e64 rfl in_X2_insert_X2 tyX2 tyX2_ok nmX2 (by decide) (by decide +kernel) rfl rfl (fun _ => rfl) (fun _ => rfl) dX2_insert_64 ?_
        obtain rfl := Option.some.inj hs
        exact tt_vret X rfl dX2_insert_67 ⟨rfl, rfl⟩
      · rw [if_neg c27] at hs
        refine tt_aload_n X dX2_insert_30 rfl ?_
        obtain ⟨o31, e31, hs⟩ := gg_bind hs
        refine zr_fr X e31 rfl in_X2_insert_X2 (by decide) (by decide +kernel) rfl dX2_insert_31 ?_
        refine tt_iload_n X dX2_insert_34 rfl ?_
        refine tt_aload_n X dX2_insert_35 rfl ?_
        obtain ⟨o36, e36, hs⟩ := gg_bind hs
        refine zr_fr X e36 rfl in_X2_insert_X2 (by decide) (by decide +kernel) rfl dX2_insert_36 ?_
        refine tt_iload_n X dX2_insert_39 rfl ?_
        refine tt_iconst (v := 1) X dX2_insert_40 (by decide) ?_
        refine tt_isub X dX2_insert_41 ?_
        obtain ⟨z42, e42, hs⟩ := gg_bind hs
        refine zr_il X e42 dX2_insert_42 ?_
        obtain ⟨h43, e43, hs⟩ := gg_bind hs
        refine zr_is X e43 dX2_insert_43 ?_
        refine tt_iinc (v := x3 + (-1)) X dX2_insert_44 rfl rfl (Nat.le_of_ble_eq_true rfl) ?_
        refine tt_goto (tgt := 25) X dX2_insert_47 (by decide) ?_
        refine tt_drop [0, 1, 2, 3] ?_
        exact t_25 b0 x1 x2 (x3 + (-1)) h43 hs
  refine tt_aload_n X dX2_insert_0 rfl ?_
  obtain ⟨o1, f1, hs⟩ := gg_bind hs
  obtain ⟨w1, e1, hs⟩ := gg_bind hs
  refine zr_callV X f1 rfl (c_X2_isFull l e1) (fun hts => cwV 0 hts gX2_insert_X2_isFull rfl rfl rfl (by decide +kernel) ⟨by decide, by decide⟩) rfl rfl (Nat.le_of_ble_eq_true rfl) dX2_insert_1 ⟨Nat.zero_le _, Nat.zero_le _⟩ ?_
  refine tt_if_ne (tgt := 19) X dX2_insert_4 (by decide) (fun c4 => ?_) (fun c4 => ?_)
  · rw [if_neg c4] at hs
    obtain rfl := Option.some.inj hs
    exact tt_vret X rfl dX2_insert_19 ⟨rfl, rfl⟩
  · rw [if_pos c4] at hs
    refine tt_iload_n X dX2_insert_7 rfl ?_
    refine tt_if_lt (tgt := 19) X dX2_insert_8 (by decide) (fun c8 => ?_) (fun c8 => ?_)
    · rw [if_pos c8] at hs
      obtain rfl := Option.some.inj hs
      exact tt_vret X rfl dX2_insert_19 ⟨rfl, rfl⟩
    · rw [if_neg c8] at hs
      refine tt_iload_n X dX2_insert_11 rfl ?_
      refine tt_aload_n X dX2_insert_12 rfl ?_
      obtain ⟨z13, e13, hs⟩ := gg_bind hs
      refine zr_fi X e13 rfl in_X2_insert_X2 (by decide) (by decide +kernel) rfl dX2_insert_13 ?_
      refine tt_icmp_le (tgt := 20) X dX2_insert_16 (by decide) (fun c16 => ?_) (fun c16 => ?_)
      · rw [if_pos c16] at hs
        refine tt_aload_n X dX2_insert_20 rfl ?_
        obtain ⟨z21, e21, hs⟩ := gg_bind hs
        refine zr_fi X e21 rfl in_X2_insert_X2 (by decide) (by decide +kernel) rfl dX2_insert_21 ?_
        refine tt_istore_n X dX2_insert_24 (Nat.le_of_ble_eq_true rfl) ?_
        refine tt_drop [0, 1, 2, 3] ?_
        exact t_25 1000 b0 x1 x2 z21 w1.2 hs
      · rw [if_neg c16] at hs
        obtain rfl := Option.some.inj hs
        exact tt_vret X rfl dX2_insert_19 ⟨rfl, rfl⟩

theorem in_X2_has_X2 : ∀ w ∈ u_ws RX2 TX2 2, w ∈ wsX2_has := by decide +kernel
def s_X2_has (b0 : Nat) (x1 : Int32) (h : tt_H) : Option (Int32 × tt_H) :=
  if x1 < 0 then
    some (0, h)
  else
  (gg_fi h b0 2 1).bind fun z6 =>
  if z6 ≤ x1 then
    some (0, h)
  else
  some (1, h)
abbrev rm_X2_has : Room := { frames := 0, cells := 0, slots := 0, locals := 0 }
set_option maxHeartbeats 4000000 in
set_option maxRecDepth 100000 in
theorem c_X2_has (l : Launch) {b0 : Nat} {x1 : Int32} {h : tt_H} {ρ : Int32 × tt_H} (hs : s_X2_has b0 x1 h = some ρ) : tt_M tt_cl l yX2_has wsX2_has rm_X2_has 0 0 false [.ref b0, .int x1] h (tt_ret (some (.int ρ.1)) ρ.2) := by
  refine tt_M.of0 (cc := cX2_has) (maxL := 2) (ret := (some .boolean)) (by decide +kernel) rfl (Nat.le_of_ble_eq_true rfl) ?_
  intro p e s m args below meth c D ca ad n0 sz hwf hsz X hini
  unfold s_X2_has at hs
  refine tt_iload_n X dX2_has_0 rfl ?_
  refine tt_if_lt (tgt := 16) X dX2_has_1 (by decide) (fun c1 => ?_) (fun c1 => ?_)
  · rw [if_pos c1] at hs
    refine tt_iconst (v := 0) X dX2_has_16 (by decide) ?_
    obtain rfl := Option.some.inj hs
    exact tt_zret X rfl rfl dX2_has_17 ⟨rfl, rfl⟩
  · rw [if_neg c1] at hs
    refine tt_iload_n X dX2_has_4 rfl ?_
    refine tt_aload_n X dX2_has_5 rfl ?_
    obtain ⟨z6, e6, hs⟩ := gg_bind hs
    refine zr_fi X e6 rfl in_X2_has_X2 (by decide) (by decide +kernel) rfl dX2_has_6 ?_
    refine tt_icmp_ge (tgt := 16) X dX2_has_9 (by decide) (fun c9 => ?_) (fun c9 => ?_)
    · rw [if_pos c9] at hs
      refine tt_iconst (v := 0) X dX2_has_16 (by decide) ?_
      obtain rfl := Option.some.inj hs
      exact tt_zret X rfl rfl dX2_has_17 ⟨rfl, rfl⟩
    · rw [if_neg c9] at hs
      refine tt_iconst (v := 1) X dX2_has_12 (by decide) ?_
      refine tt_goto (tgt := 17) X dX2_has_13 (by decide) ?_
      obtain rfl := Option.some.inj hs
      exact tt_zret X rfl rfl dX2_has_17 ⟨rfl, rfl⟩

theorem in_X2_at_X2 : ∀ w ∈ u_ws RX2 TX2 2, w ∈ wsX2_at := by decide +kernel
def s_X2_at (b0 : Nat) (x1 : Int32) (h : tt_H) : Option (Int32 × tt_H) :=
  (gg_obj h b0 2).bind fun _ =>
  (s_X2_has b0 x1 h).bind fun w2 =>
  if w2.1 = 0 then
    some ((-9), w2.2)
  else
  (gg_fr w2.2 b0 2 0).bind fun o9 =>
  (gg_il w2.2 o9 x1).bind fun z13 =>
  some (z13, w2.2)
abbrev rm_X2_at : Room := { frames := 1, cells := 0, slots := 0, locals := 21 }
set_option maxHeartbeats 4000000 in
set_option maxRecDepth 100000 in
theorem c_X2_at (l : Launch) {b0 : Nat} {x1 : Int32} {h : tt_H} {ρ : Int32 × tt_H} (hs : s_X2_at b0 x1 h = some ρ) : tt_M tt_cl l yX2_at wsX2_at rm_X2_at 0 0 false [.ref b0, .int x1] h (tt_ret (some (.int ρ.1)) ρ.2) := by
  refine tt_M.of0 (cc := cX2_at) (maxL := 2) (ret := (some .int)) (by decide +kernel) rfl (Nat.le_of_ble_eq_true rfl) ?_
  intro p e s m args below meth c D ca ad n0 sz hwf hsz X hini
  unfold s_X2_at at hs
  refine tt_aload_n X dX2_at_0 rfl ?_
  refine tt_iload_n X dX2_at_1 rfl ?_
  obtain ⟨o2, f2, hs⟩ := gg_bind hs
  obtain ⟨w2, e2, hs⟩ := gg_bind hs
  refine zr_callV X f2 rfl (c_X2_has l e2) (fun hts => cwV 1 hts gX2_at_X2_has rfl rfl rfl (by decide +kernel) ⟨by decide, by decide⟩) rfl rfl (Nat.le_of_ble_eq_true rfl) dX2_at_2 ⟨Nat.zero_le _, Nat.zero_le _⟩ ?_
  refine tt_if_eq (tgt := 17) X dX2_at_5 (by decide) (fun c5 => ?_) (fun c5 => ?_)
  · rw [if_pos c5] at hs
    refine tt_bipush (v := (-9)) X dX2_at_17 (by decide) ?_
    obtain rfl := Option.some.inj hs
    exact tt_iret X rfl dX2_at_19 ⟨rfl, rfl⟩
  · rw [if_neg c5] at hs
    refine tt_aload_n X dX2_at_8 rfl ?_
    obtain ⟨o9, e9, hs⟩ := gg_bind hs
    refine zr_fr X e9 rfl in_X2_at_X2 (by decide) (by decide +kernel) rfl dX2_at_9 ?_
    refine tt_iload_n X dX2_at_12 rfl ?_
    obtain ⟨z13, e13, hs⟩ := gg_bind hs
    refine zr_il X e13 dX2_at_13 ?_
    refine tt_goto (tgt := 19) X dX2_at_14 (by decide) ?_
    obtain rfl := Option.some.inj hs
    exact tt_iret X rfl dX2_at_19 ⟨rfl, rfl⟩
end
section
theorem in_X3_make_X3 : ∀ w ∈ u_ws RX3 TX3 3, w ∈ wsX3_make := by decide +kernel
def s_X3_make_J116 (κ78 : Nat → Nat → Nat → Int32 → Int32 → tt_H → Option (Int32 × tt_H)) (b0 : Nat) (b1 : Nat) (b2 : Nat) (x3 : Int32) (x4 : Int32) (h : tt_H) : Option (Int32 × tt_H) :=
  κ78 b0 b1 b2 x3 (x4 + (-1)) h
def s_X3_make_L78 : Nat → Nat → Nat → Nat → Int32 → Int32 → tt_H → Option (Int32 × tt_H)
  | 0, _, _, _, _, _, _ => none
  | n + 1, b0, b1, b2, x3, x4, h =>
    if x4 < 0 then
      some (1, h)
    else
    (gg_obj h b1 2).bind fun _ =>
    (s_X2_has b1 x3 h).bind fun w85 =>
    if w85.1 = 0 then
      s_X3_make_J116 (s_X3_make_L78 n) b0 b1 b2 x3 x4 w85.2
    else
    (gg_obj w85.2 b1 2).bind fun _ =>
    (s_X2_at b1 x3 w85.2).bind fun w93 =>
    (gg_obj w93.2 b2 2).bind fun _ =>
    (s_X2_at b2 x4 w93.2).bind fun w99 =>
    if w93.1 = w99.1 then
      (gg_fr w99.2 b0 3 1).bind fun o106 =>
      (gg_is w99.2 o106 x3 x4).bind fun h112 =>
      s_X3_make_J116 (s_X3_make_L78 n) b0 b1 b2 (x3 + (-1)) x4 h112
    else
    s_X3_make_J116 (s_X3_make_L78 n) b0 b1 b2 x3 x4 w99.2
def s_X3_make_J47 (κ5 : Nat → Nat → Nat → Int32 → Int32 → tt_H → Option (Int32 × tt_H)) (b0 : Nat) (b1 : Nat) (b2 : Nat) (x3 : Int32) (x4 : Int32) (h : tt_H) : Option (Int32 × tt_H) :=
  κ5 b0 b1 b2 x3 (x4 + 1) h
def s_X3_make_L5 : Nat → Nat → Nat → Nat → Int32 → Int32 → tt_H → Option (Int32 × tt_H)
  | 0, _, _, _, _, _, _ => none
  | n + 1, b0, b1, b2, x3, x4, h =>
    (gg_obj h b2 2).bind fun _ =>
    (s_X2_size b2 h).bind fun w8 =>
    if w8.1 ≤ x4 then
      (gg_obj w8.2 b1 2).bind fun _ =>
      (s_X2_size b1 w8.2).bind fun w55 =>
      if w55.1 ≤ x3 then
        (gg_obj w55.2 b1 2).bind fun _ =>
        (s_X2_size b1 w55.2).bind fun w64 =>
        (gg_obj w64.2 b2 2).bind fun _ =>
        (s_X2_size b2 w64.2).bind fun w71 =>
        s_X3_make_L78 1000 b0 b1 b2 (w64.1 - 1) (w71.1 - 1) w71.2
      else
      some (0, w55.2)
    else
    (gg_obj w8.2 b1 2).bind fun _ =>
    (s_X2_has b1 x3 w8.2).bind fun w16 =>
    if w16.1 = 0 then
      s_X3_make_J47 (s_X3_make_L5 n) b0 b1 b2 x3 x4 w16.2
    else
    (gg_obj w16.2 b1 2).bind fun _ =>
    (s_X2_at b1 x3 w16.2).bind fun w24 =>
    (gg_obj w24.2 b2 2).bind fun _ =>
    (s_X2_at b2 x4 w24.2).bind fun w30 =>
    if w24.1 = w30.1 then
      (gg_fr w30.2 b0 3 0).bind fun o37 =>
      (gg_is w30.2 o37 x3 x4).bind fun h43 =>
      s_X3_make_J47 (s_X3_make_L5 n) b0 b1 b2 (x3 + 1) x4 h43
    else
    s_X3_make_J47 (s_X3_make_L5 n) b0 b1 b2 x3 x4 w30.2
def s_X3_make (b0 : Nat) (b1 : Nat) (b2 : Nat) (h : tt_H) : Option (Int32 × tt_H) :=
  s_X3_make_L5 1000 b0 b1 b2 0 0 h
abbrev rm_X3_make : Room := { frames := 2, cells := 0, slots := 0, locals := 42 }
set_option maxHeartbeats 4000000 in
set_option maxRecDepth 100000 in
theorem c_X3_make (l : Launch) {b0 : Nat} {b1 : Nat} {b2 : Nat} {h : tt_H} {ρ : Int32 × tt_H} (hs : s_X3_make b0 b1 b2 h = some ρ) : tt_M tt_cl l yX3_make wsX3_make rm_X3_make 0 0 false [.ref b0, .ref b1, .ref b2] h (tt_ret (some (.int ρ.1)) ρ.2) := by
  refine tt_M.of0 (cc := cX3_make) (maxL := 5) (ret := (some .boolean)) (by decide +kernel) rfl (Nat.le_of_ble_eq_true rfl) ?_
  intro p e s m args below meth c D ca ad n0 sz hwf hsz X hini
  unfold s_X3_make at hs
  have t_5 : ∀ (fu : Nat) (b0 : Nat) (b1 : Nat) (b2 : Nat) (x3 : Int32) (x4 : Int32) (h : tt_H), s_X3_make_L5 fu b0 b1 b2 x3 x4 h = some ρ → tt_T tt_cl (p, l, e, rm_X3_make, s, m, args, below, meth, c, MQ below (tt_Q tt_cl D ca ad n0 sz false (tt_ret (some (.int ρ.1)) ρ.2)) args s 0 0 (tt_A ad n0 sz), D, ca, tt_A ad n0 sz, 5, some n0) ad 0 0 5 [(0, .ref b0), (1, .ref b1), (2, .ref b2), (3, .int x3), (4, .int x4)] [] h := by
    intro fu
    induction fu with
    | zero => intro b0 b1 b2 x3 x4 h hs; exact absurd hs (by rw [s_X3_make_L5]; exact fun q => by cases q)
    | succ n5 ih =>
      intro b0 b1 b2 x3 x4 h hs
      rw [s_X3_make_L5] at hs
      have t_5 := ih
      have t_78 : ∀ (fu : Nat) (b0 : Nat) (b1 : Nat) (b2 : Nat) (x3 : Int32) (x4 : Int32) (h : tt_H), s_X3_make_L78 fu b0 b1 b2 x3 x4 h = some ρ → tt_T tt_cl (p, l, e, rm_X3_make, s, m, args, below, meth, c, MQ below (tt_Q tt_cl D ca ad n0 sz false (tt_ret (some (.int ρ.1)) ρ.2)) args s 0 0 (tt_A ad n0 sz), D, ca, tt_A ad n0 sz, 5, some n0) ad 0 0 78 [(0, .ref b0), (1, .ref b1), (2, .ref b2), (3, .int x3), (4, .int x4)] [] h := by
        intro fu
        induction fu with
        | zero => intro b0 b1 b2 x3 x4 h hs; exact absurd hs (by rw [s_X3_make_L78]; exact fun q => by cases q)
        | succ n78 ih =>
          intro b0 b1 b2 x3 x4 h hs
          rw [s_X3_make_L78] at hs
          have t_78 := ih
          have t_116 : ∀ (b0 : Nat) (b1 : Nat) (b2 : Nat) (x3 : Int32) (x4 : Int32) (h : tt_H), s_X3_make_J116 (s_X3_make_L78 n78) b0 b1 b2 x3 x4 h = some ρ → tt_T tt_cl (p, l, e, rm_X3_make, s, m, args, below, meth, c, MQ below (tt_Q tt_cl D ca ad n0 sz false (tt_ret (some (.int ρ.1)) ρ.2)) args s 0 0 (tt_A ad n0 sz), D, ca, tt_A ad n0 sz, 5, some n0) ad 0 0 116 [(0, .ref b0), (1, .ref b1), (2, .ref b2), (3, .int x3), (4, .int x4)] [] h := by
            intro b0 b1 b2 x3 x4 h hs
            unfold s_X3_make_J116 at hs
            refine tt_iinc (v := x4 + (-1)) X dX3_make_116 rfl rfl (Nat.le_of_ble_eq_true rfl) ?_
            refine tt_goto (tgt := 78) X dX3_make_119 (by decide) ?_
            refine tt_drop [0, 1, 2, 3, 4] ?_
            exact t_78 b0 b1 b2 x3 (x4 + (-1)) h hs
          refine tt_iload X dX3_make_78 rfl ?_
          refine tt_if_lt (tgt := 122) X dX3_make_80 (by decide) (fun c80 => ?_) (fun c80 => ?_)
          · rw [if_pos c80] at hs
            refine tt_iconst (v := 1) X dX3_make_122 (by decide) ?_
            obtain rfl := Option.some.inj hs
            exact tt_zret X rfl rfl dX3_make_123 ⟨rfl, rfl⟩
          · rw [if_neg c80] at hs
            refine tt_aload_n X dX3_make_83 rfl ?_
            refine tt_iload_n X dX3_make_84 rfl ?_
            obtain ⟨o85, f85, hs⟩ := gg_bind hs
            obtain ⟨w85, e85, hs⟩ := gg_bind hs
            refine zr_callV X f85 rfl (c_X2_has l e85) (fun hts => cwV 1 hts gX3_make_X2_has rfl rfl rfl (by decide +kernel) ⟨by decide, by decide⟩) rfl rfl (Nat.le_of_ble_eq_true rfl) dX3_make_85 ⟨Nat.zero_le _, Nat.zero_le _⟩ ?_
            refine tt_if_eq (tgt := 116) X dX3_make_88 (by decide) (fun c88 => ?_) (fun c88 => ?_)
            · rw [if_pos c88] at hs
              refine tt_drop [0, 1, 2, 3, 4] ?_
              exact t_116 b0 b1 b2 x3 x4 w85.2 hs
            · rw [if_neg c88] at hs
              refine tt_aload_n X dX3_make_91 rfl ?_
              refine tt_iload_n X dX3_make_92 rfl ?_
              obtain ⟨o93, f93, hs⟩ := gg_bind hs
              obtain ⟨w93, e93, hs⟩ := gg_bind hs
              refine zr_callV X f93 rfl (c_X2_at l e93) (fun hts => cwV 1 hts gX3_make_X2_at rfl rfl rfl (by decide +kernel) ⟨by decide, by decide⟩) rfl rfl (Nat.le_of_ble_eq_true rfl) dX3_make_93 ⟨Nat.zero_le _, Nat.zero_le _⟩ ?_
              refine tt_aload_n X dX3_make_96 rfl ?_
              refine tt_iload X dX3_make_97 rfl ?_
              obtain ⟨o99, f99, hs⟩ := gg_bind hs
              obtain ⟨w99, e99, hs⟩ := gg_bind hs
              refine zr_callV X f99 rfl (c_X2_at l e99) (fun hts => cwV 1 hts gX3_make_X2_at rfl rfl rfl (by decide +kernel) ⟨by decide, by decide⟩) rfl rfl (Nat.le_of_ble_eq_true rfl) dX3_make_99 ⟨Nat.zero_le _, Nat.zero_le _⟩ ?_
              refine tt_icmp_ne (tgt := 116) X dX3_make_102 (by decide) (fun c102 => ?_) (fun c102 => ?_)
              · rw [if_neg c102] at hs
                refine tt_drop [0, 1, 2, 3, 4] ?_
                exact t_116 b0 b1 b2 x3 x4 w99.2 hs
              · rw [if_pos c102] at hs
                refine tt_aload_n X dX3_make_105 rfl ?_
                obtain ⟨o106, e106, hs⟩ := gg_bind hs
                refine zr_fr X e106 rfl in_X3_make_X3 (by decide) (by decide +kernel) rfl dX3_make_106 ?_
                refine tt_iload_n X dX3_make_109 rfl ?_
                refine tt_iload X dX3_make_110 rfl ?_
                obtain ⟨h112, e112, hs⟩ := gg_bind hs
                refine zr_is X e112 dX3_make_112 ?_
                refine tt_iinc (v := x3 + (-1)) X dX3_make_113 rfl rfl (Nat.le_of_ble_eq_true rfl) ?_
                refine tt_drop [0, 1, 2, 3, 4] ?_
                exact t_116 b0 b1 b2 (x3 + (-1)) x4 h112 hs
      have t_47 : ∀ (b0 : Nat) (b1 : Nat) (b2 : Nat) (x3 : Int32) (x4 : Int32) (h : tt_H), s_X3_make_J47 (s_X3_make_L5 n5) b0 b1 b2 x3 x4 h = some ρ → tt_T tt_cl (p, l, e, rm_X3_make, s, m, args, below, meth, c, MQ below (tt_Q tt_cl D ca ad n0 sz false (tt_ret (some (.int ρ.1)) ρ.2)) args s 0 0 (tt_A ad n0 sz), D, ca, tt_A ad n0 sz, 5, some n0) ad 0 0 47 [(0, .ref b0), (1, .ref b1), (2, .ref b2), (3, .int x3), (4, .int x4)] [] h := by
        intro b0 b1 b2 x3 x4 h hs
        unfold s_X3_make_J47 at hs
        refine tt_iinc (v := x4 + 1) X dX3_make_47 rfl rfl (Nat.le_of_ble_eq_true rfl) ?_
        refine tt_goto (tgt := 5) X dX3_make_50 (by decide) ?_
        refine tt_drop [0, 1, 2, 3, 4] ?_
        exact t_5 b0 b1 b2 x3 (x4 + 1) h hs
      refine tt_iload X dX3_make_5 rfl ?_
      refine tt_aload_n X dX3_make_7 rfl ?_
      obtain ⟨o8, f8, hs⟩ := gg_bind hs
      obtain ⟨w8, e8, hs⟩ := gg_bind hs
      refine zr_callV X f8 rfl (c_X2_size l e8) (fun hts => cwV 0 hts gX3_make_X2_size rfl rfl rfl (by decide +kernel) ⟨by decide, by decide⟩) rfl rfl (Nat.le_of_ble_eq_true rfl) dX3_make_8 ⟨Nat.zero_le _, Nat.zero_le _⟩ ?_
      refine tt_icmp_ge (tgt := 53) X dX3_make_11 (by decide) (fun c11 => ?_) (fun c11 => ?_)
      · rw [if_pos c11] at hs
        refine tt_iload_n X dX3_make_53 rfl ?_
        refine tt_aload_n X dX3_make_54 rfl ?_
        obtain ⟨o55, f55, hs⟩ := gg_bind hs
        obtain ⟨w55, e55, hs⟩ := gg_bind hs
        refine zr_callV X f55 rfl (c_X2_size l e55) (fun hts => cwV 0 hts gX3_make_X2_size rfl rfl rfl (by decide +kernel) ⟨by decide, by decide⟩) rfl rfl (Nat.le_of_ble_eq_true rfl) dX3_make_55 ⟨Nat.zero_le _, Nat.zero_le _⟩ ?_
        refine tt_icmp_ge (tgt := 63) X dX3_make_58 (by decide) (fun c58 => ?_) (fun c58 => ?_)
        · rw [if_pos c58] at hs
          refine tt_aload_n X dX3_make_63 rfl ?_
          obtain ⟨o64, f64, hs⟩ := gg_bind hs
          obtain ⟨w64, e64, hs⟩ := gg_bind hs
          refine zr_callV X f64 rfl (c_X2_size l e64) (fun hts => cwV 0 hts gX3_make_X2_size rfl rfl rfl (by decide +kernel) ⟨by decide, by decide⟩) rfl rfl (Nat.le_of_ble_eq_true rfl) dX3_make_64 ⟨Nat.zero_le _, Nat.zero_le _⟩ ?_
          refine tt_iconst (v := 1) X dX3_make_67 (by decide) ?_
          refine tt_isub X dX3_make_68 ?_
          refine tt_istore_n X dX3_make_69 (Nat.le_of_ble_eq_true rfl) ?_
          refine tt_aload_n X dX3_make_70 rfl ?_
          obtain ⟨o71, f71, hs⟩ := gg_bind hs
          obtain ⟨w71, e71, hs⟩ := gg_bind hs
          refine zr_callV X f71 rfl (c_X2_size l e71) (fun hts => cwV 0 hts gX3_make_X2_size rfl rfl rfl (by decide +kernel) ⟨by decide, by decide⟩) rfl rfl (Nat.le_of_ble_eq_true rfl) dX3_make_71 ⟨Nat.zero_le _, Nat.zero_le _⟩ ?_
          refine tt_iconst (v := 1) X dX3_make_74 (by decide) ?_
          refine tt_isub X dX3_make_75 ?_
          refine tt_istore X dX3_make_76 (Nat.le_of_ble_eq_true rfl) ?_
          refine tt_drop [0, 1, 2, 3, 4] ?_
          exact t_78 1000 b0 b1 b2 (w64.1 - 1) (w71.1 - 1) w71.2 hs
        · rw [if_neg c58] at hs
          refine tt_iconst (v := 0) X dX3_make_61 (by decide) ?_
          obtain rfl := Option.some.inj hs
          exact tt_zret X rfl rfl dX3_make_62 ⟨rfl, rfl⟩
      · rw [if_neg c11] at hs
        refine tt_aload_n X dX3_make_14 rfl ?_
        refine tt_iload_n X dX3_make_15 rfl ?_
        obtain ⟨o16, f16, hs⟩ := gg_bind hs
        obtain ⟨w16, e16, hs⟩ := gg_bind hs
        refine zr_callV X f16 rfl (c_X2_has l e16) (fun hts => cwV 1 hts gX3_make_X2_has rfl rfl rfl (by decide +kernel) ⟨by decide, by decide⟩) rfl rfl (Nat.le_of_ble_eq_true rfl) dX3_make_16 ⟨Nat.zero_le _, Nat.zero_le _⟩ ?_
        refine tt_if_eq (tgt := 47) X dX3_make_19 (by decide) (fun c19 => ?_) (fun c19 => ?_)
        · rw [if_pos c19] at hs
          refine tt_drop [0, 1, 2, 3, 4] ?_
          exact t_47 b0 b1 b2 x3 x4 w16.2 hs
        · rw [if_neg c19] at hs
          refine tt_aload_n X dX3_make_22 rfl ?_
          refine tt_iload_n X dX3_make_23 rfl ?_
          obtain ⟨o24, f24, hs⟩ := gg_bind hs
          obtain ⟨w24, e24, hs⟩ := gg_bind hs
          refine zr_callV X f24 rfl (c_X2_at l e24) (fun hts => cwV 1 hts gX3_make_X2_at rfl rfl rfl (by decide +kernel) ⟨by decide, by decide⟩) rfl rfl (Nat.le_of_ble_eq_true rfl) dX3_make_24 ⟨Nat.zero_le _, Nat.zero_le _⟩ ?_
          refine tt_aload_n X dX3_make_27 rfl ?_
          refine tt_iload X dX3_make_28 rfl ?_
          obtain ⟨o30, f30, hs⟩ := gg_bind hs
          obtain ⟨w30, e30, hs⟩ := gg_bind hs
          refine zr_callV X f30 rfl (c_X2_at l e30) (fun hts => cwV 1 hts gX3_make_X2_at rfl rfl rfl (by decide +kernel) ⟨by decide, by decide⟩) rfl rfl (Nat.le_of_ble_eq_true rfl) dX3_make_30 ⟨Nat.zero_le _, Nat.zero_le _⟩ ?_
          refine tt_icmp_ne (tgt := 47) X dX3_make_33 (by decide) (fun c33 => ?_) (fun c33 => ?_)
          · rw [if_neg c33] at hs
            refine tt_drop [0, 1, 2, 3, 4] ?_
            exact t_47 b0 b1 b2 x3 x4 w30.2 hs
          · rw [if_pos c33] at hs
            refine tt_aload_n X dX3_make_36 rfl ?_
            obtain ⟨o37, e37, hs⟩ := gg_bind hs
            refine zr_fr X e37 rfl in_X3_make_X3 (by decide) (by decide +kernel) rfl dX3_make_37 ?_
            refine tt_iload_n X dX3_make_40 rfl ?_
            refine tt_iload X dX3_make_41 rfl ?_
            obtain ⟨h43, e43, hs⟩ := gg_bind hs
            refine zr_is X e43 dX3_make_43 ?_
            refine tt_iinc (v := x3 + 1) X dX3_make_44 rfl rfl (Nat.le_of_ble_eq_true rfl) ?_
            refine tt_drop [0, 1, 2, 3, 4] ?_
            exact t_47 b0 b1 b2 (x3 + 1) x4 h43 hs
  refine tt_iconst (v := 0) X dX3_make_0 (by decide) ?_
  refine tt_istore_n X dX3_make_1 (Nat.le_of_ble_eq_true rfl) ?_
  refine tt_iconst (v := 0) X dX3_make_2 (by decide) ?_
  refine tt_istore X dX3_make_3 (Nat.le_of_ble_eq_true rfl) ?_
  refine tt_drop [0, 1, 2, 3, 4] ?_
  exact t_5 1000 b0 b1 b2 0 0 h hs

theorem in_X3_choices_X3 : ∀ w ∈ u_ws RX3 TX3 3, w ∈ wsX3_choices := by decide +kernel
def s_X3_choices_J81 (κ40 : Nat → Nat → Nat → Int32 → Int32 → Int32 → tt_H → Option (Int64 × tt_H)) (b0 : Nat) (b1 : Nat) (b2 : Nat) (x3 : Int32) (x4 : Int32) (x5 : Int32) (h : tt_H) : Option (Int64 × tt_H) :=
  κ40 b0 b1 b2 x3 x4 (x5 + (-1)) h
def s_X3_choices_L40 (κ28 : Nat → Nat → Nat → Int32 → Int32 → tt_H → Option (Int64 × tt_H)) : Nat → Nat → Nat → Nat → Int32 → Int32 → Int32 → tt_H → Option (Int64 × tt_H)
  | 0, _, _, _, _, _, _, _ => none
  | n + 1, b0, b1, b2, x3, x4, x5, h =>
    if x5 ≤ 0 then
      κ28 b0 b1 b2 x3 (x4 + 1) h
    else
    (gg_obj h b1 2).bind fun _ =>
    (s_X2_at b1 (x5 - 1) h).bind fun w50 =>
    (gg_obj w50.2 b2 2).bind fun _ =>
    (s_X2_at b2 x4 w50.2).bind fun w56 =>
    if w50.1 = w56.1 then
      (gg_fr w56.2 b0 3 2).bind fun o63 =>
      (gg_jl w56.2 o63 x5).bind fun z69 =>
      (gg_fr w56.2 b0 3 2).bind fun o71 =>
      (gg_jl w56.2 o71 (x5 - 1)).bind fun z78 =>
      (gg_js w56.2 o63 x5 (z69 + z78)).bind fun h80 =>
      s_X3_choices_J81 (s_X3_choices_L40 κ28 n) b0 b1 b2 x3 x4 x5 h80
    else
    s_X3_choices_J81 (s_X3_choices_L40 κ28 n) b0 b1 b2 x3 x4 x5 w56.2
def s_X3_choices_L28 : Nat → Nat → Nat → Nat → Int32 → Int32 → tt_H → Option (Int64 × tt_H)
  | 0, _, _, _, _, _, _ => none
  | n + 1, b0, b1, b2, x3, x4, h =>
    (gg_obj h b2 2).bind fun _ =>
    (s_X2_size b2 h).bind fun w31 =>
    if w31.1 ≤ x4 then
      (gg_fr w31.2 b0 3 2).bind fun o94 =>
      (gg_jl w31.2 o94 x3).bind fun z98 =>
      some (z98, w31.2)
    else
    s_X3_choices_L40 (s_X3_choices_L28 n) 1000 b0 b1 b2 x3 x4 x3 w31.2
def s_X3_choices (b0 : Nat) (b1 : Nat) (b2 : Nat) (h : tt_H) : Option (Int64 × tt_H) :=
  (gg_obj h b1 2).bind fun _ =>
  (s_X2_size b1 h).bind fun w1 =>
  (gg_fr w1.2 b0 3 2).bind fun o11 =>
  (s_J7_fill_d0a16 o11 0 w1.2).bind fun w15 =>
  (gg_fr w15.2 b0 3 2).bind fun o19 =>
  (gg_js w15.2 o19 0 1).bind fun h24 =>
  s_X3_choices_L28 1000 b0 b1 b2 (if 12 < w1.1 then 12 else w1.1) 0 h24
abbrev rm_X3_choices : Room := { frames := 2, cells := 0, slots := 0, locals := 42 }
set_option maxHeartbeats 4000000 in
set_option maxRecDepth 100000 in
theorem c_X3_choices (l : Launch) {b0 : Nat} {b1 : Nat} {b2 : Nat} {h : tt_H} {ρ : Int64 × tt_H} (hs : s_X3_choices b0 b1 b2 h = some ρ) : tt_M tt_cl l yX3_choices wsX3_choices rm_X3_choices 0 0 false [.ref b0, .ref b1, .ref b2] h (tt_ret (some (.long ρ.1)) ρ.2) := by
  refine tt_M.of0 (cc := cX3_choices) (maxL := 6) (ret := (some .long)) (by decide +kernel) rfl (Nat.le_of_ble_eq_true rfl) ?_
  intro p e s m args below meth c D ca ad n0 sz hwf hsz X hini
  unfold s_X3_choices at hs
  have t_28 : ∀ (fu : Nat) (b0 : Nat) (b1 : Nat) (b2 : Nat) (x3 : Int32) (x4 : Int32) (h : tt_H), s_X3_choices_L28 fu b0 b1 b2 x3 x4 h = some ρ → tt_T tt_cl (p, l, e, rm_X3_choices, s, m, args, below, meth, c, MQ below (tt_Q tt_cl D ca ad n0 sz false (tt_ret (some (.long ρ.1)) ρ.2)) args s 0 0 (tt_A ad n0 sz), D, ca, tt_A ad n0 sz, 6, some n0) ad 0 0 28 [(0, .ref b0), (1, .ref b1), (2, .ref b2), (3, .int x3), (4, .int x4)] [] h := by
    intro fu
    induction fu with
    | zero => intro b0 b1 b2 x3 x4 h hs; exact absurd hs (by rw [s_X3_choices_L28]; exact fun q => by cases q)
    | succ n28 ih =>
      intro b0 b1 b2 x3 x4 h hs
      rw [s_X3_choices_L28] at hs
      have t_28 := ih
      have t_40 : ∀ (fu : Nat) (b0 : Nat) (b1 : Nat) (b2 : Nat) (x3 : Int32) (x4 : Int32) (x5 : Int32) (h : tt_H), s_X3_choices_L40 (s_X3_choices_L28 n28) fu b0 b1 b2 x3 x4 x5 h = some ρ → tt_T tt_cl (p, l, e, rm_X3_choices, s, m, args, below, meth, c, MQ below (tt_Q tt_cl D ca ad n0 sz false (tt_ret (some (.long ρ.1)) ρ.2)) args s 0 0 (tt_A ad n0 sz), D, ca, tt_A ad n0 sz, 6, some n0) ad 0 0 40 [(0, .ref b0), (1, .ref b1), (2, .ref b2), (3, .int x3), (4, .int x4), (5, .int x5)] [] h := by
        intro fu
        induction fu with
        | zero => intro b0 b1 b2 x3 x4 x5 h hs; exact absurd hs (by rw [s_X3_choices_L40]; exact fun q => by cases q)
        | succ n40 ih =>
          intro b0 b1 b2 x3 x4 x5 h hs
          rw [s_X3_choices_L40] at hs
          have t_40 := ih
          have t_81 : ∀ (b0 : Nat) (b1 : Nat) (b2 : Nat) (x3 : Int32) (x4 : Int32) (x5 : Int32) (h : tt_H), s_X3_choices_J81 (s_X3_choices_L40 (s_X3_choices_L28 n28) n40) b0 b1 b2 x3 x4 x5 h = some ρ → tt_T tt_cl (p, l, e, rm_X3_choices, s, m, args, below, meth, c, MQ below (tt_Q tt_cl D ca ad n0 sz false (tt_ret (some (.long ρ.1)) ρ.2)) args s 0 0 (tt_A ad n0 sz), D, ca, tt_A ad n0 sz, 6, some n0) ad 0 0 81 [(0, .ref b0), (1, .ref b1), (2, .ref b2), (3, .int x3), (4, .int x4), (5, .int x5)] [] h := by
            intro b0 b1 b2 x3 x4 x5 h hs
            unfold s_X3_choices_J81 at hs
            refine tt_iinc (v := x5 + (-1)) X dX3_choices_81 rfl rfl (Nat.le_of_ble_eq_true rfl) ?_
            refine tt_goto (tgt := 40) X dX3_choices_84 (by decide) ?_
            refine tt_drop [0, 1, 2, 3, 4, 5] ?_
            exact t_40 b0 b1 b2 x3 x4 (x5 + (-1)) h hs
          refine tt_iload X dX3_choices_40 rfl ?_
          refine tt_if_le (tgt := 87) X dX3_choices_42 (by decide) (fun c42 => ?_) (fun c42 => ?_)
          · rw [if_pos c42] at hs
            refine tt_iinc (v := x4 + 1) X dX3_choices_87 rfl rfl (Nat.le_of_ble_eq_true rfl) ?_
            refine tt_goto (tgt := 28) X dX3_choices_90 (by decide) ?_
            refine tt_drop [0, 1, 2, 3, 4] ?_
            exact t_28 b0 b1 b2 x3 (x4 + 1) h hs
          · rw [if_neg c42] at hs
            refine tt_aload_n X dX3_choices_45 rfl ?_
            refine tt_iload X dX3_choices_46 rfl ?_
            refine tt_iconst (v := 1) X dX3_choices_48 (by decide) ?_
            refine tt_isub X dX3_choices_49 ?_
            obtain ⟨o50, f50, hs⟩ := gg_bind hs
            obtain ⟨w50, e50, hs⟩ := gg_bind hs
            refine zr_callV X f50 rfl (c_X2_at l e50) (fun hts => cwV 1 hts gX3_choices_X2_at rfl rfl rfl (by decide +kernel) ⟨by decide, by decide⟩) rfl rfl (Nat.le_of_ble_eq_true rfl) dX3_choices_50 ⟨Nat.zero_le _, Nat.zero_le _⟩ ?_
            refine tt_aload_n X dX3_choices_53 rfl ?_
            refine tt_iload X dX3_choices_54 rfl ?_
            obtain ⟨o56, f56, hs⟩ := gg_bind hs
            obtain ⟨w56, e56, hs⟩ := gg_bind hs
            refine zr_callV X f56 rfl (c_X2_at l e56) (fun hts => cwV 1 hts gX3_choices_X2_at rfl rfl rfl (by decide +kernel) ⟨by decide, by decide⟩) rfl rfl (Nat.le_of_ble_eq_true rfl) dX3_choices_56 ⟨Nat.zero_le _, Nat.zero_le _⟩ ?_
            refine tt_icmp_ne (tgt := 81) X dX3_choices_59 (by decide) (fun c59 => ?_) (fun c59 => ?_)
            · rw [if_neg c59] at hs
              refine tt_drop [0, 1, 2, 3, 4, 5] ?_
              exact t_81 b0 b1 b2 x3 x4 x5 w56.2 hs
            · rw [if_pos c59] at hs
              refine tt_aload_n X dX3_choices_62 rfl ?_
              obtain ⟨o63, e63, hs⟩ := gg_bind hs
              refine zr_fr X e63 rfl in_X3_choices_X3 (by decide) (by decide +kernel) rfl dX3_choices_63 ?_
              refine tt_iload X dX3_choices_66 rfl ?_
              refine tt_dup2 X dX3_choices_68 rfl rfl ?_
              obtain ⟨z69, e69, hs⟩ := gg_bind hs
              refine zr_jl X e69 dX3_choices_69 ?_
              refine tt_aload_n X dX3_choices_70 rfl ?_
              obtain ⟨o71, e71, hs⟩ := gg_bind hs
              refine zr_fr X e71 rfl in_X3_choices_X3 (by decide) (by decide +kernel) rfl dX3_choices_71 ?_
              refine tt_iload X dX3_choices_74 rfl ?_
              refine tt_iconst (v := 1) X dX3_choices_76 (by decide) ?_
              refine tt_isub X dX3_choices_77 ?_
              obtain ⟨z78, e78, hs⟩ := gg_bind hs
              refine zr_jl X e78 dX3_choices_78 ?_
              refine tt_ladd X dX3_choices_79 ?_
              obtain ⟨h80, e80, hs⟩ := gg_bind hs
              refine zr_js X e80 dX3_choices_80 ?_
              refine tt_drop [0, 1, 2, 3, 4, 5] ?_
              exact t_81 b0 b1 b2 x3 x4 x5 h80 hs
      refine tt_iload X dX3_choices_28 rfl ?_
      refine tt_aload_n X dX3_choices_30 rfl ?_
      obtain ⟨o31, f31, hs⟩ := gg_bind hs
      obtain ⟨w31, e31, hs⟩ := gg_bind hs
      refine zr_callV X f31 rfl (c_X2_size l e31) (fun hts => cwV 0 hts gX3_choices_X2_size rfl rfl rfl (by decide +kernel) ⟨by decide, by decide⟩) rfl rfl (Nat.le_of_ble_eq_true rfl) dX3_choices_31 ⟨Nat.zero_le _, Nat.zero_le _⟩ ?_
      refine tt_icmp_ge (tgt := 93) X dX3_choices_34 (by decide) (fun c34 => ?_) (fun c34 => ?_)
      · rw [if_pos c34] at hs
        refine tt_aload_n X dX3_choices_93 rfl ?_
        obtain ⟨o94, e94, hs⟩ := gg_bind hs
        refine zr_fr X e94 rfl in_X3_choices_X3 (by decide) (by decide +kernel) rfl dX3_choices_94 ?_
        refine tt_iload_n X dX3_choices_97 rfl ?_
        obtain ⟨z98, e98, hs⟩ := gg_bind hs
        refine zr_jl X e98 dX3_choices_98 ?_
        obtain rfl := Option.some.inj hs
        exact tt_lret X rfl dX3_choices_99 ⟨rfl, rfl⟩
      · rw [if_neg c34] at hs
        refine tt_iload_n X dX3_choices_37 rfl ?_
        refine tt_istore X dX3_choices_38 (Nat.le_of_ble_eq_true rfl) ?_
        refine tt_drop [0, 1, 2, 3, 4, 5] ?_
        exact t_40 1000 b0 b1 b2 x3 x4 x3 w31.2 hs
  refine tt_aload_n X dX3_choices_0 rfl ?_
  obtain ⟨o1, f1, hs⟩ := gg_bind hs
  obtain ⟨w1, e1, hs⟩ := gg_bind hs
  refine zr_callV X f1 rfl (c_X2_size l e1) (fun hts => cwV 0 hts gX3_choices_X2_size rfl rfl rfl (by decide +kernel) ⟨by decide, by decide⟩) rfl rfl (Nat.le_of_ble_eq_true rfl) dX3_choices_1 ⟨Nat.zero_le _, Nat.zero_le _⟩ ?_
  refine tt_bipush (v := 12) X dX3_choices_4 (by decide) ?_
  refine zr_mmin X (by decide +kernel) (by decide +kernel) (by decide +kernel) (by decide +kernel) (by decide) (Nat.le_of_ble_eq_true rfl) (Nat.zero_le _) (Nat.zero_le _) dX3_choices_6 ?_
  refine tt_istore_n X dX3_choices_9 (Nat.le_of_ble_eq_true rfl) ?_
  refine tt_aload_n X dX3_choices_10 rfl ?_
  obtain ⟨o11, e11, hs⟩ := gg_bind hs
  refine zr_fr X e11 rfl in_X3_choices_X3 (by decide) (by decide +kernel) rfl dX3_choices_11 ?_
  refine tt_lconst (v := 0) X dX3_choices_14 (by decide) ?_
  obtain ⟨w15, e15, hs⟩ := gg_bind hs
  refine zr_callS X (c_J7_fill_d0a16 l e15) (fun hts => va_cwS 2 hts gX3_choices_J7_fill_d0a16 rfl rfl rfl (by decide +kernel) ⟨by decide, by decide⟩) rfl rfl (Nat.le_of_ble_eq_true rfl) dX3_choices_15 ⟨Nat.zero_le _, Nat.zero_le _⟩ ?_
  refine tt_aload_n X dX3_choices_18 rfl ?_
  obtain ⟨o19, e19, hs⟩ := gg_bind hs
  refine zr_fr X e19 rfl in_X3_choices_X3 (by decide) (by decide +kernel) rfl dX3_choices_19 ?_
  refine tt_iconst (v := 0) X dX3_choices_22 (by decide) ?_
  refine tt_lconst (v := 1) X dX3_choices_23 (by decide) ?_
  obtain ⟨h24, e24, hs⟩ := gg_bind hs
  refine zr_js X e24 dX3_choices_24 ?_
  refine tt_iconst (v := 0) X dX3_choices_25 (by decide) ?_
  refine tt_istore X dX3_choices_26 (Nat.le_of_ble_eq_true rfl) ?_
  refine tt_drop [0, 1, 2, 3, 4] ?_
  exact t_28 1000 b0 b1 b2 (if 12 < w1.1 then 12 else w1.1) 0 h24 hs

theorem in_X3_first_X3 : ∀ w ∈ u_ws RX3 TX3 3, w ∈ wsX3_first := by decide +kernel
def s_X3_first (b0 : Nat) (x1 : Int32) (h : tt_H) : Option (Int32 × tt_H) :=
  if x1 < 0 then
    some ((-9), h)
  else
  if 12 ≤ x1 then
    some ((-9), h)
  else
  (gg_fr h b0 3 0).bind fun o11 =>
  (gg_il h o11 x1).bind fun z15 =>
  some (z15, h)
abbrev rm_X3_first : Room := { frames := 0, cells := 0, slots := 0, locals := 0 }
set_option maxHeartbeats 4000000 in
set_option maxRecDepth 100000 in
theorem c_X3_first (l : Launch) {b0 : Nat} {x1 : Int32} {h : tt_H} {ρ : Int32 × tt_H} (hs : s_X3_first b0 x1 h = some ρ) : tt_M tt_cl l yX3_first wsX3_first rm_X3_first 0 0 false [.ref b0, .int x1] h (tt_ret (some (.int ρ.1)) ρ.2) := by
  refine tt_M.of0 (cc := cX3_first) (maxL := 2) (ret := (some .int)) (by decide +kernel) rfl (Nat.le_of_ble_eq_true rfl) ?_
  intro p e s m args below meth c D ca ad n0 sz hwf hsz X hini
  unfold s_X3_first at hs
  refine tt_iload_n X dX3_first_0 rfl ?_
  refine tt_if_lt (tgt := 19) X dX3_first_1 (by decide) (fun c1 => ?_) (fun c1 => ?_)
  · rw [if_pos c1] at hs
    refine tt_bipush (v := (-9)) X dX3_first_19 (by decide) ?_
    obtain rfl := Option.some.inj hs
    exact tt_iret X rfl dX3_first_21 ⟨rfl, rfl⟩
  · rw [if_neg c1] at hs
    refine tt_iload_n X dX3_first_4 rfl ?_
    refine tt_bipush (v := 12) X dX3_first_5 (by decide) ?_
    refine tt_icmp_ge (tgt := 19) X dX3_first_7 (by decide) (fun c7 => ?_) (fun c7 => ?_)
    · rw [if_pos c7] at hs
      refine tt_bipush (v := (-9)) X dX3_first_19 (by decide) ?_
      obtain rfl := Option.some.inj hs
      exact tt_iret X rfl dX3_first_21 ⟨rfl, rfl⟩
    · rw [if_neg c7] at hs
      refine tt_aload_n X dX3_first_10 rfl ?_
      obtain ⟨o11, e11, hs⟩ := gg_bind hs
      refine zr_fr X e11 rfl in_X3_first_X3 (by decide) (by decide +kernel) rfl dX3_first_11 ?_
      refine tt_iload_n X dX3_first_14 rfl ?_
      obtain ⟨z15, e15, hs⟩ := gg_bind hs
      refine zr_il X e15 dX3_first_15 ?_
      refine tt_goto (tgt := 21) X dX3_first_16 (by decide) ?_
      obtain rfl := Option.some.inj hs
      exact tt_iret X rfl dX3_first_21 ⟨rfl, rfl⟩

theorem in_X3_last_X3 : ∀ w ∈ u_ws RX3 TX3 3, w ∈ wsX3_last := by decide +kernel
def s_X3_last (b0 : Nat) (x1 : Int32) (h : tt_H) : Option (Int32 × tt_H) :=
  if x1 < 0 then
    some ((-9), h)
  else
  if 12 ≤ x1 then
    some ((-9), h)
  else
  (gg_fr h b0 3 1).bind fun o11 =>
  (gg_il h o11 x1).bind fun z15 =>
  some (z15, h)
abbrev rm_X3_last : Room := { frames := 0, cells := 0, slots := 0, locals := 0 }
set_option maxHeartbeats 4000000 in
set_option maxRecDepth 100000 in
theorem c_X3_last (l : Launch) {b0 : Nat} {x1 : Int32} {h : tt_H} {ρ : Int32 × tt_H} (hs : s_X3_last b0 x1 h = some ρ) : tt_M tt_cl l yX3_last wsX3_last rm_X3_last 0 0 false [.ref b0, .int x1] h (tt_ret (some (.int ρ.1)) ρ.2) := by
  refine tt_M.of0 (cc := cX3_last) (maxL := 2) (ret := (some .int)) (by decide +kernel) rfl (Nat.le_of_ble_eq_true rfl) ?_
  intro p e s m args below meth c D ca ad n0 sz hwf hsz X hini
  unfold s_X3_last at hs
  refine tt_iload_n X dX3_last_0 rfl ?_
  refine tt_if_lt (tgt := 19) X dX3_last_1 (by decide) (fun c1 => ?_) (fun c1 => ?_)
  · rw [if_pos c1] at hs
    refine tt_bipush (v := (-9)) X dX3_last_19 (by decide) ?_
    obtain rfl := Option.some.inj hs
    exact tt_iret X rfl dX3_last_21 ⟨rfl, rfl⟩
  · rw [if_neg c1] at hs
    refine tt_iload_n X dX3_last_4 rfl ?_
    refine tt_bipush (v := 12) X dX3_last_5 (by decide) ?_
    refine tt_icmp_ge (tgt := 19) X dX3_last_7 (by decide) (fun c7 => ?_) (fun c7 => ?_)
    · rw [if_pos c7] at hs
      refine tt_bipush (v := (-9)) X dX3_last_19 (by decide) ?_
      obtain rfl := Option.some.inj hs
      exact tt_iret X rfl dX3_last_21 ⟨rfl, rfl⟩
    · rw [if_neg c7] at hs
      refine tt_aload_n X dX3_last_10 rfl ?_
      obtain ⟨o11, e11, hs⟩ := gg_bind hs
      refine zr_fr X e11 rfl in_X3_last_X3 (by decide) (by decide +kernel) rfl dX3_last_11 ?_
      refine tt_iload_n X dX3_last_14 rfl ?_
      obtain ⟨z15, e15, hs⟩ := gg_bind hs
      refine zr_il X e15 dX3_last_15 ?_
      refine tt_goto (tgt := 21) X dX3_last_16 (by decide) ?_
      obtain rfl := Option.some.inj hs
      exact tt_iret X rfl dX3_last_21 ⟨rfl, rfl⟩

def s_X3_canStand_J59 (κ14 : Nat → Nat → Nat → Int32 → Int32 → tt_H → Option (Int32 × tt_H)) (b0 : Nat) (b1 : Nat) (b2 : Nat) (x3 : Int32) (x4 : Int32) (h : tt_H) : Option (Int32 × tt_H) :=
  κ14 b0 b1 b2 x3 (x4 + 1) h
def s_X3_canStand_L14 : Nat → Nat → Nat → Nat → Int32 → Int32 → tt_H → Option (Int32 × tt_H)
  | 0, _, _, _, _, _, _ => none
  | n + 1, b0, b1, b2, x3, x4, h =>
    (gg_obj h b1 2).bind fun _ =>
    (s_X2_size b1 h).bind fun w17 =>
    if w17.1 ≤ x4 then
      some (0, w17.2)
    else
    (gg_obj w17.2 b1 2).bind fun _ =>
    (s_X2_at b1 x4 w17.2).bind fun w26 =>
    (gg_obj w26.2 b2 2).bind fun _ =>
    (s_X2_at b2 x3 w26.2).bind fun w31 =>
    if w26.1 = w31.1 then
      (gg_obj w31.2 b0 3).bind fun _ =>
      (s_X3_first b0 x4 w31.2).bind fun w40 =>
      if x3 < w40.1 then
        s_X3_canStand_J59 (s_X3_canStand_L14 n) b0 b1 b2 x3 x4 w40.2
      else
      (gg_obj w40.2 b0 3).bind fun _ =>
      (s_X3_last b0 x4 w40.2).bind fun w51 =>
      if w51.1 < x3 then
        s_X3_canStand_J59 (s_X3_canStand_L14 n) b0 b1 b2 x3 x4 w51.2
      else
      some (1, w51.2)
    else
    s_X3_canStand_J59 (s_X3_canStand_L14 n) b0 b1 b2 x3 x4 w31.2
def s_X3_canStand (b0 : Nat) (b1 : Nat) (b2 : Nat) (x3 : Int32) (h : tt_H) : Option (Int32 × tt_H) :=
  (gg_obj h b0 3).bind fun _ =>
  (s_X3_make b0 b1 b2 h).bind fun w3 =>
  if w3.1 = 0 then
    some (0, w3.2)
  else
  s_X3_canStand_L14 1000 b0 b1 b2 x3 0 w3.2
abbrev rm_X3_canStand : Room := { frames := 3, cells := 0, slots := 0, locals := 66 }
set_option maxHeartbeats 4000000 in
set_option maxRecDepth 100000 in
theorem c_X3_canStand (l : Launch) {b0 : Nat} {b1 : Nat} {b2 : Nat} {x3 : Int32} {h : tt_H} {ρ : Int32 × tt_H} (hs : s_X3_canStand b0 b1 b2 x3 h = some ρ) : tt_M tt_cl l yX3_canStand wsX3_canStand rm_X3_canStand 0 0 false [.ref b0, .ref b1, .ref b2, .int x3] h (tt_ret (some (.int ρ.1)) ρ.2) := by
  refine tt_M.of0 (cc := cX3_canStand) (maxL := 5) (ret := (some .boolean)) (by decide +kernel) rfl (Nat.le_of_ble_eq_true rfl) ?_
  intro p e s m args below meth c D ca ad n0 sz hwf hsz X hini
  unfold s_X3_canStand at hs
  have t_14 : ∀ (fu : Nat) (b0 : Nat) (b1 : Nat) (b2 : Nat) (x3 : Int32) (x4 : Int32) (h : tt_H), s_X3_canStand_L14 fu b0 b1 b2 x3 x4 h = some ρ → tt_T tt_cl (p, l, e, rm_X3_canStand, s, m, args, below, meth, c, MQ below (tt_Q tt_cl D ca ad n0 sz false (tt_ret (some (.int ρ.1)) ρ.2)) args s 0 0 (tt_A ad n0 sz), D, ca, tt_A ad n0 sz, 5, some n0) ad 0 0 14 [(0, .ref b0), (1, .ref b1), (2, .ref b2), (3, .int x3), (4, .int x4)] [] h := by
    intro fu
    induction fu with
    | zero => intro b0 b1 b2 x3 x4 h hs; exact absurd hs (by rw [s_X3_canStand_L14]; exact fun q => by cases q)
    | succ n14 ih =>
      intro b0 b1 b2 x3 x4 h hs
      rw [s_X3_canStand_L14] at hs
      have t_14 := ih
      have t_59 : ∀ (b0 : Nat) (b1 : Nat) (b2 : Nat) (x3 : Int32) (x4 : Int32) (h : tt_H), s_X3_canStand_J59 (s_X3_canStand_L14 n14) b0 b1 b2 x3 x4 h = some ρ → tt_T tt_cl (p, l, e, rm_X3_canStand, s, m, args, below, meth, c, MQ below (tt_Q tt_cl D ca ad n0 sz false (tt_ret (some (.int ρ.1)) ρ.2)) args s 0 0 (tt_A ad n0 sz), D, ca, tt_A ad n0 sz, 5, some n0) ad 0 0 59 [(0, .ref b0), (1, .ref b1), (2, .ref b2), (3, .int x3), (4, .int x4)] [] h := by
        intro b0 b1 b2 x3 x4 h hs
        unfold s_X3_canStand_J59 at hs
        refine tt_iinc (v := x4 + 1) X dX3_canStand_59 rfl rfl (Nat.le_of_ble_eq_true rfl) ?_
        refine tt_goto (tgt := 14) X dX3_canStand_62 (by decide) ?_
        refine tt_drop [0, 1, 2, 3, 4] ?_
        exact t_14 b0 b1 b2 x3 (x4 + 1) h hs
      refine tt_iload X dX3_canStand_14 rfl ?_
      refine tt_aload_n X dX3_canStand_16 rfl ?_
      obtain ⟨o17, f17, hs⟩ := gg_bind hs
      obtain ⟨w17, e17, hs⟩ := gg_bind hs
      refine zr_callV X f17 rfl (c_X2_size l e17) (fun hts => cwV 0 hts gX3_canStand_X2_size rfl rfl rfl (by decide +kernel) ⟨by decide, by decide⟩) rfl rfl (Nat.le_of_ble_eq_true rfl) dX3_canStand_17 ⟨Nat.zero_le _, Nat.zero_le _⟩ ?_
      refine tt_icmp_ge (tgt := 65) X dX3_canStand_20 (by decide) (fun c20 => ?_) (fun c20 => ?_)
      · rw [if_pos c20] at hs
        refine tt_iconst (v := 0) X dX3_canStand_65 (by decide) ?_
        obtain rfl := Option.some.inj hs
        exact tt_zret X rfl rfl dX3_canStand_66 ⟨rfl, rfl⟩
      · rw [if_neg c20] at hs
        refine tt_aload_n X dX3_canStand_23 rfl ?_
        refine tt_iload X dX3_canStand_24 rfl ?_
        obtain ⟨o26, f26, hs⟩ := gg_bind hs
        obtain ⟨w26, e26, hs⟩ := gg_bind hs
        refine zr_callV X f26 rfl (c_X2_at l e26) (fun hts => cwV 1 hts gX3_canStand_X2_at rfl rfl rfl (by decide +kernel) ⟨by decide, by decide⟩) rfl rfl (Nat.le_of_ble_eq_true rfl) dX3_canStand_26 ⟨Nat.zero_le _, Nat.zero_le _⟩ ?_
        refine tt_aload_n X dX3_canStand_29 rfl ?_
        refine tt_iload_n X dX3_canStand_30 rfl ?_
        obtain ⟨o31, f31, hs⟩ := gg_bind hs
        obtain ⟨w31, e31, hs⟩ := gg_bind hs
        refine zr_callV X f31 rfl (c_X2_at l e31) (fun hts => cwV 1 hts gX3_canStand_X2_at rfl rfl rfl (by decide +kernel) ⟨by decide, by decide⟩) rfl rfl (Nat.le_of_ble_eq_true rfl) dX3_canStand_31 ⟨Nat.zero_le _, Nat.zero_le _⟩ ?_
        refine tt_icmp_ne (tgt := 59) X dX3_canStand_34 (by decide) (fun c34 => ?_) (fun c34 => ?_)
        · rw [if_neg c34] at hs
          refine tt_drop [0, 1, 2, 3, 4] ?_
          exact t_59 b0 b1 b2 x3 x4 w31.2 hs
        · rw [if_pos c34] at hs
          refine tt_aload_n X dX3_canStand_37 rfl ?_
          refine tt_iload X dX3_canStand_38 rfl ?_
          obtain ⟨o40, f40, hs⟩ := gg_bind hs
          obtain ⟨w40, e40, hs⟩ := gg_bind hs
          refine zr_callV X f40 rfl (c_X3_first l e40) (fun hts => cwV 1 hts gX3_canStand_X3_first rfl rfl rfl (by decide +kernel) ⟨by decide, by decide⟩) rfl rfl (Nat.le_of_ble_eq_true rfl) dX3_canStand_40 ⟨Nat.zero_le _, Nat.zero_le _⟩ ?_
          refine tt_iload_n X dX3_canStand_43 rfl ?_
          refine tt_icmp_gt (tgt := 59) X dX3_canStand_44 (by decide) (fun c44 => ?_) (fun c44 => ?_)
          · rw [if_pos c44] at hs
            refine tt_drop [0, 1, 2, 3, 4] ?_
            exact t_59 b0 b1 b2 x3 x4 w40.2 hs
          · rw [if_neg c44] at hs
            refine tt_iload_n X dX3_canStand_47 rfl ?_
            refine tt_aload_n X dX3_canStand_48 rfl ?_
            refine tt_iload X dX3_canStand_49 rfl ?_
            obtain ⟨o51, f51, hs⟩ := gg_bind hs
            obtain ⟨w51, e51, hs⟩ := gg_bind hs
            refine zr_callV X f51 rfl (c_X3_last l e51) (fun hts => cwV 1 hts gX3_canStand_X3_last rfl rfl rfl (by decide +kernel) ⟨by decide, by decide⟩) rfl rfl (Nat.le_of_ble_eq_true rfl) dX3_canStand_51 ⟨Nat.zero_le _, Nat.zero_le _⟩ ?_
            refine tt_icmp_gt (tgt := 59) X dX3_canStand_54 (by decide) (fun c54 => ?_) (fun c54 => ?_)
            · rw [if_pos c54] at hs
              refine tt_drop [0, 1, 2, 3, 4] ?_
              exact t_59 b0 b1 b2 x3 x4 w51.2 hs
            · rw [if_neg c54] at hs
              refine tt_iconst (v := 1) X dX3_canStand_57 (by decide) ?_
              obtain rfl := Option.some.inj hs
              exact tt_zret X rfl rfl dX3_canStand_58 ⟨rfl, rfl⟩
  refine tt_aload_n X dX3_canStand_0 rfl ?_
  refine tt_aload_n X dX3_canStand_1 rfl ?_
  refine tt_aload_n X dX3_canStand_2 rfl ?_
  obtain ⟨o3, f3, hs⟩ := gg_bind hs
  obtain ⟨w3, e3, hs⟩ := gg_bind hs
  refine zr_callV X f3 rfl (c_X3_make l e3) (fun hts => cwV 2 hts gX3_canStand_X3_make rfl rfl rfl (by decide +kernel) ⟨by decide, by decide⟩) rfl rfl (Nat.le_of_ble_eq_true rfl) dX3_canStand_3 ⟨Nat.zero_le _, Nat.zero_le _⟩ ?_
  refine tt_if_ne (tgt := 11) X dX3_canStand_6 (by decide) (fun c6 => ?_) (fun c6 => ?_)
  · rw [if_neg c6] at hs
    refine tt_iconst (v := 0) X dX3_canStand_11 (by decide) ?_
    refine tt_istore X dX3_canStand_12 (Nat.le_of_ble_eq_true rfl) ?_
    refine tt_drop [0, 1, 2, 3, 4] ?_
    exact t_14 1000 b0 b1 b2 x3 0 w3.2 hs
  · rw [if_pos c6] at hs
    refine tt_iconst (v := 0) X dX3_canStand_9 (by decide) ?_
    obtain rfl := Option.some.inj hs
    exact tt_zret X rfl rfl dX3_canStand_10 ⟨rfl, rfl⟩

def s_X5_after_J69 (x0 : Int32) (ux0 : Int32) (h : tt_H) : Option (Int32 × tt_H) :=
  if ux0 = 0 then
    some (x0 ^^^ 2, h)
  else
  some ((x0 &&& ((-2))) ^^^ 2, h)
def s_X5_after_J68 (κ69 : Int32 → Int32 → tt_H → Option (Int32 × tt_H)) (x0 : Int32) (h : tt_H) : Option (Int32 × tt_H) :=
  κ69 x0 0 h
def s_X5_after_J29 (x0 : Int32) (x1 : Int32) (x3 : Int32) (ux0 : Int32) (h : tt_H) : Option (Int32 × tt_H) :=
  if x1 = x3 then
    if ux0 = 0 then
      some (5, h)
    else
    some (4, h)
  else
  some (x0 &&& 1, h)
def s_X5_after (x0 : Int32) (x1 : Int32) (b2 : Nat) (x3 : Int32) (h : tt_H) : Option (Int32 × tt_H) :=
  if x1 < 0 then
    some (x0, h)
  else
  (gg_len h b2).bind fun z6 =>
  if x1 < z6 then
    (gg_il h b2 x1).bind fun z14 =>
    if z14 = 0 then
      if (x0 &&& 2) = 0 then
        s_X5_after_J29 x0 x1 x3 0 h
      else
      s_X5_after_J29 x0 x1 x3 1 h
    else
    (gg_il h b2 x1).bind fun z53 =>
    if z53 = 2 then
      if (x0 &&& 4) = 0 then
        s_X5_after_J68 s_X5_after_J69 x0 h
      else
      s_X5_after_J69 x0 1 h
    else
    s_X5_after_J68 s_X5_after_J69 x0 h
  else
  some (x0, h)
abbrev rm_X5_after : Room := { frames := 0, cells := 0, slots := 0, locals := 0 }
set_option maxHeartbeats 4000000 in
set_option maxRecDepth 100000 in
theorem c_X5_after (l : Launch) {x0 : Int32} {x1 : Int32} {b2 : Nat} {x3 : Int32} {h : tt_H} {ρ : Int32 × tt_H} (hs : s_X5_after x0 x1 b2 x3 h = some ρ) : tt_M tt_cl l yX5_after wsX5_after rm_X5_after 0 0 false [.int x0, .int x1, .ref b2, .int x3] h (tt_ret (some (.int ρ.1)) ρ.2) := by
  refine tt_M.of0 (cc := cX5_after) (maxL := 5) (ret := (some .int)) (by decide +kernel) rfl (Nat.le_of_ble_eq_true rfl) ?_
  intro p e s m args below meth c D ca ad n0 sz hwf hsz X hini
  unfold s_X5_after at hs
  have t_69 : ∀ (x0 : Int32) (ux0 : Int32) (h : tt_H), s_X5_after_J69 x0 ux0 h = some ρ → tt_T tt_cl (p, l, e, rm_X5_after, s, m, args, below, meth, c, MQ below (tt_Q tt_cl D ca ad n0 sz false (tt_ret (some (.int ρ.1)) ρ.2)) args s 0 0 (tt_A ad n0 sz), D, ca, tt_A ad n0 sz, 5, some n0) ad 0 0 69 [(0, .int x0)] [.int ux0] h := by
    intro x0 ux0 h hs
    unfold s_X5_after_J69 at hs
    refine tt_istore X dX5_after_69 (Nat.le_of_ble_eq_true rfl) ?_
    refine tt_iload X dX5_after_71 rfl ?_
    refine tt_if_eq (tgt := 83) X dX5_after_73 (by decide) (fun c73 => ?_) (fun c73 => ?_)
    · rw [if_pos c73] at hs
      refine tt_iload_n X dX5_after_83 rfl ?_
      refine tt_iconst (v := 2) X dX5_after_84 (by decide) ?_
      refine tt_ixor X dX5_after_85 ?_
      obtain rfl := Option.some.inj hs
      exact tt_iret X rfl dX5_after_86 ⟨rfl, rfl⟩
    · rw [if_neg c73] at hs
      refine tt_iload_n X dX5_after_76 rfl ?_
      refine tt_bipush (v := (-2)) X dX5_after_77 (by decide) ?_
      refine tt_iand X dX5_after_79 ?_
      refine tt_goto (tgt := 84) X dX5_after_80 (by decide) ?_
      refine tt_iconst (v := 2) X dX5_after_84 (by decide) ?_
      refine tt_ixor X dX5_after_85 ?_
      obtain rfl := Option.some.inj hs
      exact tt_iret X rfl dX5_after_86 ⟨rfl, rfl⟩
  have t_68 : ∀ (x0 : Int32) (h : tt_H), s_X5_after_J68 s_X5_after_J69 x0 h = some ρ → tt_T tt_cl (p, l, e, rm_X5_after, s, m, args, below, meth, c, MQ below (tt_Q tt_cl D ca ad n0 sz false (tt_ret (some (.int ρ.1)) ρ.2)) args s 0 0 (tt_A ad n0 sz), D, ca, tt_A ad n0 sz, 5, some n0) ad 0 0 68 [(0, .int x0)] [] h := by
    intro x0 h hs
    unfold s_X5_after_J68 at hs
    refine tt_iconst (v := 0) X dX5_after_68 (by decide) ?_
    refine tt_drop [0] ?_
    exact t_69 x0 0 h hs
  have t_29 : ∀ (x0 : Int32) (x1 : Int32) (x3 : Int32) (ux0 : Int32) (h : tt_H), s_X5_after_J29 x0 x1 x3 ux0 h = some ρ → tt_T tt_cl (p, l, e, rm_X5_after, s, m, args, below, meth, c, MQ below (tt_Q tt_cl D ca ad n0 sz false (tt_ret (some (.int ρ.1)) ρ.2)) args s 0 0 (tt_A ad n0 sz), D, ca, tt_A ad n0 sz, 5, some n0) ad 0 0 29 [(0, .int x0), (1, .int x1), (3, .int x3)] [.int ux0] h := by
    intro x0 x1 x3 ux0 h hs
    unfold s_X5_after_J29 at hs
    refine tt_istore X dX5_after_29 (Nat.le_of_ble_eq_true rfl) ?_
    refine tt_iload_n X dX5_after_31 rfl ?_
    refine tt_iload_n X dX5_after_32 rfl ?_
    refine tt_icmp_ne (tgt := 47) X dX5_after_33 (by decide) (fun c33 => ?_) (fun c33 => ?_)
    · rw [if_neg c33] at hs
      refine tt_iload_n X dX5_after_47 rfl ?_
      refine tt_iconst (v := 1) X dX5_after_48 (by decide) ?_
      refine tt_iand X dX5_after_49 ?_
      obtain rfl := Option.some.inj hs
      exact tt_iret X rfl dX5_after_50 ⟨rfl, rfl⟩
    · rw [if_pos c33] at hs
      refine tt_iload X dX5_after_36 rfl ?_
      refine tt_if_eq (tgt := 45) X dX5_after_38 (by decide) (fun c38 => ?_) (fun c38 => ?_)
      · rw [if_pos c38] at hs
        refine tt_iconst (v := 5) X dX5_after_45 (by decide) ?_
        obtain rfl := Option.some.inj hs
        exact tt_iret X rfl dX5_after_46 ⟨rfl, rfl⟩
      · rw [if_neg c38] at hs
        refine tt_iconst (v := 4) X dX5_after_41 (by decide) ?_
        refine tt_goto (tgt := 46) X dX5_after_42 (by decide) ?_
        obtain rfl := Option.some.inj hs
        exact tt_iret X rfl dX5_after_46 ⟨rfl, rfl⟩
  refine tt_iload_n X dX5_after_0 rfl ?_
  refine tt_if_lt (tgt := 10) X dX5_after_1 (by decide) (fun c1 => ?_) (fun c1 => ?_)
  · rw [if_pos c1] at hs
    refine tt_iload_n X dX5_after_10 rfl ?_
    obtain rfl := Option.some.inj hs
    exact tt_iret X rfl dX5_after_11 ⟨rfl, rfl⟩
  · rw [if_neg c1] at hs
    refine tt_iload_n X dX5_after_4 rfl ?_
    refine tt_aload_n X dX5_after_5 rfl ?_
    obtain ⟨z6, e6, hs⟩ := gg_bind hs
    refine zr_len X e6 dX5_after_6 ?_
    refine tt_icmp_lt (tgt := 12) X dX5_after_7 (by decide) (fun c7 => ?_) (fun c7 => ?_)
    · rw [if_pos c7] at hs
      refine tt_aload_n X dX5_after_12 rfl ?_
      refine tt_iload_n X dX5_after_13 rfl ?_
      obtain ⟨z14, e14, hs⟩ := gg_bind hs
      refine zr_il X e14 dX5_after_14 ?_
      refine tt_if_ne (tgt := 51) X dX5_after_15 (by decide) (fun c15 => ?_) (fun c15 => ?_)
      · rw [if_neg c15] at hs
        refine tt_aload_n X dX5_after_51 rfl ?_
        refine tt_iload_n X dX5_after_52 rfl ?_
        obtain ⟨z53, e53, hs⟩ := gg_bind hs
        refine zr_il X e53 dX5_after_53 ?_
        refine tt_iconst (v := 2) X dX5_after_54 (by decide) ?_
        refine tt_icmp_ne (tgt := 68) X dX5_after_55 (by decide) (fun c55 => ?_) (fun c55 => ?_)
        · rw [if_neg c55] at hs
          refine tt_drop [0] ?_
          exact t_68 x0 h hs
        · rw [if_pos c55] at hs
          refine tt_iload_n X dX5_after_58 rfl ?_
          refine tt_iconst (v := 4) X dX5_after_59 (by decide) ?_
          refine tt_iand X dX5_after_60 ?_
          refine tt_if_eq (tgt := 68) X dX5_after_61 (by decide) (fun c61 => ?_) (fun c61 => ?_)
          · rw [if_pos c61] at hs
            refine tt_drop [0] ?_
            exact t_68 x0 h hs
          · rw [if_neg c61] at hs
            refine tt_iconst (v := 1) X dX5_after_64 (by decide) ?_
            refine tt_goto (tgt := 69) X dX5_after_65 (by decide) ?_
            refine tt_drop [0] ?_
            exact t_69 x0 1 h hs
      · rw [if_pos c15] at hs
        refine tt_iload_n X dX5_after_18 rfl ?_
        refine tt_iconst (v := 2) X dX5_after_19 (by decide) ?_
        refine tt_iand X dX5_after_20 ?_
        refine tt_if_eq (tgt := 28) X dX5_after_21 (by decide) (fun c21 => ?_) (fun c21 => ?_)
        · rw [if_pos c21] at hs
          refine tt_iconst (v := 0) X dX5_after_28 (by decide) ?_
          refine tt_drop [0, 1, 3] ?_
          exact t_29 x0 x1 x3 0 h hs
        · rw [if_neg c21] at hs
          refine tt_iconst (v := 1) X dX5_after_24 (by decide) ?_
          refine tt_goto (tgt := 29) X dX5_after_25 (by decide) ?_
          refine tt_drop [0, 1, 3] ?_
          exact t_29 x0 x1 x3 1 h hs
    · rw [if_neg c7] at hs
      refine tt_iload_n X dX5_after_10 rfl ?_
      obtain rfl := Option.some.inj hs
      exact tt_iret X rfl dX5_after_11 ⟨rfl, rfl⟩

def s_X5_isSaid_L5 : Nat → Nat → Nat → Int32 → Int32 → Int32 → tt_H → Option (Int32 × tt_H)
  | 0, _, _, _, _, _, _ => none
  | n + 1, b0, b1, x2, x3, x4, h =>
    (gg_obj h b0 2).bind fun _ =>
    (s_X2_size b0 h).bind fun w8 =>
    if w8.1 ≤ x4 then
      if (x3 &&& 1) = 0 then
        some (0, w8.2)
      else
      some (1, w8.2)
    else
    (gg_obj w8.2 b0 2).bind fun _ =>
    (s_X2_at b0 x4 w8.2).bind fun w18 =>
    (s_X5_after x3 w18.1 b1 x2 w18.2).bind fun w23 =>
    s_X5_isSaid_L5 n b0 b1 x2 w23.1 (x4 + 1) w23.2
def s_X5_isSaid (b0 : Nat) (b1 : Nat) (x2 : Int32) (h : tt_H) : Option (Int32 × tt_H) :=
  s_X5_isSaid_L5 1000 b0 b1 x2 0 0 h
abbrev rm_X5_isSaid : Room := { frames := 2, cells := 0, slots := 0, locals := 42 }
set_option maxHeartbeats 4000000 in
set_option maxRecDepth 100000 in
theorem c_X5_isSaid (l : Launch) {b0 : Nat} {b1 : Nat} {x2 : Int32} {h : tt_H} {ρ : Int32 × tt_H} (hs : s_X5_isSaid b0 b1 x2 h = some ρ) : tt_M tt_cl l yX5_isSaid wsX5_isSaid rm_X5_isSaid 0 0 false [.ref b0, .ref b1, .int x2] h (tt_ret (some (.int ρ.1)) ρ.2) := by
  refine tt_M.of0 (cc := cX5_isSaid) (maxL := 5) (ret := (some .boolean)) (by decide +kernel) rfl (Nat.le_of_ble_eq_true rfl) ?_
  intro p e s m args below meth c D ca ad n0 sz hwf hsz X hini
  unfold s_X5_isSaid at hs
  have t_5 : ∀ (fu : Nat) (b0 : Nat) (b1 : Nat) (x2 : Int32) (x3 : Int32) (x4 : Int32) (h : tt_H), s_X5_isSaid_L5 fu b0 b1 x2 x3 x4 h = some ρ → tt_T tt_cl (p, l, e, rm_X5_isSaid, s, m, args, below, meth, c, MQ below (tt_Q tt_cl D ca ad n0 sz false (tt_ret (some (.int ρ.1)) ρ.2)) args s 0 0 (tt_A ad n0 sz), D, ca, tt_A ad n0 sz, 5, some n0) ad 0 0 5 [(0, .ref b0), (1, .ref b1), (2, .int x2), (3, .int x3), (4, .int x4)] [] h := by
    intro fu
    induction fu with
    | zero => intro b0 b1 x2 x3 x4 h hs; exact absurd hs (by rw [s_X5_isSaid_L5]; exact fun q => by cases q)
    | succ n5 ih =>
      intro b0 b1 x2 x3 x4 h hs
      rw [s_X5_isSaid_L5] at hs
      have t_5 := ih
      refine tt_iload X dX5_isSaid_5 rfl ?_
      refine tt_aload_n X dX5_isSaid_7 rfl ?_
      obtain ⟨o8, f8, hs⟩ := gg_bind hs
      obtain ⟨w8, e8, hs⟩ := gg_bind hs
      refine zr_callV X f8 rfl (c_X2_size l e8) (fun hts => cwV 0 hts gX5_isSaid_X2_size rfl rfl rfl (by decide +kernel) ⟨by decide, by decide⟩) rfl rfl (Nat.le_of_ble_eq_true rfl) dX5_isSaid_8 ⟨Nat.zero_le _, Nat.zero_le _⟩ ?_
      refine tt_icmp_ge (tgt := 33) X dX5_isSaid_11 (by decide) (fun c11 => ?_) (fun c11 => ?_)
      · rw [if_pos c11] at hs
        refine tt_iload_n X dX5_isSaid_33 rfl ?_
        refine tt_iconst (v := 1) X dX5_isSaid_34 (by decide) ?_
        refine tt_iand X dX5_isSaid_35 ?_
        refine tt_if_eq (tgt := 43) X dX5_isSaid_36 (by decide) (fun c36 => ?_) (fun c36 => ?_)
        · rw [if_pos c36] at hs
          refine tt_iconst (v := 0) X dX5_isSaid_43 (by decide) ?_
          obtain rfl := Option.some.inj hs
          exact tt_zret X rfl rfl dX5_isSaid_44 ⟨rfl, rfl⟩
        · rw [if_neg c36] at hs
          refine tt_iconst (v := 1) X dX5_isSaid_39 (by decide) ?_
          refine tt_goto (tgt := 44) X dX5_isSaid_40 (by decide) ?_
          obtain rfl := Option.some.inj hs
          exact tt_zret X rfl rfl dX5_isSaid_44 ⟨rfl, rfl⟩
      · rw [if_neg c11] at hs
        refine tt_iload_n X dX5_isSaid_14 rfl ?_
        refine tt_aload_n X dX5_isSaid_15 rfl ?_
        refine tt_iload X dX5_isSaid_16 rfl ?_
        obtain ⟨o18, f18, hs⟩ := gg_bind hs
        obtain ⟨w18, e18, hs⟩ := gg_bind hs
        refine zr_callV X f18 rfl (c_X2_at l e18) (fun hts => cwV 1 hts gX5_isSaid_X2_at rfl rfl rfl (by decide +kernel) ⟨by decide, by decide⟩) rfl rfl (Nat.le_of_ble_eq_true rfl) dX5_isSaid_18 ⟨Nat.zero_le _, Nat.zero_le _⟩ ?_
        refine tt_aload_n X dX5_isSaid_21 rfl ?_
        refine tt_iload_n X dX5_isSaid_22 rfl ?_
        obtain ⟨w23, e23, hs⟩ := gg_bind hs
        refine zr_callS X (c_X5_after l e23) (fun hts => va_cwS 4 hts gX5_isSaid_X5_after rfl rfl rfl (by decide +kernel) ⟨by decide, by decide⟩) rfl rfl (Nat.le_of_ble_eq_true rfl) dX5_isSaid_23 ⟨Nat.zero_le _, Nat.zero_le _⟩ ?_
        refine tt_istore_n X dX5_isSaid_26 (Nat.le_of_ble_eq_true rfl) ?_
        refine tt_iinc (v := x4 + 1) X dX5_isSaid_27 rfl rfl (Nat.le_of_ble_eq_true rfl) ?_
        refine tt_goto (tgt := 5) X dX5_isSaid_30 (by decide) ?_
        refine tt_drop [0, 1, 2, 3, 4] ?_
        exact t_5 b0 b1 x2 w23.1 (x4 + 1) w23.2 hs
  refine tt_iconst (v := 0) X dX5_isSaid_0 (by decide) ?_
  refine tt_istore_n X dX5_isSaid_1 (Nat.le_of_ble_eq_true rfl) ?_
  refine tt_iconst (v := 0) X dX5_isSaid_2 (by decide) ?_
  refine tt_istore X dX5_isSaid_3 (Nat.le_of_ble_eq_true rfl) ?_
  refine tt_drop [0, 1, 2, 3, 4] ?_
  exact t_5 1000 b0 b1 x2 0 0 h hs
end
section
def s_X8_isWord (x0 : Int32) (h : tt_H) : Option (Int32 × tt_H) :=
  if x0 < 0 then
    some (0, h)
  else
  if 8 ≤ x0 then
    some (0, h)
  else
  some (1, h)
abbrev rm_X8_isWord : Room := { frames := 0, cells := 0, slots := 0, locals := 0 }
set_option maxHeartbeats 4000000 in
set_option maxRecDepth 100000 in
theorem c_X8_isWord (l : Launch) {x0 : Int32} {h : tt_H} {ρ : Int32 × tt_H} (hs : s_X8_isWord x0 h = some ρ) : tt_M tt_cl l yX8_isWord wsX8_isWord rm_X8_isWord 0 0 false [.int x0] h (tt_ret (some (.int ρ.1)) ρ.2) := by
  refine tt_M.of0 (cc := cX8_isWord) (maxL := 1) (ret := (some .boolean)) (by decide +kernel) rfl (Nat.le_of_ble_eq_true rfl) ?_
  intro p e s m args below meth c D ca ad n0 sz hwf hsz X hini
  unfold s_X8_isWord at hs
  refine tt_iload_n X dX8_isWord_0 rfl ?_
  refine tt_if_lt (tgt := 14) X dX8_isWord_1 (by decide) (fun c1 => ?_) (fun c1 => ?_)
  · rw [if_pos c1] at hs
    refine tt_iconst (v := 0) X dX8_isWord_14 (by decide) ?_
    obtain rfl := Option.some.inj hs
    exact tt_zret X rfl rfl dX8_isWord_15 ⟨rfl, rfl⟩
  · rw [if_neg c1] at hs
    refine tt_iload_n X dX8_isWord_4 rfl ?_
    refine tt_bipush (v := 8) X dX8_isWord_5 (by decide) ?_
    refine tt_icmp_ge (tgt := 14) X dX8_isWord_7 (by decide) (fun c7 => ?_) (fun c7 => ?_)
    · rw [if_pos c7] at hs
      refine tt_iconst (v := 0) X dX8_isWord_14 (by decide) ?_
      obtain rfl := Option.some.inj hs
      exact tt_zret X rfl rfl dX8_isWord_15 ⟨rfl, rfl⟩
    · rw [if_neg c7] at hs
      refine tt_iconst (v := 1) X dX8_isWord_10 (by decide) ?_
      refine tt_goto (tgt := 15) X dX8_isWord_11 (by decide) ?_
      obtain rfl := Option.some.inj hs
      exact tt_zret X rfl rfl dX8_isWord_15 ⟨rfl, rfl⟩

def s_X8_isKind (x0 : Int32) (h : tt_H) : Option (Int32 × tt_H) :=
  if x0 < 0 then
    some (0, h)
  else
  if 3 ≤ x0 then
    some (0, h)
  else
  some (1, h)
abbrev rm_X8_isKind : Room := { frames := 0, cells := 0, slots := 0, locals := 0 }
set_option maxHeartbeats 4000000 in
set_option maxRecDepth 100000 in
theorem c_X8_isKind (l : Launch) {x0 : Int32} {h : tt_H} {ρ : Int32 × tt_H} (hs : s_X8_isKind x0 h = some ρ) : tt_M tt_cl l yX8_isKind wsX8_isKind rm_X8_isKind 0 0 false [.int x0] h (tt_ret (some (.int ρ.1)) ρ.2) := by
  refine tt_M.of0 (cc := cX8_isKind) (maxL := 1) (ret := (some .boolean)) (by decide +kernel) rfl (Nat.le_of_ble_eq_true rfl) ?_
  intro p e s m args below meth c D ca ad n0 sz hwf hsz X hini
  unfold s_X8_isKind at hs
  refine tt_iload_n X dX8_isKind_0 rfl ?_
  refine tt_if_lt (tgt := 13) X dX8_isKind_1 (by decide) (fun c1 => ?_) (fun c1 => ?_)
  · rw [if_pos c1] at hs
    refine tt_iconst (v := 0) X dX8_isKind_13 (by decide) ?_
    obtain rfl := Option.some.inj hs
    exact tt_zret X rfl rfl dX8_isKind_14 ⟨rfl, rfl⟩
  · rw [if_neg c1] at hs
    refine tt_iload_n X dX8_isKind_4 rfl ?_
    refine tt_iconst (v := 3) X dX8_isKind_5 (by decide) ?_
    refine tt_icmp_ge (tgt := 13) X dX8_isKind_6 (by decide) (fun c6 => ?_) (fun c6 => ?_)
    · rw [if_pos c6] at hs
      refine tt_iconst (v := 0) X dX8_isKind_13 (by decide) ?_
      obtain rfl := Option.some.inj hs
      exact tt_zret X rfl rfl dX8_isKind_14 ⟨rfl, rfl⟩
    · rw [if_neg c6] at hs
      refine tt_iconst (v := 1) X dX8_isKind_9 (by decide) ?_
      refine tt_goto (tgt := 14) X dX8_isKind_10 (by decide) ?_
      obtain rfl := Option.some.inj hs
      exact tt_zret X rfl rfl dX8_isKind_14 ⟨rfl, rfl⟩

theorem in_X8_kind_X8 : ∀ w ∈ u_ws RX8 TX8 13, w ∈ wsX8_kind := by decide +kernel
def s_X8_kind (b0 : Nat) (x1 : Int32) (x2 : Int32) (h : tt_H) : Option (Int32 × tt_H) :=
  (s_X8_isWord x1 h).bind fun w1 =>
  if w1.1 = 0 then
    some ((-1), w1.2)
  else
  (s_X8_isKind x2 w1.2).bind fun w10 =>
  if w10.1 = 0 then
    some ((-2), w10.2)
  else
  (gg_fr w10.2 b0 8 0).bind fun o20 =>
  (gg_il w10.2 o20 x1).bind fun z24 =>
  (gg_fr w10.2 b0 8 0).bind fun o27 =>
  (gg_is w10.2 o27 x1 x2).bind fun h32 =>
  some (z24, h32)
abbrev rm_X8_kind : Room := { frames := 1, cells := 0, slots := 0, locals := 20 }
set_option maxHeartbeats 4000000 in
set_option maxRecDepth 100000 in
theorem c_X8_kind (l : Launch) {b0 : Nat} {x1 : Int32} {x2 : Int32} {h : tt_H} {ρ : Int32 × tt_H} (hs : s_X8_kind b0 x1 x2 h = some ρ) : tt_M tt_cl l yX8_kind wsX8_kind rm_X8_kind 0 0 false [.ref b0, .int x1, .int x2] h (tt_ret (some (.int ρ.1)) ρ.2) := by
  refine tt_M.of0 (cc := cX8_kind) (maxL := 4) (ret := (some .int)) (by decide +kernel) rfl (Nat.le_of_ble_eq_true rfl) ?_
  intro p e s m args below meth c D ca ad n0 sz hwf hsz X hini
  unfold s_X8_kind at hs
  refine tt_iload_n X dX8_kind_0 rfl ?_
  obtain ⟨w1, e1, hs⟩ := gg_bind hs
  refine zr_callS X (c_X8_isWord l e1) (fun hts => va_cwS 1 hts gX8_kind_X8_isWord rfl rfl rfl (by decide +kernel) ⟨by decide, by decide⟩) rfl rfl (Nat.le_of_ble_eq_true rfl) dX8_kind_1 ⟨Nat.zero_le _, Nat.zero_le _⟩ ?_
  refine tt_if_ne (tgt := 9) X dX8_kind_4 (by decide) (fun c4 => ?_) (fun c4 => ?_)
  · rw [if_neg c4] at hs
    refine tt_iload_n X dX8_kind_9 rfl ?_
    obtain ⟨w10, e10, hs⟩ := gg_bind hs
    refine zr_callS X (c_X8_isKind l e10) (fun hts => va_cwS 1 hts gX8_kind_X8_isKind rfl rfl rfl (by decide +kernel) ⟨by decide, by decide⟩) rfl rfl (Nat.le_of_ble_eq_true rfl) dX8_kind_10 ⟨Nat.zero_le _, Nat.zero_le _⟩ ?_
    refine tt_if_ne (tgt := 19) X dX8_kind_13 (by decide) (fun c13 => ?_) (fun c13 => ?_)
    · rw [if_neg c13] at hs
      refine tt_aload_n X dX8_kind_19 rfl ?_
      obtain ⟨o20, e20, hs⟩ := gg_bind hs
      refine zr_fr X e20 rfl in_X8_kind_X8 (by decide) (by decide +kernel) rfl dX8_kind_20 ?_
      refine tt_iload_n X dX8_kind_23 rfl ?_
      obtain ⟨z24, e24, hs⟩ := gg_bind hs
      refine zr_il X e24 dX8_kind_24 ?_
      refine tt_istore_n X dX8_kind_25 (Nat.le_of_ble_eq_true rfl) ?_
      refine tt_aload_n X dX8_kind_26 rfl ?_
      obtain ⟨o27, e27, hs⟩ := gg_bind hs
      refine zr_fr X e27 rfl in_X8_kind_X8 (by decide) (by decide +kernel) rfl dX8_kind_27 ?_
      refine tt_iload_n X dX8_kind_30 rfl ?_
      refine tt_iload_n X dX8_kind_31 rfl ?_
      obtain ⟨h32, e32, hs⟩ := gg_bind hs
      refine zr_is X e32 dX8_kind_32 ?_
      refine tt_iload_n X dX8_kind_33 rfl ?_
      obtain rfl := Option.some.inj hs
      exact tt_iret X rfl dX8_kind_34 ⟨rfl, rfl⟩
    · rw [if_pos c13] at hs
      refine tt_bipush (v := (-2)) X dX8_kind_16 (by decide) ?_
      obtain rfl := Option.some.inj hs
      exact tt_iret X rfl dX8_kind_18 ⟨rfl, rfl⟩
  · rw [if_pos c4] at hs
    refine tt_iconst (v := (-1)) X dX8_kind_7 (by decide) ?_
    obtain rfl := Option.some.inj hs
    exact tt_iret X rfl dX8_kind_8 ⟨rfl, rfl⟩

theorem in_X8_sheetOf_X8 : ∀ w ∈ u_ws RX8 TX8 13, w ∈ wsX8_sheetOf := by decide +kernel
def s_X8_sheetOf (b0 : Nat) (x1 : Int32) (h : tt_H) : Option (Option Nat × tt_H) :=
  if x1 < 0 then
    some (none, h)
  else
  if 4 ≤ x1 then
    some (none, h)
  else
  (gg_fr h b0 8 2).bind fun o10 =>
  (gg_ql 4 h o10 x1).bind fun o14 =>
  some ((some o14), h)
abbrev rm_X8_sheetOf : Room := { frames := 0, cells := 0, slots := 0, locals := 0 }
set_option maxHeartbeats 4000000 in
set_option maxRecDepth 100000 in
theorem c_X8_sheetOf (l : Launch) {b0 : Nat} {x1 : Int32} {h : tt_H} {ρ : Option Nat × tt_H} (hs : s_X8_sheetOf b0 x1 h = some ρ) : tt_M tt_cl l yX8_sheetOf wsX8_sheetOf rm_X8_sheetOf 0 0 false [.ref b0, .int x1] h (tt_ret (some (va_rf ρ.1)) ρ.2) := by
  refine tt_M.of0 (cc := cX8_sheetOf) (maxL := 2) (ret := (some (.object "AddedCries$Sheet"))) (by decide +kernel) rfl (Nat.le_of_ble_eq_true rfl) ?_
  intro p e s m args below meth c D ca ad n0 sz hwf hsz X hini
  unfold s_X8_sheetOf at hs
  refine tt_iload_n X dX8_sheetOf_0 rfl ?_
  refine tt_if_lt (tgt := 18) X dX8_sheetOf_1 (by decide) (fun c1 => ?_) (fun c1 => ?_)
  · rw [if_pos c1] at hs
    refine tt_null X dX8_sheetOf_18 ?_
    obtain rfl := Option.some.inj hs
    exact tt_aret X (tt_rf_or none) rfl dX8_sheetOf_19 ⟨rfl, rfl⟩
  · rw [if_neg c1] at hs
    refine tt_iload_n X dX8_sheetOf_4 rfl ?_
    refine tt_iconst (v := 4) X dX8_sheetOf_5 (by decide) ?_
    refine tt_icmp_ge (tgt := 18) X dX8_sheetOf_6 (by decide) (fun c6 => ?_) (fun c6 => ?_)
    · rw [if_pos c6] at hs
      refine tt_null X dX8_sheetOf_18 ?_
      obtain rfl := Option.some.inj hs
      exact tt_aret X (tt_rf_or none) rfl dX8_sheetOf_19 ⟨rfl, rfl⟩
    · rw [if_neg c6] at hs
      refine tt_aload_n X dX8_sheetOf_9 rfl ?_
      obtain ⟨o10, e10, hs⟩ := gg_bind hs
      refine zr_fr X e10 rfl in_X8_sheetOf_X8 (by decide) (by decide +kernel) rfl dX8_sheetOf_10 ?_
      refine tt_iload_n X dX8_sheetOf_13 rfl ?_
      obtain ⟨o14, e14, hs⟩ := gg_bind hs
      refine zr_ql X e14 rfl dX8_sheetOf_14 ?_
      refine tt_goto (tgt := 19) X dX8_sheetOf_15 (by decide) ?_
      obtain rfl := Option.some.inj hs
      exact tt_aret X (tt_rf_or (some o14)) rfl dX8_sheetOf_19 ⟨rfl, rfl⟩

def s_X8_isSort (x0 : Int32) (h : tt_H) : Option (Int32 × tt_H) :=
  if x0 < 0 then
    some (0, h)
  else
  if 3 ≤ x0 then
    some (0, h)
  else
  some (1, h)
abbrev rm_X8_isSort : Room := { frames := 0, cells := 0, slots := 0, locals := 0 }
set_option maxHeartbeats 4000000 in
set_option maxRecDepth 100000 in
theorem c_X8_isSort (l : Launch) {x0 : Int32} {h : tt_H} {ρ : Int32 × tt_H} (hs : s_X8_isSort x0 h = some ρ) : tt_M tt_cl l yX8_isSort wsX8_isSort rm_X8_isSort 0 0 false [.int x0] h (tt_ret (some (.int ρ.1)) ρ.2) := by
  refine tt_M.of0 (cc := cX8_isSort) (maxL := 1) (ret := (some .boolean)) (by decide +kernel) rfl (Nat.le_of_ble_eq_true rfl) ?_
  intro p e s m args below meth c D ca ad n0 sz hwf hsz X hini
  unfold s_X8_isSort at hs
  refine tt_iload_n X dX8_isSort_0 rfl ?_
  refine tt_if_lt (tgt := 13) X dX8_isSort_1 (by decide) (fun c1 => ?_) (fun c1 => ?_)
  · rw [if_pos c1] at hs
    refine tt_iconst (v := 0) X dX8_isSort_13 (by decide) ?_
    obtain rfl := Option.some.inj hs
    exact tt_zret X rfl rfl dX8_isSort_14 ⟨rfl, rfl⟩
  · rw [if_neg c1] at hs
    refine tt_iload_n X dX8_isSort_4 rfl ?_
    refine tt_iconst (v := 3) X dX8_isSort_5 (by decide) ?_
    refine tt_icmp_ge (tgt := 13) X dX8_isSort_6 (by decide) (fun c6 => ?_) (fun c6 => ?_)
    · rw [if_pos c6] at hs
      refine tt_iconst (v := 0) X dX8_isSort_13 (by decide) ?_
      obtain rfl := Option.some.inj hs
      exact tt_zret X rfl rfl dX8_isSort_14 ⟨rfl, rfl⟩
    · rw [if_neg c6] at hs
      refine tt_iconst (v := 1) X dX8_isSort_9 (by decide) ?_
      refine tt_goto (tgt := 14) X dX8_isSort_10 (by decide) ?_
      obtain rfl := Option.some.inj hs
      exact tt_zret X rfl rfl dX8_isSort_14 ⟨rfl, rfl⟩

theorem in_X8_fails_X8 : ∀ w ∈ u_ws RX8 TX8 13, w ∈ wsX8_fails := by decide +kernel
def s_X8_fails (b0 : Nat) (x1 : Int32) (h : tt_H) : Option (Int32 × tt_H) :=
  (gg_put h b0 8 12 (.int x1)).bind fun h2 =>
  some (((-10)) - x1, h2)
abbrev rm_X8_fails : Room := { frames := 0, cells := 0, slots := 0, locals := 0 }
set_option maxHeartbeats 4000000 in
set_option maxRecDepth 100000 in
theorem c_X8_fails (l : Launch) {b0 : Nat} {x1 : Int32} {h : tt_H} {ρ : Int32 × tt_H} (hs : s_X8_fails b0 x1 h = some ρ) : tt_M tt_cl l yX8_fails wsX8_fails rm_X8_fails 0 0 false [.ref b0, .int x1] h (tt_ret (some (.int ρ.1)) ρ.2) := by
  refine tt_M.of0 (cc := cX8_fails) (maxL := 2) (ret := (some .int)) (by decide +kernel) rfl (Nat.le_of_ble_eq_true rfl) ?_
  intro p e s m args below meth c D ca ad n0 sz hwf hsz X hini
  unfold s_X8_fails at hs
  refine tt_aload_n X dX8_fails_0 rfl ?_
  refine tt_iload_n X dX8_fails_1 rfl ?_
  obtain ⟨h2, e2, hs⟩ := gg_bind hs
  refine zr_put X e2 rfl in_X8_fails_X8 tyX8 tyX8_ok nmX8 (by decide) (by decide +kernel) rfl rfl (fun _ => rfl) (fun _ => rfl) dX8_fails_2 ?_
  refine tt_bipush (v := (-10)) X dX8_fails_5 (by decide) ?_
  refine tt_iload_n X dX8_fails_7 rfl ?_
  refine tt_isub X dX8_fails_8 ?_
  obtain rfl := Option.some.inj hs
  exact tt_iret X rfl dX8_fails_9 ⟨rfl, rfl⟩

theorem in_X8_sheet_X8 : ∀ w ∈ u_ws RX8 TX8 13, w ∈ wsX8_sheet := by decide +kernel
def s_X8_sheet (b0 : Nat) (x1 : Int32) (x2 : Int32) (x3 : Int32) (h : tt_H) : Option (Int32 × tt_H) :=
  (gg_put h b0 8 12 (.int 0)).bind fun h2 =>
  (gg_obj h2 b0 8).bind fun _ =>
  (s_X8_sheetOf b0 x1 h2).bind fun w7 =>
  gg_opt w7.1 (
    some ((-1), w7.2)
  ) fun b14 =>
  (s_X8_isSort x2 w7.2).bind fun w20 =>
  if w20.1 = 0 then
    some ((-2), w20.2)
  else
  if x3 ≤ 80 then
    if 0 ≤ x3 then
      (gg_obj w20.2 b14 6).bind fun _ =>
      (s_X6_renew b14 x2 x3 w20.2).bind fun w49 =>
      some (1, w49.2)
    else
    (gg_obj w20.2 b0 8).bind fun _ =>
    (s_X8_fails b0 4 w20.2).bind fun w41 =>
    some (w41.1, w41.2)
  else
  some ((-2), w20.2)
abbrev rm_X8_sheet : Room := { frames := 2, cells := 0, slots := 0, locals := 45 }
set_option maxHeartbeats 4000000 in
set_option maxRecDepth 100000 in
theorem c_X8_sheet (l : Launch) {b0 : Nat} {x1 : Int32} {x2 : Int32} {x3 : Int32} {h : tt_H} {ρ : Int32 × tt_H} (hs : s_X8_sheet b0 x1 x2 x3 h = some ρ) : tt_M tt_cl l yX8_sheet wsX8_sheet rm_X8_sheet 0 0 false [.ref b0, .int x1, .int x2, .int x3] h (tt_ret (some (.int ρ.1)) ρ.2) := by
  refine tt_M.of0 (cc := cX8_sheet) (maxL := 5) (ret := (some .int)) (by decide +kernel) rfl (Nat.le_of_ble_eq_true rfl) ?_
  intro p e s m args below meth c D ca ad n0 sz hwf hsz X hini
  unfold s_X8_sheet at hs
  refine tt_aload_n X dX8_sheet_0 rfl ?_
  refine tt_iconst (v := 0) X dX8_sheet_1 (by decide) ?_
  obtain ⟨h2, e2, hs⟩ := gg_bind hs
  refine zr_put X e2 rfl in_X8_sheet_X8 tyX8 tyX8_ok nmX8 (by decide) (by decide +kernel) rfl rfl (fun _ => rfl) (fun _ => rfl) dX8_sheet_2 ?_
  refine tt_aload_n X dX8_sheet_5 rfl ?_
  refine tt_iload_n X dX8_sheet_6 rfl ?_
  obtain ⟨o7, f7, hs⟩ := gg_bind hs
  obtain ⟨w7, e7, hs⟩ := gg_bind hs
  refine zr_callV X f7 rfl (c_X8_sheetOf l e7) (fun hts => cwV 1 hts gX8_sheet_X8_sheetOf rfl rfl rfl (by decide +kernel) ⟨by decide, by decide⟩) rfl rfl (Nat.le_of_ble_eq_true rfl) dX8_sheet_7 ⟨Nat.zero_le _, Nat.zero_le _⟩ ?_
  refine zr_astore X w7.1 dX8_sheet_10 (Nat.le_of_ble_eq_true rfl) ?_
  refine zr_aload X w7.1 dX8_sheet_12 rfl ?_
  cases hr14 : w7.1 with
  | none =>
    rw [hr14, gg_opt_none] at hs
    refine tt_ifnonnullN X dX8_sheet_14 ?_
    refine tt_iconst (v := (-1)) X dX8_sheet_17 (by decide) ?_
    obtain rfl := Option.some.inj hs
    exact tt_iret X rfl dX8_sheet_18 ⟨rfl, rfl⟩
  | some b14 =>
    rw [hr14, gg_opt_some] at hs
    refine tt_ifnonnull (tgt := 19) X dX8_sheet_14 (by decide) ?_
    refine tt_iload_n X dX8_sheet_19 rfl ?_
    obtain ⟨w20, e20, hs⟩ := gg_bind hs
    refine zr_callS X (c_X8_isSort l e20) (fun hts => va_cwS 1 hts gX8_sheet_X8_isSort rfl rfl rfl (by decide +kernel) ⟨by decide, by decide⟩) rfl rfl (Nat.le_of_ble_eq_true rfl) dX8_sheet_20 ⟨Nat.zero_le _, Nat.zero_le _⟩ ?_
    refine tt_if_eq (tgt := 32) X dX8_sheet_23 (by decide) (fun c23 => ?_) (fun c23 => ?_)
    · rw [if_pos c23] at hs
      refine tt_bipush (v := (-2)) X dX8_sheet_32 (by decide) ?_
      obtain rfl := Option.some.inj hs
      exact tt_iret X rfl dX8_sheet_34 ⟨rfl, rfl⟩
    · rw [if_neg c23] at hs
      refine tt_iload_n X dX8_sheet_26 rfl ?_
      refine tt_bipush (v := 80) X dX8_sheet_27 (by decide) ?_
      refine tt_icmp_le (tgt := 35) X dX8_sheet_29 (by decide) (fun c29 => ?_) (fun c29 => ?_)
      · rw [if_pos c29] at hs
        refine tt_iload_n X dX8_sheet_35 rfl ?_
        refine tt_if_ge (tgt := 45) X dX8_sheet_36 (by decide) (fun c36 => ?_) (fun c36 => ?_)
        · rw [if_pos c36] at hs
          refine tt_aload X dX8_sheet_45 rfl ?_
          refine tt_iload_n X dX8_sheet_47 rfl ?_
          refine tt_iload_n X dX8_sheet_48 rfl ?_
          obtain ⟨o49, f49, hs⟩ := gg_bind hs
          obtain ⟨w49, e49, hs⟩ := gg_bind hs
          refine zr_callV X f49 rfl (c_X6_renew l e49) (fun hts => cwV 2 hts gX8_sheet_X6_renew rfl rfl rfl (by decide +kernel) ⟨by decide, by decide⟩) rfl rfl (Nat.le_of_ble_eq_true rfl) dX8_sheet_49 ⟨Nat.zero_le _, Nat.zero_le _⟩ ?_
          refine tt_iconst (v := 1) X dX8_sheet_52 (by decide) ?_
          obtain rfl := Option.some.inj hs
          exact tt_iret X rfl dX8_sheet_53 ⟨rfl, rfl⟩
        · rw [if_neg c36] at hs
          refine tt_aload_n X dX8_sheet_39 rfl ?_
          refine tt_iconst (v := 4) X dX8_sheet_40 (by decide) ?_
          obtain ⟨o41, f41, hs⟩ := gg_bind hs
          obtain ⟨w41, e41, hs⟩ := gg_bind hs
          refine zr_callV X f41 rfl (c_X8_fails l e41) (fun hts => cwV 1 hts gX8_sheet_X8_fails rfl rfl rfl (by decide +kernel) ⟨by decide, by decide⟩) rfl rfl (Nat.le_of_ble_eq_true rfl) dX8_sheet_41 ⟨Nat.zero_le _, Nat.zero_le _⟩ ?_
          obtain rfl := Option.some.inj hs
          exact tt_iret X rfl dX8_sheet_44 ⟨rfl, rfl⟩
      · rw [if_neg c29] at hs
        refine tt_bipush (v := (-2)) X dX8_sheet_32 (by decide) ?_
        obtain rfl := Option.some.inj hs
        exact tt_iret X rfl dX8_sheet_34 ⟨rfl, rfl⟩

theorem in_X8_put_X8 : ∀ w ∈ u_ws RX8 TX8 13, w ∈ wsX8_put := by decide +kernel
def s_X8_put (b0 : Nat) (x1 : Int32) (x2 : Int32) (x3 : Int32) (h : tt_H) : Option (Int32 × tt_H) :=
  (gg_put h b0 8 12 (.int 0)).bind fun h2 =>
  (gg_obj h2 b0 8).bind fun _ =>
  (s_X8_sheetOf b0 x1 h2).bind fun w7 =>
  gg_opt w7.1 (
    some ((-1), w7.2)
  ) fun b14 =>
  (gg_obj w7.2 b14 6).bind fun _ =>
  (s_X6_isNothing b14 w7.2).bind fun w21 =>
  if w21.1 = 0 then
    (gg_obj w21.2 b14 6).bind fun _ =>
    (s_X6_hasCells b14 x2 1 w21.2).bind fun w37 =>
    if w37.1 = 0 then
      (gg_obj w37.2 b0 8).bind fun _ =>
      (s_X8_fails b0 3 w37.2).bind fun w45 =>
      some (w45.1, w45.2)
    else
    (gg_obj w37.2 b14 6).bind fun _ =>
    (s_X6_write b14 x2 x3 w37.2).bind fun w53 =>
    some (1, w53.2)
  else
  (gg_obj w21.2 b0 8).bind fun _ =>
  (s_X8_fails b0 1 w21.2).bind fun w29 =>
  some (w29.1, w29.2)
abbrev rm_X8_put : Room := { frames := 2, cells := 0, slots := 0, locals := 44 }
set_option maxHeartbeats 4000000 in
set_option maxRecDepth 100000 in
theorem c_X8_put (l : Launch) {b0 : Nat} {x1 : Int32} {x2 : Int32} {x3 : Int32} {h : tt_H} {ρ : Int32 × tt_H} (hs : s_X8_put b0 x1 x2 x3 h = some ρ) : tt_M tt_cl l yX8_put wsX8_put rm_X8_put 0 0 false [.ref b0, .int x1, .int x2, .int x3] h (tt_ret (some (.int ρ.1)) ρ.2) := by
  refine tt_M.of0 (cc := cX8_put) (maxL := 5) (ret := (some .int)) (by decide +kernel) rfl (Nat.le_of_ble_eq_true rfl) ?_
  intro p e s m args below meth c D ca ad n0 sz hwf hsz X hini
  unfold s_X8_put at hs
  refine tt_aload_n X dX8_put_0 rfl ?_
  refine tt_iconst (v := 0) X dX8_put_1 (by decide) ?_
  obtain ⟨h2, e2, hs⟩ := gg_bind hs
  refine zr_put X e2 rfl in_X8_put_X8 tyX8 tyX8_ok nmX8 (by decide) (by decide +kernel) rfl rfl (fun _ => rfl) (fun _ => rfl) dX8_put_2 ?_
  refine tt_aload_n X dX8_put_5 rfl ?_
  refine tt_iload_n X dX8_put_6 rfl ?_
  obtain ⟨o7, f7, hs⟩ := gg_bind hs
  obtain ⟨w7, e7, hs⟩ := gg_bind hs
  refine zr_callV X f7 rfl (c_X8_sheetOf l e7) (fun hts => cwV 1 hts gX8_put_X8_sheetOf rfl rfl rfl (by decide +kernel) ⟨by decide, by decide⟩) rfl rfl (Nat.le_of_ble_eq_true rfl) dX8_put_7 ⟨Nat.zero_le _, Nat.zero_le _⟩ ?_
  refine zr_astore X w7.1 dX8_put_10 (Nat.le_of_ble_eq_true rfl) ?_
  refine zr_aload X w7.1 dX8_put_12 rfl ?_
  cases hr14 : w7.1 with
  | none =>
    rw [hr14, gg_opt_none] at hs
    refine tt_ifnonnullN X dX8_put_14 ?_
    refine tt_iconst (v := (-1)) X dX8_put_17 (by decide) ?_
    obtain rfl := Option.some.inj hs
    exact tt_iret X rfl dX8_put_18 ⟨rfl, rfl⟩
  | some b14 =>
    rw [hr14, gg_opt_some] at hs
    refine tt_ifnonnull (tgt := 19) X dX8_put_14 (by decide) ?_
    refine tt_aload X dX8_put_19 rfl ?_
    obtain ⟨o21, f21, hs⟩ := gg_bind hs
    obtain ⟨w21, e21, hs⟩ := gg_bind hs
    refine zr_callV X f21 rfl (c_X6_isNothing l e21) (fun hts => cwV 0 hts gX8_put_X6_isNothing rfl rfl rfl (by decide +kernel) ⟨by decide, by decide⟩) rfl rfl (Nat.le_of_ble_eq_true rfl) dX8_put_21 ⟨Nat.zero_le _, Nat.zero_le _⟩ ?_
    refine tt_if_eq (tgt := 33) X dX8_put_24 (by decide) (fun c24 => ?_) (fun c24 => ?_)
    · rw [if_pos c24] at hs
      refine tt_aload X dX8_put_33 rfl ?_
      refine tt_iload_n X dX8_put_35 rfl ?_
      refine tt_iconst (v := 1) X dX8_put_36 (by decide) ?_
      obtain ⟨o37, f37, hs⟩ := gg_bind hs
      obtain ⟨w37, e37, hs⟩ := gg_bind hs
      refine zr_callV X f37 rfl (c_X6_hasCells l e37) (fun hts => cwV 2 hts gX8_put_X6_hasCells rfl rfl rfl (by decide +kernel) ⟨by decide, by decide⟩) rfl rfl (Nat.le_of_ble_eq_true rfl) dX8_put_37 ⟨Nat.zero_le _, Nat.zero_le _⟩ ?_
      refine tt_if_ne (tgt := 49) X dX8_put_40 (by decide) (fun c40 => ?_) (fun c40 => ?_)
      · rw [if_neg c40] at hs
        refine tt_aload X dX8_put_49 rfl ?_
        refine tt_iload_n X dX8_put_51 rfl ?_
        refine tt_iload_n X dX8_put_52 rfl ?_
        obtain ⟨o53, f53, hs⟩ := gg_bind hs
        obtain ⟨w53, e53, hs⟩ := gg_bind hs
        refine zr_callV X f53 rfl (c_X6_write l e53) (fun hts => cwV 2 hts gX8_put_X6_write rfl rfl rfl (by decide +kernel) ⟨by decide, by decide⟩) rfl rfl (Nat.le_of_ble_eq_true rfl) dX8_put_53 ⟨Nat.zero_le _, Nat.zero_le _⟩ ?_
        refine tt_iconst (v := 1) X dX8_put_56 (by decide) ?_
        obtain rfl := Option.some.inj hs
        exact tt_iret X rfl dX8_put_57 ⟨rfl, rfl⟩
      · rw [if_pos c40] at hs
        refine tt_aload_n X dX8_put_43 rfl ?_
        refine tt_iconst (v := 3) X dX8_put_44 (by decide) ?_
        obtain ⟨o45, f45, hs⟩ := gg_bind hs
        obtain ⟨w45, e45, hs⟩ := gg_bind hs
        refine zr_callV X f45 rfl (c_X8_fails l e45) (fun hts => cwV 1 hts gX8_put_X8_fails rfl rfl rfl (by decide +kernel) ⟨by decide, by decide⟩) rfl rfl (Nat.le_of_ble_eq_true rfl) dX8_put_45 ⟨Nat.zero_le _, Nat.zero_le _⟩ ?_
        obtain rfl := Option.some.inj hs
        exact tt_iret X rfl dX8_put_48 ⟨rfl, rfl⟩
    · rw [if_neg c24] at hs
      refine tt_aload_n X dX8_put_27 rfl ?_
      refine tt_iconst (v := 1) X dX8_put_28 (by decide) ?_
      obtain ⟨o29, f29, hs⟩ := gg_bind hs
      obtain ⟨w29, e29, hs⟩ := gg_bind hs
      refine zr_callV X f29 rfl (c_X8_fails l e29) (fun hts => cwV 1 hts gX8_put_X8_fails rfl rfl rfl (by decide +kernel) ⟨by decide, by decide⟩) rfl rfl (Nat.le_of_ble_eq_true rfl) dX8_put_29 ⟨Nat.zero_le _, Nat.zero_le _⟩ ?_
      obtain rfl := Option.some.inj hs
      exact tt_iret X rfl dX8_put_32 ⟨rfl, rfl⟩

def s_X8_readingFault (b0 : Nat) (x1 : Int32) (h : tt_H) : Option (Int32 × tt_H) :=
  (gg_obj h b0 6).bind fun _ =>
  (s_X6_isNothing b0 h).bind fun w1 =>
  if w1.1 = 0 then
    (gg_obj w1.2 b0 6).bind fun _ =>
    (s_X6_sort b0 w1.2).bind fun w10 =>
    if w10.1 = x1 then
      some (0, w10.2)
    else
    some (2, w10.2)
  else
  some (1, w1.2)
abbrev rm_X8_readingFault : Room := { frames := 1, cells := 0, slots := 0, locals := 20 }
set_option maxHeartbeats 4000000 in
set_option maxRecDepth 100000 in
theorem c_X8_readingFault (l : Launch) {b0 : Nat} {x1 : Int32} {h : tt_H} {ρ : Int32 × tt_H} (hs : s_X8_readingFault b0 x1 h = some ρ) : tt_M tt_cl l yX8_readingFault wsX8_readingFault rm_X8_readingFault 0 0 false [.ref b0, .int x1] h (tt_ret (some (.int ρ.1)) ρ.2) := by
  refine tt_M.of0 (cc := cX8_readingFault) (maxL := 2) (ret := (some .int)) (by decide +kernel) rfl (Nat.le_of_ble_eq_true rfl) ?_
  intro p e s m args below meth c D ca ad n0 sz hwf hsz X hini
  unfold s_X8_readingFault at hs
  refine tt_aload_n X dX8_readingFault_0 rfl ?_
  obtain ⟨o1, f1, hs⟩ := gg_bind hs
  obtain ⟨w1, e1, hs⟩ := gg_bind hs
  refine zr_callV X f1 rfl (c_X6_isNothing l e1) (fun hts => cwV 0 hts gX8_readingFault_X6_isNothing rfl rfl rfl (by decide +kernel) ⟨by decide, by decide⟩) rfl rfl (Nat.le_of_ble_eq_true rfl) dX8_readingFault_1 ⟨Nat.zero_le _, Nat.zero_le _⟩ ?_
  refine tt_if_eq (tgt := 9) X dX8_readingFault_4 (by decide) (fun c4 => ?_) (fun c4 => ?_)
  · rw [if_pos c4] at hs
    refine tt_aload_n X dX8_readingFault_9 rfl ?_
    obtain ⟨o10, f10, hs⟩ := gg_bind hs
    obtain ⟨w10, e10, hs⟩ := gg_bind hs
    refine zr_callV X f10 rfl (c_X6_sort l e10) (fun hts => cwV 0 hts gX8_readingFault_X6_sort rfl rfl rfl (by decide +kernel) ⟨by decide, by decide⟩) rfl rfl (Nat.le_of_ble_eq_true rfl) dX8_readingFault_10 ⟨Nat.zero_le _, Nat.zero_le _⟩ ?_
    refine tt_iload_n X dX8_readingFault_13 rfl ?_
    refine tt_icmp_ne (tgt := 21) X dX8_readingFault_14 (by decide) (fun c14 => ?_) (fun c14 => ?_)
    · rw [if_neg c14] at hs
      refine tt_iconst (v := 2) X dX8_readingFault_21 (by decide) ?_
      obtain rfl := Option.some.inj hs
      exact tt_iret X rfl dX8_readingFault_22 ⟨rfl, rfl⟩
    · rw [if_pos c14] at hs
      refine tt_iconst (v := 0) X dX8_readingFault_17 (by decide) ?_
      refine tt_goto (tgt := 22) X dX8_readingFault_18 (by decide) ?_
      obtain rfl := Option.some.inj hs
      exact tt_iret X rfl dX8_readingFault_22 ⟨rfl, rfl⟩
  · rw [if_neg c4] at hs
    refine tt_iconst (v := 1) X dX8_readingFault_7 (by decide) ?_
    obtain rfl := Option.some.inj hs
    exact tt_iret X rfl dX8_readingFault_8 ⟨rfl, rfl⟩

def s_X8_isLetter (x0 : Int32) (h : tt_H) : Option (Int32 × tt_H) :=
  if x0 < 97 then
    some (0, h)
  else
  if 105 ≤ x0 then
    some (0, h)
  else
  some (1, h)
abbrev rm_X8_isLetter : Room := { frames := 0, cells := 0, slots := 0, locals := 0 }
set_option maxHeartbeats 4000000 in
set_option maxRecDepth 100000 in
theorem c_X8_isLetter (l : Launch) {x0 : Int32} {h : tt_H} {ρ : Int32 × tt_H} (hs : s_X8_isLetter x0 h = some ρ) : tt_M tt_cl l yX8_isLetter wsX8_isLetter rm_X8_isLetter 0 0 false [.int x0] h (tt_ret (some (.int ρ.1)) ρ.2) := by
  refine tt_M.of0 (cc := cX8_isLetter) (maxL := 1) (ret := (some .boolean)) (by decide +kernel) rfl (Nat.le_of_ble_eq_true rfl) ?_
  intro p e s m args below meth c D ca ad n0 sz hwf hsz X hini
  unfold s_X8_isLetter at hs
  refine tt_iload_n X dX8_isLetter_0 rfl ?_
  refine tt_bipush (v := 97) X dX8_isLetter_1 (by decide) ?_
  refine tt_icmp_lt (tgt := 16) X dX8_isLetter_3 (by decide) (fun c3 => ?_) (fun c3 => ?_)
  · rw [if_pos c3] at hs
    refine tt_iconst (v := 0) X dX8_isLetter_16 (by decide) ?_
    obtain rfl := Option.some.inj hs
    exact tt_zret X rfl rfl dX8_isLetter_17 ⟨rfl, rfl⟩
  · rw [if_neg c3] at hs
    refine tt_iload_n X dX8_isLetter_6 rfl ?_
    refine tt_bipush (v := 105) X dX8_isLetter_7 (by decide) ?_
    refine tt_icmp_ge (tgt := 16) X dX8_isLetter_9 (by decide) (fun c9 => ?_) (fun c9 => ?_)
    · rw [if_pos c9] at hs
      refine tt_iconst (v := 0) X dX8_isLetter_16 (by decide) ?_
      obtain rfl := Option.some.inj hs
      exact tt_zret X rfl rfl dX8_isLetter_17 ⟨rfl, rfl⟩
    · rw [if_neg c9] at hs
      refine tt_iconst (v := 1) X dX8_isLetter_12 (by decide) ?_
      refine tt_goto (tgt := 17) X dX8_isLetter_13 (by decide) ?_
      obtain rfl := Option.some.inj hs
      exact tt_zret X rfl rfl dX8_isLetter_17 ⟨rfl, rfl⟩

def s_X8_firstFaultOf_J75 (κ8 : Nat → Int32 → Int32 → Int32 → Int32 → Int32 → tt_H → Option (Int32 × tt_H)) (b0 : Nat) (x1 : Int32) (x2 : Int32) (x3 : Int32) (x4 : Int32) (x5 : Int32) (h : tt_H) : Option (Int32 × tt_H) :=
  κ8 b0 x1 x2 x3 x4 (x5 + 1) h
def s_X8_firstFaultOf_J45 (κ75 : Nat → Int32 → Int32 → Int32 → Int32 → Int32 → tt_H → Option (Int32 × tt_H)) (b0 : Nat) (x1 : Int32) (x2 : Int32) (x3 : Int32) (x4 : Int32) (x5 : Int32) (x6 : Int32) (h : tt_H) : Option (Int32 × tt_H) :=
  if x6 = 59 then
    if x4 ≤ 0 then
      some (x5, h)
    else
    if 6 ≤ x3 then
      some (x5, h)
    else
    κ75 b0 x1 x2 (x3 + 1) 0 x5 h
  else
  some (x5, h)
def s_X8_firstFaultOf_L8 : Nat → Nat → Int32 → Int32 → Int32 → Int32 → Int32 → tt_H → Option (Int32 × tt_H)
  | 0, _, _, _, _, _, _, _ => none
  | n + 1, b0, x1, x2, x3, x4, x5, h =>
    if x2 ≤ x5 then
      if x4 = 0 then
        some (x2, h)
      else
      some ((-9), h)
    else
    (gg_obj h b0 6).bind fun _ =>
    (s_X6_at b0 (x1 + x5) h).bind fun w19 =>
    (s_X8_isLetter w19.1 w19.2).bind fun w26 =>
    if w26.1 = 0 then
      s_X8_firstFaultOf_J45 (s_X8_firstFaultOf_J75 (s_X8_firstFaultOf_L8 n)) b0 x1 x2 x3 x4 x5 w19.1 w26.2
    else
    if 12 ≤ x4 then
      s_X8_firstFaultOf_J45 (s_X8_firstFaultOf_J75 (s_X8_firstFaultOf_L8 n)) b0 x1 x2 x3 x4 x5 w19.1 w26.2
    else
    s_X8_firstFaultOf_J75 (s_X8_firstFaultOf_L8 n) b0 x1 x2 x3 (x4 + 1) x5 w26.2
def s_X8_firstFaultOf (b0 : Nat) (x1 : Int32) (x2 : Int32) (h : tt_H) : Option (Int32 × tt_H) :=
  s_X8_firstFaultOf_L8 1000 b0 x1 x2 1 0 0 h
abbrev rm_X8_firstFaultOf : Room := { frames := 2, cells := 0, slots := 0, locals := 43 }
set_option maxHeartbeats 4000000 in
set_option maxRecDepth 100000 in
theorem c_X8_firstFaultOf (l : Launch) {b0 : Nat} {x1 : Int32} {x2 : Int32} {h : tt_H} {ρ : Int32 × tt_H} (hs : s_X8_firstFaultOf b0 x1 x2 h = some ρ) : tt_M tt_cl l yX8_firstFaultOf wsX8_firstFaultOf rm_X8_firstFaultOf 0 0 false [.ref b0, .int x1, .int x2] h (tt_ret (some (.int ρ.1)) ρ.2) := by
  refine tt_M.of0 (cc := cX8_firstFaultOf) (maxL := 7) (ret := (some .int)) (by decide +kernel) rfl (Nat.le_of_ble_eq_true rfl) ?_
  intro p e s m args below meth c D ca ad n0 sz hwf hsz X hini
  unfold s_X8_firstFaultOf at hs
  have t_8 : ∀ (fu : Nat) (b0 : Nat) (x1 : Int32) (x2 : Int32) (x3 : Int32) (x4 : Int32) (x5 : Int32) (h : tt_H), s_X8_firstFaultOf_L8 fu b0 x1 x2 x3 x4 x5 h = some ρ → tt_T tt_cl (p, l, e, rm_X8_firstFaultOf, s, m, args, below, meth, c, MQ below (tt_Q tt_cl D ca ad n0 sz false (tt_ret (some (.int ρ.1)) ρ.2)) args s 0 0 (tt_A ad n0 sz), D, ca, tt_A ad n0 sz, 7, some n0) ad 0 0 8 [(0, .ref b0), (1, .int x1), (2, .int x2), (3, .int x3), (4, .int x4), (5, .int x5)] [] h := by
    intro fu
    induction fu with
    | zero => intro b0 x1 x2 x3 x4 x5 h hs; exact absurd hs (by rw [s_X8_firstFaultOf_L8]; exact fun q => by cases q)
    | succ n8 ih =>
      intro b0 x1 x2 x3 x4 x5 h hs
      rw [s_X8_firstFaultOf_L8] at hs
      have t_8 := ih
      have t_75 : ∀ (b0 : Nat) (x1 : Int32) (x2 : Int32) (x3 : Int32) (x4 : Int32) (x5 : Int32) (h : tt_H), s_X8_firstFaultOf_J75 (s_X8_firstFaultOf_L8 n8) b0 x1 x2 x3 x4 x5 h = some ρ → tt_T tt_cl (p, l, e, rm_X8_firstFaultOf, s, m, args, below, meth, c, MQ below (tt_Q tt_cl D ca ad n0 sz false (tt_ret (some (.int ρ.1)) ρ.2)) args s 0 0 (tt_A ad n0 sz), D, ca, tt_A ad n0 sz, 7, some n0) ad 0 0 75 [(0, .ref b0), (1, .int x1), (2, .int x2), (3, .int x3), (4, .int x4), (5, .int x5)] [] h := by
        intro b0 x1 x2 x3 x4 x5 h hs
        unfold s_X8_firstFaultOf_J75 at hs
        refine tt_iinc (v := x5 + 1) X dX8_firstFaultOf_75 rfl rfl (Nat.le_of_ble_eq_true rfl) ?_
        refine tt_goto (tgt := 8) X dX8_firstFaultOf_78 (by decide) ?_
        refine tt_drop [0, 1, 2, 3, 4, 5] ?_
        exact t_8 b0 x1 x2 x3 x4 (x5 + 1) h hs
      have t_45 : ∀ (b0 : Nat) (x1 : Int32) (x2 : Int32) (x3 : Int32) (x4 : Int32) (x5 : Int32) (x6 : Int32) (h : tt_H), s_X8_firstFaultOf_J45 (s_X8_firstFaultOf_J75 (s_X8_firstFaultOf_L8 n8)) b0 x1 x2 x3 x4 x5 x6 h = some ρ → tt_T tt_cl (p, l, e, rm_X8_firstFaultOf, s, m, args, below, meth, c, MQ below (tt_Q tt_cl D ca ad n0 sz false (tt_ret (some (.int ρ.1)) ρ.2)) args s 0 0 (tt_A ad n0 sz), D, ca, tt_A ad n0 sz, 7, some n0) ad 0 0 45 [(0, .ref b0), (1, .int x1), (2, .int x2), (3, .int x3), (4, .int x4), (5, .int x5), (6, .int x6)] [] h := by
        intro b0 x1 x2 x3 x4 x5 x6 h hs
        unfold s_X8_firstFaultOf_J45 at hs
        refine tt_iload X dX8_firstFaultOf_45 rfl ?_
        refine tt_bipush (v := 59) X dX8_firstFaultOf_47 (by decide) ?_
        refine tt_icmp_ne (tgt := 72) X dX8_firstFaultOf_49 (by decide) (fun c49 => ?_) (fun c49 => ?_)
        · rw [if_neg c49] at hs
          refine tt_iload X dX8_firstFaultOf_72 rfl ?_
          obtain rfl := Option.some.inj hs
          exact tt_iret X rfl dX8_firstFaultOf_74 ⟨rfl, rfl⟩
        · rw [if_pos c49] at hs
          refine tt_iload X dX8_firstFaultOf_52 rfl ?_
          refine tt_if_le (tgt := 72) X dX8_firstFaultOf_54 (by decide) (fun c54 => ?_) (fun c54 => ?_)
          · rw [if_pos c54] at hs
            refine tt_iload X dX8_firstFaultOf_72 rfl ?_
            obtain rfl := Option.some.inj hs
            exact tt_iret X rfl dX8_firstFaultOf_74 ⟨rfl, rfl⟩
          · rw [if_neg c54] at hs
            refine tt_iload_n X dX8_firstFaultOf_57 rfl ?_
            refine tt_bipush (v := 6) X dX8_firstFaultOf_58 (by decide) ?_
            refine tt_icmp_ge (tgt := 72) X dX8_firstFaultOf_60 (by decide) (fun c60 => ?_) (fun c60 => ?_)
            · rw [if_pos c60] at hs
              refine tt_iload X dX8_firstFaultOf_72 rfl ?_
              obtain rfl := Option.some.inj hs
              exact tt_iret X rfl dX8_firstFaultOf_74 ⟨rfl, rfl⟩
            · rw [if_neg c60] at hs
              refine tt_iinc (v := x3 + 1) X dX8_firstFaultOf_63 rfl rfl (Nat.le_of_ble_eq_true rfl) ?_
              refine tt_iconst (v := 0) X dX8_firstFaultOf_66 (by decide) ?_
              refine tt_istore X dX8_firstFaultOf_67 (Nat.le_of_ble_eq_true rfl) ?_
              refine tt_goto (tgt := 75) X dX8_firstFaultOf_69 (by decide) ?_
              refine tt_drop [0, 1, 2, 3, 4, 5] ?_
              exact t_75 b0 x1 x2 (x3 + 1) 0 x5 h hs
      refine tt_iload X dX8_firstFaultOf_8 rfl ?_
      refine tt_iload_n X dX8_firstFaultOf_10 rfl ?_
      refine tt_icmp_ge (tgt := 81) X dX8_firstFaultOf_11 (by decide) (fun c11 => ?_) (fun c11 => ?_)
      · rw [if_pos c11] at hs
        refine tt_iload X dX8_firstFaultOf_81 rfl ?_
        refine tt_if_ne (tgt := 90) X dX8_firstFaultOf_83 (by decide) (fun c83 => ?_) (fun c83 => ?_)
        · rw [if_neg c83] at hs
          refine tt_bipush (v := (-9)) X dX8_firstFaultOf_90 (by decide) ?_
          obtain rfl := Option.some.inj hs
          exact tt_iret X rfl dX8_firstFaultOf_92 ⟨rfl, rfl⟩
        · rw [if_pos c83] at hs
          refine tt_iload_n X dX8_firstFaultOf_86 rfl ?_
          refine tt_goto (tgt := 92) X dX8_firstFaultOf_87 (by decide) ?_
          obtain rfl := Option.some.inj hs
          exact tt_iret X rfl dX8_firstFaultOf_92 ⟨rfl, rfl⟩
      · rw [if_neg c11] at hs
        refine tt_aload_n X dX8_firstFaultOf_14 rfl ?_
        refine tt_iload_n X dX8_firstFaultOf_15 rfl ?_
        refine tt_iload X dX8_firstFaultOf_16 rfl ?_
        refine tt_iadd X dX8_firstFaultOf_18 ?_
        obtain ⟨o19, f19, hs⟩ := gg_bind hs
        obtain ⟨w19, e19, hs⟩ := gg_bind hs
        refine zr_callV X f19 rfl (c_X6_at l e19) (fun hts => cwV 1 hts gX8_firstFaultOf_X6_at rfl rfl rfl (by decide +kernel) ⟨by decide, by decide⟩) rfl rfl (Nat.le_of_ble_eq_true rfl) dX8_firstFaultOf_19 ⟨Nat.zero_le _, Nat.zero_le _⟩ ?_
        refine tt_istore X dX8_firstFaultOf_22 (Nat.le_of_ble_eq_true rfl) ?_
        refine tt_iload X dX8_firstFaultOf_24 rfl ?_
        obtain ⟨w26, e26, hs⟩ := gg_bind hs
        refine zr_callS X (c_X8_isLetter l e26) (fun hts => va_cwS 1 hts gX8_firstFaultOf_X8_isLetter rfl rfl rfl (by decide +kernel) ⟨by decide, by decide⟩) rfl rfl (Nat.le_of_ble_eq_true rfl) dX8_firstFaultOf_26 ⟨Nat.zero_le _, Nat.zero_le _⟩ ?_
        refine tt_if_eq (tgt := 45) X dX8_firstFaultOf_29 (by decide) (fun c29 => ?_) (fun c29 => ?_)
        · rw [if_pos c29] at hs
          refine tt_drop [0, 1, 2, 3, 4, 5, 6] ?_
          exact t_45 b0 x1 x2 x3 x4 x5 w19.1 w26.2 hs
        · rw [if_neg c29] at hs
          refine tt_iload X dX8_firstFaultOf_32 rfl ?_
          refine tt_bipush (v := 12) X dX8_firstFaultOf_34 (by decide) ?_
          refine tt_icmp_ge (tgt := 45) X dX8_firstFaultOf_36 (by decide) (fun c36 => ?_) (fun c36 => ?_)
          · rw [if_pos c36] at hs
            refine tt_drop [0, 1, 2, 3, 4, 5, 6] ?_
            exact t_45 b0 x1 x2 x3 x4 x5 w19.1 w26.2 hs
          · rw [if_neg c36] at hs
            refine tt_iinc (v := x4 + 1) X dX8_firstFaultOf_39 rfl rfl (Nat.le_of_ble_eq_true rfl) ?_
            refine tt_goto (tgt := 75) X dX8_firstFaultOf_42 (by decide) ?_
            refine tt_drop [0, 1, 2, 3, 4, 5] ?_
            exact t_75 b0 x1 x2 x3 (x4 + 1) x5 w26.2 hs
  refine tt_iconst (v := 1) X dX8_firstFaultOf_0 (by decide) ?_
  refine tt_istore_n X dX8_firstFaultOf_1 (Nat.le_of_ble_eq_true rfl) ?_
  refine tt_iconst (v := 0) X dX8_firstFaultOf_2 (by decide) ?_
  refine tt_istore X dX8_firstFaultOf_3 (Nat.le_of_ble_eq_true rfl) ?_
  refine tt_iconst (v := 0) X dX8_firstFaultOf_5 (by decide) ?_
  refine tt_istore X dX8_firstFaultOf_6 (Nat.le_of_ble_eq_true rfl) ?_
  refine tt_drop [0, 1, 2, 3, 4, 5] ?_
  exact t_8 1000 b0 x1 x2 1 0 0 h hs

theorem in_X8_cryOf_X8 : ∀ w ∈ u_ws RX8 TX8 13, w ∈ wsX8_cryOf := by decide +kernel
def s_X8_cryOf (b0 : Nat) (x1 : Int32) (h : tt_H) : Option (Option Nat × tt_H) :=
  if x1 < 0 then
    some (none, h)
  else
  (gg_fi h b0 8 10).bind fun z6 =>
  if z6 ≤ x1 then
    some (none, h)
  else
  if 6 ≤ x1 then
    some (none, h)
  else
  (gg_fr h b0 8 1).bind fun o19 =>
  (gg_ql 3 h o19 x1).bind fun o23 =>
  some ((some o23), h)
abbrev rm_X8_cryOf : Room := { frames := 0, cells := 0, slots := 0, locals := 0 }
set_option maxHeartbeats 4000000 in
set_option maxRecDepth 100000 in
theorem c_X8_cryOf (l : Launch) {b0 : Nat} {x1 : Int32} {h : tt_H} {ρ : Option Nat × tt_H} (hs : s_X8_cryOf b0 x1 h = some ρ) : tt_M tt_cl l yX8_cryOf wsX8_cryOf rm_X8_cryOf 0 0 false [.ref b0, .int x1] h (tt_ret (some (va_rf ρ.1)) ρ.2) := by
  refine tt_M.of0 (cc := cX8_cryOf) (maxL := 2) (ret := (some (.object "AddedCries$Cry"))) (by decide +kernel) rfl (Nat.le_of_ble_eq_true rfl) ?_
  intro p e s m args below meth c D ca ad n0 sz hwf hsz X hini
  unfold s_X8_cryOf at hs
  refine tt_iload_n X dX8_cryOf_0 rfl ?_
  refine tt_if_lt (tgt := 27) X dX8_cryOf_1 (by decide) (fun c1 => ?_) (fun c1 => ?_)
  · rw [if_pos c1] at hs
    refine tt_null X dX8_cryOf_27 ?_
    obtain rfl := Option.some.inj hs
    exact tt_aret X (tt_rf_or none) rfl dX8_cryOf_28 ⟨rfl, rfl⟩
  · rw [if_neg c1] at hs
    refine tt_iload_n X dX8_cryOf_4 rfl ?_
    refine tt_aload_n X dX8_cryOf_5 rfl ?_
    obtain ⟨z6, e6, hs⟩ := gg_bind hs
    refine zr_fi X e6 rfl in_X8_cryOf_X8 (by decide) (by decide +kernel) rfl dX8_cryOf_6 ?_
    refine tt_icmp_ge (tgt := 27) X dX8_cryOf_9 (by decide) (fun c9 => ?_) (fun c9 => ?_)
    · rw [if_pos c9] at hs
      refine tt_null X dX8_cryOf_27 ?_
      obtain rfl := Option.some.inj hs
      exact tt_aret X (tt_rf_or none) rfl dX8_cryOf_28 ⟨rfl, rfl⟩
    · rw [if_neg c9] at hs
      refine tt_iload_n X dX8_cryOf_12 rfl ?_
      refine tt_bipush (v := 6) X dX8_cryOf_13 (by decide) ?_
      refine tt_icmp_ge (tgt := 27) X dX8_cryOf_15 (by decide) (fun c15 => ?_) (fun c15 => ?_)
      · rw [if_pos c15] at hs
        refine tt_null X dX8_cryOf_27 ?_
        obtain rfl := Option.some.inj hs
        exact tt_aret X (tt_rf_or none) rfl dX8_cryOf_28 ⟨rfl, rfl⟩
      · rw [if_neg c15] at hs
        refine tt_aload_n X dX8_cryOf_18 rfl ?_
        obtain ⟨o19, e19, hs⟩ := gg_bind hs
        refine zr_fr X e19 rfl in_X8_cryOf_X8 (by decide) (by decide +kernel) rfl dX8_cryOf_19 ?_
        refine tt_iload_n X dX8_cryOf_22 rfl ?_
        obtain ⟨o23, e23, hs⟩ := gg_bind hs
        refine zr_ql X e23 rfl dX8_cryOf_23 ?_
        refine tt_goto (tgt := 28) X dX8_cryOf_24 (by decide) ?_
        obtain rfl := Option.some.inj hs
        exact tt_aret X (tt_rf_or (some o23)) rfl dX8_cryOf_28 ⟨rfl, rfl⟩

theorem in_X8_lastCry_X8 : ∀ w ∈ u_ws RX8 TX8 13, w ∈ wsX8_lastCry := by decide +kernel
def s_X8_lastCry (b0 : Nat) (h : tt_H) : Option (Option Nat × tt_H) :=
  (gg_fi h b0 8 10).bind fun z2 =>
  (gg_obj h b0 8).bind fun _ =>
  (s_X8_cryOf b0 (z2 - 1) h).bind fun w7 =>
  some (w7.1, w7.2)
abbrev rm_X8_lastCry : Room := { frames := 1, cells := 0, slots := 0, locals := 21 }
set_option maxHeartbeats 4000000 in
set_option maxRecDepth 100000 in
theorem c_X8_lastCry (l : Launch) {b0 : Nat} {h : tt_H} {ρ : Option Nat × tt_H} (hs : s_X8_lastCry b0 h = some ρ) : tt_M tt_cl l yX8_lastCry wsX8_lastCry rm_X8_lastCry 0 0 false [.ref b0] h (tt_ret (some (va_rf ρ.1)) ρ.2) := by
  refine tt_M.of0 (cc := cX8_lastCry) (maxL := 1) (ret := (some (.object "AddedCries$Cry"))) (by decide +kernel) rfl (Nat.le_of_ble_eq_true rfl) ?_
  intro p e s m args below meth c D ca ad n0 sz hwf hsz X hini
  unfold s_X8_lastCry at hs
  refine tt_aload_n X dX8_lastCry_0 rfl ?_
  refine tt_aload_n X dX8_lastCry_1 rfl ?_
  obtain ⟨z2, e2, hs⟩ := gg_bind hs
  refine zr_fi X e2 rfl in_X8_lastCry_X8 (by decide) (by decide +kernel) rfl dX8_lastCry_2 ?_
  refine tt_iconst (v := 1) X dX8_lastCry_5 (by decide) ?_
  refine tt_isub X dX8_lastCry_6 ?_
  obtain ⟨o7, f7, hs⟩ := gg_bind hs
  obtain ⟨w7, e7, hs⟩ := gg_bind hs
  refine zr_callV X f7 rfl (c_X8_cryOf l e7) (fun hts => cwV 1 hts gX8_lastCry_X8_cryOf rfl rfl rfl (by decide +kernel) ⟨by decide, by decide⟩) rfl rfl (Nat.le_of_ble_eq_true rfl) dX8_lastCry_7 ⟨Nat.zero_le _, Nat.zero_le _⟩ ?_
  obtain rfl := Option.some.inj hs
  exact tt_aret X (tt_rf_or w7.1) rfl dX8_lastCry_10 ⟨rfl, rfl⟩

theorem in_X8_beginDay_X8 : ∀ w ∈ u_ws RX8 TX8 13, w ∈ wsX8_beginDay := by decide +kernel
def s_X8_beginDay (b0 : Nat) (h : tt_H) : Option (Unit × tt_H) :=
  (gg_fi h b0 8 10).bind fun z1 =>
  if z1 < 6 then
    (gg_fi h b0 8 10).bind fun z12 =>
    (gg_put h b0 8 10 (.int (z12 + 1))).bind fun h17 =>
    (gg_obj h17 b0 8).bind fun _ =>
    (s_X8_lastCry b0 h17).bind fun w21 =>
    gg_opt w21.1 (
      some ((), w21.2)
    ) fun b26 =>
    (gg_obj w21.2 b26 2).bind fun _ =>
    (s_X2_clear b26 w21.2).bind fun w30 =>
    some ((), w30.2)
  else
  some ((), h)
abbrev rm_X8_beginDay : Room := { frames := 2, cells := 0, slots := 0, locals := 41 }
set_option maxHeartbeats 4000000 in
set_option maxRecDepth 100000 in
theorem c_X8_beginDay (l : Launch) {b0 : Nat} {h : tt_H} {ρ : Unit × tt_H} (hs : s_X8_beginDay b0 h = some ρ) : tt_M tt_cl l yX8_beginDay wsX8_beginDay rm_X8_beginDay 0 0 false [.ref b0] h (tt_ret (none) ρ.2) := by
  refine tt_M.of0 (cc := cX8_beginDay) (maxL := 2) (ret := none) (by decide +kernel) rfl (Nat.le_of_ble_eq_true rfl) ?_
  intro p e s m args below meth c D ca ad n0 sz hwf hsz X hini
  unfold s_X8_beginDay at hs
  refine tt_aload_n X dX8_beginDay_0 rfl ?_
  obtain ⟨z1, e1, hs⟩ := gg_bind hs
  refine zr_fi X e1 rfl in_X8_beginDay_X8 (by decide) (by decide +kernel) rfl dX8_beginDay_1 ?_
  refine tt_bipush (v := 6) X dX8_beginDay_4 (by decide) ?_
  refine tt_icmp_lt (tgt := 10) X dX8_beginDay_6 (by decide) (fun c6 => ?_) (fun c6 => ?_)
  · rw [if_pos c6] at hs
    refine tt_aload_n X dX8_beginDay_10 rfl ?_
    refine tt_dup X dX8_beginDay_11 rfl ?_
    obtain ⟨z12, e12, hs⟩ := gg_bind hs
    refine zr_fi X e12 rfl in_X8_beginDay_X8 (by decide) (by decide +kernel) rfl dX8_beginDay_12 ?_
    refine tt_iconst (v := 1) X dX8_beginDay_15 (by decide) ?_
    refine tt_iadd X dX8_beginDay_16 ?_
    obtain ⟨h17, e17, hs⟩ := gg_bind hs
    refine zr_put X e17 rfl in_X8_beginDay_X8 tyX8 tyX8_ok nmX8 (by decide) (by decide +kernel) rfl rfl (fun _ => rfl) (fun _ => rfl) dX8_beginDay_17 ?_
    refine tt_aload_n X dX8_beginDay_20 rfl ?_
    obtain ⟨o21, f21, hs⟩ := gg_bind hs
    obtain ⟨w21, e21, hs⟩ := gg_bind hs
    refine zr_callV X f21 rfl (c_X8_lastCry l e21) (fun hts => cwV 0 hts gX8_beginDay_X8_lastCry rfl rfl rfl (by decide +kernel) ⟨by decide, by decide⟩) rfl rfl (Nat.le_of_ble_eq_true rfl) dX8_beginDay_21 ⟨Nat.zero_le _, Nat.zero_le _⟩ ?_
    refine zr_astore_n X w21.1 dX8_beginDay_24 (Nat.le_of_ble_eq_true rfl) ?_
    refine zr_aload_n X w21.1 dX8_beginDay_25 rfl ?_
    cases hr26 : w21.1 with
    | none =>
      rw [hr26, gg_opt_none] at hs
      refine tt_ifnullN (tgt := 33) X dX8_beginDay_26 (by decide) ?_
      obtain rfl := Option.some.inj hs
      exact tt_vret X rfl dX8_beginDay_33 ⟨rfl, rfl⟩
    | some b26 =>
      rw [hr26, gg_opt_some] at hs
      refine tt_ifnull X dX8_beginDay_26 ?_
      refine tt_aload_n X dX8_beginDay_29 rfl ?_
      obtain ⟨o30, f30, hs⟩ := gg_bind hs
      obtain ⟨w30, e30, hs⟩ := gg_bind hs
      refine zr_callV X f30 rfl (c_X2_clear l e30) (fun hts => cwV 0 hts gX8_beginDay_X2_clear rfl rfl rfl (by decide +kernel) ⟨by decide, by decide⟩) rfl rfl (Nat.le_of_ble_eq_true rfl) dX8_beginDay_30 ⟨Nat.zero_le _, Nat.zero_le _⟩ ?_
      obtain rfl := Option.some.inj hs
      exact tt_vret X rfl dX8_beginDay_33 ⟨rfl, rfl⟩
  · rw [if_neg c6] at hs
    obtain rfl := Option.some.inj hs
    exact tt_vret X rfl dX8_beginDay_9 ⟨rfl, rfl⟩

theorem in_X8_takeText_X8 : ∀ w ∈ u_ws RX8 TX8 13, w ∈ wsX8_takeText := by decide +kernel
def s_X8_takeText_J76 (κ12 : Nat → Nat → Int32 → Int32 → Int32 → tt_H → Option (Unit × tt_H)) (b0 : Nat) (b1 : Nat) (x2 : Int32) (x3 : Int32) (x4 : Int32) (h : tt_H) : Option (Unit × tt_H) :=
  κ12 b0 b1 x2 x3 (x4 + 1) h
def s_X8_takeText_L12 : Nat → Nat → Nat → Int32 → Int32 → Int32 → tt_H → Option (Unit × tt_H)
  | 0, _, _, _, _, _, _ => none
  | n + 1, b0, b1, x2, x3, x4, h =>
    if x3 ≤ x4 then
      some ((), h)
    else
    (gg_obj h b1 6).bind fun _ =>
    (s_X6_at b1 (x2 + x4) h).bind fun w23 =>
    (gg_obj w23.2 b0 8).bind fun _ =>
    (s_X8_lastCry b0 w23.2).bind fun w29 =>
    if w23.1 = 59 then
      (gg_obj w29.2 b0 8).bind fun _ =>
      (s_X8_beginDay b0 w29.2).bind fun w42 =>
      s_X8_takeText_J76 (s_X8_takeText_L12 n) b0 b1 x2 x3 x4 w42.2
    else
    gg_opt w29.1 (
      s_X8_takeText_J76 (s_X8_takeText_L12 n) b0 b1 x2 x3 x4 w29.2
    ) fun b50 =>
    (s_X8_isLetter w23.1 w29.2).bind fun w55 =>
    if w55.1 = 0 then
      s_X8_takeText_J76 (s_X8_takeText_L12 n) b0 b1 x2 x3 x4 w55.2
    else
    (gg_obj w55.2 b50 2).bind fun _ =>
    (s_X2_size b50 w55.2).bind fun w65 =>
    (gg_obj w65.2 b50 2).bind fun _ =>
    (s_X2_insert b50 w65.1 (w23.1 - 97) w65.2).bind fun w73 =>
    s_X8_takeText_J76 (s_X8_takeText_L12 n) b0 b1 x2 x3 x4 w73.2
def s_X8_takeText (b0 : Nat) (b1 : Nat) (x2 : Int32) (x3 : Int32) (h : tt_H) : Option (Unit × tt_H) :=
  (gg_put h b0 8 10 (.int 0)).bind fun h2 =>
  (gg_obj h2 b0 8).bind fun _ =>
  (s_X8_beginDay b0 h2).bind fun w6 =>
  s_X8_takeText_L12 1000 b0 b1 x2 x3 0 w6.2
abbrev rm_X8_takeText : Room := { frames := 3, cells := 0, slots := 0, locals := 62 }
set_option maxHeartbeats 4000000 in
set_option maxRecDepth 100000 in
theorem c_X8_takeText (l : Launch) {b0 : Nat} {b1 : Nat} {x2 : Int32} {x3 : Int32} {h : tt_H} {ρ : Unit × tt_H} (hs : s_X8_takeText b0 b1 x2 x3 h = some ρ) : tt_M tt_cl l yX8_takeText wsX8_takeText rm_X8_takeText 0 0 false [.ref b0, .ref b1, .int x2, .int x3] h (tt_ret (none) ρ.2) := by
  refine tt_M.of0 (cc := cX8_takeText) (maxL := 7) (ret := none) (by decide +kernel) rfl (Nat.le_of_ble_eq_true rfl) ?_
  intro p e s m args below meth c D ca ad n0 sz hwf hsz X hini
  unfold s_X8_takeText at hs
  have t_12 : ∀ (fu : Nat) (b0 : Nat) (b1 : Nat) (x2 : Int32) (x3 : Int32) (x4 : Int32) (h : tt_H), s_X8_takeText_L12 fu b0 b1 x2 x3 x4 h = some ρ → tt_T tt_cl (p, l, e, rm_X8_takeText, s, m, args, below, meth, c, MQ below (tt_Q tt_cl D ca ad n0 sz false (tt_ret (none) ρ.2)) args s 0 0 (tt_A ad n0 sz), D, ca, tt_A ad n0 sz, 7, some n0) ad 0 0 12 [(0, .ref b0), (1, .ref b1), (2, .int x2), (3, .int x3), (4, .int x4)] [] h := by
    intro fu
    induction fu with
    | zero => intro b0 b1 x2 x3 x4 h hs; exact absurd hs (by rw [s_X8_takeText_L12]; exact fun q => by cases q)
    | succ n12 ih =>
      intro b0 b1 x2 x3 x4 h hs
      rw [s_X8_takeText_L12] at hs
      have t_12 := ih
      have t_76 : ∀ (b0 : Nat) (b1 : Nat) (x2 : Int32) (x3 : Int32) (x4 : Int32) (h : tt_H), s_X8_takeText_J76 (s_X8_takeText_L12 n12) b0 b1 x2 x3 x4 h = some ρ → tt_T tt_cl (p, l, e, rm_X8_takeText, s, m, args, below, meth, c, MQ below (tt_Q tt_cl D ca ad n0 sz false (tt_ret (none) ρ.2)) args s 0 0 (tt_A ad n0 sz), D, ca, tt_A ad n0 sz, 7, some n0) ad 0 0 76 [(0, .ref b0), (1, .ref b1), (2, .int x2), (3, .int x3), (4, .int x4)] [] h := by
        intro b0 b1 x2 x3 x4 h hs
        unfold s_X8_takeText_J76 at hs
        refine tt_iinc (v := x4 + 1) X dX8_takeText_76 rfl rfl (Nat.le_of_ble_eq_true rfl) ?_
        refine tt_goto (tgt := 12) X dX8_takeText_79 (by decide) ?_
        refine tt_drop [0, 1, 2, 3, 4] ?_
        exact t_12 b0 b1 x2 x3 (x4 + 1) h hs
      refine tt_iload X dX8_takeText_12 rfl ?_
      refine tt_iload_n X dX8_takeText_14 rfl ?_
      refine tt_icmp_ge (tgt := 82) X dX8_takeText_15 (by decide) (fun c15 => ?_) (fun c15 => ?_)
      · rw [if_pos c15] at hs
        obtain rfl := Option.some.inj hs
        exact tt_vret X rfl dX8_takeText_82 ⟨rfl, rfl⟩
      · rw [if_neg c15] at hs
        refine tt_aload_n X dX8_takeText_18 rfl ?_
        refine tt_iload_n X dX8_takeText_19 rfl ?_
        refine tt_iload X dX8_takeText_20 rfl ?_
        refine tt_iadd X dX8_takeText_22 ?_
        obtain ⟨o23, f23, hs⟩ := gg_bind hs
        obtain ⟨w23, e23, hs⟩ := gg_bind hs
        refine zr_callV X f23 rfl (c_X6_at l e23) (fun hts => cwV 1 hts gX8_takeText_X6_at rfl rfl rfl (by decide +kernel) ⟨by decide, by decide⟩) rfl rfl (Nat.le_of_ble_eq_true rfl) dX8_takeText_23 ⟨Nat.zero_le _, Nat.zero_le _⟩ ?_
        refine tt_istore X dX8_takeText_26 (Nat.le_of_ble_eq_true rfl) ?_
        refine tt_aload_n X dX8_takeText_28 rfl ?_
        obtain ⟨o29, f29, hs⟩ := gg_bind hs
        obtain ⟨w29, e29, hs⟩ := gg_bind hs
        refine zr_callV X f29 rfl (c_X8_lastCry l e29) (fun hts => cwV 0 hts gX8_takeText_X8_lastCry rfl rfl rfl (by decide +kernel) ⟨by decide, by decide⟩) rfl rfl (Nat.le_of_ble_eq_true rfl) dX8_takeText_29 ⟨Nat.zero_le _, Nat.zero_le _⟩ ?_
        refine zr_astore X w29.1 dX8_takeText_32 (Nat.le_of_ble_eq_true rfl) ?_
        refine tt_iload X dX8_takeText_34 rfl ?_
        refine tt_bipush (v := 59) X dX8_takeText_36 (by decide) ?_
        refine tt_icmp_ne (tgt := 48) X dX8_takeText_38 (by decide) (fun c38 => ?_) (fun c38 => ?_)
        · rw [if_neg c38] at hs
          refine zr_aload X w29.1 dX8_takeText_48 rfl ?_
          cases hr50 : w29.1 with
          | none =>
            rw [hr50, gg_opt_none] at hs
            refine tt_ifnullN (tgt := 76) X dX8_takeText_50 (by decide) ?_
            refine tt_drop [0, 1, 2, 3, 4] ?_
            exact t_76 b0 b1 x2 x3 x4 w29.2 hs
          | some b50 =>
            rw [hr50, gg_opt_some] at hs
            refine tt_ifnull X dX8_takeText_50 ?_
            refine tt_iload X dX8_takeText_53 rfl ?_
            obtain ⟨w55, e55, hs⟩ := gg_bind hs
            refine zr_callS X (c_X8_isLetter l e55) (fun hts => va_cwS 1 hts gX8_takeText_X8_isLetter rfl rfl rfl (by decide +kernel) ⟨by decide, by decide⟩) rfl rfl (Nat.le_of_ble_eq_true rfl) dX8_takeText_55 ⟨Nat.zero_le _, Nat.zero_le _⟩ ?_
            refine tt_if_eq (tgt := 76) X dX8_takeText_58 (by decide) (fun c58 => ?_) (fun c58 => ?_)
            · rw [if_pos c58] at hs
              refine tt_drop [0, 1, 2, 3, 4] ?_
              exact t_76 b0 b1 x2 x3 x4 w55.2 hs
            · rw [if_neg c58] at hs
              refine tt_aload X dX8_takeText_61 rfl ?_
              refine tt_aload X dX8_takeText_63 rfl ?_
              obtain ⟨o65, f65, hs⟩ := gg_bind hs
              obtain ⟨w65, e65, hs⟩ := gg_bind hs
              refine zr_callV X f65 rfl (c_X2_size l e65) (fun hts => cwV 0 hts gX8_takeText_X2_size rfl rfl rfl (by decide +kernel) ⟨by decide, by decide⟩) rfl rfl (Nat.le_of_ble_eq_true rfl) dX8_takeText_65 ⟨Nat.zero_le _, Nat.zero_le _⟩ ?_
              refine tt_iload X dX8_takeText_68 rfl ?_
              refine tt_bipush (v := 97) X dX8_takeText_70 (by decide) ?_
              refine tt_isub X dX8_takeText_72 ?_
              obtain ⟨o73, f73, hs⟩ := gg_bind hs
              obtain ⟨w73, e73, hs⟩ := gg_bind hs
              refine zr_callV X f73 rfl (c_X2_insert l e73) (fun hts => cwV 2 hts gX8_takeText_X2_insert rfl rfl rfl (by decide +kernel) ⟨by decide, by decide⟩) rfl rfl (Nat.le_of_ble_eq_true rfl) dX8_takeText_73 ⟨Nat.zero_le _, Nat.zero_le _⟩ ?_
              refine tt_drop [0, 1, 2, 3, 4] ?_
              exact t_76 b0 b1 x2 x3 x4 w73.2 hs
        · rw [if_pos c38] at hs
          refine tt_aload_n X dX8_takeText_41 rfl ?_
          obtain ⟨o42, f42, hs⟩ := gg_bind hs
          obtain ⟨w42, e42, hs⟩ := gg_bind hs
          refine zr_callV X f42 rfl (c_X8_beginDay l e42) (fun hts => cwV 0 hts gX8_takeText_X8_beginDay rfl rfl rfl (by decide +kernel) ⟨by decide, by decide⟩) rfl rfl (Nat.le_of_ble_eq_true rfl) dX8_takeText_42 ⟨Nat.zero_le _, Nat.zero_le _⟩ ?_
          refine tt_goto (tgt := 76) X dX8_takeText_45 (by decide) ?_
          refine tt_drop [0, 1, 2, 3, 4] ?_
          exact t_76 b0 b1 x2 x3 x4 w42.2 hs
  refine tt_aload_n X dX8_takeText_0 rfl ?_
  refine tt_iconst (v := 0) X dX8_takeText_1 (by decide) ?_
  obtain ⟨h2, e2, hs⟩ := gg_bind hs
  refine zr_put X e2 rfl in_X8_takeText_X8 tyX8 tyX8_ok nmX8 (by decide) (by decide +kernel) rfl rfl (fun _ => rfl) (fun _ => rfl) dX8_takeText_2 ?_
  refine tt_aload_n X dX8_takeText_5 rfl ?_
  obtain ⟨o6, f6, hs⟩ := gg_bind hs
  obtain ⟨w6, e6, hs⟩ := gg_bind hs
  refine zr_callV X f6 rfl (c_X8_beginDay l e6) (fun hts => cwV 0 hts gX8_takeText_X8_beginDay rfl rfl rfl (by decide +kernel) ⟨by decide, by decide⟩) rfl rfl (Nat.le_of_ble_eq_true rfl) dX8_takeText_6 ⟨Nat.zero_le _, Nat.zero_le _⟩ ?_
  refine tt_iconst (v := 0) X dX8_takeText_9 (by decide) ?_
  refine tt_istore X dX8_takeText_10 (Nat.le_of_ble_eq_true rfl) ?_
  refine tt_drop [0, 1, 2, 3, 4] ?_
  exact t_12 1000 b0 b1 x2 x3 0 w6.2 hs

theorem in_X8_cries_X8 : ∀ w ∈ u_ws RX8 TX8 13, w ∈ wsX8_cries := by decide +kernel
def s_X8_cries (b0 : Nat) (x1 : Int32) (x2 : Int32) (x3 : Int32) (x4 : Int32) (h : tt_H) : Option (Int32 × tt_H) :=
  (gg_put h b0 8 12 (.int 0)).bind fun h2 =>
  (gg_obj h2 b0 8).bind fun _ =>
  (s_X8_sheetOf b0 x1 h2).bind fun w7 =>
  gg_opt w7.1 (
    some ((-1), w7.2)
  ) fun b14 =>
  (s_X8_isSort x2 w7.2).bind fun w20 =>
  if w20.1 = 0 then
    some ((-2), w20.2)
  else
  (s_X8_readingFault b14 x2 w20.2).bind fun w32 =>
  if w32.1 = 0 then
    if 0 ≤ x4 then
      (gg_obj w32.2 b14 6).bind fun _ =>
      (s_X6_hasCells b14 x3 x4 w32.2).bind fun w65 =>
      if w65.1 = 0 then
        (gg_obj w65.2 b0 8).bind fun _ =>
        (s_X8_fails b0 3 w65.2).bind fun w73 =>
        some (w73.1, w73.2)
      else
      (s_X8_firstFaultOf b14 x3 x4 w65.2).bind fun w82 =>
      if w82.1 = ((-9)) then
        (gg_obj w82.2 b0 8).bind fun _ =>
        (s_X8_takeText b0 b14 x3 x4 w82.2).bind fun w106 =>
        (gg_fi w106.2 b0 8 10).bind fun z110 =>
        some (z110, w106.2)
      else
      some (((-100)) - w82.1, w82.2)
    else
    (gg_obj w32.2 b0 8).bind fun _ =>
    (s_X8_fails b0 4 w32.2).bind fun w56 =>
    some (w56.1, w56.2)
  else
  (gg_obj w32.2 b0 8).bind fun _ =>
  (s_X8_fails b0 w32.1 w32.2).bind fun w45 =>
  some (w45.1, w45.2)
abbrev rm_X8_cries : Room := { frames := 4, cells := 0, slots := 0, locals := 88 }
set_option maxHeartbeats 4000000 in
set_option maxRecDepth 100000 in
theorem c_X8_cries (l : Launch) {b0 : Nat} {x1 : Int32} {x2 : Int32} {x3 : Int32} {x4 : Int32} {h : tt_H} {ρ : Int32 × tt_H} (hs : s_X8_cries b0 x1 x2 x3 x4 h = some ρ) : tt_M tt_cl l yX8_cries wsX8_cries rm_X8_cries 0 0 false [.ref b0, .int x1, .int x2, .int x3, .int x4] h (tt_ret (some (.int ρ.1)) ρ.2) := by
  refine tt_M.of0 (cc := cX8_cries) (maxL := 8) (ret := (some .int)) (by decide +kernel) rfl (Nat.le_of_ble_eq_true rfl) ?_
  intro p e s m args below meth c D ca ad n0 sz hwf hsz X hini
  unfold s_X8_cries at hs
  refine tt_aload_n X dX8_cries_0 rfl ?_
  refine tt_iconst (v := 0) X dX8_cries_1 (by decide) ?_
  obtain ⟨h2, e2, hs⟩ := gg_bind hs
  refine zr_put X e2 rfl in_X8_cries_X8 tyX8 tyX8_ok nmX8 (by decide) (by decide +kernel) rfl rfl (fun _ => rfl) (fun _ => rfl) dX8_cries_2 ?_
  refine tt_aload_n X dX8_cries_5 rfl ?_
  refine tt_iload_n X dX8_cries_6 rfl ?_
  obtain ⟨o7, f7, hs⟩ := gg_bind hs
  obtain ⟨w7, e7, hs⟩ := gg_bind hs
  refine zr_callV X f7 rfl (c_X8_sheetOf l e7) (fun hts => cwV 1 hts gX8_cries_X8_sheetOf rfl rfl rfl (by decide +kernel) ⟨by decide, by decide⟩) rfl rfl (Nat.le_of_ble_eq_true rfl) dX8_cries_7 ⟨Nat.zero_le _, Nat.zero_le _⟩ ?_
  refine zr_astore X w7.1 dX8_cries_10 (Nat.le_of_ble_eq_true rfl) ?_
  refine zr_aload X w7.1 dX8_cries_12 rfl ?_
  cases hr14 : w7.1 with
  | none =>
    rw [hr14, gg_opt_none] at hs
    refine tt_ifnonnullN X dX8_cries_14 ?_
    refine tt_iconst (v := (-1)) X dX8_cries_17 (by decide) ?_
    obtain rfl := Option.some.inj hs
    exact tt_iret X rfl dX8_cries_18 ⟨rfl, rfl⟩
  | some b14 =>
    rw [hr14, gg_opt_some] at hs
    refine tt_ifnonnull (tgt := 19) X dX8_cries_14 (by decide) ?_
    refine tt_iload_n X dX8_cries_19 rfl ?_
    obtain ⟨w20, e20, hs⟩ := gg_bind hs
    refine zr_callS X (c_X8_isSort l e20) (fun hts => va_cwS 1 hts gX8_cries_X8_isSort rfl rfl rfl (by decide +kernel) ⟨by decide, by decide⟩) rfl rfl (Nat.le_of_ble_eq_true rfl) dX8_cries_20 ⟨Nat.zero_le _, Nat.zero_le _⟩ ?_
    refine tt_if_ne (tgt := 29) X dX8_cries_23 (by decide) (fun c23 => ?_) (fun c23 => ?_)
    · rw [if_neg c23] at hs
      refine tt_aload X dX8_cries_29 rfl ?_
      refine tt_iload_n X dX8_cries_31 rfl ?_
      obtain ⟨w32, e32, hs⟩ := gg_bind hs
      refine zr_callS X (c_X8_readingFault l e32) (fun hts => va_cwS 2 hts gX8_cries_X8_readingFault rfl rfl rfl (by decide +kernel) ⟨by decide, by decide⟩) rfl rfl (Nat.le_of_ble_eq_true rfl) dX8_cries_32 ⟨Nat.zero_le _, Nat.zero_le _⟩ ?_
      refine tt_istore X dX8_cries_35 (Nat.le_of_ble_eq_true rfl) ?_
      refine tt_iload X dX8_cries_37 rfl ?_
      refine tt_if_eq (tgt := 49) X dX8_cries_39 (by decide) (fun c39 => ?_) (fun c39 => ?_)
      · rw [if_pos c39] at hs
        refine tt_iload X dX8_cries_49 rfl ?_
        refine tt_if_ge (tgt := 60) X dX8_cries_51 (by decide) (fun c51 => ?_) (fun c51 => ?_)
        · rw [if_pos c51] at hs
          refine tt_aload X dX8_cries_60 rfl ?_
          refine tt_iload_n X dX8_cries_62 rfl ?_
          refine tt_iload X dX8_cries_63 rfl ?_
          obtain ⟨o65, f65, hs⟩ := gg_bind hs
          obtain ⟨w65, e65, hs⟩ := gg_bind hs
          refine zr_callV X f65 rfl (c_X6_hasCells l e65) (fun hts => cwV 2 hts gX8_cries_X6_hasCells rfl rfl rfl (by decide +kernel) ⟨by decide, by decide⟩) rfl rfl (Nat.le_of_ble_eq_true rfl) dX8_cries_65 ⟨Nat.zero_le _, Nat.zero_le _⟩ ?_
          refine tt_if_ne (tgt := 77) X dX8_cries_68 (by decide) (fun c68 => ?_) (fun c68 => ?_)
          · rw [if_neg c68] at hs
            refine tt_aload X dX8_cries_77 rfl ?_
            refine tt_iload_n X dX8_cries_79 rfl ?_
            refine tt_iload X dX8_cries_80 rfl ?_
            obtain ⟨w82, e82, hs⟩ := gg_bind hs
            refine zr_callS X (c_X8_firstFaultOf l e82) (fun hts => va_cwS 3 hts gX8_cries_X8_firstFaultOf rfl rfl rfl (by decide +kernel) ⟨by decide, by decide⟩) rfl rfl (Nat.le_of_ble_eq_true rfl) dX8_cries_82 ⟨Nat.zero_le _, Nat.zero_le _⟩ ?_
            refine tt_istore X dX8_cries_85 (Nat.le_of_ble_eq_true rfl) ?_
            refine tt_iload X dX8_cries_87 rfl ?_
            refine tt_bipush (v := (-9)) X dX8_cries_89 (by decide) ?_
            refine tt_icmp_eq (tgt := 100) X dX8_cries_91 (by decide) (fun c91 => ?_) (fun c91 => ?_)
            · rw [if_pos c91] at hs
              refine tt_aload_n X dX8_cries_100 rfl ?_
              refine tt_aload X dX8_cries_101 rfl ?_
              refine tt_iload_n X dX8_cries_103 rfl ?_
              refine tt_iload X dX8_cries_104 rfl ?_
              obtain ⟨o106, f106, hs⟩ := gg_bind hs
              obtain ⟨w106, e106, hs⟩ := gg_bind hs
              refine zr_callV X f106 rfl (c_X8_takeText l e106) (fun hts => cwV 3 hts gX8_cries_X8_takeText rfl rfl rfl (by decide +kernel) ⟨by decide, by decide⟩) rfl rfl (Nat.le_of_ble_eq_true rfl) dX8_cries_106 ⟨Nat.zero_le _, Nat.zero_le _⟩ ?_
              refine tt_aload_n X dX8_cries_109 rfl ?_
              obtain ⟨z110, e110, hs⟩ := gg_bind hs
              refine zr_fi X e110 rfl in_X8_cries_X8 (by decide) (by decide +kernel) rfl dX8_cries_110 ?_
              obtain rfl := Option.some.inj hs
              exact tt_iret X rfl dX8_cries_113 ⟨rfl, rfl⟩
            · rw [if_neg c91] at hs
              refine tt_bipush (v := (-100)) X dX8_cries_94 (by decide) ?_
              refine tt_iload X dX8_cries_96 rfl ?_
              refine tt_isub X dX8_cries_98 ?_
              obtain rfl := Option.some.inj hs
              exact tt_iret X rfl dX8_cries_99 ⟨rfl, rfl⟩
          · rw [if_pos c68] at hs
            refine tt_aload_n X dX8_cries_71 rfl ?_
            refine tt_iconst (v := 3) X dX8_cries_72 (by decide) ?_
            obtain ⟨o73, f73, hs⟩ := gg_bind hs
            obtain ⟨w73, e73, hs⟩ := gg_bind hs
            refine zr_callV X f73 rfl (c_X8_fails l e73) (fun hts => cwV 1 hts gX8_cries_X8_fails rfl rfl rfl (by decide +kernel) ⟨by decide, by decide⟩) rfl rfl (Nat.le_of_ble_eq_true rfl) dX8_cries_73 ⟨Nat.zero_le _, Nat.zero_le _⟩ ?_
            obtain rfl := Option.some.inj hs
            exact tt_iret X rfl dX8_cries_76 ⟨rfl, rfl⟩
        · rw [if_neg c51] at hs
          refine tt_aload_n X dX8_cries_54 rfl ?_
          refine tt_iconst (v := 4) X dX8_cries_55 (by decide) ?_
          obtain ⟨o56, f56, hs⟩ := gg_bind hs
          obtain ⟨w56, e56, hs⟩ := gg_bind hs
          refine zr_callV X f56 rfl (c_X8_fails l e56) (fun hts => cwV 1 hts gX8_cries_X8_fails rfl rfl rfl (by decide +kernel) ⟨by decide, by decide⟩) rfl rfl (Nat.le_of_ble_eq_true rfl) dX8_cries_56 ⟨Nat.zero_le _, Nat.zero_le _⟩ ?_
          obtain rfl := Option.some.inj hs
          exact tt_iret X rfl dX8_cries_59 ⟨rfl, rfl⟩
      · rw [if_neg c39] at hs
        refine tt_aload_n X dX8_cries_42 rfl ?_
        refine tt_iload X dX8_cries_43 rfl ?_
        obtain ⟨o45, f45, hs⟩ := gg_bind hs
        obtain ⟨w45, e45, hs⟩ := gg_bind hs
        refine zr_callV X f45 rfl (c_X8_fails l e45) (fun hts => cwV 1 hts gX8_cries_X8_fails rfl rfl rfl (by decide +kernel) ⟨by decide, by decide⟩) rfl rfl (Nat.le_of_ble_eq_true rfl) dX8_cries_45 ⟨Nat.zero_le _, Nat.zero_le _⟩ ?_
        obtain rfl := Option.some.inj hs
        exact tt_iret X rfl dX8_cries_48 ⟨rfl, rfl⟩
    · rw [if_pos c23] at hs
      refine tt_bipush (v := (-2)) X dX8_cries_26 (by decide) ?_
      obtain rfl := Option.some.inj hs
      exact tt_iret X rfl dX8_cries_28 ⟨rfl, rfl⟩

theorem in_X8_many_X8 : ∀ w ∈ u_ws RX8 TX8 13, w ∈ wsX8_many := by decide +kernel
def s_X8_many (b0 : Nat) (h : tt_H) : Option (Int32 × tt_H) :=
  (gg_fi h b0 8 10).bind fun z1 =>
  some (z1, h)
abbrev rm_X8_many : Room := { frames := 0, cells := 0, slots := 0, locals := 0 }
set_option maxHeartbeats 4000000 in
set_option maxRecDepth 100000 in
theorem c_X8_many (l : Launch) {b0 : Nat} {h : tt_H} {ρ : Int32 × tt_H} (hs : s_X8_many b0 h = some ρ) : tt_M tt_cl l yX8_many wsX8_many rm_X8_many 0 0 false [.ref b0] h (tt_ret (some (.int ρ.1)) ρ.2) := by
  refine tt_M.of0 (cc := cX8_many) (maxL := 1) (ret := (some .int)) (by decide +kernel) rfl (Nat.le_of_ble_eq_true rfl) ?_
  intro p e s m args below meth c D ca ad n0 sz hwf hsz X hini
  unfold s_X8_many at hs
  refine tt_aload_n X dX8_many_0 rfl ?_
  obtain ⟨z1, e1, hs⟩ := gg_bind hs
  refine zr_fi X e1 rfl in_X8_many_X8 (by decide) (by decide +kernel) rfl dX8_many_1 ?_
  obtain rfl := Option.some.inj hs
  exact tt_iret X rfl dX8_many_4 ⟨rfl, rfl⟩

theorem in_X8_leftOut_X8 : ∀ w ∈ u_ws RX8 TX8 13, w ∈ wsX8_leftOut := by decide +kernel
def s_X8_leftOut_J46 (κ2 : Nat → Int32 → tt_H → Option (Int32 × tt_H)) (b0 : Nat) (x1 : Int32) (h : tt_H) : Option (Int32 × tt_H) :=
  κ2 b0 (x1 + 1) h
def s_X8_leftOut_L2 : Nat → Nat → Int32 → tt_H → Option (Int32 × tt_H)
  | 0, _, _, _ => none
  | n + 1, b0, x1, h =>
    (gg_fi h b0 8 10).bind fun z4 =>
    if z4 ≤ x1 then
      some ((-9), h)
    else
    (gg_obj h b0 8).bind fun _ =>
    (s_X8_cryOf b0 (x1 - 1) h).bind fun w14 =>
    (gg_obj w14.2 b0 8).bind fun _ =>
    (s_X8_cryOf b0 x1 w14.2).bind fun w20 =>
    gg_opt w14.1 (
      s_X8_leftOut_J46 (s_X8_leftOut_L2 n) b0 x1 w20.2
    ) fun b25 =>
    gg_opt w20.1 (
      s_X8_leftOut_J46 (s_X8_leftOut_L2 n) b0 x1 w20.2
    ) fun b29 =>
    (gg_fr w20.2 b0 8 4).bind fun o33 =>
    (gg_obj w20.2 o33 3).bind fun _ =>
    (s_X3_make o33 b25 b29 w20.2).bind fun w38 =>
    if w38.1 = 0 then
      some (x1, w38.2)
    else
    s_X8_leftOut_J46 (s_X8_leftOut_L2 n) b0 x1 w38.2
def s_X8_leftOut (b0 : Nat) (h : tt_H) : Option (Int32 × tt_H) :=
  s_X8_leftOut_L2 1000 b0 1 h
abbrev rm_X8_leftOut : Room := { frames := 3, cells := 0, slots := 0, locals := 66 }
set_option maxHeartbeats 4000000 in
set_option maxRecDepth 100000 in
theorem c_X8_leftOut (l : Launch) {b0 : Nat} {h : tt_H} {ρ : Int32 × tt_H} (hs : s_X8_leftOut b0 h = some ρ) : tt_M tt_cl l yX8_leftOut wsX8_leftOut rm_X8_leftOut 0 0 false [.ref b0] h (tt_ret (some (.int ρ.1)) ρ.2) := by
  refine tt_M.of0 (cc := cX8_leftOut) (maxL := 4) (ret := (some .int)) (by decide +kernel) rfl (Nat.le_of_ble_eq_true rfl) ?_
  intro p e s m args below meth c D ca ad n0 sz hwf hsz X hini
  unfold s_X8_leftOut at hs
  have t_2 : ∀ (fu : Nat) (b0 : Nat) (x1 : Int32) (h : tt_H), s_X8_leftOut_L2 fu b0 x1 h = some ρ → tt_T tt_cl (p, l, e, rm_X8_leftOut, s, m, args, below, meth, c, MQ below (tt_Q tt_cl D ca ad n0 sz false (tt_ret (some (.int ρ.1)) ρ.2)) args s 0 0 (tt_A ad n0 sz), D, ca, tt_A ad n0 sz, 4, some n0) ad 0 0 2 [(0, .ref b0), (1, .int x1)] [] h := by
    intro fu
    induction fu with
    | zero => intro b0 x1 h hs; exact absurd hs (by rw [s_X8_leftOut_L2]; exact fun q => by cases q)
    | succ n2 ih =>
      intro b0 x1 h hs
      rw [s_X8_leftOut_L2] at hs
      have t_2 := ih
      have t_46 : ∀ (b0 : Nat) (x1 : Int32) (h : tt_H), s_X8_leftOut_J46 (s_X8_leftOut_L2 n2) b0 x1 h = some ρ → tt_T tt_cl (p, l, e, rm_X8_leftOut, s, m, args, below, meth, c, MQ below (tt_Q tt_cl D ca ad n0 sz false (tt_ret (some (.int ρ.1)) ρ.2)) args s 0 0 (tt_A ad n0 sz), D, ca, tt_A ad n0 sz, 4, some n0) ad 0 0 46 [(0, .ref b0), (1, .int x1)] [] h := by
        intro b0 x1 h hs
        unfold s_X8_leftOut_J46 at hs
        refine tt_iinc (v := x1 + 1) X dX8_leftOut_46 rfl rfl (Nat.le_of_ble_eq_true rfl) ?_
        refine tt_goto (tgt := 2) X dX8_leftOut_49 (by decide) ?_
        refine tt_drop [0, 1] ?_
        exact t_2 b0 (x1 + 1) h hs
      refine tt_iload_n X dX8_leftOut_2 rfl ?_
      refine tt_aload_n X dX8_leftOut_3 rfl ?_
      obtain ⟨z4, e4, hs⟩ := gg_bind hs
      refine zr_fi X e4 rfl in_X8_leftOut_X8 (by decide) (by decide +kernel) rfl dX8_leftOut_4 ?_
      refine tt_icmp_ge (tgt := 52) X dX8_leftOut_7 (by decide) (fun c7 => ?_) (fun c7 => ?_)
      · rw [if_pos c7] at hs
        refine tt_bipush (v := (-9)) X dX8_leftOut_52 (by decide) ?_
        obtain rfl := Option.some.inj hs
        exact tt_iret X rfl dX8_leftOut_54 ⟨rfl, rfl⟩
      · rw [if_neg c7] at hs
        refine tt_aload_n X dX8_leftOut_10 rfl ?_
        refine tt_iload_n X dX8_leftOut_11 rfl ?_
        refine tt_iconst (v := 1) X dX8_leftOut_12 (by decide) ?_
        refine tt_isub X dX8_leftOut_13 ?_
        obtain ⟨o14, f14, hs⟩ := gg_bind hs
        obtain ⟨w14, e14, hs⟩ := gg_bind hs
        refine zr_callV X f14 rfl (c_X8_cryOf l e14) (fun hts => cwV 1 hts gX8_leftOut_X8_cryOf rfl rfl rfl (by decide +kernel) ⟨by decide, by decide⟩) rfl rfl (Nat.le_of_ble_eq_true rfl) dX8_leftOut_14 ⟨Nat.zero_le _, Nat.zero_le _⟩ ?_
        refine zr_astore_n X w14.1 dX8_leftOut_17 (Nat.le_of_ble_eq_true rfl) ?_
        refine tt_aload_n X dX8_leftOut_18 rfl ?_
        refine tt_iload_n X dX8_leftOut_19 rfl ?_
        obtain ⟨o20, f20, hs⟩ := gg_bind hs
        obtain ⟨w20, e20, hs⟩ := gg_bind hs
        refine zr_callV X f20 rfl (c_X8_cryOf l e20) (fun hts => cwV 1 hts gX8_leftOut_X8_cryOf rfl rfl rfl (by decide +kernel) ⟨by decide, by decide⟩) rfl rfl (Nat.le_of_ble_eq_true rfl) dX8_leftOut_20 ⟨Nat.zero_le _, Nat.zero_le _⟩ ?_
        refine zr_astore_n X w20.1 dX8_leftOut_23 (Nat.le_of_ble_eq_true rfl) ?_
        refine tt_setL (L2 := [(0, .ref b0), (1, .int x1), (2, va_rf w14.1), (3, va_rf w20.1)]) (by cases w14.1 <;> rfl) ?_
        refine zr_aload_n X w14.1 dX8_leftOut_24 rfl ?_
        cases hr25 : w14.1 with
        | none =>
          rw [hr25, gg_opt_none] at hs
          refine tt_ifnullN (tgt := 46) X dX8_leftOut_25 (by decide) ?_
          refine tt_drop [0, 1] ?_
          exact t_46 b0 x1 w20.2 hs
        | some b25 =>
          rw [hr25, gg_opt_some] at hs
          refine tt_ifnull X dX8_leftOut_25 ?_
          refine zr_aload_n X w20.1 dX8_leftOut_28 rfl ?_
          cases hr29 : w20.1 with
          | none =>
            rw [hr29, gg_opt_none] at hs
            refine tt_ifnullN (tgt := 46) X dX8_leftOut_29 (by decide) ?_
            refine tt_drop [0, 1] ?_
            exact t_46 b0 x1 w20.2 hs
          | some b29 =>
            rw [hr29, gg_opt_some] at hs
            refine tt_ifnull X dX8_leftOut_29 ?_
            refine tt_aload_n X dX8_leftOut_32 rfl ?_
            obtain ⟨o33, e33, hs⟩ := gg_bind hs
            refine zr_fr X e33 rfl in_X8_leftOut_X8 (by decide) (by decide +kernel) rfl dX8_leftOut_33 ?_
            refine tt_aload_n X dX8_leftOut_36 rfl ?_
            refine tt_aload_n X dX8_leftOut_37 rfl ?_
            obtain ⟨o38, f38, hs⟩ := gg_bind hs
            obtain ⟨w38, e38, hs⟩ := gg_bind hs
            refine zr_callV X f38 rfl (c_X3_make l e38) (fun hts => cwV 2 hts gX8_leftOut_X3_make rfl rfl rfl (by decide +kernel) ⟨by decide, by decide⟩) rfl rfl (Nat.le_of_ble_eq_true rfl) dX8_leftOut_38 ⟨Nat.zero_le _, Nat.zero_le _⟩ ?_
            refine tt_if_ne (tgt := 46) X dX8_leftOut_41 (by decide) (fun c41 => ?_) (fun c41 => ?_)
            · rw [if_neg c41] at hs
              refine tt_drop [0, 1] ?_
              exact t_46 b0 x1 w38.2 hs
            · rw [if_pos c41] at hs
              refine tt_iload_n X dX8_leftOut_44 rfl ?_
              obtain rfl := Option.some.inj hs
              exact tt_iret X rfl dX8_leftOut_45 ⟨rfl, rfl⟩
  refine tt_iconst (v := 1) X dX8_leftOut_0 (by decide) ?_
  refine tt_istore_n X dX8_leftOut_1 (Nat.le_of_ble_eq_true rfl) ?_
  refine tt_drop [0, 1] ?_
  exact t_2 1000 b0 1 h hs

def s_X8_ofDay (b0 : Nat) (x1 : Int32) (x2 : Int32) (h : tt_H) : Option (Int32 × tt_H) :=
  (gg_obj h b0 8).bind fun _ =>
  (s_X8_cryOf b0 x1 h).bind fun w2 =>
  gg_opt w2.1 (
    some ((-1), w2.2)
  ) fun b7 =>
  if x2 = ((-1)) then
    (gg_obj w2.2 b7 2).bind fun _ =>
    (s_X2_size b7 w2.2).bind fun w18 =>
    some (w18.1, w18.2)
  else
  (gg_obj w2.2 b7 2).bind fun _ =>
  (s_X2_has b7 x2 w2.2).bind fun w24 =>
  if w24.1 = 0 then
    some ((-1), w24.2)
  else
  (gg_obj w24.2 b7 2).bind fun _ =>
  (s_X2_at b7 x2 w24.2).bind fun w32 =>
  some (w32.1, w32.2)
abbrev rm_X8_ofDay : Room := { frames := 2, cells := 0, slots := 0, locals := 42 }
set_option maxHeartbeats 4000000 in
set_option maxRecDepth 100000 in
theorem c_X8_ofDay (l : Launch) {b0 : Nat} {x1 : Int32} {x2 : Int32} {h : tt_H} {ρ : Int32 × tt_H} (hs : s_X8_ofDay b0 x1 x2 h = some ρ) : tt_M tt_cl l yX8_ofDay wsX8_ofDay rm_X8_ofDay 0 0 false [.ref b0, .int x1, .int x2] h (tt_ret (some (.int ρ.1)) ρ.2) := by
  refine tt_M.of0 (cc := cX8_ofDay) (maxL := 4) (ret := (some .int)) (by decide +kernel) rfl (Nat.le_of_ble_eq_true rfl) ?_
  intro p e s m args below meth c D ca ad n0 sz hwf hsz X hini
  unfold s_X8_ofDay at hs
  refine tt_aload_n X dX8_ofDay_0 rfl ?_
  refine tt_iload_n X dX8_ofDay_1 rfl ?_
  obtain ⟨o2, f2, hs⟩ := gg_bind hs
  obtain ⟨w2, e2, hs⟩ := gg_bind hs
  refine zr_callV X f2 rfl (c_X8_cryOf l e2) (fun hts => cwV 1 hts gX8_ofDay_X8_cryOf rfl rfl rfl (by decide +kernel) ⟨by decide, by decide⟩) rfl rfl (Nat.le_of_ble_eq_true rfl) dX8_ofDay_2 ⟨Nat.zero_le _, Nat.zero_le _⟩ ?_
  refine zr_astore_n X w2.1 dX8_ofDay_5 (Nat.le_of_ble_eq_true rfl) ?_
  refine zr_aload_n X w2.1 dX8_ofDay_6 rfl ?_
  cases hr7 : w2.1 with
  | none =>
    rw [hr7, gg_opt_none] at hs
    refine tt_ifnonnullN X dX8_ofDay_7 ?_
    refine tt_iconst (v := (-1)) X dX8_ofDay_10 (by decide) ?_
    obtain rfl := Option.some.inj hs
    exact tt_iret X rfl dX8_ofDay_11 ⟨rfl, rfl⟩
  | some b7 =>
    rw [hr7, gg_opt_some] at hs
    refine tt_ifnonnull (tgt := 12) X dX8_ofDay_7 (by decide) ?_
    refine tt_iload_n X dX8_ofDay_12 rfl ?_
    refine tt_iconst (v := (-1)) X dX8_ofDay_13 (by decide) ?_
    refine tt_icmp_ne (tgt := 22) X dX8_ofDay_14 (by decide) (fun c14 => ?_) (fun c14 => ?_)
    · rw [if_neg c14] at hs
      refine tt_aload_n X dX8_ofDay_22 rfl ?_
      refine tt_iload_n X dX8_ofDay_23 rfl ?_
      obtain ⟨o24, f24, hs⟩ := gg_bind hs
      obtain ⟨w24, e24, hs⟩ := gg_bind hs
      refine zr_callV X f24 rfl (c_X2_has l e24) (fun hts => cwV 1 hts gX8_ofDay_X2_has rfl rfl rfl (by decide +kernel) ⟨by decide, by decide⟩) rfl rfl (Nat.le_of_ble_eq_true rfl) dX8_ofDay_24 ⟨Nat.zero_le _, Nat.zero_le _⟩ ?_
      refine tt_if_eq (tgt := 38) X dX8_ofDay_27 (by decide) (fun c27 => ?_) (fun c27 => ?_)
      · rw [if_pos c27] at hs
        refine tt_iconst (v := (-1)) X dX8_ofDay_38 (by decide) ?_
        obtain rfl := Option.some.inj hs
        exact tt_iret X rfl dX8_ofDay_39 ⟨rfl, rfl⟩
      · rw [if_neg c27] at hs
        refine tt_aload_n X dX8_ofDay_30 rfl ?_
        refine tt_iload_n X dX8_ofDay_31 rfl ?_
        obtain ⟨o32, f32, hs⟩ := gg_bind hs
        obtain ⟨w32, e32, hs⟩ := gg_bind hs
        refine zr_callV X f32 rfl (c_X2_at l e32) (fun hts => cwV 1 hts gX8_ofDay_X2_at rfl rfl rfl (by decide +kernel) ⟨by decide, by decide⟩) rfl rfl (Nat.le_of_ble_eq_true rfl) dX8_ofDay_32 ⟨Nat.zero_le _, Nat.zero_le _⟩ ?_
        refine tt_goto (tgt := 39) X dX8_ofDay_35 (by decide) ?_
        obtain rfl := Option.some.inj hs
        exact tt_iret X rfl dX8_ofDay_39 ⟨rfl, rfl⟩
    · rw [if_pos c14] at hs
      refine tt_aload_n X dX8_ofDay_17 rfl ?_
      obtain ⟨o18, f18, hs⟩ := gg_bind hs
      obtain ⟨w18, e18, hs⟩ := gg_bind hs
      refine zr_callV X f18 rfl (c_X2_size l e18) (fun hts => cwV 0 hts gX8_ofDay_X2_size rfl rfl rfl (by decide +kernel) ⟨by decide, by decide⟩) rfl rfl (Nat.le_of_ble_eq_true rfl) dX8_ofDay_18 ⟨Nat.zero_le _, Nat.zero_le _⟩ ?_
      obtain rfl := Option.some.inj hs
      exact tt_iret X rfl dX8_ofDay_21 ⟨rfl, rfl⟩

theorem in_X8_within_X8 : ∀ w ∈ u_ws RX8 TX8 13, w ∈ wsX8_within := by decide +kernel
def s_X8_within (b0 : Nat) (x1 : Int32) (x2 : Int32) (h : tt_H) : Option (Int32 × tt_H) :=
  (gg_obj h b0 8).bind fun _ =>
  (s_X8_cryOf b0 x1 h).bind fun w2 =>
  (gg_obj w2.2 b0 8).bind fun _ =>
  (s_X8_cryOf b0 x2 w2.2).bind fun w8 =>
  gg_opt w2.1 (
    some ((-1), w8.2)
  ) fun b14 =>
  gg_opt w8.1 (
    some ((-1), w8.2)
  ) fun b19 =>
  (gg_fr w8.2 b0 8 4).bind fun o25 =>
  (gg_obj w8.2 o25 3).bind fun _ =>
  (s_X3_make o25 b14 b19 w8.2).bind fun w31 =>
  if w31.1 = 0 then
    some (0, w31.2)
  else
  some (1, w31.2)
abbrev rm_X8_within : Room := { frames := 3, cells := 0, slots := 0, locals := 66 }
set_option maxHeartbeats 4000000 in
set_option maxRecDepth 100000 in
theorem c_X8_within (l : Launch) {b0 : Nat} {x1 : Int32} {x2 : Int32} {h : tt_H} {ρ : Int32 × tt_H} (hs : s_X8_within b0 x1 x2 h = some ρ) : tt_M tt_cl l yX8_within wsX8_within rm_X8_within 0 0 false [.ref b0, .int x1, .int x2] h (tt_ret (some (.int ρ.1)) ρ.2) := by
  refine tt_M.of0 (cc := cX8_within) (maxL := 5) (ret := (some .int)) (by decide +kernel) rfl (Nat.le_of_ble_eq_true rfl) ?_
  intro p e s m args below meth c D ca ad n0 sz hwf hsz X hini
  unfold s_X8_within at hs
  refine tt_aload_n X dX8_within_0 rfl ?_
  refine tt_iload_n X dX8_within_1 rfl ?_
  obtain ⟨o2, f2, hs⟩ := gg_bind hs
  obtain ⟨w2, e2, hs⟩ := gg_bind hs
  refine zr_callV X f2 rfl (c_X8_cryOf l e2) (fun hts => cwV 1 hts gX8_within_X8_cryOf rfl rfl rfl (by decide +kernel) ⟨by decide, by decide⟩) rfl rfl (Nat.le_of_ble_eq_true rfl) dX8_within_2 ⟨Nat.zero_le _, Nat.zero_le _⟩ ?_
  refine zr_astore_n X w2.1 dX8_within_5 (Nat.le_of_ble_eq_true rfl) ?_
  refine tt_aload_n X dX8_within_6 rfl ?_
  refine tt_iload_n X dX8_within_7 rfl ?_
  obtain ⟨o8, f8, hs⟩ := gg_bind hs
  obtain ⟨w8, e8, hs⟩ := gg_bind hs
  refine zr_callV X f8 rfl (c_X8_cryOf l e8) (fun hts => cwV 1 hts gX8_within_X8_cryOf rfl rfl rfl (by decide +kernel) ⟨by decide, by decide⟩) rfl rfl (Nat.le_of_ble_eq_true rfl) dX8_within_8 ⟨Nat.zero_le _, Nat.zero_le _⟩ ?_
  refine zr_astore X w8.1 dX8_within_11 (Nat.le_of_ble_eq_true rfl) ?_
  refine tt_setL (L2 := [(0, .ref b0), (1, .int x1), (2, .int x2), (3, va_rf w2.1), (4, va_rf w8.1)]) (by cases w2.1 <;> rfl) ?_
  refine zr_aload_n X w2.1 dX8_within_13 rfl ?_
  cases hr14 : w2.1 with
  | none =>
    rw [hr14, gg_opt_none] at hs
    refine tt_ifnullN (tgt := 22) X dX8_within_14 (by decide) ?_
    refine tt_iconst (v := (-1)) X dX8_within_22 (by decide) ?_
    obtain rfl := Option.some.inj hs
    exact tt_iret X rfl dX8_within_23 ⟨rfl, rfl⟩
  | some b14 =>
    rw [hr14, gg_opt_some] at hs
    refine tt_ifnull X dX8_within_14 ?_
    refine zr_aload X w8.1 dX8_within_17 rfl ?_
    cases hr19 : w8.1 with
    | none =>
      rw [hr19, gg_opt_none] at hs
      refine tt_ifnonnullN X dX8_within_19 ?_
      refine tt_iconst (v := (-1)) X dX8_within_22 (by decide) ?_
      obtain rfl := Option.some.inj hs
      exact tt_iret X rfl dX8_within_23 ⟨rfl, rfl⟩
    | some b19 =>
      rw [hr19, gg_opt_some] at hs
      refine tt_ifnonnull (tgt := 24) X dX8_within_19 (by decide) ?_
      refine tt_aload_n X dX8_within_24 rfl ?_
      obtain ⟨o25, e25, hs⟩ := gg_bind hs
      refine zr_fr X e25 rfl in_X8_within_X8 (by decide) (by decide +kernel) rfl dX8_within_25 ?_
      refine tt_aload_n X dX8_within_28 rfl ?_
      refine tt_aload X dX8_within_29 rfl ?_
      obtain ⟨o31, f31, hs⟩ := gg_bind hs
      obtain ⟨w31, e31, hs⟩ := gg_bind hs
      refine zr_callV X f31 rfl (c_X3_make l e31) (fun hts => cwV 2 hts gX8_within_X3_make rfl rfl rfl (by decide +kernel) ⟨by decide, by decide⟩) rfl rfl (Nat.le_of_ble_eq_true rfl) dX8_within_31 ⟨Nat.zero_le _, Nat.zero_le _⟩ ?_
      refine tt_if_eq (tgt := 41) X dX8_within_34 (by decide) (fun c34 => ?_) (fun c34 => ?_)
      · rw [if_pos c34] at hs
        refine tt_iconst (v := 0) X dX8_within_41 (by decide) ?_
        obtain rfl := Option.some.inj hs
        exact tt_iret X rfl dX8_within_42 ⟨rfl, rfl⟩
      · rw [if_neg c34] at hs
        refine tt_iconst (v := 1) X dX8_within_37 (by decide) ?_
        refine tt_goto (tgt := 42) X dX8_within_38 (by decide) ?_
        obtain rfl := Option.some.inj hs
        exact tt_iret X rfl dX8_within_42 ⟨rfl, rfl⟩

theorem in_X8_ways_X8 : ∀ w ∈ u_ws RX8 TX8 13, w ∈ wsX8_ways := by decide +kernel
def s_X8_ways (b0 : Nat) (x1 : Int32) (x2 : Int32) (h : tt_H) : Option (Int64 × tt_H) :=
  (gg_obj h b0 8).bind fun _ =>
  (s_X8_cryOf b0 x1 h).bind fun w2 =>
  (gg_obj w2.2 b0 8).bind fun _ =>
  (s_X8_cryOf b0 x2 w2.2).bind fun w8 =>
  gg_opt w2.1 (
    some ((-9223372036854775808), w8.2)
  ) fun b14 =>
  gg_opt w8.1 (
    some ((-9223372036854775808), w8.2)
  ) fun b19 =>
  (gg_fr w8.2 b0 8 4).bind fun o27 =>
  (gg_obj w8.2 o27 3).bind fun _ =>
  (s_X3_choices o27 b14 b19 w8.2).bind fun w33 =>
  some (w33.1, w33.2)
abbrev rm_X8_ways : Room := { frames := 3, cells := 0, slots := 0, locals := 67 }
set_option maxHeartbeats 4000000 in
set_option maxRecDepth 100000 in
theorem c_X8_ways (l : Launch) {b0 : Nat} {x1 : Int32} {x2 : Int32} {h : tt_H} {ρ : Int64 × tt_H} (hs : s_X8_ways b0 x1 x2 h = some ρ) : tt_M tt_cl l yX8_ways wsX8_ways rm_X8_ways 0 0 false [.ref b0, .int x1, .int x2] h (tt_ret (some (.long ρ.1)) ρ.2) := by
  refine tt_M.of0 (cc := cX8_ways) (maxL := 5) (ret := (some .long)) (by decide +kernel) rfl (Nat.le_of_ble_eq_true rfl) ?_
  intro p e s m args below meth c D ca ad n0 sz hwf hsz X hini
  unfold s_X8_ways at hs
  refine tt_aload_n X dX8_ways_0 rfl ?_
  refine tt_iload_n X dX8_ways_1 rfl ?_
  obtain ⟨o2, f2, hs⟩ := gg_bind hs
  obtain ⟨w2, e2, hs⟩ := gg_bind hs
  refine zr_callV X f2 rfl (c_X8_cryOf l e2) (fun hts => cwV 1 hts gX8_ways_X8_cryOf rfl rfl rfl (by decide +kernel) ⟨by decide, by decide⟩) rfl rfl (Nat.le_of_ble_eq_true rfl) dX8_ways_2 ⟨Nat.zero_le _, Nat.zero_le _⟩ ?_
  refine zr_astore_n X w2.1 dX8_ways_5 (Nat.le_of_ble_eq_true rfl) ?_
  refine tt_aload_n X dX8_ways_6 rfl ?_
  refine tt_iload_n X dX8_ways_7 rfl ?_
  obtain ⟨o8, f8, hs⟩ := gg_bind hs
  obtain ⟨w8, e8, hs⟩ := gg_bind hs
  refine zr_callV X f8 rfl (c_X8_cryOf l e8) (fun hts => cwV 1 hts gX8_ways_X8_cryOf rfl rfl rfl (by decide +kernel) ⟨by decide, by decide⟩) rfl rfl (Nat.le_of_ble_eq_true rfl) dX8_ways_8 ⟨Nat.zero_le _, Nat.zero_le _⟩ ?_
  refine zr_astore X w8.1 dX8_ways_11 (Nat.le_of_ble_eq_true rfl) ?_
  refine tt_setL (L2 := [(0, .ref b0), (1, .int x1), (2, .int x2), (3, va_rf w2.1), (4, va_rf w8.1)]) (by cases w2.1 <;> rfl) ?_
  refine zr_aload_n X w2.1 dX8_ways_13 rfl ?_
  cases hr14 : w2.1 with
  | none =>
    rw [hr14, gg_opt_none] at hs
    refine tt_ifnullN (tgt := 22) X dX8_ways_14 (by decide) ?_
    refine tt_ldc2 (v := (-9223372036854775808)) X (by decide +kernel) dX8_ways_22 ?_
    obtain rfl := Option.some.inj hs
    exact tt_lret X rfl dX8_ways_25 ⟨rfl, rfl⟩
  | some b14 =>
    rw [hr14, gg_opt_some] at hs
    refine tt_ifnull X dX8_ways_14 ?_
    refine zr_aload X w8.1 dX8_ways_17 rfl ?_
    cases hr19 : w8.1 with
    | none =>
      rw [hr19, gg_opt_none] at hs
      refine tt_ifnonnullN X dX8_ways_19 ?_
      refine tt_ldc2 (v := (-9223372036854775808)) X (by decide +kernel) dX8_ways_22 ?_
      obtain rfl := Option.some.inj hs
      exact tt_lret X rfl dX8_ways_25 ⟨rfl, rfl⟩
    | some b19 =>
      rw [hr19, gg_opt_some] at hs
      refine tt_ifnonnull (tgt := 26) X dX8_ways_19 (by decide) ?_
      refine tt_aload_n X dX8_ways_26 rfl ?_
      obtain ⟨o27, e27, hs⟩ := gg_bind hs
      refine zr_fr X e27 rfl in_X8_ways_X8 (by decide) (by decide +kernel) rfl dX8_ways_27 ?_
      refine tt_aload_n X dX8_ways_30 rfl ?_
      refine tt_aload X dX8_ways_31 rfl ?_
      obtain ⟨o33, f33, hs⟩ := gg_bind hs
      obtain ⟨w33, e33, hs⟩ := gg_bind hs
      refine zr_callV X f33 rfl (c_X3_choices l e33) (fun hts => cwV 2 hts gX8_ways_X3_choices rfl rfl rfl (by decide +kernel) ⟨by decide, by decide⟩) rfl rfl (Nat.le_of_ble_eq_true rfl) dX8_ways_33 ⟨Nat.zero_le _, Nat.zero_le _⟩ ?_
      obtain rfl := Option.some.inj hs
      exact tt_lret X rfl dX8_ways_36 ⟨rfl, rfl⟩

def s_X8_isFirstOrSecond_J9 (h : tt_H) : Option (Int32 × tt_H) :=
  some (1, h)
def s_X8_isFirstOrSecond (x0 : Int32) (h : tt_H) : Option (Int32 × tt_H) :=
  if x0 = 0 then
    s_X8_isFirstOrSecond_J9 h
  else
  if x0 = 1 then
    s_X8_isFirstOrSecond_J9 h
  else
  some (0, h)
abbrev rm_X8_isFirstOrSecond : Room := { frames := 0, cells := 0, slots := 0, locals := 0 }
set_option maxHeartbeats 4000000 in
set_option maxRecDepth 100000 in
theorem c_X8_isFirstOrSecond (l : Launch) {x0 : Int32} {h : tt_H} {ρ : Int32 × tt_H} (hs : s_X8_isFirstOrSecond x0 h = some ρ) : tt_M tt_cl l yX8_isFirstOrSecond wsX8_isFirstOrSecond rm_X8_isFirstOrSecond 0 0 false [.int x0] h (tt_ret (some (.int ρ.1)) ρ.2) := by
  refine tt_M.of0 (cc := cX8_isFirstOrSecond) (maxL := 1) (ret := (some .boolean)) (by decide +kernel) rfl (Nat.le_of_ble_eq_true rfl) ?_
  intro p e s m args below meth c D ca ad n0 sz hwf hsz X hini
  unfold s_X8_isFirstOrSecond at hs
  have t_9 : ∀  (h : tt_H), s_X8_isFirstOrSecond_J9 h = some ρ → tt_T tt_cl (p, l, e, rm_X8_isFirstOrSecond, s, m, args, below, meth, c, MQ below (tt_Q tt_cl D ca ad n0 sz false (tt_ret (some (.int ρ.1)) ρ.2)) args s 0 0 (tt_A ad n0 sz), D, ca, tt_A ad n0 sz, 1, some n0) ad 0 0 9 [] [] h := by
    intro h hs
    unfold s_X8_isFirstOrSecond_J9 at hs
    refine tt_iconst (v := 1) X dX8_isFirstOrSecond_9 (by decide) ?_
    refine tt_goto (tgt := 14) X dX8_isFirstOrSecond_10 (by decide) ?_
    obtain rfl := Option.some.inj hs
    exact tt_zret X rfl rfl dX8_isFirstOrSecond_14 ⟨rfl, rfl⟩
  refine tt_iload_n X dX8_isFirstOrSecond_0 rfl ?_
  refine tt_if_eq (tgt := 9) X dX8_isFirstOrSecond_1 (by decide) (fun c1 => ?_) (fun c1 => ?_)
  · rw [if_pos c1] at hs
    refine tt_drop [] ?_
    exact t_9 h hs
  · rw [if_neg c1] at hs
    refine tt_iload_n X dX8_isFirstOrSecond_4 rfl ?_
    refine tt_iconst (v := 1) X dX8_isFirstOrSecond_5 (by decide) ?_
    refine tt_icmp_ne (tgt := 13) X dX8_isFirstOrSecond_6 (by decide) (fun c6 => ?_) (fun c6 => ?_)
    · rw [if_neg c6] at hs
      refine tt_iconst (v := 0) X dX8_isFirstOrSecond_13 (by decide) ?_
      obtain rfl := Option.some.inj hs
      exact tt_zret X rfl rfl dX8_isFirstOrSecond_14 ⟨rfl, rfl⟩
    · rw [if_pos c6] at hs
      refine tt_drop [] ?_
      exact t_9 h hs

theorem in_X8_place_X8 : ∀ w ∈ u_ws RX8 TX8 13, w ∈ wsX8_place := by decide +kernel
def s_X8_place (b0 : Nat) (x1 : Int32) (x2 : Int32) (x3 : Int32) (x4 : Int32) (h : tt_H) : Option (Int32 × tt_H) :=
  (gg_obj h b0 8).bind fun _ =>
  (s_X8_cryOf b0 x1 h).bind fun w2 =>
  (gg_obj w2.2 b0 8).bind fun _ =>
  (s_X8_cryOf b0 x2 w2.2).bind fun w9 =>
  gg_opt w2.1 (
    some ((-1), w9.2)
  ) fun b16 =>
  gg_opt w9.1 (
    some ((-1), w9.2)
  ) fun b21 =>
  (gg_obj w9.2 b16 2).bind fun _ =>
  (s_X2_has b16 x3 w9.2).bind fun w27 =>
  if w27.1 = 0 then
    some ((-1), w27.2)
  else
  (s_X8_isFirstOrSecond x4 w27.2).bind fun w37 =>
  if w37.1 = 0 then
    some ((-2), w37.2)
  else
  (gg_fr w37.2 b0 8 4).bind fun o47 =>
  (gg_obj w37.2 o47 3).bind fun _ =>
  (s_X3_make o47 b16 b21 w37.2).bind fun w54 =>
  if w54.1 = 0 then
    some ((-9), w54.2)
  else
  if x4 = 0 then
    (gg_fr w54.2 b0 8 4).bind fun o69 =>
    (gg_obj w54.2 o69 3).bind fun _ =>
    (s_X3_first o69 x3 w54.2).bind fun w73 =>
    some (w73.1, w73.2)
  else
  (gg_fr w54.2 b0 8 4).bind fun o80 =>
  (gg_obj w54.2 o80 3).bind fun _ =>
  (s_X3_last o80 x3 w54.2).bind fun w84 =>
  some (w84.1, w84.2)
abbrev rm_X8_place : Room := { frames := 3, cells := 0, slots := 0, locals := 66 }
set_option maxHeartbeats 4000000 in
set_option maxRecDepth 100000 in
theorem c_X8_place (l : Launch) {b0 : Nat} {x1 : Int32} {x2 : Int32} {x3 : Int32} {x4 : Int32} {h : tt_H} {ρ : Int32 × tt_H} (hs : s_X8_place b0 x1 x2 x3 x4 h = some ρ) : tt_M tt_cl l yX8_place wsX8_place rm_X8_place 0 0 false [.ref b0, .int x1, .int x2, .int x3, .int x4] h (tt_ret (some (.int ρ.1)) ρ.2) := by
  refine tt_M.of0 (cc := cX8_place) (maxL := 7) (ret := (some .int)) (by decide +kernel) rfl (Nat.le_of_ble_eq_true rfl) ?_
  intro p e s m args below meth c D ca ad n0 sz hwf hsz X hini
  unfold s_X8_place at hs
  refine tt_aload_n X dX8_place_0 rfl ?_
  refine tt_iload_n X dX8_place_1 rfl ?_
  obtain ⟨o2, f2, hs⟩ := gg_bind hs
  obtain ⟨w2, e2, hs⟩ := gg_bind hs
  refine zr_callV X f2 rfl (c_X8_cryOf l e2) (fun hts => cwV 1 hts gX8_place_X8_cryOf rfl rfl rfl (by decide +kernel) ⟨by decide, by decide⟩) rfl rfl (Nat.le_of_ble_eq_true rfl) dX8_place_2 ⟨Nat.zero_le _, Nat.zero_le _⟩ ?_
  refine zr_astore X w2.1 dX8_place_5 (Nat.le_of_ble_eq_true rfl) ?_
  refine tt_aload_n X dX8_place_7 rfl ?_
  refine tt_iload_n X dX8_place_8 rfl ?_
  obtain ⟨o9, f9, hs⟩ := gg_bind hs
  obtain ⟨w9, e9, hs⟩ := gg_bind hs
  refine zr_callV X f9 rfl (c_X8_cryOf l e9) (fun hts => cwV 1 hts gX8_place_X8_cryOf rfl rfl rfl (by decide +kernel) ⟨by decide, by decide⟩) rfl rfl (Nat.le_of_ble_eq_true rfl) dX8_place_9 ⟨Nat.zero_le _, Nat.zero_le _⟩ ?_
  refine zr_astore X w9.1 dX8_place_12 (Nat.le_of_ble_eq_true rfl) ?_
  refine tt_setL (L2 := [(0, .ref b0), (1, .int x1), (2, .int x2), (3, .int x3), (4, .int x4), (5, va_rf w2.1), (6, va_rf w9.1)]) (by cases w2.1 <;> rfl) ?_
  refine zr_aload X w2.1 dX8_place_14 rfl ?_
  cases hr16 : w2.1 with
  | none =>
    rw [hr16, gg_opt_none] at hs
    refine tt_ifnullN (tgt := 33) X dX8_place_16 (by decide) ?_
    refine tt_iconst (v := (-1)) X dX8_place_33 (by decide) ?_
    obtain rfl := Option.some.inj hs
    exact tt_iret X rfl dX8_place_34 ⟨rfl, rfl⟩
  | some b16 =>
    rw [hr16, gg_opt_some] at hs
    refine tt_ifnull X dX8_place_16 ?_
    refine zr_aload X w9.1 dX8_place_19 rfl ?_
    cases hr21 : w9.1 with
    | none =>
      rw [hr21, gg_opt_none] at hs
      refine tt_ifnullN (tgt := 33) X dX8_place_21 (by decide) ?_
      refine tt_iconst (v := (-1)) X dX8_place_33 (by decide) ?_
      obtain rfl := Option.some.inj hs
      exact tt_iret X rfl dX8_place_34 ⟨rfl, rfl⟩
    | some b21 =>
      rw [hr21, gg_opt_some] at hs
      refine tt_ifnull X dX8_place_21 ?_
      refine tt_aload X dX8_place_24 rfl ?_
      refine tt_iload_n X dX8_place_26 rfl ?_
      obtain ⟨o27, f27, hs⟩ := gg_bind hs
      obtain ⟨w27, e27, hs⟩ := gg_bind hs
      refine zr_callV X f27 rfl (c_X2_has l e27) (fun hts => cwV 1 hts gX8_place_X2_has rfl rfl rfl (by decide +kernel) ⟨by decide, by decide⟩) rfl rfl (Nat.le_of_ble_eq_true rfl) dX8_place_27 ⟨Nat.zero_le _, Nat.zero_le _⟩ ?_
      refine tt_if_ne (tgt := 35) X dX8_place_30 (by decide) (fun c30 => ?_) (fun c30 => ?_)
      · rw [if_neg c30] at hs
        refine tt_iload X dX8_place_35 rfl ?_
        obtain ⟨w37, e37, hs⟩ := gg_bind hs
        refine zr_callS X (c_X8_isFirstOrSecond l e37) (fun hts => va_cwS 1 hts gX8_place_X8_isFirstOrSecond rfl rfl rfl (by decide +kernel) ⟨by decide, by decide⟩) rfl rfl (Nat.le_of_ble_eq_true rfl) dX8_place_37 ⟨Nat.zero_le _, Nat.zero_le _⟩ ?_
        refine tt_if_ne (tgt := 46) X dX8_place_40 (by decide) (fun c40 => ?_) (fun c40 => ?_)
        · rw [if_neg c40] at hs
          refine tt_aload_n X dX8_place_46 rfl ?_
          obtain ⟨o47, e47, hs⟩ := gg_bind hs
          refine zr_fr X e47 rfl in_X8_place_X8 (by decide) (by decide +kernel) rfl dX8_place_47 ?_
          refine tt_aload X dX8_place_50 rfl ?_
          refine tt_aload X dX8_place_52 rfl ?_
          obtain ⟨o54, f54, hs⟩ := gg_bind hs
          obtain ⟨w54, e54, hs⟩ := gg_bind hs
          refine zr_callV X f54 rfl (c_X3_make l e54) (fun hts => cwV 2 hts gX8_place_X3_make rfl rfl rfl (by decide +kernel) ⟨by decide, by decide⟩) rfl rfl (Nat.le_of_ble_eq_true rfl) dX8_place_54 ⟨Nat.zero_le _, Nat.zero_le _⟩ ?_
          refine tt_if_ne (tgt := 63) X dX8_place_57 (by decide) (fun c57 => ?_) (fun c57 => ?_)
          · rw [if_neg c57] at hs
            refine tt_iload X dX8_place_63 rfl ?_
            refine tt_if_ne (tgt := 79) X dX8_place_65 (by decide) (fun c65 => ?_) (fun c65 => ?_)
            · rw [if_neg c65] at hs
              refine tt_aload_n X dX8_place_79 rfl ?_
              obtain ⟨o80, e80, hs⟩ := gg_bind hs
              refine zr_fr X e80 rfl in_X8_place_X8 (by decide) (by decide +kernel) rfl dX8_place_80 ?_
              refine tt_iload_n X dX8_place_83 rfl ?_
              obtain ⟨o84, f84, hs⟩ := gg_bind hs
              obtain ⟨w84, e84, hs⟩ := gg_bind hs
              refine zr_callV X f84 rfl (c_X3_last l e84) (fun hts => cwV 1 hts gX8_place_X3_last rfl rfl rfl (by decide +kernel) ⟨by decide, by decide⟩) rfl rfl (Nat.le_of_ble_eq_true rfl) dX8_place_84 ⟨Nat.zero_le _, Nat.zero_le _⟩ ?_
              obtain rfl := Option.some.inj hs
              exact tt_iret X rfl dX8_place_87 ⟨rfl, rfl⟩
            · rw [if_pos c65] at hs
              refine tt_aload_n X dX8_place_68 rfl ?_
              obtain ⟨o69, e69, hs⟩ := gg_bind hs
              refine zr_fr X e69 rfl in_X8_place_X8 (by decide) (by decide +kernel) rfl dX8_place_69 ?_
              refine tt_iload_n X dX8_place_72 rfl ?_
              obtain ⟨o73, f73, hs⟩ := gg_bind hs
              obtain ⟨w73, e73, hs⟩ := gg_bind hs
              refine zr_callV X f73 rfl (c_X3_first l e73) (fun hts => cwV 1 hts gX8_place_X3_first rfl rfl rfl (by decide +kernel) ⟨by decide, by decide⟩) rfl rfl (Nat.le_of_ble_eq_true rfl) dX8_place_73 ⟨Nat.zero_le _, Nat.zero_le _⟩ ?_
              refine tt_goto (tgt := 87) X dX8_place_76 (by decide) ?_
              obtain rfl := Option.some.inj hs
              exact tt_iret X rfl dX8_place_87 ⟨rfl, rfl⟩
          · rw [if_pos c57] at hs
            refine tt_bipush (v := (-9)) X dX8_place_60 (by decide) ?_
            obtain rfl := Option.some.inj hs
            exact tt_iret X rfl dX8_place_62 ⟨rfl, rfl⟩
        · rw [if_pos c40] at hs
          refine tt_bipush (v := (-2)) X dX8_place_43 (by decide) ?_
          obtain rfl := Option.some.inj hs
          exact tt_iret X rfl dX8_place_45 ⟨rfl, rfl⟩
      · rw [if_pos c30] at hs
        refine tt_iconst (v := (-1)) X dX8_place_33 (by decide) ?_
        obtain rfl := Option.some.inj hs
        exact tt_iret X rfl dX8_place_34 ⟨rfl, rfl⟩

theorem in_X8_mayBe_X8 : ∀ w ∈ u_ws RX8 TX8 13, w ∈ wsX8_mayBe := by decide +kernel
def s_X8_mayBe_J67 (κ24 : Nat → Int32 → Nat → Int32 → Int32 → tt_H → Option (Int32 × tt_H)) (b0 : Nat) (x1 : Int32) (b2 : Nat) (x3 : Int32) (x4 : Int32) (h : tt_H) : Option (Int32 × tt_H) :=
  κ24 b0 x1 b2 x3 (x4 + 1) h
def s_X8_mayBe_L24 : Nat → Nat → Int32 → Nat → Int32 → Int32 → tt_H → Option (Int32 × tt_H)
  | 0, _, _, _, _, _, _ => none
  | n + 1, b0, x1, b2, x3, x4, h =>
    (gg_fi h b0 8 10).bind fun z27 =>
    if z27 ≤ x4 then
      some (x3, h)
    else
    (gg_obj h b0 8).bind fun _ =>
    (s_X8_cryOf b0 x4 h).bind fun w36 =>
    gg_opt w36.1 (
      s_X8_mayBe_J67 (s_X8_mayBe_L24 n) b0 x1 b2 x3 x4 w36.2
    ) fun b43 =>
    (gg_fr w36.2 b0 8 4).bind fun o47 =>
    (gg_obj w36.2 o47 3).bind fun _ =>
    (s_X3_canStand o47 b43 b2 x1 w36.2).bind fun w54 =>
    if w54.1 = 0 then
      s_X8_mayBe_J67 (s_X8_mayBe_L24 n) b0 x1 b2 x3 x4 w54.2
    else
    s_X8_mayBe_J67 (s_X8_mayBe_L24 n) b0 x1 b2 (x3 ||| ((1 : Int32) <<< (x4 &&& 31))) x4 w54.2
def s_X8_mayBe (b0 : Nat) (x1 : Int32) (h : tt_H) : Option (Int32 × tt_H) :=
  (gg_obj h b0 8).bind fun _ =>
  (s_X8_lastCry b0 h).bind fun w1 =>
  gg_opt w1.1 (
    some ((-1), w1.2)
  ) fun b6 =>
  (gg_obj w1.2 b6 2).bind fun _ =>
  (s_X2_has b6 x1 w1.2).bind fun w11 =>
  if w11.1 = 0 then
    some ((-1), w11.2)
  else
  s_X8_mayBe_L24 1000 b0 x1 b6 0 0 w11.2
abbrev rm_X8_mayBe : Room := { frames := 4, cells := 0, slots := 0, locals := 90 }
set_option maxHeartbeats 4000000 in
set_option maxRecDepth 100000 in
theorem c_X8_mayBe (l : Launch) {b0 : Nat} {x1 : Int32} {h : tt_H} {ρ : Int32 × tt_H} (hs : s_X8_mayBe b0 x1 h = some ρ) : tt_M tt_cl l yX8_mayBe wsX8_mayBe rm_X8_mayBe 0 0 false [.ref b0, .int x1] h (tt_ret (some (.int ρ.1)) ρ.2) := by
  refine tt_M.of0 (cc := cX8_mayBe) (maxL := 6) (ret := (some .int)) (by decide +kernel) rfl (Nat.le_of_ble_eq_true rfl) ?_
  intro p e s m args below meth c D ca ad n0 sz hwf hsz X hini
  unfold s_X8_mayBe at hs
  have t_24 : ∀ (fu : Nat) (b0 : Nat) (x1 : Int32) (b2 : Nat) (x3 : Int32) (x4 : Int32) (h : tt_H), s_X8_mayBe_L24 fu b0 x1 b2 x3 x4 h = some ρ → tt_T tt_cl (p, l, e, rm_X8_mayBe, s, m, args, below, meth, c, MQ below (tt_Q tt_cl D ca ad n0 sz false (tt_ret (some (.int ρ.1)) ρ.2)) args s 0 0 (tt_A ad n0 sz), D, ca, tt_A ad n0 sz, 6, some n0) ad 0 0 24 [(0, .ref b0), (1, .int x1), (2, .ref b2), (3, .int x3), (4, .int x4)] [] h := by
    intro fu
    induction fu with
    | zero => intro b0 x1 b2 x3 x4 h hs; exact absurd hs (by rw [s_X8_mayBe_L24]; exact fun q => by cases q)
    | succ n24 ih =>
      intro b0 x1 b2 x3 x4 h hs
      rw [s_X8_mayBe_L24] at hs
      have t_24 := ih
      have t_67 : ∀ (b0 : Nat) (x1 : Int32) (b2 : Nat) (x3 : Int32) (x4 : Int32) (h : tt_H), s_X8_mayBe_J67 (s_X8_mayBe_L24 n24) b0 x1 b2 x3 x4 h = some ρ → tt_T tt_cl (p, l, e, rm_X8_mayBe, s, m, args, below, meth, c, MQ below (tt_Q tt_cl D ca ad n0 sz false (tt_ret (some (.int ρ.1)) ρ.2)) args s 0 0 (tt_A ad n0 sz), D, ca, tt_A ad n0 sz, 6, some n0) ad 0 0 67 [(0, .ref b0), (1, .int x1), (2, .ref b2), (3, .int x3), (4, .int x4)] [] h := by
        intro b0 x1 b2 x3 x4 h hs
        unfold s_X8_mayBe_J67 at hs
        refine tt_iinc (v := x4 + 1) X dX8_mayBe_67 rfl rfl (Nat.le_of_ble_eq_true rfl) ?_
        refine tt_goto (tgt := 24) X dX8_mayBe_70 (by decide) ?_
        refine tt_drop [0, 1, 2, 3, 4] ?_
        exact t_24 b0 x1 b2 x3 (x4 + 1) h hs
      refine tt_iload X dX8_mayBe_24 rfl ?_
      refine tt_aload_n X dX8_mayBe_26 rfl ?_
      obtain ⟨z27, e27, hs⟩ := gg_bind hs
      refine zr_fi X e27 rfl in_X8_mayBe_X8 (by decide) (by decide +kernel) rfl dX8_mayBe_27 ?_
      refine tt_icmp_ge (tgt := 73) X dX8_mayBe_30 (by decide) (fun c30 => ?_) (fun c30 => ?_)
      · rw [if_pos c30] at hs
        refine tt_iload_n X dX8_mayBe_73 rfl ?_
        obtain rfl := Option.some.inj hs
        exact tt_iret X rfl dX8_mayBe_74 ⟨rfl, rfl⟩
      · rw [if_neg c30] at hs
        refine tt_aload_n X dX8_mayBe_33 rfl ?_
        refine tt_iload X dX8_mayBe_34 rfl ?_
        obtain ⟨o36, f36, hs⟩ := gg_bind hs
        obtain ⟨w36, e36, hs⟩ := gg_bind hs
        refine zr_callV X f36 rfl (c_X8_cryOf l e36) (fun hts => cwV 1 hts gX8_mayBe_X8_cryOf rfl rfl rfl (by decide +kernel) ⟨by decide, by decide⟩) rfl rfl (Nat.le_of_ble_eq_true rfl) dX8_mayBe_36 ⟨Nat.zero_le _, Nat.zero_le _⟩ ?_
        refine zr_astore X w36.1 dX8_mayBe_39 (Nat.le_of_ble_eq_true rfl) ?_
        refine zr_aload X w36.1 dX8_mayBe_41 rfl ?_
        cases hr43 : w36.1 with
        | none =>
          rw [hr43, gg_opt_none] at hs
          refine tt_ifnullN (tgt := 67) X dX8_mayBe_43 (by decide) ?_
          refine tt_drop [0, 1, 2, 3, 4] ?_
          exact t_67 b0 x1 b2 x3 x4 w36.2 hs
        | some b43 =>
          rw [hr43, gg_opt_some] at hs
          refine tt_ifnull X dX8_mayBe_43 ?_
          refine tt_aload_n X dX8_mayBe_46 rfl ?_
          obtain ⟨o47, e47, hs⟩ := gg_bind hs
          refine zr_fr X e47 rfl in_X8_mayBe_X8 (by decide) (by decide +kernel) rfl dX8_mayBe_47 ?_
          refine tt_aload X dX8_mayBe_50 rfl ?_
          refine tt_aload_n X dX8_mayBe_52 rfl ?_
          refine tt_iload_n X dX8_mayBe_53 rfl ?_
          obtain ⟨o54, f54, hs⟩ := gg_bind hs
          obtain ⟨w54, e54, hs⟩ := gg_bind hs
          refine zr_callV X f54 rfl (c_X3_canStand l e54) (fun hts => cwV 3 hts gX8_mayBe_X3_canStand rfl rfl rfl (by decide +kernel) ⟨by decide, by decide⟩) rfl rfl (Nat.le_of_ble_eq_true rfl) dX8_mayBe_54 ⟨Nat.zero_le _, Nat.zero_le _⟩ ?_
          refine tt_if_eq (tgt := 67) X dX8_mayBe_57 (by decide) (fun c57 => ?_) (fun c57 => ?_)
          · rw [if_pos c57] at hs
            refine tt_drop [0, 1, 2, 3, 4] ?_
            exact t_67 b0 x1 b2 x3 x4 w54.2 hs
          · rw [if_neg c57] at hs
            refine tt_iload_n X dX8_mayBe_60 rfl ?_
            refine tt_iconst (v := 1) X dX8_mayBe_61 (by decide) ?_
            refine tt_iload X dX8_mayBe_62 rfl ?_
            refine tt_ishl X dX8_mayBe_64 ?_
            refine tt_ior X dX8_mayBe_65 ?_
            refine tt_istore_n X dX8_mayBe_66 (Nat.le_of_ble_eq_true rfl) ?_
            refine tt_drop [0, 1, 2, 3, 4] ?_
            exact t_67 b0 x1 b2 (x3 ||| ((1 : Int32) <<< (x4 &&& 31))) x4 w54.2 hs
  refine tt_aload_n X dX8_mayBe_0 rfl ?_
  obtain ⟨o1, f1, hs⟩ := gg_bind hs
  obtain ⟨w1, e1, hs⟩ := gg_bind hs
  refine zr_callV X f1 rfl (c_X8_lastCry l e1) (fun hts => cwV 0 hts gX8_mayBe_X8_lastCry rfl rfl rfl (by decide +kernel) ⟨by decide, by decide⟩) rfl rfl (Nat.le_of_ble_eq_true rfl) dX8_mayBe_1 ⟨Nat.zero_le _, Nat.zero_le _⟩ ?_
  refine zr_astore_n X w1.1 dX8_mayBe_4 (Nat.le_of_ble_eq_true rfl) ?_
  refine zr_aload_n X w1.1 dX8_mayBe_5 rfl ?_
  cases hr6 : w1.1 with
  | none =>
    rw [hr6, gg_opt_none] at hs
    refine tt_ifnullN (tgt := 17) X dX8_mayBe_6 (by decide) ?_
    refine tt_iconst (v := (-1)) X dX8_mayBe_17 (by decide) ?_
    obtain rfl := Option.some.inj hs
    exact tt_iret X rfl dX8_mayBe_18 ⟨rfl, rfl⟩
  | some b6 =>
    rw [hr6, gg_opt_some] at hs
    refine tt_ifnull X dX8_mayBe_6 ?_
    refine tt_aload_n X dX8_mayBe_9 rfl ?_
    refine tt_iload_n X dX8_mayBe_10 rfl ?_
    obtain ⟨o11, f11, hs⟩ := gg_bind hs
    obtain ⟨w11, e11, hs⟩ := gg_bind hs
    refine zr_callV X f11 rfl (c_X2_has l e11) (fun hts => cwV 1 hts gX8_mayBe_X2_has rfl rfl rfl (by decide +kernel) ⟨by decide, by decide⟩) rfl rfl (Nat.le_of_ble_eq_true rfl) dX8_mayBe_11 ⟨Nat.zero_le _, Nat.zero_le _⟩ ?_
    refine tt_if_ne (tgt := 19) X dX8_mayBe_14 (by decide) (fun c14 => ?_) (fun c14 => ?_)
    · rw [if_neg c14] at hs
      refine tt_iconst (v := 0) X dX8_mayBe_19 (by decide) ?_
      refine tt_istore_n X dX8_mayBe_20 (Nat.le_of_ble_eq_true rfl) ?_
      refine tt_iconst (v := 0) X dX8_mayBe_21 (by decide) ?_
      refine tt_istore X dX8_mayBe_22 (Nat.le_of_ble_eq_true rfl) ?_
      refine tt_drop [0, 1, 2, 3, 4] ?_
      exact t_24 1000 b0 x1 b6 0 0 w11.2 hs
    · rw [if_pos c14] at hs
      refine tt_iconst (v := (-1)) X dX8_mayBe_17 (by decide) ?_
      obtain rfl := Option.some.inj hs
      exact tt_iret X rfl dX8_mayBe_18 ⟨rfl, rfl⟩

theorem in_X8_said_X8 : ∀ w ∈ u_ws RX8 TX8 13, w ∈ wsX8_said := by decide +kernel
def s_X8_said_J54 (κ17 : Nat → Nat → Int32 → Int32 → tt_H → Option (Int32 × tt_H)) (b0 : Nat) (b2 : Nat) (x3 : Int32) (x4 : Int32) (h : tt_H) : Option (Int32 × tt_H) :=
  κ17 b0 b2 x3 (x4 + 1) h
def s_X8_said_L17 : Nat → Nat → Nat → Int32 → Int32 → tt_H → Option (Int32 × tt_H)
  | 0, _, _, _, _, _ => none
  | n + 1, b0, b2, x3, x4, h =>
    if 8 ≤ x4 then
      some (x3, h)
    else
    (gg_fr h b0 8 0).bind fun o25 =>
    (gg_il h o25 x4).bind fun z30 =>
    if z30 = 0 then
      (gg_fr h b0 8 0).bind fun o36 =>
      (s_X5_isSaid b2 o36 x4 h).bind fun w41 =>
      if w41.1 = 0 then
        s_X8_said_J54 (s_X8_said_L17 n) b0 b2 x3 x4 w41.2
      else
      s_X8_said_J54 (s_X8_said_L17 n) b0 b2 (x3 ||| ((1 : Int32) <<< (x4 &&& 31))) x4 w41.2
    else
    s_X8_said_J54 (s_X8_said_L17 n) b0 b2 x3 x4 h
def s_X8_said (b0 : Nat) (x1 : Int32) (h : tt_H) : Option (Int32 × tt_H) :=
  (gg_obj h b0 8).bind fun _ =>
  (s_X8_cryOf b0 x1 h).bind fun w2 =>
  gg_opt w2.1 (
    some ((-1), w2.2)
  ) fun b7 =>
  s_X8_said_L17 1000 b0 b7 0 0 w2.2
abbrev rm_X8_said : Room := { frames := 3, cells := 0, slots := 0, locals := 66 }
set_option maxHeartbeats 4000000 in
set_option maxRecDepth 100000 in
theorem c_X8_said (l : Launch) {b0 : Nat} {x1 : Int32} {h : tt_H} {ρ : Int32 × tt_H} (hs : s_X8_said b0 x1 h = some ρ) : tt_M tt_cl l yX8_said wsX8_said rm_X8_said 0 0 false [.ref b0, .int x1] h (tt_ret (some (.int ρ.1)) ρ.2) := by
  refine tt_M.of0 (cc := cX8_said) (maxL := 5) (ret := (some .int)) (by decide +kernel) rfl (Nat.le_of_ble_eq_true rfl) ?_
  intro p e s m args below meth c D ca ad n0 sz hwf hsz X hini
  unfold s_X8_said at hs
  have t_17 : ∀ (fu : Nat) (b0 : Nat) (b2 : Nat) (x3 : Int32) (x4 : Int32) (h : tt_H), s_X8_said_L17 fu b0 b2 x3 x4 h = some ρ → tt_T tt_cl (p, l, e, rm_X8_said, s, m, args, below, meth, c, MQ below (tt_Q tt_cl D ca ad n0 sz false (tt_ret (some (.int ρ.1)) ρ.2)) args s 0 0 (tt_A ad n0 sz), D, ca, tt_A ad n0 sz, 5, some n0) ad 0 0 17 [(0, .ref b0), (2, .ref b2), (3, .int x3), (4, .int x4)] [] h := by
    intro fu
    induction fu with
    | zero => intro b0 b2 x3 x4 h hs; exact absurd hs (by rw [s_X8_said_L17]; exact fun q => by cases q)
    | succ n17 ih =>
      intro b0 b2 x3 x4 h hs
      rw [s_X8_said_L17] at hs
      have t_17 := ih
      have t_54 : ∀ (b0 : Nat) (b2 : Nat) (x3 : Int32) (x4 : Int32) (h : tt_H), s_X8_said_J54 (s_X8_said_L17 n17) b0 b2 x3 x4 h = some ρ → tt_T tt_cl (p, l, e, rm_X8_said, s, m, args, below, meth, c, MQ below (tt_Q tt_cl D ca ad n0 sz false (tt_ret (some (.int ρ.1)) ρ.2)) args s 0 0 (tt_A ad n0 sz), D, ca, tt_A ad n0 sz, 5, some n0) ad 0 0 54 [(0, .ref b0), (2, .ref b2), (3, .int x3), (4, .int x4)] [] h := by
        intro b0 b2 x3 x4 h hs
        unfold s_X8_said_J54 at hs
        refine tt_iinc (v := x4 + 1) X dX8_said_54 rfl rfl (Nat.le_of_ble_eq_true rfl) ?_
        refine tt_goto (tgt := 17) X dX8_said_57 (by decide) ?_
        refine tt_drop [0, 2, 3, 4] ?_
        exact t_17 b0 b2 x3 (x4 + 1) h hs
      refine tt_iload X dX8_said_17 rfl ?_
      refine tt_bipush (v := 8) X dX8_said_19 (by decide) ?_
      refine tt_icmp_ge (tgt := 60) X dX8_said_21 (by decide) (fun c21 => ?_) (fun c21 => ?_)
      · rw [if_pos c21] at hs
        refine tt_iload_n X dX8_said_60 rfl ?_
        obtain rfl := Option.some.inj hs
        exact tt_iret X rfl dX8_said_61 ⟨rfl, rfl⟩
      · rw [if_neg c21] at hs
        refine tt_aload_n X dX8_said_24 rfl ?_
        obtain ⟨o25, e25, hs⟩ := gg_bind hs
        refine zr_fr X e25 rfl in_X8_said_X8 (by decide) (by decide +kernel) rfl dX8_said_25 ?_
        refine tt_iload X dX8_said_28 rfl ?_
        obtain ⟨z30, e30, hs⟩ := gg_bind hs
        refine zr_il X e30 dX8_said_30 ?_
        refine tt_if_ne (tgt := 54) X dX8_said_31 (by decide) (fun c31 => ?_) (fun c31 => ?_)
        · rw [if_neg c31] at hs
          refine tt_drop [0, 2, 3, 4] ?_
          exact t_54 b0 b2 x3 x4 h hs
        · rw [if_pos c31] at hs
          refine tt_aload_n X dX8_said_34 rfl ?_
          refine tt_aload_n X dX8_said_35 rfl ?_
          obtain ⟨o36, e36, hs⟩ := gg_bind hs
          refine zr_fr X e36 rfl in_X8_said_X8 (by decide) (by decide +kernel) rfl dX8_said_36 ?_
          refine tt_iload X dX8_said_39 rfl ?_
          obtain ⟨w41, e41, hs⟩ := gg_bind hs
          refine zr_callS X (c_X5_isSaid l e41) (fun hts => va_cwS 3 hts gX8_said_X5_isSaid rfl rfl rfl (by decide +kernel) ⟨by decide, by decide⟩) rfl rfl (Nat.le_of_ble_eq_true rfl) dX8_said_41 ⟨Nat.zero_le _, Nat.zero_le _⟩ ?_
          refine tt_if_eq (tgt := 54) X dX8_said_44 (by decide) (fun c44 => ?_) (fun c44 => ?_)
          · rw [if_pos c44] at hs
            refine tt_drop [0, 2, 3, 4] ?_
            exact t_54 b0 b2 x3 x4 w41.2 hs
          · rw [if_neg c44] at hs
            refine tt_iload_n X dX8_said_47 rfl ?_
            refine tt_iconst (v := 1) X dX8_said_48 (by decide) ?_
            refine tt_iload X dX8_said_49 rfl ?_
            refine tt_ishl X dX8_said_51 ?_
            refine tt_ior X dX8_said_52 ?_
            refine tt_istore_n X dX8_said_53 (Nat.le_of_ble_eq_true rfl) ?_
            refine tt_drop [0, 2, 3, 4] ?_
            exact t_54 b0 b2 (x3 ||| ((1 : Int32) <<< (x4 &&& 31))) x4 w41.2 hs
  refine tt_aload_n X dX8_said_0 rfl ?_
  refine tt_iload_n X dX8_said_1 rfl ?_
  obtain ⟨o2, f2, hs⟩ := gg_bind hs
  obtain ⟨w2, e2, hs⟩ := gg_bind hs
  refine zr_callV X f2 rfl (c_X8_cryOf l e2) (fun hts => cwV 1 hts gX8_said_X8_cryOf rfl rfl rfl (by decide +kernel) ⟨by decide, by decide⟩) rfl rfl (Nat.le_of_ble_eq_true rfl) dX8_said_2 ⟨Nat.zero_le _, Nat.zero_le _⟩ ?_
  refine zr_astore_n X w2.1 dX8_said_5 (Nat.le_of_ble_eq_true rfl) ?_
  refine zr_aload_n X w2.1 dX8_said_6 rfl ?_
  cases hr7 : w2.1 with
  | none =>
    rw [hr7, gg_opt_none] at hs
    refine tt_ifnonnullN X dX8_said_7 ?_
    refine tt_iconst (v := (-1)) X dX8_said_10 (by decide) ?_
    obtain rfl := Option.some.inj hs
    exact tt_iret X rfl dX8_said_11 ⟨rfl, rfl⟩
  | some b7 =>
    rw [hr7, gg_opt_some] at hs
    refine tt_ifnonnull (tgt := 12) X dX8_said_7 (by decide) ?_
    refine tt_iconst (v := 0) X dX8_said_12 (by decide) ?_
    refine tt_istore_n X dX8_said_13 (Nat.le_of_ble_eq_true rfl) ?_
    refine tt_iconst (v := 0) X dX8_said_14 (by decide) ?_
    refine tt_istore X dX8_said_15 (Nat.le_of_ble_eq_true rfl) ?_
    refine tt_drop [0, 2, 3, 4] ?_
    exact t_17 1000 b0 b7 0 0 w2.2 hs
end
section
def s_L_cell (Ls : Nat) (xs : Nat → Int32) (x1 : Int32) (h : tt_H) : Option (Int32 × tt_H) :=
  if (nI Ls) ≤ x1 then
    some (747796405 * (x1 + 1), h)
  else
  (gg_ix x1 Ls (xs x1.toNatClampNeg)).bind fun z8 =>
  some (z8, h)
abbrev rm_L_cell : Room := { frames := 0, cells := 0, slots := 0, locals := 0 }
set_option maxHeartbeats 4000000 in
set_option maxRecDepth 100000 in
theorem c_L_cell (l : Launch) {Ls : Nat} {xs : Nat → Int32} {x1 : Int32} {h : tt_H} {ρ : Int32 × tt_H} (hs : s_L_cell Ls xs x1 h = some ρ) : tt_MY tt_cl l yL_cell wsL_cell rm_L_cell Ls xs [.ref 1000000, .int x1] h (tt_ret (some (.int ρ.1)) ρ.2) := by
  refine tt_MY.of0 (cc := cL_cell) (maxL := 2) (ret := (some .int)) (by decide +kernel) rfl (Nat.le_of_ble_eq_true rfl) ?_
  intro p e s m args below meth c D ca ad n0 sz hwf hsz Y X hini
  unfold s_L_cell at hs
  refine tt_iload_n X dL_cell_0 rfl ?_
  refine tt_aload_n X dL_cell_1 rfl ?_
  refine zr_slen X Y dL_cell_2 ?_
  refine tt_icmp_ge (tgt := 12) X dL_cell_3 (by decide) (fun c3 => ?_) (fun c3 => ?_)
  · rw [if_pos c3] at hs
    refine tt_ldc (v := 747796405) X (by decide +kernel) dL_cell_12 ?_
    refine tt_iload_n X dL_cell_14 rfl ?_
    refine tt_iconst (v := 1) X dL_cell_15 (by decide) ?_
    refine tt_iadd X dL_cell_16 ?_
    refine tt_imul X dL_cell_17 ?_
    obtain rfl := Option.some.inj hs
    exact tt_iret X rfl dL_cell_18 ⟨rfl, rfl⟩
  · rw [if_neg c3] at hs
    refine tt_aload_n X dL_cell_6 rfl ?_
    refine tt_iload_n X dL_cell_7 rfl ?_
    obtain ⟨z8, e8, hs⟩ := gg_bind hs
    refine zr_sl X Y e8 dL_cell_8 ?_
    refine tt_goto (tgt := 18) X dL_cell_9 (by decide) ?_
    obtain rfl := Option.some.inj hs
    exact tt_iret X rfl dL_cell_18 ⟨rfl, rfl⟩

def s_L_some (x0 : Int32) (x1 : Int32) (h : tt_H) : Option (Int32 × tt_H) :=
  (gg_nz x1).bind fun _ =>
  some ((x0 &&& 2147483647) - (x0 &&& 2147483647) / x1 * x1, h)
abbrev rm_L_some : Room := { frames := 0, cells := 0, slots := 0, locals := 0 }
set_option maxHeartbeats 4000000 in
set_option maxRecDepth 100000 in
theorem c_L_some (l : Launch) {x0 : Int32} {x1 : Int32} {h : tt_H} {ρ : Int32 × tt_H} (hs : s_L_some x0 x1 h = some ρ) : tt_M tt_cl l yL_some wsL_some rm_L_some 0 0 false [.int x0, .int x1] h (tt_ret (some (.int ρ.1)) ρ.2) := by
  refine tt_M.of0 (cc := cL_some) (maxL := 2) (ret := (some .int)) (by decide +kernel) rfl (Nat.le_of_ble_eq_true rfl) ?_
  intro p e s m args below meth c D ca ad n0 sz hwf hsz X hini
  unfold s_L_some at hs
  refine tt_iload_n X dL_some_0 rfl ?_
  refine tt_ldc (v := 2147483647) X (by decide +kernel) dL_some_1 ?_
  refine tt_iand X dL_some_3 ?_
  refine tt_iload_n X dL_some_4 rfl ?_
  obtain ⟨q5, e5, hs⟩ := gg_bind hs
  refine tt_irem X dL_some_5 (zr_nz e5) ?_
  obtain rfl := Option.some.inj hs
  exact tt_iret X rfl dL_some_6 ⟨rfl, rfl⟩

def s_L_kinds_L2 : Nat → Nat → Int32 → Nat → Int32 → tt_H → Option (Int32 × tt_H)
  | 0, _, _, _, _, _ => none
  | n + 1, b0, x1, b2, x3, h =>
    if 3 ≤ x3 then
      some (1, h)
    else
    (s_L_some (x1 >>> ((4 * x3) &&& 31)) 8 h).bind fun w14 =>
    (s_L_some (x1 >>> ((3 + (4 * x3)) &&& 31)) 3 w14.2).bind fun w27 =>
    (gg_obj w27.2 b0 8).bind fun _ =>
    (s_X8_kind b0 w14.1 w27.1 w27.2).bind fun w37 =>
    (gg_il w37.2 b2 w14.1).bind fun z43 =>
    if w37.1 = z43 then
      (gg_is w37.2 b2 w14.1 w27.1).bind fun h54 =>
      s_L_kinds_L2 n b0 x1 b2 (x3 + 1) h54
    else
    some (0, w37.2)
def s_L_kinds (b0 : Nat) (x1 : Int32) (b2 : Nat) (h : tt_H) : Option (Int32 × tt_H) :=
  s_L_kinds_L2 1000 b0 x1 b2 0 h
abbrev rm_L_kinds : Room := { frames := 2, cells := 0, slots := 0, locals := 43 }
set_option maxHeartbeats 4000000 in
set_option maxRecDepth 100000 in
theorem c_L_kinds (l : Launch) {b0 : Nat} {x1 : Int32} {b2 : Nat} {h : tt_H} {ρ : Int32 × tt_H} (hs : s_L_kinds b0 x1 b2 h = some ρ) : tt_M tt_cl l yL_kinds wsL_kinds rm_L_kinds 0 0 false [.ref b0, .int x1, .ref b2] h (tt_ret (some (.int ρ.1)) ρ.2) := by
  refine tt_M.of0 (cc := cL_kinds) (maxL := 6) (ret := (some .boolean)) (by decide +kernel) rfl (Nat.le_of_ble_eq_true rfl) ?_
  intro p e s m args below meth c D ca ad n0 sz hwf hsz X hini
  unfold s_L_kinds at hs
  have t_2 : ∀ (fu : Nat) (b0 : Nat) (x1 : Int32) (b2 : Nat) (x3 : Int32) (h : tt_H), s_L_kinds_L2 fu b0 x1 b2 x3 h = some ρ → tt_T tt_cl (p, l, e, rm_L_kinds, s, m, args, below, meth, c, MQ below (tt_Q tt_cl D ca ad n0 sz false (tt_ret (some (.int ρ.1)) ρ.2)) args s 0 0 (tt_A ad n0 sz), D, ca, tt_A ad n0 sz, 6, some n0) ad 0 0 2 [(0, .ref b0), (1, .int x1), (2, .ref b2), (3, .int x3)] [] h := by
    intro fu
    induction fu with
    | zero => intro b0 x1 b2 x3 h hs; exact absurd hs (by rw [s_L_kinds_L2]; exact fun q => by cases q)
    | succ n2 ih =>
      intro b0 x1 b2 x3 h hs
      rw [s_L_kinds_L2] at hs
      have t_2 := ih
      refine tt_iload_n X dL_kinds_2 rfl ?_
      refine tt_iconst (v := 3) X dL_kinds_3 (by decide) ?_
      refine tt_icmp_ge (tgt := 61) X dL_kinds_4 (by decide) (fun c4 => ?_) (fun c4 => ?_)
      · rw [if_pos c4] at hs
        refine tt_iconst (v := 1) X dL_kinds_61 (by decide) ?_
        obtain rfl := Option.some.inj hs
        exact tt_zret X rfl rfl dL_kinds_62 ⟨rfl, rfl⟩
      · rw [if_neg c4] at hs
        refine tt_iload_n X dL_kinds_7 rfl ?_
        refine tt_iconst (v := 4) X dL_kinds_8 (by decide) ?_
        refine tt_iload_n X dL_kinds_9 rfl ?_
        refine tt_imul X dL_kinds_10 ?_
        refine tt_ishr X dL_kinds_11 ?_
        refine tt_bipush (v := 8) X dL_kinds_12 (by decide) ?_
        obtain ⟨w14, e14, hs⟩ := gg_bind hs
        refine zr_callS X (c_L_some l e14) (fun hts => va_cwS 2 hts gL_kinds_L_some rfl rfl rfl (by decide +kernel) ⟨by decide, by decide⟩) rfl rfl (Nat.le_of_ble_eq_true rfl) dL_kinds_14 ⟨Nat.zero_le _, Nat.zero_le _⟩ ?_
        refine tt_istore X dL_kinds_17 (Nat.le_of_ble_eq_true rfl) ?_
        refine tt_iload_n X dL_kinds_19 rfl ?_
        refine tt_iconst (v := 3) X dL_kinds_20 (by decide) ?_
        refine tt_iconst (v := 4) X dL_kinds_21 (by decide) ?_
        refine tt_iload_n X dL_kinds_22 rfl ?_
        refine tt_imul X dL_kinds_23 ?_
        refine tt_iadd X dL_kinds_24 ?_
        refine tt_ishr X dL_kinds_25 ?_
        refine tt_iconst (v := 3) X dL_kinds_26 (by decide) ?_
        obtain ⟨w27, e27, hs⟩ := gg_bind hs
        refine zr_callS X (c_L_some l e27) (fun hts => va_cwS 2 hts gL_kinds_L_some rfl rfl rfl (by decide +kernel) ⟨by decide, by decide⟩) rfl rfl (Nat.le_of_ble_eq_true rfl) dL_kinds_27 ⟨Nat.zero_le _, Nat.zero_le _⟩ ?_
        refine tt_istore X dL_kinds_30 (Nat.le_of_ble_eq_true rfl) ?_
        refine tt_aload_n X dL_kinds_32 rfl ?_
        refine tt_iload X dL_kinds_33 rfl ?_
        refine tt_iload X dL_kinds_35 rfl ?_
        obtain ⟨o37, f37, hs⟩ := gg_bind hs
        obtain ⟨w37, e37, hs⟩ := gg_bind hs
        refine zr_callV X f37 rfl (c_X8_kind l e37) (fun hts => cwV 2 hts gL_kinds_X8_kind rfl rfl rfl (by decide +kernel) ⟨by decide, by decide⟩) rfl rfl (Nat.le_of_ble_eq_true rfl) dL_kinds_37 ⟨Nat.zero_le _, Nat.zero_le _⟩ ?_
        refine tt_aload_n X dL_kinds_40 rfl ?_
        refine tt_iload X dL_kinds_41 rfl ?_
        obtain ⟨z43, e43, hs⟩ := gg_bind hs
        refine zr_il X e43 dL_kinds_43 ?_
        refine tt_icmp_eq (tgt := 49) X dL_kinds_44 (by decide) (fun c44 => ?_) (fun c44 => ?_)
        · rw [if_pos c44] at hs
          refine tt_aload_n X dL_kinds_49 rfl ?_
          refine tt_iload X dL_kinds_50 rfl ?_
          refine tt_iload X dL_kinds_52 rfl ?_
          obtain ⟨h54, e54, hs⟩ := gg_bind hs
          refine zr_is X e54 dL_kinds_54 ?_
          refine tt_iinc (v := x3 + 1) X dL_kinds_55 rfl rfl (Nat.le_of_ble_eq_true rfl) ?_
          refine tt_goto (tgt := 2) X dL_kinds_58 (by decide) ?_
          refine tt_drop [0, 1, 2, 3] ?_
          exact t_2 b0 x1 b2 (x3 + 1) h54 hs
        · rw [if_neg c44] at hs
          refine tt_iconst (v := 0) X dL_kinds_47 (by decide) ?_
          obtain rfl := Option.some.inj hs
          exact tt_zret X rfl rfl dL_kinds_48 ⟨rfl, rfl⟩
  refine tt_iconst (v := 0) X dL_kinds_0 (by decide) ?_
  refine tt_istore_n X dL_kinds_1 (Nat.le_of_ble_eq_true rfl) ?_
  refine tt_drop [0, 1, 2, 3] ?_
  exact t_2 1000 b0 x1 b2 0 h hs

def s_L_with (y0 : Int64) (x2 : Int32) (x3 : Int32) (h : tt_H) : Option (Int64 × tt_H) :=
  some (((y0 &&& (((1 : Int64) <<< ((3 * x2).toInt64 &&& 63)) - 1)) ||| (x3.toInt64 <<< ((3 * x2).toInt64 &&& 63))) ||| ((y0 >>> ((3 * x2).toInt64 &&& 63)) <<< (((3 * x2) + 3).toInt64 &&& 63)), h)
abbrev rm_L_with : Room := { frames := 0, cells := 0, slots := 0, locals := 0 }
set_option maxHeartbeats 4000000 in
set_option maxRecDepth 100000 in
theorem c_L_with (l : Launch) {y0 : Int64} {x2 : Int32} {x3 : Int32} {h : tt_H} {ρ : Int64 × tt_H} (hs : s_L_with y0 x2 x3 h = some ρ) : tt_M tt_cl l yL_with wsL_with rm_L_with 0 0 false [.long y0, .int x2, .int x3] h (tt_ret (some (.long ρ.1)) ρ.2) := by
  refine tt_M.of0 (cc := cL_with) (maxL := 6) (ret := (some .long)) (by decide +kernel) rfl (Nat.le_of_ble_eq_true rfl) ?_
  intro p e s m args below meth c D ca ad n0 sz hwf hsz X hini
  unfold s_L_with at hs
  refine tt_lload_n X dL_with_0 rfl ?_
  refine tt_lconst (v := 1) X dL_with_1 (by decide) ?_
  refine tt_iconst (v := 3) X dL_with_2 (by decide) ?_
  refine tt_iload_n X dL_with_3 rfl ?_
  refine tt_imul X dL_with_4 ?_
  refine tt_lshl X dL_with_5 ?_
  refine tt_lconst (v := 1) X dL_with_6 (by decide) ?_
  refine tt_lsub X dL_with_7 ?_
  refine tt_land X dL_with_8 ?_
  refine tt_lstore X dL_with_9 (Nat.le_of_ble_eq_true rfl) ?_
  refine tt_lload X dL_with_11 rfl ?_
  refine tt_iload_n X dL_with_13 rfl ?_
  refine tt_i2l X dL_with_14 ?_
  refine tt_iconst (v := 3) X dL_with_15 (by decide) ?_
  refine tt_iload_n X dL_with_16 rfl ?_
  refine tt_imul X dL_with_17 ?_
  refine tt_lshl X dL_with_18 ?_
  refine tt_lor X dL_with_19 ?_
  refine tt_lload_n X dL_with_20 rfl ?_
  refine tt_iconst (v := 3) X dL_with_21 (by decide) ?_
  refine tt_iload_n X dL_with_22 rfl ?_
  refine tt_imul X dL_with_23 ?_
  refine tt_lshr X dL_with_24 ?_
  refine tt_iconst (v := 3) X dL_with_25 (by decide) ?_
  refine tt_iload_n X dL_with_26 rfl ?_
  refine tt_imul X dL_with_27 ?_
  refine tt_iconst (v := 3) X dL_with_28 (by decide) ?_
  refine tt_iadd X dL_with_29 ?_
  refine tt_lshl X dL_with_30 ?_
  refine tt_lor X dL_with_31 ?_
  obtain rfl := Option.some.inj hs
  exact tt_lret X rfl dL_with_32 ⟨rfl, rfl⟩

def s_L_word (y0 : Int64) (x2 : Int32) (h : tt_H) : Option (Int32 × tt_H) :=
  some (((y0 >>> ((3 * x2).toInt64 &&& 63)) &&& 7).toInt32, h)
abbrev rm_L_word : Room := { frames := 0, cells := 0, slots := 0, locals := 0 }
set_option maxHeartbeats 4000000 in
set_option maxRecDepth 100000 in
theorem c_L_word (l : Launch) {y0 : Int64} {x2 : Int32} {h : tt_H} {ρ : Int32 × tt_H} (hs : s_L_word y0 x2 h = some ρ) : tt_M tt_cl l yL_word wsL_word rm_L_word 0 0 false [.long y0, .int x2] h (tt_ret (some (.int ρ.1)) ρ.2) := by
  refine tt_M.of0 (cc := cL_word) (maxL := 3) (ret := (some .int)) (by decide +kernel) rfl (Nat.le_of_ble_eq_true rfl) ?_
  intro p e s m args below meth c D ca ad n0 sz hwf hsz X hini
  unfold s_L_word at hs
  refine tt_lload_n X dL_word_0 rfl ?_
  refine tt_iconst (v := 3) X dL_word_1 (by decide) ?_
  refine tt_iload_n X dL_word_2 rfl ?_
  refine tt_imul X dL_word_3 ?_
  refine tt_lshr X dL_word_4 ?_
  refine tt_ldc2 (v := 7) X (by decide +kernel) dL_word_5 ?_
  refine tt_land X dL_word_8 ?_
  refine tt_l2i X dL_word_9 ?_
  obtain rfl := Option.some.inj hs
  exact tt_iret X rfl dL_word_10 ⟨rfl, rfl⟩

def s_L_put_L298 (Ls : Nat) (xs : Nat → Int32) (κ41 : Nat → Int32 → Int32 → Nat → Nat → Int32 → Int32 → Int32 → tt_H → Option (Int32 × tt_H)) : Nat → Nat → Int32 → Int32 → Nat → Nat → Int32 → Int32 → Int32 → Int32 → tt_H → Option (Int32 × tt_H)
  | 0, _, _, _, _, _, _, _, _, _, _ => none
  | n + 1, b0, x2, x3, b4, b5, x6, x7, x8, x12, h =>
    (gg_il h b5 (1 + x8)).bind fun z306 =>
    if z306 ≤ x12 then
      κ41 b0 x2 x3 b4 b5 x6 x7 (x8 + 1) h
    else
    (gg_jl h b4 x8).bind fun z323 =>
    (s_L_word z323 x12 h).bind fun w326 =>
    (gg_obj w326.2 b0 8).bind fun _ =>
    (s_X8_put b0 0 x7 (97 + w326.1) w326.2).bind fun w330 =>
    if w330.1 = 1 then
      s_L_put_L298 Ls xs κ41 n b0 x2 x3 b4 b5 x6 (x7 + 1) x8 (x12 + 1) w330.2
    else
    some ((-99), w330.2)
def s_L_put_J295 (Ls : Nat) (xs : Nat → Int32) (κ41 : Nat → Int32 → Int32 → Nat → Nat → Int32 → Int32 → Int32 → tt_H → Option (Int32 × tt_H)) (b0 : Nat) (x2 : Int32) (x3 : Int32) (b4 : Nat) (b5 : Nat) (x6 : Int32) (x7 : Int32) (x8 : Int32) (h : tt_H) : Option (Int32 × tt_H) :=
  s_L_put_L298 Ls xs κ41 1000 b0 x2 x3 b4 b5 x6 x7 x8 0 h
def s_L_put_J271 (Ls : Nat) (xs : Nat → Int32) (κ41 : Nat → Int32 → Int32 → Nat → Nat → Int32 → Int32 → Int32 → tt_H → Option (Int32 × tt_H)) (b0 : Nat) (x2 : Int32) (x3 : Int32) (b4 : Nat) (b5 : Nat) (x6 : Int32) (x7 : Int32) (x8 : Int32) (h : tt_H) : Option (Int32 × tt_H) :=
  if x8 ≤ 0 then
    s_L_put_J295 Ls xs κ41 b0 x2 x3 b4 b5 x6 x7 x8 h
  else
  (gg_obj h b0 8).bind fun _ =>
  (s_X8_put b0 0 x7 59 h).bind fun w285 =>
  if w285.1 = 1 then
    s_L_put_J295 Ls xs κ41 b0 x2 x3 b4 b5 x6 (x7 + 1) x8 w285.2
  else
  some ((-99), w285.2)
def s_L_put_J232 (Ls : Nat) (xs : Nat → Int32) (κ167 : Nat → Int32 → Int32 → Nat → Nat → Int32 → Int32 → Int32 → Int32 → Int32 → Int32 → tt_H → Option (Int32 × tt_H)) (b0 : Nat) (x2 : Int32) (x3 : Int32) (b4 : Nat) (b5 : Nat) (x6 : Int32) (x7 : Int32) (x8 : Int32) (x9 : Int32) (x11 : Int32) (x12 : Int32) (x13 : Int32) (ux0 : Int32) (ux1 : Int32) (h : tt_H) : Option (Int32 × tt_H) :=
  (s_L_some ux0 ux1 h).bind fun w232 =>
  (gg_jl w232.2 b4 x8).bind fun z245 =>
  (s_L_with z245 x13 w232.1 w232.2).bind fun w250 =>
  (gg_js w250.2 b4 x8 w250.1).bind fun h253 =>
  (gg_il h253 b5 (1 + x8)).bind fun z261 =>
  (gg_is h253 b5 (1 + x8) (z261 + 1)).bind fun h264 =>
  κ167 b0 x2 x3 b4 b5 x6 x7 x8 x9 x11 (x12 + 1) h264
def s_L_put_L167 (Ls : Nat) (xs : Nat → Int32) (κ41 : Nat → Int32 → Int32 → Nat → Nat → Int32 → Int32 → Int32 → tt_H → Option (Int32 × tt_H)) : Nat → Nat → Int32 → Int32 → Nat → Nat → Int32 → Int32 → Int32 → Int32 → Int32 → Int32 → tt_H → Option (Int32 × tt_H)
  | 0, _, _, _, _, _, _, _, _, _, _, _, _ => none
  | n + 1, b0, x2, x3, b4, b5, x6, x7, x8, x9, x11, x12, h =>
    if x11 ≤ x12 then
      s_L_put_J271 Ls xs κ41 b0 x2 x3 b4 b5 x6 x7 x8 h
    else
    (gg_il h b5 (1 + x8)).bind fun z180 =>
    if x3 ≤ z180 then
      s_L_put_J271 Ls xs κ41 b0 x2 x3 b4 b5 x6 x7 x8 h
    else
    (gg_il h b5 (1 + x8)).bind fun z198 =>
    (s_L_some (x9 >>> ((4 + x12) &&& 31)) (z198 + 1) h).bind fun w201 =>
    (s_L_some (x6 >>> (5 &&& 31)) 2 w201.2).bind fun w220 =>
    if w220.1 = 0 then
      s_L_put_J232 Ls xs (s_L_put_L167 Ls xs κ41 n) b0 x2 x3 b4 b5 x6 x7 x8 x9 x11 x12 w201.1 (x9 >>> ((3 + (2 * x12)) &&& 31)) 8 w220.2
    else
    s_L_put_J232 Ls xs (s_L_put_L167 Ls xs κ41 n) b0 x2 x3 b4 b5 x6 x7 x8 x9 x11 x12 w201.1 (x9 >>> ((3 + (2 * x12)) &&& 31)) 3 w220.2
def s_L_put_J162 (Ls : Nat) (xs : Nat → Int32) (κ41 : Nat → Int32 → Int32 → Nat → Nat → Int32 → Int32 → Int32 → tt_H → Option (Int32 × tt_H)) (b0 : Nat) (x2 : Int32) (x3 : Int32) (b4 : Nat) (b5 : Nat) (x6 : Int32) (x7 : Int32) (x8 : Int32) (x9 : Int32) (ux0 : Int32) (h : tt_H) : Option (Int32 × tt_H) :=
  s_L_put_L167 Ls xs κ41 1000 b0 x2 x3 b4 b5 x6 x7 x8 x9 ux0 0 h
def s_L_put_J134 (Ls : Nat) (xs : Nat → Int32) (κ41 : Nat → Int32 → Int32 → Nat → Nat → Int32 → Int32 → Int32 → tt_H → Option (Int32 × tt_H)) (b0 : Nat) (x2 : Int32) (x3 : Int32) (b4 : Nat) (b5 : Nat) (x6 : Int32) (x7 : Int32) (x8 : Int32) (x9 : Int32) (x10 : Int32) (ub0 : Nat) (ux1 : Int32) (ux2 : Int32) (h : tt_H) : Option (Int32 × tt_H) :=
  (gg_is h ub0 ux1 ux2).bind fun h134 =>
  if x10 = 0 then
    (s_L_some (x9 >>> (2 &&& 31)) 6 h134).bind fun w158 =>
    s_L_put_J162 Ls xs κ41 b0 x2 x3 b4 b5 x6 x7 x8 x9 (1 + w158.1) w158.2
  else
  (s_L_some (x9 >>> (2 &&& 31)) 3 h134).bind fun w145 =>
  s_L_put_J162 Ls xs κ41 b0 x2 x3 b4 b5 x6 x7 x8 x9 w145.1 w145.2
def s_L_put_J113 (Ls : Nat) (xs : Nat → Int32) (κ41 : Nat → Int32 → Int32 → Nat → Nat → Int32 → Int32 → Int32 → tt_H → Option (Int32 × tt_H)) (b0 : Nat) (x2 : Int32) (x3 : Int32) (b4 : Nat) (b5 : Nat) (x6 : Int32) (x7 : Int32) (x8 : Int32) (x9 : Int32) (x10 : Int32) (ub0 : Nat) (ux1 : Int32) (uy2 : Int64) (h : tt_H) : Option (Int32 × tt_H) :=
  (gg_js h ub0 ux1 uy2).bind fun h113 =>
  if x10 = 0 then
    s_L_put_J134 Ls xs κ41 b0 x2 x3 b4 b5 x6 x7 x8 x9 x10 b5 (1 + x8) 0 h113
  else
  (gg_il h113 b5 x8).bind fun z129 =>
  s_L_put_J134 Ls xs κ41 b0 x2 x3 b4 b5 x6 x7 x8 x9 x10 b5 (1 + x8) z129 h113
def s_L_put_J91 (Ls : Nat) (xs : Nat → Int32) (κ41 : Nat → Int32 → Int32 → Nat → Nat → Int32 → Int32 → Int32 → tt_H → Option (Int32 × tt_H)) (b0 : Nat) (x2 : Int32) (x3 : Int32) (b4 : Nat) (b5 : Nat) (x6 : Int32) (x7 : Int32) (x8 : Int32) (x9 : Int32) (ux0 : Int32) (h : tt_H) : Option (Int32 × tt_H) :=
  if ux0 = 0 then
    s_L_put_J113 Ls xs κ41 b0 x2 x3 b4 b5 x6 x7 x8 x9 ux0 b4 x8 0 h
  else
  (gg_jl h b4 (x8 - 1)).bind fun z108 =>
  s_L_put_J113 Ls xs κ41 b0 x2 x3 b4 b5 x6 x7 x8 x9 ux0 b4 x8 z108 h
def s_L_put_J90 (Ls : Nat) (xs : Nat → Int32) (κ91 : Nat → Int32 → Int32 → Nat → Nat → Int32 → Int32 → Int32 → Int32 → Int32 → tt_H → Option (Int32 × tt_H)) (b0 : Nat) (x2 : Int32) (x3 : Int32) (b4 : Nat) (b5 : Nat) (x6 : Int32) (x7 : Int32) (x8 : Int32) (x9 : Int32) (h : tt_H) : Option (Int32 × tt_H) :=
  κ91 b0 x2 x3 b4 b5 x6 x7 x8 x9 0 h
def s_L_put_L41 (Ls : Nat) (xs : Nat → Int32) : Nat → Nat → Int32 → Int32 → Nat → Nat → Int32 → Int32 → Int32 → tt_H → Option (Int32 × tt_H)
  | 0, _, _, _, _, _, _, _, _, _ => none
  | n + 1, b0, x2, x3, b4, b5, x6, x7, x8, h =>
    (gg_il h b5 0).bind fun z46 =>
    if z46 ≤ x8 then
      some (x7, h)
    else
    (gg_nz 3).bind fun _ =>
    (s_L_cell Ls xs ((x2 + 1) + (x8 - x8 / 3 * 3)) h).bind fun w59 =>
    (gg_nz 3).bind fun _ =>
    if x8 ≤ 0 then
      s_L_put_J90 Ls xs (s_L_put_J91 Ls xs (s_L_put_L41 Ls xs n)) b0 x2 x3 b4 b5 x6 x7 x8 (w59.1 >>> (((x8 / 3) * 9) &&& 31)) w59.2
    else
    (s_L_some (w59.1 >>> (((x8 / 3) * 9) &&& 31)) 4 w59.2).bind fun w80 =>
    if w80.1 ≤ 0 then
      s_L_put_J90 Ls xs (s_L_put_J91 Ls xs (s_L_put_L41 Ls xs n)) b0 x2 x3 b4 b5 x6 x7 x8 (w59.1 >>> (((x8 / 3) * 9) &&& 31)) w80.2
    else
    s_L_put_J91 Ls xs (s_L_put_L41 Ls xs n) b0 x2 x3 b4 b5 x6 x7 x8 (w59.1 >>> (((x8 / 3) * 9) &&& 31)) 1 w80.2
def s_L_put (Ls : Nat) (xs : Nat → Int32) (b0 : Nat) (x2 : Int32) (x3 : Int32) (b4 : Nat) (b5 : Nat) (h : tt_H) : Option (Int32 × tt_H) :=
  (s_L_cell Ls xs x2 h).bind fun w2 =>
  (s_L_some w2.1 6 w2.2).bind fun w15 =>
  (gg_is w15.2 b5 0 (1 + w15.1)).bind fun h19 =>
  (gg_obj h19 b0 8).bind fun _ =>
  (s_X8_sheet b0 0 0 80 h19).bind fun w25 =>
  if w25.1 = 1 then
    s_L_put_L41 Ls xs 1000 b0 x2 x3 b4 b5 w2.1 0 0 w25.2
  else
  some ((-99), w25.2)
abbrev rm_L_put : Room := { frames := 3, cells := 0, slots := 0, locals := 69 }
set_option maxHeartbeats 4000000 in
set_option maxRecDepth 100000 in
theorem c_L_put (l : Launch) {Ls : Nat} {xs : Nat → Int32} {b0 : Nat} {x2 : Int32} {x3 : Int32} {b4 : Nat} {b5 : Nat} {h : tt_H} {ρ : Int32 × tt_H} (hs : s_L_put Ls xs b0 x2 x3 b4 b5 h = some ρ) : tt_MY tt_cl l yL_put wsL_put rm_L_put Ls xs [.ref b0, .ref 1000000, .int x2, .int x3, .ref b4, .ref b5] h (tt_ret (some (.int ρ.1)) ρ.2) := by
  refine tt_MY.of0 (cc := cL_put) (maxL := 15) (ret := (some .int)) (by decide +kernel) rfl (Nat.le_of_ble_eq_true rfl) ?_
  intro p e s m args below meth c D ca ad n0 sz hwf hsz Y X hini
  unfold s_L_put at hs
  have t_41 : ∀ (fu : Nat) (b0 : Nat) (x2 : Int32) (x3 : Int32) (b4 : Nat) (b5 : Nat) (x6 : Int32) (x7 : Int32) (x8 : Int32) (h : tt_H), s_L_put_L41 Ls xs fu b0 x2 x3 b4 b5 x6 x7 x8 h = some ρ → tt_T tt_cl (p, l, e, rm_L_put, s, m, args, below, meth, c, MQ below (tt_Q tt_cl D ca ad n0 sz false (tt_ret (some (.int ρ.1)) ρ.2)) args s 0 0 (tt_A ad n0 sz), D, ca, tt_A ad n0 sz, 15, some n0) ad 0 0 41 [(0, .ref b0), (1, .ref 1000000), (2, .int x2), (3, .int x3), (4, .ref b4), (5, .ref b5), (6, .int x6), (7, .int x7), (8, .int x8)] [] h := by
    intro fu
    induction fu with
    | zero => intro b0 x2 x3 b4 b5 x6 x7 x8 h hs; exact absurd hs (by rw [s_L_put_L41]; exact fun q => by cases q)
    | succ n41 ih =>
      intro b0 x2 x3 b4 b5 x6 x7 x8 h hs
      rw [s_L_put_L41] at hs
      have t_41 := ih
      have t_91 : ∀ (b0 : Nat) (x2 : Int32) (x3 : Int32) (b4 : Nat) (b5 : Nat) (x6 : Int32) (x7 : Int32) (x8 : Int32) (x9 : Int32) (ux0 : Int32) (h : tt_H), s_L_put_J91 Ls xs (s_L_put_L41 Ls xs n41) b0 x2 x3 b4 b5 x6 x7 x8 x9 ux0 h = some ρ → tt_T tt_cl (p, l, e, rm_L_put, s, m, args, below, meth, c, MQ below (tt_Q tt_cl D ca ad n0 sz false (tt_ret (some (.int ρ.1)) ρ.2)) args s 0 0 (tt_A ad n0 sz), D, ca, tt_A ad n0 sz, 15, some n0) ad 0 0 91 [(0, .ref b0), (1, .ref 1000000), (2, .int x2), (3, .int x3), (4, .ref b4), (5, .ref b5), (6, .int x6), (7, .int x7), (8, .int x8), (9, .int x9)] [.int ux0] h := by
        intro b0 x2 x3 b4 b5 x6 x7 x8 x9 ux0 h hs
        unfold s_L_put_J91 at hs
        have t_113 : ∀ (b0 : Nat) (x2 : Int32) (x3 : Int32) (b4 : Nat) (b5 : Nat) (x6 : Int32) (x7 : Int32) (x8 : Int32) (x9 : Int32) (x10 : Int32) (ub0 : Nat) (ux1 : Int32) (uy2 : Int64) (h : tt_H), s_L_put_J113 Ls xs (s_L_put_L41 Ls xs n41) b0 x2 x3 b4 b5 x6 x7 x8 x9 x10 ub0 ux1 uy2 h = some ρ → tt_T tt_cl (p, l, e, rm_L_put, s, m, args, below, meth, c, MQ below (tt_Q tt_cl D ca ad n0 sz false (tt_ret (some (.int ρ.1)) ρ.2)) args s 0 0 (tt_A ad n0 sz), D, ca, tt_A ad n0 sz, 15, some n0) ad 0 0 113 [(0, .ref b0), (1, .ref 1000000), (2, .int x2), (3, .int x3), (4, .ref b4), (5, .ref b5), (6, .int x6), (7, .int x7), (8, .int x8), (9, .int x9), (10, .int x10)] [.long uy2, .int ux1, .ref ub0] h := by
          intro b0 x2 x3 b4 b5 x6 x7 x8 x9 x10 ub0 ux1 uy2 h hs
          unfold s_L_put_J113 at hs
          have t_134 : ∀ (b0 : Nat) (x2 : Int32) (x3 : Int32) (b4 : Nat) (b5 : Nat) (x6 : Int32) (x7 : Int32) (x8 : Int32) (x9 : Int32) (x10 : Int32) (ub0 : Nat) (ux1 : Int32) (ux2 : Int32) (h : tt_H), s_L_put_J134 Ls xs (s_L_put_L41 Ls xs n41) b0 x2 x3 b4 b5 x6 x7 x8 x9 x10 ub0 ux1 ux2 h = some ρ → tt_T tt_cl (p, l, e, rm_L_put, s, m, args, below, meth, c, MQ below (tt_Q tt_cl D ca ad n0 sz false (tt_ret (some (.int ρ.1)) ρ.2)) args s 0 0 (tt_A ad n0 sz), D, ca, tt_A ad n0 sz, 15, some n0) ad 0 0 134 [(0, .ref b0), (1, .ref 1000000), (2, .int x2), (3, .int x3), (4, .ref b4), (5, .ref b5), (6, .int x6), (7, .int x7), (8, .int x8), (9, .int x9), (10, .int x10)] [.int ux2, .int ux1, .ref ub0] h := by
            intro b0 x2 x3 b4 b5 x6 x7 x8 x9 x10 ub0 ux1 ux2 h hs
            unfold s_L_put_J134 at hs
            have t_162 : ∀ (b0 : Nat) (x2 : Int32) (x3 : Int32) (b4 : Nat) (b5 : Nat) (x6 : Int32) (x7 : Int32) (x8 : Int32) (x9 : Int32) (ux0 : Int32) (h : tt_H), s_L_put_J162 Ls xs (s_L_put_L41 Ls xs n41) b0 x2 x3 b4 b5 x6 x7 x8 x9 ux0 h = some ρ → tt_T tt_cl (p, l, e, rm_L_put, s, m, args, below, meth, c, MQ below (tt_Q tt_cl D ca ad n0 sz false (tt_ret (some (.int ρ.1)) ρ.2)) args s 0 0 (tt_A ad n0 sz), D, ca, tt_A ad n0 sz, 15, some n0) ad 0 0 162 [(0, .ref b0), (1, .ref 1000000), (2, .int x2), (3, .int x3), (4, .ref b4), (5, .ref b5), (6, .int x6), (7, .int x7), (8, .int x8), (9, .int x9)] [.int ux0] h := by
              intro b0 x2 x3 b4 b5 x6 x7 x8 x9 ux0 h hs
              unfold s_L_put_J162 at hs
              have t_167 : ∀ (fu : Nat) (b0 : Nat) (x2 : Int32) (x3 : Int32) (b4 : Nat) (b5 : Nat) (x6 : Int32) (x7 : Int32) (x8 : Int32) (x9 : Int32) (x11 : Int32) (x12 : Int32) (h : tt_H), s_L_put_L167 Ls xs (s_L_put_L41 Ls xs n41) fu b0 x2 x3 b4 b5 x6 x7 x8 x9 x11 x12 h = some ρ → tt_T tt_cl (p, l, e, rm_L_put, s, m, args, below, meth, c, MQ below (tt_Q tt_cl D ca ad n0 sz false (tt_ret (some (.int ρ.1)) ρ.2)) args s 0 0 (tt_A ad n0 sz), D, ca, tt_A ad n0 sz, 15, some n0) ad 0 0 167 [(0, .ref b0), (1, .ref 1000000), (2, .int x2), (3, .int x3), (4, .ref b4), (5, .ref b5), (6, .int x6), (7, .int x7), (8, .int x8), (9, .int x9), (11, .int x11), (12, .int x12)] [] h := by
                intro fu
                induction fu with
                | zero => intro b0 x2 x3 b4 b5 x6 x7 x8 x9 x11 x12 h hs; exact absurd hs (by rw [s_L_put_L167]; exact fun q => by cases q)
                | succ n167 ih =>
                  intro b0 x2 x3 b4 b5 x6 x7 x8 x9 x11 x12 h hs
                  rw [s_L_put_L167] at hs
                  have t_167 := ih
                  have t_271 : ∀ (b0 : Nat) (x2 : Int32) (x3 : Int32) (b4 : Nat) (b5 : Nat) (x6 : Int32) (x7 : Int32) (x8 : Int32) (h : tt_H), s_L_put_J271 Ls xs (s_L_put_L41 Ls xs n41) b0 x2 x3 b4 b5 x6 x7 x8 h = some ρ → tt_T tt_cl (p, l, e, rm_L_put, s, m, args, below, meth, c, MQ below (tt_Q tt_cl D ca ad n0 sz false (tt_ret (some (.int ρ.1)) ρ.2)) args s 0 0 (tt_A ad n0 sz), D, ca, tt_A ad n0 sz, 15, some n0) ad 0 0 271 [(0, .ref b0), (1, .ref 1000000), (2, .int x2), (3, .int x3), (4, .ref b4), (5, .ref b5), (6, .int x6), (7, .int x7), (8, .int x8)] [] h := by
                    intro b0 x2 x3 b4 b5 x6 x7 x8 h hs
                    unfold s_L_put_J271 at hs
                    have t_295 : ∀ (b0 : Nat) (x2 : Int32) (x3 : Int32) (b4 : Nat) (b5 : Nat) (x6 : Int32) (x7 : Int32) (x8 : Int32) (h : tt_H), s_L_put_J295 Ls xs (s_L_put_L41 Ls xs n41) b0 x2 x3 b4 b5 x6 x7 x8 h = some ρ → tt_T tt_cl (p, l, e, rm_L_put, s, m, args, below, meth, c, MQ below (tt_Q tt_cl D ca ad n0 sz false (tt_ret (some (.int ρ.1)) ρ.2)) args s 0 0 (tt_A ad n0 sz), D, ca, tt_A ad n0 sz, 15, some n0) ad 0 0 295 [(0, .ref b0), (1, .ref 1000000), (2, .int x2), (3, .int x3), (4, .ref b4), (5, .ref b5), (6, .int x6), (7, .int x7), (8, .int x8)] [] h := by
                      intro b0 x2 x3 b4 b5 x6 x7 x8 h hs
                      unfold s_L_put_J295 at hs
                      have t_298 : ∀ (fu : Nat) (b0 : Nat) (x2 : Int32) (x3 : Int32) (b4 : Nat) (b5 : Nat) (x6 : Int32) (x7 : Int32) (x8 : Int32) (x12 : Int32) (h : tt_H), s_L_put_L298 Ls xs (s_L_put_L41 Ls xs n41) fu b0 x2 x3 b4 b5 x6 x7 x8 x12 h = some ρ → tt_T tt_cl (p, l, e, rm_L_put, s, m, args, below, meth, c, MQ below (tt_Q tt_cl D ca ad n0 sz false (tt_ret (some (.int ρ.1)) ρ.2)) args s 0 0 (tt_A ad n0 sz), D, ca, tt_A ad n0 sz, 15, some n0) ad 0 0 298 [(0, .ref b0), (1, .ref 1000000), (2, .int x2), (3, .int x3), (4, .ref b4), (5, .ref b5), (6, .int x6), (7, .int x7), (8, .int x8), (12, .int x12)] [] h := by
                        intro fu
                        induction fu with
                        | zero => intro b0 x2 x3 b4 b5 x6 x7 x8 x12 h hs; exact absurd hs (by rw [s_L_put_L298]; exact fun q => by cases q)
                        | succ n298 ih =>
                          intro b0 x2 x3 b4 b5 x6 x7 x8 x12 h hs
                          rw [s_L_put_L298] at hs
                          have t_298 := ih
                          refine tt_iload X dL_put_298 rfl ?_
                          refine tt_aload X dL_put_300 rfl ?_
                          refine tt_iconst (v := 1) X dL_put_302 (by decide) ?_
                          refine tt_iload X dL_put_303 rfl ?_
                          refine tt_iadd X dL_put_305 ?_
                          obtain ⟨z306, e306, hs⟩ := gg_bind hs
                          refine zr_il X e306 dL_put_306 ?_
                          refine tt_icmp_ge (tgt := 346) X dL_put_307 (by decide) (fun c307 => ?_) (fun c307 => ?_)
                          · rw [if_pos c307] at hs
                            refine tt_iinc (v := x8 + 1) X dL_put_346 rfl rfl (Nat.le_of_ble_eq_true rfl) ?_
                            refine tt_goto (tgt := 41) X dL_put_349 (by decide) ?_
                            refine tt_drop [0, 1, 2, 3, 4, 5, 6, 7, 8] ?_
                            exact t_41 b0 x2 x3 b4 b5 x6 x7 (x8 + 1) h hs
                          · rw [if_neg c307] at hs
                            refine tt_aload_n X dL_put_310 rfl ?_
                            refine tt_iconst (v := 0) X dL_put_311 (by decide) ?_
                            refine tt_iload X dL_put_312 rfl ?_
                            refine tt_iinc (v := x7 + 1) X dL_put_314 rfl rfl (Nat.le_of_ble_eq_true rfl) ?_
                            refine tt_bipush (v := 97) X dL_put_317 (by decide) ?_
                            refine tt_aload X dL_put_319 rfl ?_
                            refine tt_iload X dL_put_321 rfl ?_
                            obtain ⟨z323, e323, hs⟩ := gg_bind hs
                            refine zr_jl X e323 dL_put_323 ?_
                            refine tt_iload X dL_put_324 rfl ?_
                            obtain ⟨w326, e326, hs⟩ := gg_bind hs
                            refine zr_callS X (c_L_word l e326) (fun hts => va_cwS 2 hts gL_put_L_word rfl rfl rfl (by decide +kernel) ⟨by decide, by decide⟩) rfl rfl (Nat.le_of_ble_eq_true rfl) dL_put_326 ⟨Nat.zero_le _, Nat.zero_le _⟩ ?_
                            refine tt_iadd X dL_put_329 ?_
                            obtain ⟨o330, f330, hs⟩ := gg_bind hs
                            obtain ⟨w330, e330, hs⟩ := gg_bind hs
                            refine zr_callV X f330 rfl (c_X8_put l e330) (fun hts => cwV 3 hts gL_put_X8_put rfl rfl rfl (by decide +kernel) ⟨by decide, by decide⟩) rfl rfl (Nat.le_of_ble_eq_true rfl) dL_put_330 ⟨Nat.zero_le _, Nat.zero_le _⟩ ?_
                            refine tt_iconst (v := 1) X dL_put_333 (by decide) ?_
                            refine tt_icmp_eq (tgt := 340) X dL_put_334 (by decide) (fun c334 => ?_) (fun c334 => ?_)
                            · rw [if_pos c334] at hs
                              refine tt_iinc (v := x12 + 1) X dL_put_340 rfl rfl (Nat.le_of_ble_eq_true rfl) ?_
                              refine tt_goto (tgt := 298) X dL_put_343 (by decide) ?_
                              refine tt_drop [0, 1, 2, 3, 4, 5, 6, 7, 8, 12] ?_
                              exact t_298 b0 x2 x3 b4 b5 x6 (x7 + 1) x8 (x12 + 1) w330.2 hs
                            · rw [if_neg c334] at hs
                              refine tt_bipush (v := (-99)) X dL_put_337 (by decide) ?_
                              obtain rfl := Option.some.inj hs
                              exact tt_iret X rfl dL_put_339 ⟨rfl, rfl⟩
                      refine tt_iconst (v := 0) X dL_put_295 (by decide) ?_
                      refine tt_istore X dL_put_296 (Nat.le_of_ble_eq_true rfl) ?_
                      refine tt_drop [0, 1, 2, 3, 4, 5, 6, 7, 8, 12] ?_
                      exact t_298 1000 b0 x2 x3 b4 b5 x6 x7 x8 0 h hs
                    refine tt_iload X dL_put_271 rfl ?_
                    refine tt_if_le (tgt := 295) X dL_put_273 (by decide) (fun c273 => ?_) (fun c273 => ?_)
                    · rw [if_pos c273] at hs
                      refine tt_drop [0, 1, 2, 3, 4, 5, 6, 7, 8] ?_
                      exact t_295 b0 x2 x3 b4 b5 x6 x7 x8 h hs
                    · rw [if_neg c273] at hs
                      refine tt_aload_n X dL_put_276 rfl ?_
                      refine tt_iconst (v := 0) X dL_put_277 (by decide) ?_
                      refine tt_iload X dL_put_278 rfl ?_
                      refine tt_iinc (v := x7 + 1) X dL_put_280 rfl rfl (Nat.le_of_ble_eq_true rfl) ?_
                      refine tt_bipush (v := 59) X dL_put_283 (by decide) ?_
                      obtain ⟨o285, f285, hs⟩ := gg_bind hs
                      obtain ⟨w285, e285, hs⟩ := gg_bind hs
                      refine zr_callV X f285 rfl (c_X8_put l e285) (fun hts => cwV 3 hts gL_put_X8_put rfl rfl rfl (by decide +kernel) ⟨by decide, by decide⟩) rfl rfl (Nat.le_of_ble_eq_true rfl) dL_put_285 ⟨Nat.zero_le _, Nat.zero_le _⟩ ?_
                      refine tt_iconst (v := 1) X dL_put_288 (by decide) ?_
                      refine tt_icmp_eq (tgt := 295) X dL_put_289 (by decide) (fun c289 => ?_) (fun c289 => ?_)
                      · rw [if_pos c289] at hs
                        refine tt_drop [0, 1, 2, 3, 4, 5, 6, 7, 8] ?_
                        exact t_295 b0 x2 x3 b4 b5 x6 (x7 + 1) x8 w285.2 hs
                      · rw [if_neg c289] at hs
                        refine tt_bipush (v := (-99)) X dL_put_292 (by decide) ?_
                        obtain rfl := Option.some.inj hs
                        exact tt_iret X rfl dL_put_294 ⟨rfl, rfl⟩
                  have t_232 : ∀ (b0 : Nat) (x2 : Int32) (x3 : Int32) (b4 : Nat) (b5 : Nat) (x6 : Int32) (x7 : Int32) (x8 : Int32) (x9 : Int32) (x11 : Int32) (x12 : Int32) (x13 : Int32) (ux0 : Int32) (ux1 : Int32) (h : tt_H), s_L_put_J232 Ls xs (s_L_put_L167 Ls xs (s_L_put_L41 Ls xs n41) n167) b0 x2 x3 b4 b5 x6 x7 x8 x9 x11 x12 x13 ux0 ux1 h = some ρ → tt_T tt_cl (p, l, e, rm_L_put, s, m, args, below, meth, c, MQ below (tt_Q tt_cl D ca ad n0 sz false (tt_ret (some (.int ρ.1)) ρ.2)) args s 0 0 (tt_A ad n0 sz), D, ca, tt_A ad n0 sz, 15, some n0) ad 0 0 232 [(0, .ref b0), (1, .ref 1000000), (2, .int x2), (3, .int x3), (4, .ref b4), (5, .ref b5), (6, .int x6), (7, .int x7), (8, .int x8), (9, .int x9), (11, .int x11), (12, .int x12), (13, .int x13)] [.int ux1, .int ux0] h := by
                    intro b0 x2 x3 b4 b5 x6 x7 x8 x9 x11 x12 x13 ux0 ux1 h hs
                    unfold s_L_put_J232 at hs
                    obtain ⟨w232, e232, hs⟩ := gg_bind hs
                    refine zr_callS X (c_L_some l e232) (fun hts => va_cwS 2 hts gL_put_L_some rfl rfl rfl (by decide +kernel) ⟨by decide, by decide⟩) rfl rfl (Nat.le_of_ble_eq_true rfl) dL_put_232 ⟨Nat.zero_le _, Nat.zero_le _⟩ ?_
                    refine tt_istore X dL_put_235 (Nat.le_of_ble_eq_true rfl) ?_
                    refine tt_aload X dL_put_237 rfl ?_
                    refine tt_iload X dL_put_239 rfl ?_
                    refine tt_aload X dL_put_241 rfl ?_
                    refine tt_iload X dL_put_243 rfl ?_
                    obtain ⟨z245, e245, hs⟩ := gg_bind hs
                    refine zr_jl X e245 dL_put_245 ?_
                    refine tt_iload X dL_put_246 rfl ?_
                    refine tt_iload X dL_put_248 rfl ?_
                    obtain ⟨w250, e250, hs⟩ := gg_bind hs
                    refine zr_callS X (c_L_with l e250) (fun hts => va_cwS 3 hts gL_put_L_with rfl rfl rfl (by decide +kernel) ⟨by decide, by decide⟩) rfl rfl (Nat.le_of_ble_eq_true rfl) dL_put_250 ⟨Nat.zero_le _, Nat.zero_le _⟩ ?_
                    obtain ⟨h253, e253, hs⟩ := gg_bind hs
                    refine zr_js X e253 dL_put_253 ?_
                    refine tt_aload X dL_put_254 rfl ?_
                    refine tt_iconst (v := 1) X dL_put_256 (by decide) ?_
                    refine tt_iload X dL_put_257 rfl ?_
                    refine tt_iadd X dL_put_259 ?_
                    refine tt_dup2 X dL_put_260 rfl rfl ?_
                    obtain ⟨z261, e261, hs⟩ := gg_bind hs
                    refine zr_il X e261 dL_put_261 ?_
                    refine tt_iconst (v := 1) X dL_put_262 (by decide) ?_
                    refine tt_iadd X dL_put_263 ?_
                    obtain ⟨h264, e264, hs⟩ := gg_bind hs
                    refine zr_is X e264 dL_put_264 ?_
                    refine tt_iinc (v := x12 + 1) X dL_put_265 rfl rfl (Nat.le_of_ble_eq_true rfl) ?_
                    refine tt_goto (tgt := 167) X dL_put_268 (by decide) ?_
                    refine tt_drop [0, 1, 2, 3, 4, 5, 6, 7, 8, 9, 11, 12] ?_
                    exact t_167 b0 x2 x3 b4 b5 x6 x7 x8 x9 x11 (x12 + 1) h264 hs
                  refine tt_iload X dL_put_167 rfl ?_
                  refine tt_iload X dL_put_169 rfl ?_
                  refine tt_icmp_ge (tgt := 271) X dL_put_171 (by decide) (fun c171 => ?_) (fun c171 => ?_)
                  · rw [if_pos c171] at hs
                    refine tt_drop [0, 1, 2, 3, 4, 5, 6, 7, 8] ?_
                    exact t_271 b0 x2 x3 b4 b5 x6 x7 x8 h hs
                  · rw [if_neg c171] at hs
                    refine tt_aload X dL_put_174 rfl ?_
                    refine tt_iconst (v := 1) X dL_put_176 (by decide) ?_
                    refine tt_iload X dL_put_177 rfl ?_
                    refine tt_iadd X dL_put_179 ?_
                    obtain ⟨z180, e180, hs⟩ := gg_bind hs
                    refine zr_il X e180 dL_put_180 ?_
                    refine tt_iload_n X dL_put_181 rfl ?_
                    refine tt_icmp_ge (tgt := 271) X dL_put_182 (by decide) (fun c182 => ?_) (fun c182 => ?_)
                    · rw [if_pos c182] at hs
                      refine tt_drop [0, 1, 2, 3, 4, 5, 6, 7, 8] ?_
                      exact t_271 b0 x2 x3 b4 b5 x6 x7 x8 h hs
                    · rw [if_neg c182] at hs
                      refine tt_iload X dL_put_185 rfl ?_
                      refine tt_iconst (v := 4) X dL_put_187 (by decide) ?_
                      refine tt_iload X dL_put_188 rfl ?_
                      refine tt_iadd X dL_put_190 ?_
                      refine tt_ishr X dL_put_191 ?_
                      refine tt_aload X dL_put_192 rfl ?_
                      refine tt_iconst (v := 1) X dL_put_194 (by decide) ?_
                      refine tt_iload X dL_put_195 rfl ?_
                      refine tt_iadd X dL_put_197 ?_
                      obtain ⟨z198, e198, hs⟩ := gg_bind hs
                      refine zr_il X e198 dL_put_198 ?_
                      refine tt_iconst (v := 1) X dL_put_199 (by decide) ?_
                      refine tt_iadd X dL_put_200 ?_
                      obtain ⟨w201, e201, hs⟩ := gg_bind hs
                      refine zr_callS X (c_L_some l e201) (fun hts => va_cwS 2 hts gL_put_L_some rfl rfl rfl (by decide +kernel) ⟨by decide, by decide⟩) rfl rfl (Nat.le_of_ble_eq_true rfl) dL_put_201 ⟨Nat.zero_le _, Nat.zero_le _⟩ ?_
                      refine tt_istore X dL_put_204 (Nat.le_of_ble_eq_true rfl) ?_
                      refine tt_iload X dL_put_206 rfl ?_
                      refine tt_iconst (v := 3) X dL_put_208 (by decide) ?_
                      refine tt_iconst (v := 2) X dL_put_209 (by decide) ?_
                      refine tt_iload X dL_put_210 rfl ?_
                      refine tt_imul X dL_put_212 ?_
                      refine tt_iadd X dL_put_213 ?_
                      refine tt_ishr X dL_put_214 ?_
                      refine tt_iload X dL_put_215 rfl ?_
                      refine tt_iconst (v := 5) X dL_put_217 (by decide) ?_
                      refine tt_ishr X dL_put_218 ?_
                      refine tt_iconst (v := 2) X dL_put_219 (by decide) ?_
                      obtain ⟨w220, e220, hs⟩ := gg_bind hs
                      refine zr_callS X (c_L_some l e220) (fun hts => va_cwS 2 hts gL_put_L_some rfl rfl rfl (by decide +kernel) ⟨by decide, by decide⟩) rfl rfl (Nat.le_of_ble_eq_true rfl) dL_put_220 ⟨Nat.zero_le _, Nat.zero_le _⟩ ?_
                      refine tt_if_ne (tgt := 231) X dL_put_223 (by decide) (fun c223 => ?_) (fun c223 => ?_)
                      · rw [if_neg c223] at hs
                        refine tt_iconst (v := 3) X dL_put_231 (by decide) ?_
                        refine tt_drop [0, 1, 2, 3, 4, 5, 6, 7, 8, 9, 11, 12, 13] ?_
                        exact t_232 b0 x2 x3 b4 b5 x6 x7 x8 x9 x11 x12 w201.1 (x9 >>> ((3 + (2 * x12)) &&& 31)) 3 w220.2 hs
                      · rw [if_pos c223] at hs
                        refine tt_bipush (v := 8) X dL_put_226 (by decide) ?_
                        refine tt_goto (tgt := 232) X dL_put_228 (by decide) ?_
                        refine tt_drop [0, 1, 2, 3, 4, 5, 6, 7, 8, 9, 11, 12, 13] ?_
                        exact t_232 b0 x2 x3 b4 b5 x6 x7 x8 x9 x11 x12 w201.1 (x9 >>> ((3 + (2 * x12)) &&& 31)) 8 w220.2 hs
              refine tt_istore X dL_put_162 (Nat.le_of_ble_eq_true rfl) ?_
              refine tt_iconst (v := 0) X dL_put_164 (by decide) ?_
              refine tt_istore X dL_put_165 (Nat.le_of_ble_eq_true rfl) ?_
              refine tt_drop [0, 1, 2, 3, 4, 5, 6, 7, 8, 9, 11, 12] ?_
              exact t_167 1000 b0 x2 x3 b4 b5 x6 x7 x8 x9 ux0 0 h hs
            obtain ⟨h134, e134, hs⟩ := gg_bind hs
            refine zr_is X e134 dL_put_134 ?_
            refine tt_iload X dL_put_135 rfl ?_
            refine tt_if_eq (tgt := 151) X dL_put_137 (by decide) (fun c137 => ?_) (fun c137 => ?_)
            · rw [if_pos c137] at hs
              refine tt_iconst (v := 1) X dL_put_151 (by decide) ?_
              refine tt_iload X dL_put_152 rfl ?_
              refine tt_iconst (v := 2) X dL_put_154 (by decide) ?_
              refine tt_ishr X dL_put_155 ?_
              refine tt_bipush (v := 6) X dL_put_156 (by decide) ?_
              obtain ⟨w158, e158, hs⟩ := gg_bind hs
              refine zr_callS X (c_L_some l e158) (fun hts => va_cwS 2 hts gL_put_L_some rfl rfl rfl (by decide +kernel) ⟨by decide, by decide⟩) rfl rfl (Nat.le_of_ble_eq_true rfl) dL_put_158 ⟨Nat.zero_le _, Nat.zero_le _⟩ ?_
              refine tt_iadd X dL_put_161 ?_
              refine tt_drop [0, 1, 2, 3, 4, 5, 6, 7, 8, 9] ?_
              exact t_162 b0 x2 x3 b4 b5 x6 x7 x8 x9 (1 + w158.1) w158.2 hs
            · rw [if_neg c137] at hs
              refine tt_iload X dL_put_140 rfl ?_
              refine tt_iconst (v := 2) X dL_put_142 (by decide) ?_
              refine tt_ishr X dL_put_143 ?_
              refine tt_iconst (v := 3) X dL_put_144 (by decide) ?_
              obtain ⟨w145, e145, hs⟩ := gg_bind hs
              refine zr_callS X (c_L_some l e145) (fun hts => va_cwS 2 hts gL_put_L_some rfl rfl rfl (by decide +kernel) ⟨by decide, by decide⟩) rfl rfl (Nat.le_of_ble_eq_true rfl) dL_put_145 ⟨Nat.zero_le _, Nat.zero_le _⟩ ?_
              refine tt_goto (tgt := 162) X dL_put_148 (by decide) ?_
              refine tt_drop [0, 1, 2, 3, 4, 5, 6, 7, 8, 9] ?_
              exact t_162 b0 x2 x3 b4 b5 x6 x7 x8 x9 w145.1 w145.2 hs
          obtain ⟨h113, e113, hs⟩ := gg_bind hs
          refine zr_js X e113 dL_put_113 ?_
          refine tt_aload X dL_put_114 rfl ?_
          refine tt_iconst (v := 1) X dL_put_116 (by decide) ?_
          refine tt_iload X dL_put_117 rfl ?_
          refine tt_iadd X dL_put_119 ?_
          refine tt_iload X dL_put_120 rfl ?_
          refine tt_if_eq (tgt := 133) X dL_put_122 (by decide) (fun c122 => ?_) (fun c122 => ?_)
          · rw [if_pos c122] at hs
            refine tt_iconst (v := 0) X dL_put_133 (by decide) ?_
            refine tt_drop [0, 1, 2, 3, 4, 5, 6, 7, 8, 9, 10] ?_
            exact t_134 b0 x2 x3 b4 b5 x6 x7 x8 x9 x10 b5 (1 + x8) 0 h113 hs
          · rw [if_neg c122] at hs
            refine tt_aload X dL_put_125 rfl ?_
            refine tt_iload X dL_put_127 rfl ?_
            obtain ⟨z129, e129, hs⟩ := gg_bind hs
            refine zr_il X e129 dL_put_129 ?_
            refine tt_goto (tgt := 134) X dL_put_130 (by decide) ?_
            refine tt_drop [0, 1, 2, 3, 4, 5, 6, 7, 8, 9, 10] ?_
            exact t_134 b0 x2 x3 b4 b5 x6 x7 x8 x9 x10 b5 (1 + x8) z129 h113 hs
        refine tt_istore X dL_put_91 (Nat.le_of_ble_eq_true rfl) ?_
        refine tt_aload X dL_put_93 rfl ?_
        refine tt_iload X dL_put_95 rfl ?_
        refine tt_iload X dL_put_97 rfl ?_
        refine tt_if_eq (tgt := 112) X dL_put_99 (by decide) (fun c99 => ?_) (fun c99 => ?_)
        · rw [if_pos c99] at hs
          refine tt_lconst (v := 0) X dL_put_112 (by decide) ?_
          refine tt_drop [0, 1, 2, 3, 4, 5, 6, 7, 8, 9, 10] ?_
          exact t_113 b0 x2 x3 b4 b5 x6 x7 x8 x9 ux0 b4 x8 0 h hs
        · rw [if_neg c99] at hs
          refine tt_aload X dL_put_102 rfl ?_
          refine tt_iload X dL_put_104 rfl ?_
          refine tt_iconst (v := 1) X dL_put_106 (by decide) ?_
          refine tt_isub X dL_put_107 ?_
          obtain ⟨z108, e108, hs⟩ := gg_bind hs
          refine zr_jl X e108 dL_put_108 ?_
          refine tt_goto (tgt := 113) X dL_put_109 (by decide) ?_
          refine tt_drop [0, 1, 2, 3, 4, 5, 6, 7, 8, 9, 10] ?_
          exact t_113 b0 x2 x3 b4 b5 x6 x7 x8 x9 ux0 b4 x8 z108 h hs
      have t_90 : ∀ (b0 : Nat) (x2 : Int32) (x3 : Int32) (b4 : Nat) (b5 : Nat) (x6 : Int32) (x7 : Int32) (x8 : Int32) (x9 : Int32) (h : tt_H), s_L_put_J90 Ls xs (s_L_put_J91 Ls xs (s_L_put_L41 Ls xs n41)) b0 x2 x3 b4 b5 x6 x7 x8 x9 h = some ρ → tt_T tt_cl (p, l, e, rm_L_put, s, m, args, below, meth, c, MQ below (tt_Q tt_cl D ca ad n0 sz false (tt_ret (some (.int ρ.1)) ρ.2)) args s 0 0 (tt_A ad n0 sz), D, ca, tt_A ad n0 sz, 15, some n0) ad 0 0 90 [(0, .ref b0), (1, .ref 1000000), (2, .int x2), (3, .int x3), (4, .ref b4), (5, .ref b5), (6, .int x6), (7, .int x7), (8, .int x8), (9, .int x9)] [] h := by
        intro b0 x2 x3 b4 b5 x6 x7 x8 x9 h hs
        unfold s_L_put_J90 at hs
        refine tt_iconst (v := 0) X dL_put_90 (by decide) ?_
        refine tt_drop [0, 1, 2, 3, 4, 5, 6, 7, 8, 9] ?_
        exact t_91 b0 x2 x3 b4 b5 x6 x7 x8 x9 0 h hs
      refine tt_iload X dL_put_41 rfl ?_
      refine tt_aload X dL_put_43 rfl ?_
      refine tt_iconst (v := 0) X dL_put_45 (by decide) ?_
      obtain ⟨z46, e46, hs⟩ := gg_bind hs
      refine zr_il X e46 dL_put_46 ?_
      refine tt_icmp_ge (tgt := 352) X dL_put_47 (by decide) (fun c47 => ?_) (fun c47 => ?_)
      · rw [if_pos c47] at hs
        refine tt_iload X dL_put_352 rfl ?_
        obtain rfl := Option.some.inj hs
        exact tt_iret X rfl dL_put_354 ⟨rfl, rfl⟩
      · rw [if_neg c47] at hs
        refine tt_aload_n X dL_put_50 rfl ?_
        refine tt_iload_n X dL_put_51 rfl ?_
        refine tt_iconst (v := 1) X dL_put_52 (by decide) ?_
        refine tt_iadd X dL_put_53 ?_
        refine tt_iload X dL_put_54 rfl ?_
        refine tt_iconst (v := 3) X dL_put_56 (by decide) ?_
        obtain ⟨q57, e57, hs⟩ := gg_bind hs
        refine tt_irem X dL_put_57 (zr_nz e57) ?_
        refine tt_iadd X dL_put_58 ?_
        obtain ⟨w59, e59, hs⟩ := gg_bind hs
        refine zr_callSY X Y (c_L_cell l e59) (fun hts => va_cwS 2 hts gL_put_L_cell rfl rfl rfl (by decide +kernel) ⟨by decide, by decide⟩) rfl rfl (Nat.le_of_ble_eq_true rfl) dL_put_59 ⟨Nat.zero_le _, Nat.zero_le _⟩ ?_
        refine tt_iload X dL_put_62 rfl ?_
        refine tt_iconst (v := 3) X dL_put_64 (by decide) ?_
        obtain ⟨q65, e65, hs⟩ := gg_bind hs
        refine tt_idiv X dL_put_65 (zr_nz e65) ?_
        refine tt_bipush (v := 9) X dL_put_66 (by decide) ?_
        refine tt_imul X dL_put_68 ?_
        refine tt_ishr X dL_put_69 ?_
        refine tt_istore X dL_put_70 (Nat.le_of_ble_eq_true rfl) ?_
        refine tt_iload X dL_put_72 rfl ?_
        refine tt_if_le (tgt := 90) X dL_put_74 (by decide) (fun c74 => ?_) (fun c74 => ?_)
        · rw [if_pos c74] at hs
          refine tt_drop [0, 1, 2, 3, 4, 5, 6, 7, 8, 9] ?_
          exact t_90 b0 x2 x3 b4 b5 x6 x7 x8 (w59.1 >>> (((x8 / 3) * 9) &&& 31)) w59.2 hs
        · rw [if_neg c74] at hs
          refine tt_iload X dL_put_77 rfl ?_
          refine tt_iconst (v := 4) X dL_put_79 (by decide) ?_
          obtain ⟨w80, e80, hs⟩ := gg_bind hs
          refine zr_callS X (c_L_some l e80) (fun hts => va_cwS 2 hts gL_put_L_some rfl rfl rfl (by decide +kernel) ⟨by decide, by decide⟩) rfl rfl (Nat.le_of_ble_eq_true rfl) dL_put_80 ⟨Nat.zero_le _, Nat.zero_le _⟩ ?_
          refine tt_if_le (tgt := 90) X dL_put_83 (by decide) (fun c83 => ?_) (fun c83 => ?_)
          · rw [if_pos c83] at hs
            refine tt_drop [0, 1, 2, 3, 4, 5, 6, 7, 8, 9] ?_
            exact t_90 b0 x2 x3 b4 b5 x6 x7 x8 (w59.1 >>> (((x8 / 3) * 9) &&& 31)) w80.2 hs
          · rw [if_neg c83] at hs
            refine tt_iconst (v := 1) X dL_put_86 (by decide) ?_
            refine tt_goto (tgt := 91) X dL_put_87 (by decide) ?_
            refine tt_drop [0, 1, 2, 3, 4, 5, 6, 7, 8, 9] ?_
            exact t_91 b0 x2 x3 b4 b5 x6 x7 x8 (w59.1 >>> (((x8 / 3) * 9) &&& 31)) 1 w80.2 hs
  refine tt_aload_n X dL_put_0 rfl ?_
  refine tt_iload_n X dL_put_1 rfl ?_
  obtain ⟨w2, e2, hs⟩ := gg_bind hs
  refine zr_callSY X Y (c_L_cell l e2) (fun hts => va_cwS 2 hts gL_put_L_cell rfl rfl rfl (by decide +kernel) ⟨by decide, by decide⟩) rfl rfl (Nat.le_of_ble_eq_true rfl) dL_put_2 ⟨Nat.zero_le _, Nat.zero_le _⟩ ?_
  refine tt_istore X dL_put_5 (Nat.le_of_ble_eq_true rfl) ?_
  refine tt_aload X dL_put_7 rfl ?_
  refine tt_iconst (v := 0) X dL_put_9 (by decide) ?_
  refine tt_iconst (v := 1) X dL_put_10 (by decide) ?_
  refine tt_iload X dL_put_11 rfl ?_
  refine tt_bipush (v := 6) X dL_put_13 (by decide) ?_
  obtain ⟨w15, e15, hs⟩ := gg_bind hs
  refine zr_callS X (c_L_some l e15) (fun hts => va_cwS 2 hts gL_put_L_some rfl rfl rfl (by decide +kernel) ⟨by decide, by decide⟩) rfl rfl (Nat.le_of_ble_eq_true rfl) dL_put_15 ⟨Nat.zero_le _, Nat.zero_le _⟩ ?_
  refine tt_iadd X dL_put_18 ?_
  obtain ⟨h19, e19, hs⟩ := gg_bind hs
  refine zr_is X e19 dL_put_19 ?_
  refine tt_aload_n X dL_put_20 rfl ?_
  refine tt_iconst (v := 0) X dL_put_21 (by decide) ?_
  refine tt_iconst (v := 0) X dL_put_22 (by decide) ?_
  refine tt_bipush (v := 80) X dL_put_23 (by decide) ?_
  obtain ⟨o25, f25, hs⟩ := gg_bind hs
  obtain ⟨w25, e25, hs⟩ := gg_bind hs
  refine zr_callV X f25 rfl (c_X8_sheet l e25) (fun hts => cwV 3 hts gL_put_X8_sheet rfl rfl rfl (by decide +kernel) ⟨by decide, by decide⟩) rfl rfl (Nat.le_of_ble_eq_true rfl) dL_put_25 ⟨Nat.zero_le _, Nat.zero_le _⟩ ?_
  refine tt_iconst (v := 1) X dL_put_28 (by decide) ?_
  refine tt_icmp_eq (tgt := 35) X dL_put_29 (by decide) (fun c29 => ?_) (fun c29 => ?_)
  · rw [if_pos c29] at hs
    refine tt_iconst (v := 0) X dL_put_35 (by decide) ?_
    refine tt_istore X dL_put_36 (Nat.le_of_ble_eq_true rfl) ?_
    refine tt_iconst (v := 0) X dL_put_38 (by decide) ?_
    refine tt_istore X dL_put_39 (Nat.le_of_ble_eq_true rfl) ?_
    refine tt_drop [0, 1, 2, 3, 4, 5, 6, 7, 8] ?_
    exact t_41 1000 b0 x2 x3 b4 b5 w2.1 0 0 w25.2 hs
  · rw [if_neg c29] at hs
    refine tt_bipush (v := (-99)) X dL_put_32 (by decide) ?_
    obtain rfl := Option.some.inj hs
    exact tt_iret X rfl dL_put_34 ⟨rfl, rfl⟩

def s_L_within_J50 (x2 : Int32) (x6 : Int32) (h : tt_H) : Option (Int32 × tt_H) :=
  if x6 = x2 then
    some (1, h)
  else
  some (0, h)
def s_L_within_J41 (κ6 : Int64 → Int32 → Int64 → Int32 → Int32 → Int32 → tt_H → Option (Int32 × tt_H)) (y0 : Int64) (x2 : Int32) (y3 : Int64) (x5 : Int32) (x7 : Int32) (ux0 : Int32) (ux1 : Int32) (h : tt_H) : Option (Int32 × tt_H) :=
  κ6 y0 x2 y3 x5 (ux0 + ux1) (x7 + 1) h
def s_L_within_L6 : Nat → Int64 → Int32 → Int64 → Int32 → Int32 → Int32 → tt_H → Option (Int32 × tt_H)
  | 0, _, _, _, _, _, _, _ => none
  | n + 1, y0, x2, y3, x5, x6, x7, h =>
    if x5 ≤ x7 then
      s_L_within_J50 x2 x6 h
    else
    if x2 ≤ x6 then
      s_L_within_J50 x2 x6 h
    else
    (s_L_word y0 x6 h).bind fun w24 =>
    (s_L_word y3 x7 w24.2).bind fun w30 =>
    if w24.1 = w30.1 then
      s_L_within_J41 (s_L_within_L6 n) y0 x2 y3 x5 x7 x6 1 w30.2
    else
    s_L_within_J41 (s_L_within_L6 n) y0 x2 y3 x5 x7 x6 0 w30.2
def s_L_within (y0 : Int64) (x2 : Int32) (y3 : Int64) (x5 : Int32) (h : tt_H) : Option (Int32 × tt_H) :=
  s_L_within_L6 1000 y0 x2 y3 x5 0 0 h
abbrev rm_L_within : Room := { frames := 1, cells := 0, slots := 0, locals := 22 }
set_option maxHeartbeats 4000000 in
set_option maxRecDepth 100000 in
theorem c_L_within (l : Launch) {y0 : Int64} {x2 : Int32} {y3 : Int64} {x5 : Int32} {h : tt_H} {ρ : Int32 × tt_H} (hs : s_L_within y0 x2 y3 x5 h = some ρ) : tt_M tt_cl l yL_within wsL_within rm_L_within 0 0 false [.long y0, .int x2, .long y3, .int x5] h (tt_ret (some (.int ρ.1)) ρ.2) := by
  refine tt_M.of0 (cc := cL_within) (maxL := 8) (ret := (some .boolean)) (by decide +kernel) rfl (Nat.le_of_ble_eq_true rfl) ?_
  intro p e s m args below meth c D ca ad n0 sz hwf hsz X hini
  unfold s_L_within at hs
  have t_6 : ∀ (fu : Nat) (y0 : Int64) (x2 : Int32) (y3 : Int64) (x5 : Int32) (x6 : Int32) (x7 : Int32) (h : tt_H), s_L_within_L6 fu y0 x2 y3 x5 x6 x7 h = some ρ → tt_T tt_cl (p, l, e, rm_L_within, s, m, args, below, meth, c, MQ below (tt_Q tt_cl D ca ad n0 sz false (tt_ret (some (.int ρ.1)) ρ.2)) args s 0 0 (tt_A ad n0 sz), D, ca, tt_A ad n0 sz, 8, some n0) ad 0 0 6 [(0, .long y0), (2, .int x2), (3, .long y3), (5, .int x5), (6, .int x6), (7, .int x7)] [] h := by
    intro fu
    induction fu with
    | zero => intro y0 x2 y3 x5 x6 x7 h hs; exact absurd hs (by rw [s_L_within_L6]; exact fun q => by cases q)
    | succ n6 ih =>
      intro y0 x2 y3 x5 x6 x7 h hs
      rw [s_L_within_L6] at hs
      have t_6 := ih
      have t_50 : ∀ (x2 : Int32) (x6 : Int32) (h : tt_H), s_L_within_J50 x2 x6 h = some ρ → tt_T tt_cl (p, l, e, rm_L_within, s, m, args, below, meth, c, MQ below (tt_Q tt_cl D ca ad n0 sz false (tt_ret (some (.int ρ.1)) ρ.2)) args s 0 0 (tt_A ad n0 sz), D, ca, tt_A ad n0 sz, 8, some n0) ad 0 0 50 [(2, .int x2), (6, .int x6)] [] h := by
        intro x2 x6 h hs
        unfold s_L_within_J50 at hs
        refine tt_iload X dL_within_50 rfl ?_
        refine tt_iload_n X dL_within_52 rfl ?_
        refine tt_icmp_ne (tgt := 60) X dL_within_53 (by decide) (fun c53 => ?_) (fun c53 => ?_)
        · rw [if_neg c53] at hs
          refine tt_iconst (v := 0) X dL_within_60 (by decide) ?_
          obtain rfl := Option.some.inj hs
          exact tt_zret X rfl rfl dL_within_61 ⟨rfl, rfl⟩
        · rw [if_pos c53] at hs
          refine tt_iconst (v := 1) X dL_within_56 (by decide) ?_
          refine tt_goto (tgt := 61) X dL_within_57 (by decide) ?_
          obtain rfl := Option.some.inj hs
          exact tt_zret X rfl rfl dL_within_61 ⟨rfl, rfl⟩
      have t_41 : ∀ (y0 : Int64) (x2 : Int32) (y3 : Int64) (x5 : Int32) (x7 : Int32) (ux0 : Int32) (ux1 : Int32) (h : tt_H), s_L_within_J41 (s_L_within_L6 n6) y0 x2 y3 x5 x7 ux0 ux1 h = some ρ → tt_T tt_cl (p, l, e, rm_L_within, s, m, args, below, meth, c, MQ below (tt_Q tt_cl D ca ad n0 sz false (tt_ret (some (.int ρ.1)) ρ.2)) args s 0 0 (tt_A ad n0 sz), D, ca, tt_A ad n0 sz, 8, some n0) ad 0 0 41 [(0, .long y0), (2, .int x2), (3, .long y3), (5, .int x5), (7, .int x7)] [.int ux1, .int ux0] h := by
        intro y0 x2 y3 x5 x7 ux0 ux1 h hs
        unfold s_L_within_J41 at hs
        refine tt_iadd X dL_within_41 ?_
        refine tt_istore X dL_within_42 (Nat.le_of_ble_eq_true rfl) ?_
        refine tt_iinc (v := x7 + 1) X dL_within_44 rfl rfl (Nat.le_of_ble_eq_true rfl) ?_
        refine tt_goto (tgt := 6) X dL_within_47 (by decide) ?_
        refine tt_drop [0, 2, 3, 5, 6, 7] ?_
        exact t_6 y0 x2 y3 x5 (ux0 + ux1) (x7 + 1) h hs
      refine tt_iload X dL_within_6 rfl ?_
      refine tt_iload X dL_within_8 rfl ?_
      refine tt_icmp_ge (tgt := 50) X dL_within_10 (by decide) (fun c10 => ?_) (fun c10 => ?_)
      · rw [if_pos c10] at hs
        refine tt_drop [2, 6] ?_
        exact t_50 x2 x6 h hs
      · rw [if_neg c10] at hs
        refine tt_iload X dL_within_13 rfl ?_
        refine tt_iload_n X dL_within_15 rfl ?_
        refine tt_icmp_ge (tgt := 50) X dL_within_16 (by decide) (fun c16 => ?_) (fun c16 => ?_)
        · rw [if_pos c16] at hs
          refine tt_drop [2, 6] ?_
          exact t_50 x2 x6 h hs
        · rw [if_neg c16] at hs
          refine tt_iload X dL_within_19 rfl ?_
          refine tt_lload_n X dL_within_21 rfl ?_
          refine tt_iload X dL_within_22 rfl ?_
          obtain ⟨w24, e24, hs⟩ := gg_bind hs
          refine zr_callS X (c_L_word l e24) (fun hts => va_cwS 2 hts gL_within_L_word rfl rfl rfl (by decide +kernel) ⟨by decide, by decide⟩) rfl rfl (Nat.le_of_ble_eq_true rfl) dL_within_24 ⟨Nat.zero_le _, Nat.zero_le _⟩ ?_
          refine tt_lload_n X dL_within_27 rfl ?_
          refine tt_iload X dL_within_28 rfl ?_
          obtain ⟨w30, e30, hs⟩ := gg_bind hs
          refine zr_callS X (c_L_word l e30) (fun hts => va_cwS 2 hts gL_within_L_word rfl rfl rfl (by decide +kernel) ⟨by decide, by decide⟩) rfl rfl (Nat.le_of_ble_eq_true rfl) dL_within_30 ⟨Nat.zero_le _, Nat.zero_le _⟩ ?_
          refine tt_icmp_ne (tgt := 40) X dL_within_33 (by decide) (fun c33 => ?_) (fun c33 => ?_)
          · rw [if_neg c33] at hs
            refine tt_iconst (v := 0) X dL_within_40 (by decide) ?_
            refine tt_drop [0, 2, 3, 5, 7] ?_
            exact t_41 y0 x2 y3 x5 x7 x6 0 w30.2 hs
          · rw [if_pos c33] at hs
            refine tt_iconst (v := 1) X dL_within_36 (by decide) ?_
            refine tt_goto (tgt := 41) X dL_within_37 (by decide) ?_
            refine tt_drop [0, 2, 3, 5, 7] ?_
            exact t_41 y0 x2 y3 x5 x7 x6 1 w30.2 hs
  refine tt_iconst (v := 0) X dL_within_0 (by decide) ?_
  refine tt_istore X dL_within_1 (Nat.le_of_ble_eq_true rfl) ?_
  refine tt_iconst (v := 0) X dL_within_3 (by decide) ?_
  refine tt_istore X dL_within_4 (Nat.le_of_ble_eq_true rfl) ?_
  refine tt_drop [0, 2, 3, 5, 6, 7] ?_
  exact t_6 1000 y0 x2 y3 x5 0 0 h hs

def s_L_size_L4 : Nat → Int32 → Int32 → tt_H → Option (Int32 × tt_H)
  | 0, _, _, _ => none
  | n + 1, x1, x2, h =>
    if x2 ≤ 0 then
      some (x1, h)
    else
    s_L_size_L4 n (x1 + 1) (x2 &&& (x2 - 1)) h
def s_L_size (x0 : Int32) (h : tt_H) : Option (Int32 × tt_H) :=
  s_L_size_L4 1000 0 x0 h
abbrev rm_L_size : Room := { frames := 0, cells := 0, slots := 0, locals := 0 }
set_option maxHeartbeats 4000000 in
set_option maxRecDepth 100000 in
theorem c_L_size (l : Launch) {x0 : Int32} {h : tt_H} {ρ : Int32 × tt_H} (hs : s_L_size x0 h = some ρ) : tt_M tt_cl l yL_size wsL_size rm_L_size 0 0 false [.int x0] h (tt_ret (some (.int ρ.1)) ρ.2) := by
  refine tt_M.of0 (cc := cL_size) (maxL := 3) (ret := (some .int)) (by decide +kernel) rfl (Nat.le_of_ble_eq_true rfl) ?_
  intro p e s m args below meth c D ca ad n0 sz hwf hsz X hini
  unfold s_L_size at hs
  have t_4 : ∀ (fu : Nat) (x1 : Int32) (x2 : Int32) (h : tt_H), s_L_size_L4 fu x1 x2 h = some ρ → tt_T tt_cl (p, l, e, rm_L_size, s, m, args, below, meth, c, MQ below (tt_Q tt_cl D ca ad n0 sz false (tt_ret (some (.int ρ.1)) ρ.2)) args s 0 0 (tt_A ad n0 sz), D, ca, tt_A ad n0 sz, 3, some n0) ad 0 0 4 [(1, .int x1), (2, .int x2)] [] h := by
    intro fu
    induction fu with
    | zero => intro x1 x2 h hs; exact absurd hs (by rw [s_L_size_L4]; exact fun q => by cases q)
    | succ n4 ih =>
      intro x1 x2 h hs
      rw [s_L_size_L4] at hs
      have t_4 := ih
      refine tt_iload_n X dL_size_4 rfl ?_
      refine tt_if_le (tgt := 20) X dL_size_5 (by decide) (fun c5 => ?_) (fun c5 => ?_)
      · rw [if_pos c5] at hs
        refine tt_iload_n X dL_size_20 rfl ?_
        obtain rfl := Option.some.inj hs
        exact tt_iret X rfl dL_size_21 ⟨rfl, rfl⟩
      · rw [if_neg c5] at hs
        refine tt_iinc (v := x1 + 1) X dL_size_8 rfl rfl (Nat.le_of_ble_eq_true rfl) ?_
        refine tt_iload_n X dL_size_11 rfl ?_
        refine tt_iload_n X dL_size_12 rfl ?_
        refine tt_iconst (v := 1) X dL_size_13 (by decide) ?_
        refine tt_isub X dL_size_14 ?_
        refine tt_iand X dL_size_15 ?_
        refine tt_istore_n X dL_size_16 (Nat.le_of_ble_eq_true rfl) ?_
        refine tt_goto (tgt := 4) X dL_size_17 (by decide) ?_
        refine tt_drop [1, 2] ?_
        exact t_4 (x1 + 1) (x2 &&& (x2 - 1)) h hs
  refine tt_iconst (v := 0) X dL_size_0 (by decide) ?_
  refine tt_istore_n X dL_size_1 (Nat.le_of_ble_eq_true rfl) ?_
  refine tt_iload_n X dL_size_2 rfl ?_
  refine tt_istore_n X dL_size_3 (Nat.le_of_ble_eq_true rfl) ?_
  refine tt_drop [1, 2] ?_
  exact t_4 1000 0 x0 h hs

def s_L_part_J47 (κ9 : Int64 → Int32 → Int32 → Int64 → Int32 → Int32 → tt_H → Option (Int64 × tt_H)) (y0 : Int64) (x2 : Int32) (x3 : Int32) (y4 : Int64) (x6 : Int32) (x7 : Int32) (h : tt_H) : Option (Int64 × tt_H) :=
  κ9 y0 x2 x3 y4 x6 (x7 + 1) h
def s_L_part_L9 : Nat → Int64 → Int32 → Int32 → Int64 → Int32 → Int32 → tt_H → Option (Int64 × tt_H)
  | 0, _, _, _, _, _, _, _ => none
  | n + 1, y0, x2, x3, y4, x6, x7, h =>
    if x2 ≤ x7 then
      some (y4, h)
    else
    if ((x3 >>> (x7 &&& 31)) &&& 1) = 0 then
      s_L_part_J47 (s_L_part_L9 n) y0 x2 x3 y4 x6 x7 h
    else
    (s_L_word y0 x7 h).bind fun w32 =>
    s_L_part_J47 (s_L_part_L9 n) y0 x2 x3 (y4 ||| (w32.1.toInt64 <<< ((3 * x6).toInt64 &&& 63))) (x6 + 1) x7 w32.2
def s_L_part (y0 : Int64) (x2 : Int32) (x3 : Int32) (h : tt_H) : Option (Int64 × tt_H) :=
  s_L_part_L9 1000 y0 x2 x3 0 0 0 h
abbrev rm_L_part : Room := { frames := 1, cells := 0, slots := 0, locals := 22 }
set_option maxHeartbeats 4000000 in
set_option maxRecDepth 100000 in
theorem c_L_part (l : Launch) {y0 : Int64} {x2 : Int32} {x3 : Int32} {h : tt_H} {ρ : Int64 × tt_H} (hs : s_L_part y0 x2 x3 h = some ρ) : tt_M tt_cl l yL_part wsL_part rm_L_part 0 0 false [.long y0, .int x2, .int x3] h (tt_ret (some (.long ρ.1)) ρ.2) := by
  refine tt_M.of0 (cc := cL_part) (maxL := 8) (ret := (some .long)) (by decide +kernel) rfl (Nat.le_of_ble_eq_true rfl) ?_
  intro p e s m args below meth c D ca ad n0 sz hwf hsz X hini
  unfold s_L_part at hs
  have t_9 : ∀ (fu : Nat) (y0 : Int64) (x2 : Int32) (x3 : Int32) (y4 : Int64) (x6 : Int32) (x7 : Int32) (h : tt_H), s_L_part_L9 fu y0 x2 x3 y4 x6 x7 h = some ρ → tt_T tt_cl (p, l, e, rm_L_part, s, m, args, below, meth, c, MQ below (tt_Q tt_cl D ca ad n0 sz false (tt_ret (some (.long ρ.1)) ρ.2)) args s 0 0 (tt_A ad n0 sz), D, ca, tt_A ad n0 sz, 8, some n0) ad 0 0 9 [(0, .long y0), (2, .int x2), (3, .int x3), (4, .long y4), (6, .int x6), (7, .int x7)] [] h := by
    intro fu
    induction fu with
    | zero => intro y0 x2 x3 y4 x6 x7 h hs; exact absurd hs (by rw [s_L_part_L9]; exact fun q => by cases q)
    | succ n9 ih =>
      intro y0 x2 x3 y4 x6 x7 h hs
      rw [s_L_part_L9] at hs
      have t_9 := ih
      have t_47 : ∀ (y0 : Int64) (x2 : Int32) (x3 : Int32) (y4 : Int64) (x6 : Int32) (x7 : Int32) (h : tt_H), s_L_part_J47 (s_L_part_L9 n9) y0 x2 x3 y4 x6 x7 h = some ρ → tt_T tt_cl (p, l, e, rm_L_part, s, m, args, below, meth, c, MQ below (tt_Q tt_cl D ca ad n0 sz false (tt_ret (some (.long ρ.1)) ρ.2)) args s 0 0 (tt_A ad n0 sz), D, ca, tt_A ad n0 sz, 8, some n0) ad 0 0 47 [(0, .long y0), (2, .int x2), (3, .int x3), (4, .long y4), (6, .int x6), (7, .int x7)] [] h := by
        intro y0 x2 x3 y4 x6 x7 h hs
        unfold s_L_part_J47 at hs
        refine tt_iinc (v := x7 + 1) X dL_part_47 rfl rfl (Nat.le_of_ble_eq_true rfl) ?_
        refine tt_goto (tgt := 9) X dL_part_50 (by decide) ?_
        refine tt_drop [0, 2, 3, 4, 6, 7] ?_
        exact t_9 y0 x2 x3 y4 x6 (x7 + 1) h hs
      refine tt_iload X dL_part_9 rfl ?_
      refine tt_iload_n X dL_part_11 rfl ?_
      refine tt_icmp_ge (tgt := 53) X dL_part_12 (by decide) (fun c12 => ?_) (fun c12 => ?_)
      · rw [if_pos c12] at hs
        refine tt_lload X dL_part_53 rfl ?_
        obtain rfl := Option.some.inj hs
        exact tt_lret X rfl dL_part_55 ⟨rfl, rfl⟩
      · rw [if_neg c12] at hs
        refine tt_iload_n X dL_part_15 rfl ?_
        refine tt_iload X dL_part_16 rfl ?_
        refine tt_ishr X dL_part_18 ?_
        refine tt_iconst (v := 1) X dL_part_19 (by decide) ?_
        refine tt_iand X dL_part_20 ?_
        refine tt_if_ne (tgt := 27) X dL_part_21 (by decide) (fun c21 => ?_) (fun c21 => ?_)
        · rw [if_neg c21] at hs
          refine tt_lload X dL_part_27 rfl ?_
          refine tt_lload_n X dL_part_29 rfl ?_
          refine tt_iload X dL_part_30 rfl ?_
          obtain ⟨w32, e32, hs⟩ := gg_bind hs
          refine zr_callS X (c_L_word l e32) (fun hts => va_cwS 2 hts gL_part_L_word rfl rfl rfl (by decide +kernel) ⟨by decide, by decide⟩) rfl rfl (Nat.le_of_ble_eq_true rfl) dL_part_32 ⟨Nat.zero_le _, Nat.zero_le _⟩ ?_
          refine tt_i2l X dL_part_35 ?_
          refine tt_iconst (v := 3) X dL_part_36 (by decide) ?_
          refine tt_iload X dL_part_37 rfl ?_
          refine tt_imul X dL_part_39 ?_
          refine tt_lshl X dL_part_40 ?_
          refine tt_lor X dL_part_41 ?_
          refine tt_lstore X dL_part_42 (Nat.le_of_ble_eq_true rfl) ?_
          refine tt_iinc (v := x6 + 1) X dL_part_44 rfl rfl (Nat.le_of_ble_eq_true rfl) ?_
          refine tt_drop [0, 2, 3, 4, 6, 7] ?_
          exact t_47 y0 x2 x3 (y4 ||| (w32.1.toInt64 <<< ((3 * x6).toInt64 &&& 63))) (x6 + 1) x7 w32.2 hs
        · rw [if_pos c21] at hs
          refine tt_goto (tgt := 47) X dL_part_24 (by decide) ?_
          refine tt_drop [0, 2, 3, 4, 6, 7] ?_
          exact t_47 y0 x2 x3 y4 x6 x7 h hs
  refine tt_lconst (v := 0) X dL_part_0 (by decide) ?_
  refine tt_lstore X dL_part_1 (Nat.le_of_ble_eq_true rfl) ?_
  refine tt_iconst (v := 0) X dL_part_3 (by decide) ?_
  refine tt_istore X dL_part_4 (Nat.le_of_ble_eq_true rfl) ?_
  refine tt_iconst (v := 0) X dL_part_6 (by decide) ?_
  refine tt_istore X dL_part_7 (Nat.le_of_ble_eq_true rfl) ?_
  refine tt_drop [0, 2, 3, 4, 6, 7] ?_
  exact t_9 1000 y0 x2 x3 0 0 0 h hs

def s_L_said_J107 (κ12 : Nat → Int64 → Int32 → Int32 → Int32 → Int32 → Int32 → tt_H → Option (Int32 × tt_H)) (b0 : Nat) (y1 : Int64) (x3 : Int32) (x4 : Int32) (x5 : Int32) (x6 : Int32) (x7 : Int32) (h : tt_H) : Option (Int32 × tt_H) :=
  κ12 b0 y1 x3 x4 x5 x6 (x7 + 1) h
def s_L_said_J98 (κ107 : Nat → Int64 → Int32 → Int32 → Int32 → Int32 → Int32 → tt_H → Option (Int32 × tt_H)) (b0 : Nat) (y1 : Int64) (x3 : Int32) (x7 : Int32) (x8 : Int32) (ux0 : Int32) (h : tt_H) : Option (Int32 × tt_H) :=
  κ107 b0 y1 x3 ux0 0 x8 x7 h
def s_L_said_J63 (κ12 : Nat → Int64 → Int32 → Int32 → Int32 → Int32 → Int32 → tt_H → Option (Int32 × tt_H)) (b0 : Nat) (y1 : Int64) (x3 : Int32) (x4 : Int32) (x5 : Int32) (x6 : Int32) (x7 : Int32) (x8 : Int32) (h : tt_H) : Option (Int32 × tt_H) :=
  (gg_il h b0 x8).bind fun z66 =>
  if z66 ≤ 0 then
    if x5 = 1 then
      s_L_said_J98 (s_L_said_J107 κ12) b0 y1 x3 x7 x8 (x4 &&& (((1 : Int32) <<< (x8 &&& 31)) ^^^ ((-1)))) h
    else
    s_L_said_J98 (s_L_said_J107 κ12) b0 y1 x3 x7 x8 (x4 ||| ((1 : Int32) <<< (x8 &&& 31))) h
  else
  s_L_said_J107 κ12 b0 y1 x3 x4 x5 x6 x7 h
def s_L_said_J39 (κ12 : Nat → Int64 → Int32 → Int32 → Int32 → Int32 → Int32 → tt_H → Option (Int32 × tt_H)) (b0 : Nat) (y1 : Int64) (x3 : Int32) (x4 : Int32) (x5 : Int32) (x6 : Int32) (x7 : Int32) (x8 : Int32) (h : tt_H) : Option (Int32 × tt_H) :=
  (gg_il h b0 x8).bind fun z42 =>
  if z42 = 2 then
    if x6 < 0 then
      s_L_said_J63 κ12 b0 y1 x3 x4 x5 x6 x7 x8 h
    else
    s_L_said_J63 κ12 b0 y1 x3 (x4 &&& (((1 : Int32) <<< (x6 &&& 31)) ^^^ ((-1)))) x5 x6 x7 x8 h
  else
  s_L_said_J63 κ12 b0 y1 x3 x4 x5 x6 x7 x8 h
def s_L_said_L12 : Nat → Nat → Int64 → Int32 → Int32 → Int32 → Int32 → Int32 → tt_H → Option (Int32 × tt_H)
  | 0, _, _, _, _, _, _, _, _ => none
  | n + 1, b0, y1, x3, x4, x5, x6, x7, h =>
    if x3 ≤ x7 then
      some (x4, h)
    else
    (s_L_word y1 x7 h).bind fun w21 =>
    (gg_il w21.2 b0 w21.1).bind fun z29 =>
    if z29 ≤ 0 then
      s_L_said_J39 (s_L_said_L12 n) b0 y1 x3 x4 x5 x6 x7 w21.1 w21.2
    else
    s_L_said_J39 (s_L_said_L12 n) b0 y1 x3 x4 (x5 ^^^ 1) x6 x7 w21.1 w21.2
def s_L_said (b0 : Nat) (y1 : Int64) (x3 : Int32) (h : tt_H) : Option (Int32 × tt_H) :=
  s_L_said_L12 1000 b0 y1 x3 0 0 ((-1)) 0 h
abbrev rm_L_said : Room := { frames := 1, cells := 0, slots := 0, locals := 22 }
set_option maxHeartbeats 4000000 in
set_option maxRecDepth 100000 in
theorem c_L_said (l : Launch) {b0 : Nat} {y1 : Int64} {x3 : Int32} {h : tt_H} {ρ : Int32 × tt_H} (hs : s_L_said b0 y1 x3 h = some ρ) : tt_M tt_cl l yL_said wsL_said rm_L_said 0 0 false [.ref b0, .long y1, .int x3] h (tt_ret (some (.int ρ.1)) ρ.2) := by
  refine tt_M.of0 (cc := cL_said) (maxL := 9) (ret := (some .int)) (by decide +kernel) rfl (Nat.le_of_ble_eq_true rfl) ?_
  intro p e s m args below meth c D ca ad n0 sz hwf hsz X hini
  unfold s_L_said at hs
  have t_12 : ∀ (fu : Nat) (b0 : Nat) (y1 : Int64) (x3 : Int32) (x4 : Int32) (x5 : Int32) (x6 : Int32) (x7 : Int32) (h : tt_H), s_L_said_L12 fu b0 y1 x3 x4 x5 x6 x7 h = some ρ → tt_T tt_cl (p, l, e, rm_L_said, s, m, args, below, meth, c, MQ below (tt_Q tt_cl D ca ad n0 sz false (tt_ret (some (.int ρ.1)) ρ.2)) args s 0 0 (tt_A ad n0 sz), D, ca, tt_A ad n0 sz, 9, some n0) ad 0 0 12 [(0, .ref b0), (1, .long y1), (3, .int x3), (4, .int x4), (5, .int x5), (6, .int x6), (7, .int x7)] [] h := by
    intro fu
    induction fu with
    | zero => intro b0 y1 x3 x4 x5 x6 x7 h hs; exact absurd hs (by rw [s_L_said_L12]; exact fun q => by cases q)
    | succ n12 ih =>
      intro b0 y1 x3 x4 x5 x6 x7 h hs
      rw [s_L_said_L12] at hs
      have t_12 := ih
      have t_39 : ∀ (b0 : Nat) (y1 : Int64) (x3 : Int32) (x4 : Int32) (x5 : Int32) (x6 : Int32) (x7 : Int32) (x8 : Int32) (h : tt_H), s_L_said_J39 (s_L_said_L12 n12) b0 y1 x3 x4 x5 x6 x7 x8 h = some ρ → tt_T tt_cl (p, l, e, rm_L_said, s, m, args, below, meth, c, MQ below (tt_Q tt_cl D ca ad n0 sz false (tt_ret (some (.int ρ.1)) ρ.2)) args s 0 0 (tt_A ad n0 sz), D, ca, tt_A ad n0 sz, 9, some n0) ad 0 0 39 [(0, .ref b0), (1, .long y1), (3, .int x3), (4, .int x4), (5, .int x5), (6, .int x6), (7, .int x7), (8, .int x8)] [] h := by
        intro b0 y1 x3 x4 x5 x6 x7 x8 h hs
        unfold s_L_said_J39 at hs
        have t_63 : ∀ (b0 : Nat) (y1 : Int64) (x3 : Int32) (x4 : Int32) (x5 : Int32) (x6 : Int32) (x7 : Int32) (x8 : Int32) (h : tt_H), s_L_said_J63 (s_L_said_L12 n12) b0 y1 x3 x4 x5 x6 x7 x8 h = some ρ → tt_T tt_cl (p, l, e, rm_L_said, s, m, args, below, meth, c, MQ below (tt_Q tt_cl D ca ad n0 sz false (tt_ret (some (.int ρ.1)) ρ.2)) args s 0 0 (tt_A ad n0 sz), D, ca, tt_A ad n0 sz, 9, some n0) ad 0 0 63 [(0, .ref b0), (1, .long y1), (3, .int x3), (4, .int x4), (5, .int x5), (6, .int x6), (7, .int x7), (8, .int x8)] [] h := by
          intro b0 y1 x3 x4 x5 x6 x7 x8 h hs
          unfold s_L_said_J63 at hs
          have t_107 : ∀ (b0 : Nat) (y1 : Int64) (x3 : Int32) (x4 : Int32) (x5 : Int32) (x6 : Int32) (x7 : Int32) (h : tt_H), s_L_said_J107 (s_L_said_L12 n12) b0 y1 x3 x4 x5 x6 x7 h = some ρ → tt_T tt_cl (p, l, e, rm_L_said, s, m, args, below, meth, c, MQ below (tt_Q tt_cl D ca ad n0 sz false (tt_ret (some (.int ρ.1)) ρ.2)) args s 0 0 (tt_A ad n0 sz), D, ca, tt_A ad n0 sz, 9, some n0) ad 0 0 107 [(0, .ref b0), (1, .long y1), (3, .int x3), (4, .int x4), (5, .int x5), (6, .int x6), (7, .int x7)] [] h := by
            intro b0 y1 x3 x4 x5 x6 x7 h hs
            unfold s_L_said_J107 at hs
            refine tt_iinc (v := x7 + 1) X dL_said_107 rfl rfl (Nat.le_of_ble_eq_true rfl) ?_
            refine tt_goto (tgt := 12) X dL_said_110 (by decide) ?_
            refine tt_drop [0, 1, 3, 4, 5, 6, 7] ?_
            exact t_12 b0 y1 x3 x4 x5 x6 (x7 + 1) h hs
          have t_98 : ∀ (b0 : Nat) (y1 : Int64) (x3 : Int32) (x7 : Int32) (x8 : Int32) (ux0 : Int32) (h : tt_H), s_L_said_J98 (s_L_said_J107 (s_L_said_L12 n12)) b0 y1 x3 x7 x8 ux0 h = some ρ → tt_T tt_cl (p, l, e, rm_L_said, s, m, args, below, meth, c, MQ below (tt_Q tt_cl D ca ad n0 sz false (tt_ret (some (.int ρ.1)) ρ.2)) args s 0 0 (tt_A ad n0 sz), D, ca, tt_A ad n0 sz, 9, some n0) ad 0 0 98 [(0, .ref b0), (1, .long y1), (3, .int x3), (7, .int x7), (8, .int x8)] [.int ux0] h := by
            intro b0 y1 x3 x7 x8 ux0 h hs
            unfold s_L_said_J98 at hs
            refine tt_istore X dL_said_98 (Nat.le_of_ble_eq_true rfl) ?_
            refine tt_iconst (v := 0) X dL_said_100 (by decide) ?_
            refine tt_istore X dL_said_101 (Nat.le_of_ble_eq_true rfl) ?_
            refine tt_iload X dL_said_103 rfl ?_
            refine tt_istore X dL_said_105 (Nat.le_of_ble_eq_true rfl) ?_
            refine tt_drop [0, 1, 3, 4, 5, 6, 7] ?_
            exact t_107 b0 y1 x3 ux0 0 x8 x7 h hs
          refine tt_aload_n X dL_said_63 rfl ?_
          refine tt_iload X dL_said_64 rfl ?_
          obtain ⟨z66, e66, hs⟩ := gg_bind hs
          refine zr_il X e66 dL_said_66 ?_
          refine tt_if_le (tgt := 73) X dL_said_67 (by decide) (fun c67 => ?_) (fun c67 => ?_)
          · rw [if_pos c67] at hs
            refine tt_iload X dL_said_73 rfl ?_
            refine tt_iconst (v := 1) X dL_said_75 (by decide) ?_
            refine tt_icmp_ne (tgt := 91) X dL_said_76 (by decide) (fun c76 => ?_) (fun c76 => ?_)
            · rw [if_neg c76] at hs
              refine tt_iload X dL_said_91 rfl ?_
              refine tt_iconst (v := 1) X dL_said_93 (by decide) ?_
              refine tt_iload X dL_said_94 rfl ?_
              refine tt_ishl X dL_said_96 ?_
              refine tt_ior X dL_said_97 ?_
              refine tt_drop [0, 1, 3, 7, 8] ?_
              exact t_98 b0 y1 x3 x7 x8 (x4 ||| ((1 : Int32) <<< (x8 &&& 31))) h hs
            · rw [if_pos c76] at hs
              refine tt_iload X dL_said_79 rfl ?_
              refine tt_iconst (v := 1) X dL_said_81 (by decide) ?_
              refine tt_iload X dL_said_82 rfl ?_
              refine tt_ishl X dL_said_84 ?_
              refine tt_iconst (v := (-1)) X dL_said_85 (by decide) ?_
              refine tt_ixor X dL_said_86 ?_
              refine tt_iand X dL_said_87 ?_
              refine tt_goto (tgt := 98) X dL_said_88 (by decide) ?_
              refine tt_drop [0, 1, 3, 7, 8] ?_
              exact t_98 b0 y1 x3 x7 x8 (x4 &&& (((1 : Int32) <<< (x8 &&& 31)) ^^^ ((-1)))) h hs
          · rw [if_neg c67] at hs
            refine tt_goto (tgt := 107) X dL_said_70 (by decide) ?_
            refine tt_drop [0, 1, 3, 4, 5, 6, 7] ?_
            exact t_107 b0 y1 x3 x4 x5 x6 x7 h hs
        refine tt_aload_n X dL_said_39 rfl ?_
        refine tt_iload X dL_said_40 rfl ?_
        obtain ⟨z42, e42, hs⟩ := gg_bind hs
        refine zr_il X e42 dL_said_42 ?_
        refine tt_iconst (v := 2) X dL_said_43 (by decide) ?_
        refine tt_icmp_ne (tgt := 63) X dL_said_44 (by decide) (fun c44 => ?_) (fun c44 => ?_)
        · rw [if_neg c44] at hs
          refine tt_drop [0, 1, 3, 4, 5, 6, 7, 8] ?_
          exact t_63 b0 y1 x3 x4 x5 x6 x7 x8 h hs
        · rw [if_pos c44] at hs
          refine tt_iload X dL_said_47 rfl ?_
          refine tt_if_lt (tgt := 63) X dL_said_49 (by decide) (fun c49 => ?_) (fun c49 => ?_)
          · rw [if_pos c49] at hs
            refine tt_drop [0, 1, 3, 4, 5, 6, 7, 8] ?_
            exact t_63 b0 y1 x3 x4 x5 x6 x7 x8 h hs
          · rw [if_neg c49] at hs
            refine tt_iload X dL_said_52 rfl ?_
            refine tt_iconst (v := 1) X dL_said_54 (by decide) ?_
            refine tt_iload X dL_said_55 rfl ?_
            refine tt_ishl X dL_said_57 ?_
            refine tt_iconst (v := (-1)) X dL_said_58 (by decide) ?_
            refine tt_ixor X dL_said_59 ?_
            refine tt_iand X dL_said_60 ?_
            refine tt_istore X dL_said_61 (Nat.le_of_ble_eq_true rfl) ?_
            refine tt_drop [0, 1, 3, 4, 5, 6, 7, 8] ?_
            exact t_63 b0 y1 x3 (x4 &&& (((1 : Int32) <<< (x6 &&& 31)) ^^^ ((-1)))) x5 x6 x7 x8 h hs
      refine tt_iload X dL_said_12 rfl ?_
      refine tt_iload_n X dL_said_14 rfl ?_
      refine tt_icmp_ge (tgt := 113) X dL_said_15 (by decide) (fun c15 => ?_) (fun c15 => ?_)
      · rw [if_pos c15] at hs
        refine tt_iload X dL_said_113 rfl ?_
        obtain rfl := Option.some.inj hs
        exact tt_iret X rfl dL_said_115 ⟨rfl, rfl⟩
      · rw [if_neg c15] at hs
        refine tt_lload_n X dL_said_18 rfl ?_
        refine tt_iload X dL_said_19 rfl ?_
        obtain ⟨w21, e21, hs⟩ := gg_bind hs
        refine zr_callS X (c_L_word l e21) (fun hts => va_cwS 2 hts gL_said_L_word rfl rfl rfl (by decide +kernel) ⟨by decide, by decide⟩) rfl rfl (Nat.le_of_ble_eq_true rfl) dL_said_21 ⟨Nat.zero_le _, Nat.zero_le _⟩ ?_
        refine tt_istore X dL_said_24 (Nat.le_of_ble_eq_true rfl) ?_
        refine tt_aload_n X dL_said_26 rfl ?_
        refine tt_iload X dL_said_27 rfl ?_
        obtain ⟨z29, e29, hs⟩ := gg_bind hs
        refine zr_il X e29 dL_said_29 ?_
        refine tt_if_le (tgt := 39) X dL_said_30 (by decide) (fun c30 => ?_) (fun c30 => ?_)
        · rw [if_pos c30] at hs
          refine tt_drop [0, 1, 3, 4, 5, 6, 7, 8] ?_
          exact t_39 b0 y1 x3 x4 x5 x6 x7 w21.1 w21.2 hs
        · rw [if_neg c30] at hs
          refine tt_iload X dL_said_33 rfl ?_
          refine tt_iconst (v := 1) X dL_said_35 (by decide) ?_
          refine tt_ixor X dL_said_36 ?_
          refine tt_istore X dL_said_37 (Nat.le_of_ble_eq_true rfl) ?_
          refine tt_drop [0, 1, 3, 4, 5, 6, 7, 8] ?_
          exact t_39 b0 y1 x3 x4 (x5 ^^^ 1) x6 x7 w21.1 w21.2 hs
  refine tt_iconst (v := 0) X dL_said_0 (by decide) ?_
  refine tt_istore X dL_said_1 (Nat.le_of_ble_eq_true rfl) ?_
  refine tt_iconst (v := 0) X dL_said_3 (by decide) ?_
  refine tt_istore X dL_said_4 (Nat.le_of_ble_eq_true rfl) ?_
  refine tt_iconst (v := (-1)) X dL_said_6 (by decide) ?_
  refine tt_istore X dL_said_7 (Nat.le_of_ble_eq_true rfl) ?_
  refine tt_iconst (v := 0) X dL_said_9 (by decide) ?_
  refine tt_istore X dL_said_10 (Nat.le_of_ble_eq_true rfl) ?_
  refine tt_drop [0, 1, 3, 4, 5, 6, 7] ?_
  exact t_12 1000 b0 y1 x3 0 0 ((-1)) 0 h hs
end
section
/-! WHAT MAKES CELLS: constructors. More places: 'ad' grows. -/
theorem al_n_eq {n n0 : Nat} {h : tt_H} (h1 : tt_wf n0 h) (h2 : tt_wf n h) : n = n0 := by
  rcases Nat.lt_trichotomy n n0 with q | q | q
  · exact absurd ((h2 n).mpr ((h1 n).mp q)) (Nat.lt_irrefl n)
  · exact q
  · exact absurd ((h1 n0).mpr ((h2 n0).mp q)) (Nat.lt_irrefl n0)
/-- a value that more places don't change (the script's own place is far away) -/
def al_oq (n : Nat) (v : Value) : Prop := match v with
  | .ref i => i < n ∨ 1000000 ≤ i
  | _ => True
theorem al_v_eq {ad ad' : Nat → Nat} {n n' : Nat} (ha : ∀ i, i < n ∨ n' ≤ i → ad' i = ad i) (hn : n' ≤ 1000000) {v : Value} (hv : al_oq n v) : tt_v ad' v = tt_v ad v := by
  cases v <;> first | rfl | skip
  rename_i i
  refine congrArg Value.ref (ha i ?_)
  rcases hv with q | q
  · exact Or.inl q
  · exact Or.inr (Nat.le_trans hn q)
theorem al_vs_eq {ad ad' : Nat → Nat} {n n' : Nat} (ha : ∀ i, i < n ∨ n' ≤ i → ad' i = ad i) (hn : n' ≤ 1000000) {vs : List Value} (hv : ∀ v ∈ vs, al_oq n v) : vs.map (tt_v ad') = vs.map (tt_v ad) :=
  List.map_congr_left (fun v h => al_v_eq ha hn (hv v h))
theorem al_m_eq {ad ad' : Nat → Nat} {n n' : Nat} (ha : ∀ i, i < n ∨ n' ≤ i → ad' i = ad i) (hn : n' ≤ 1000000) {L : List (Nat × Value)} (hv : ∀ q ∈ L, al_oq n q.2) : tt_m ad' L = tt_m ad L :=
  List.map_congr_left (fun q h => by rw [al_v_eq ha hn (hv q h)])
theorem al_okv_mono {n n' : Nat} (h : n ≤ n') {v : Value} (hv : tt_okv n v) : tt_okv n' v := by
  cases v <;> first | trivial | exact Nat.lt_of_lt_of_le hv h
theorem al_oke_mono {n n' : Nat} (h : n ≤ n') {e : tt_E} (he : tt_oke n e) : tt_oke n' e := by
  obtain ⟨t, k, f | f | f | f | f⟩ | ⟨ci, fs⟩ := e
  · trivial
  · trivial
  · trivial
  · trivial
  · exact fun j i hf => Nat.lt_of_lt_of_le (he j i hf) h
  · exact fun v hv => al_okv_mono h (he v hv)
theorem al_ok_up {n : Nat} {h : tt_H} (ho : tt_okh n h) {e : tt_E} (he : tt_oke n e) (i : Nat) : tt_okh n (va_up h i (some e)) := by
  intro j x hx
  by_cases hj : j = i
  · subst hj; rw [va_up_self] at hx; cases hx; exact he
  · rw [va_up_ne _ _ hj] at hx; exact ho j x hx
theorem al_ok_new {n : Nat} {h : tt_H} (ho : tt_okh n h) {e : tt_E} (he : tt_oke n e) : tt_okh (n + 1) (va_up h n (some e)) :=
  al_ok_up (fun j x hx => al_oke_mono (Nat.le_succ n) (ho j x hx)) (al_oke_mono (Nat.le_succ n) he) n
theorem al_wf_put {n : Nat} {h : tt_H} (hw : tt_wf n h) {i : Nat} (hi : i < n) (e : tt_E) : tt_wf n (va_up h i (some e)) := by
  obtain ⟨e0, h0⟩ := Option.isSome_iff_exists.mp ((hw i).mp hi)
  exact tt_wf_set hw h0
/-- what the tables say of arrays of references, and of private constructors among nest mates -/
def al_nests : List (String × Nat × MethodName × String) := [(RX8, 27, yX2_init, RX8), (RX8, 34, yX3_init, RX8), (RX8, 41, yX5_init, RX8), (RX8, 48, yX7_init, RX8), (RX8, 55, yX1_init, RX8), (RX8, 62, yX0_init, RX8), (RX8, 80, yX6_init, RX8), (RX7, 11, yX4_init, RX8), (RX1, 11, yX4_init, RX8), (RX0, 9, yX4_init, RX8)]
def al_E (U : State) : Prop := va_AO "AddedCries$Cry" U ∧ va_AO "AddedCries$Sheet" U ∧ ∀ q ∈ al_nests, va_Nw (.methodLinkNest q.1 q.2.1 q.2.2.1 q.2.2.2) U
theorem al_E.moved {u U : State} (hW : u.WarmedH U.vm) (h : al_E u) : al_E U := ⟨h.1.moved hW.alike, h.2.1.moved hW.alike, fun q hq => va_Nw.warmM hW (h.2.2 q hq)⟩
theorem al_E.same {u U : State} (hvm : u.vm = U.vm) (h : al_E u) : al_E U := ⟨h.1.moved (hvm ▸ Vm.Alike.refl u.vm), h.2.1.moved (hvm ▸ Vm.Alike.refl u.vm), fun q hq => (h.2.2 q hq).same rfl hvm⟩
/-- a constructor's contract -/
def al_N (cl : List vw_C) (l : Launch) (y : MethodName) (ws : List Cond) (rm : Room) (mc ms : Nat) (vs : List Value) (h : tt_H) (P : Option Value → tt_H → Prop) : Prop :=
  ∀ (D : va_G) (ca ad : Nat → Nat) (n sz : Nat), tt_wf n h → Met l y ws rm (va_Pc (vs.map (tt_v ad)) (fun U => tt_B cl D ca ad n sz h U ∧ al_E U)) (tt_Q cl D ca ad n sz true P) mc ms (tt_A ad n sz)
theorem al_N.of {cl : List vw_C} {l : Launch} {y : MethodName} {ws ws' : List Cond} {rm : Room} {mc ms : Nat} {vs : List Value} {h : tt_H} {P : Option Value → tt_H → Prop} {cc : ByteArray} {maxL : Nat} {ret : Option FieldType} (hy : plainName y.cls = true) (hw : ws = Cond.code y cc maxL ret :: ws') (hsl : (lg_sl vs).length ≤ maxL) (hin : y.name = "<init>")
    (body : ∀ (p : Program) (e : Env) (s : State) (m : MethodId) (args : Array Value) (below : List Frame) (meth : Method) (c : Code) (D : va_G) (ca ad : Nat → Nat) (n sz : Nat), tt_wf n h → al_E s → tt_X cl (p, l, e, rm, s, m, args, below, meth, c, MQ below (tt_Q cl D ca ad n sz true P) args s mc ms (tt_A ad n sz), D, ca, tt_A ad n sz, maxL, none) cc y.cls ret ws → meth.name = "<init>" →
      tt_T cl (p, l, e, rm, s, m, args, below, meth, c, MQ below (tt_Q cl D ca ad n sz true P) args s mc ms (tt_A ad n sz), D, ca, tt_A ad n sz, maxL, none) ad 0 0 0 (tt_args 0 vs) [] h) : al_N cl l y ws rm mc ms vs h P := by
  intro D ca ad n sz hwf
  refine Met.ofW (cc := cc) (maxL := maxL) (ret := ret) hy hw ?_
  intro p e s m args below meth c s₁ B hml hv
  obtain ⟨rfl, ⟨hsz, hP, hK, hD0⟩, hE⟩ := hv
  have hl0 := lv_entry (vs.map (tt_v ad)) (n := maxL) (by
    have : ∀ us : List Value, (lg_sl (us.map (tt_v ad))).length = (lg_sl us).length := by
      intro us
      induction us with
      | nil => rfl
      | cons u us ih => cases u <;> simp [lg_sl, tt_v, Value.category] at ih ⊢ <;> first | exact ih | omega
    rw [this]; exact hsl)
  rw [tt_args_m] at hl0
  rw [lg_entry_eq]
  have hX : tt_X cl (p, l, e, rm, s, m, ((vs.map (tt_v ad)).toArray), below, meth, c, MQ below (tt_Q cl D ca ad n sz true P) (vs.map (tt_v ad)).toArray s mc ms (tt_A ad n sz), D, ca, tt_A ad n sz, maxL, none) cc y.cls ret ws :=
    ⟨B.exec, B.bytes, hml, findClass_of_methodNamed B.named, atoms_spec (ws := ws) B.pre, B.returns, B.notSynchronized, hK, fun q hq => Or.inr (by rw [← hsz]; exact hq)⟩
  exact body p e s m _ below meth c D ca ad n sz hwf hE hX (by rw [← hin]; exact (name_of_methodNamed B.named B.method).1) n s.heap [] _ ⟨hwf, hP, tt_A_D (cl := cl) hD0, va_S.rf, trivial⟩ hl0
section ALR
variable {cl : List vw_C} {p : Program} {l : Launch} {e : Env} {R : Room} {s : State} {m : MethodId} {args : Array Value} {below : List Frame} {meth : Method} {c : Code} {D : va_G} {ca : Nat → ClassId} {A : Nat → Prop} {nL : Nat} {Q : State → Prop} {ad : Nat → Nat} {kc ks pc n : Nat} {L : List (Nat × Value)} {st : List Value} {h : tt_H} {cc : ByteArray} {own : String} {ret : Option FieldType} {Ts : List Cond}
theorem al_objInit (X : tt_X cl (p, l, e, R, s, m, args, below, meth, c, Q, D, ca, A, nL, none) cc own ret Ts) {index b : Nat} (hlink : Cond.methodLink own index objectInit ∈ Ts) (hinst : Cond.instanceMethod objectInit ∈ Ts) (hcode : Cond.code objectInit ⟨#[0xb1]⟩ 1 none ∈ Ts) (hd : decode cc pc = .ok (.invokespecial index, 3)) (hfr : 1 ≤ R.frames) (hloc : (st.map fun v => v.category).sum + 12 ≤ R.locals) (kk : tt_T cl (p, l, e, R, s, m, args, below, meth, c, Q, D, ca, A, nL, none) ad kc ks (pc + 3) L st h) : tt_T cl (p, l, e, R, s, m, args, below, meth, c, Q, D, ca, A, nL, none) ad kc ks pc L (.ref b :: st) h := fun n H locs ls hI hl =>
  W.objInit X.1 X.2.1 X.2.2.2.1 (X.2.2.2.2.1 _ hlink) (X.2.2.2.2.1 _ hinst) (X.2.2.2.2.1 _ hcode) rfl (hl.1.trans X.2.2.1.symm) rfl hd hfr (by show 2 * 0 + _ + 12 ≤ _; rw [tt_cats]; omega) (kk n H locs ls hI hl)
theorem al_push {q : Nat} {H H1 : Heap} {locs : List Loc} {x : tt_E} (hw : tt_wf n h) (ho : tt_okh n h) (hx : tt_oke n x)
    (hP : va_P D cl (tt_w ca ad n h ++ [(q, tt_e ca ad x)]) H1) (hD : va_D A (tt_w ca ad n h ++ [(q, tt_e ca ad x)])) (hS : va_S A s.heap H1 locs) : tt_I cl (p, l, e, R, s, m, args, below, meth, c, Q, D, ca, A, nL, none) (va_up ad n q) (n + 1) (va_up h n (some x)) H1 locs := by
  have e1 := tt_w_new (ca := ca) (ad := ad) hw ho hx q
  exact ⟨tt_wf_new hw x, e1 ▸ hP, e1 ▸ hD, hS, trivial⟩
theorem al_new (X : tt_X cl (p, l, e, R, s, m, args, below, meth, c, Q, D, ca, A, nL, none) cc own ret Ts) (hw : tt_wf n h) (ho : tt_okh n h) (hn : n < 1000000) (hL : ∀ q ∈ L, al_oq n q.2) (hS : ∀ v ∈ st, al_oq n v) {C : String} {F : u_T} {N ci index : Nat} (hc : cl[ci]? = some (C, F, N)) (hin : ∀ w ∈ u_ws C F N, w ∈ Ts) (ty : Nat → FieldType) (hty : ∀ k, k < N → parseFieldDescriptor (F k).2.2.1 = some (ty k)) (hcl : Cond.classLink own index C ∈ Ts) (hins : Cond.instantiable C N ∈ Ts) (hini : Cond.initialized C ∈ Ts) {fs : List Value} (hfs : ∀ j, j < N → defaultValue (ty j) = vp_V fs j) (hz : ∀ ad, fs.map (tt_v ad) = fs) (hok : ∀ v ∈ fs, tt_okv n v) (hcells : kc + 1 ≤ R.cells) (hslots : ks + N ≤ R.slots) (hd : decode cc pc = .ok (.new index, 3))
    (kk : ∀ q, tt_T cl (p, l, e, R, s, m, args, below, meth, c, Q, D, ca, A, nL, none) (va_up ad n q) (kc + 1) (ks + N) (pc + 3) L (.ref n :: st) (va_up h n (some (.inr (ci, fs))))) : tt_T cl (p, l, e, R, s, m, args, below, meth, c, Q, D, ca, A, nL, none) ad kc ks pc L st h := by
  intro n' H locs ls hI hl
  obtain rfl := al_n_eq hw hI.1
  refine va_new X.1 X.2.1 X.2.2.2.2.1 hin ty hty X.2.2.2.1 (X.2.2.2.2.1 _ hcl) (X.2.2.2.2.1 _ hins) (X.2.2.2.2.1 _ hini) X.2.2.2.2.2.2.2.1 hI.2.1 hI.2.2.1 hI.2.2.2.1 X.2.2.2.2.2.2.2.2 hc hfs hcells hslots hd (fun q H1 hP hD hS1 => ?_)
  have hag : ∀ i, i < n' ∨ n' + 1 ≤ i → va_up ad n' q i = ad i := fun i hi => va_up_ne _ _ (by omega)
  have hq : (Sum.inr (ci, fs) : va_E) = tt_e ca ad (.inr (ci, fs)) := by show _ = Sum.inr (ci, _); rw [hz]
  rw [hq] at hP hD
  have h9 := kk q (n' + 1) H1 locs ls (al_push (H := H) hw ho hok hP hD hS1) (by rw [al_m_eq hag (by omega) hL]; exact hl)
  rw [List.map_cons, al_vs_eq hag (by omega) hS] at h9
  rw [show tt_v (va_up ad n' q) (.ref n') = .ref q from congrArg Value.ref (va_up_self _ _ _)] at h9
  exact h9
theorem al_newa (X : tt_X cl (p, l, e, R, s, m, args, below, meth, c, Q, D, ca, A, nL, none) cc own ret Ts) (hw : tt_wf n h) (ho : tt_okh n h) (hn : n < 1000000) (hL : ∀ q ∈ L, al_oq n q.2) (hS : ∀ v ∈ st, al_oq n v) {atype : ArrayType} {ty : FieldType} (t : Nat) (ht : tt_tyl[t]? = some ty) (hpr : ∀ (U : State) (cA : ClassId), va_RA U cA ty → U.vm.findClass ("[" ++ ty.toString) = some cA) (harr : Cond.arrayClass ty ∈ Ts) (hty : newarray.typeOf atype = ty) {k : Int32} {N : Nat} {a0 : vp_A} (ha0 : ∀ ad, tt_a ad a0 = a0) (hok : tt_oka n a0) (ha : ∀ cA : ClassId, vp_cell cA a0 = arrV cA N (fun _ => defaultValue ty)) (hn0 : ¬ k < 0) (hN : k.toNatClampNeg = N) (hbytes : N * componentBytes ty ≤ 536870912) (hcells : kc + 1 ≤ R.cells) (hslots : ks + N ≤ R.slots) (hd : decode cc pc = .ok (.newarray atype, 2))
    (kk : ∀ q, tt_T cl (p, l, e, R, s, m, args, below, meth, c, Q, D, ca, A, nL, none) (va_up ad n q) (kc + 1) (ks + N) (pc + 2) L (.ref n :: st) (va_up h n (some (.inl (t, a0))))) : tt_T cl (p, l, e, R, s, m, args, below, meth, c, Q, D, ca, A, nL, none) ad kc ks pc L (.int k :: st) h := by
  intro n' H locs ls hI hl
  obtain rfl := al_n_eq hw hI.1
  refine va_newa X.1 X.2.1 (by rw [hty]; exact X.2.2.2.2.1 _ harr) hty X.2.2.2.2.2.2.2.1 hI.2.1 hI.2.2.1 hI.2.2.2.1 X.2.2.2.2.2.2.2.2 ha hn0 hN hbytes hcells hslots hd (fun q cA H1 hK hP hD hS1 => ?_)
  have hag : ∀ i, i < n' ∨ n' + 1 ≤ i → va_up ad n' q i = ad i := fun i hi => va_up_ne _ _ (by omega)
  have hcA : cA = ca t := by
    have h1 := hpr s cA (hK.2 5 (cA, ty) rfl).2
    have h2 := hpr s (ca t) (X.2.2.2.2.2.2.2.1.2 t _ (tt_tys_at ca ht)).2
    exact Option.some.inj (h1.symm.trans h2)
  have hq : (Sum.inl (cA, a0) : va_E) = tt_e ca ad (.inl (t, a0)) := by rw [hcA]; show _ = Sum.inl (ca t, _); rw [ha0]
  rw [hq] at hP hD
  have h9 := kk q (n' + 1) H1 locs ls (al_push (H := H) (x := .inl (t, a0)) hw ho hok hP hD hS1) (by rw [al_m_eq hag (by omega) hL]; exact hl)
  rw [List.map_cons, al_vs_eq hag (by omega) hS] at h9
  rw [show tt_v (va_up ad n' q) (.ref n') = .ref q from congrArg Value.ref (va_up_self _ _ _)] at h9
  exact h9
theorem al_newq (X : tt_X cl (p, l, e, R, s, m, args, below, meth, c, Q, D, ca, A, nL, none) cc own ret Ts) (hw : tt_wf n h) (ho : tt_okh n h) (hn : n < 1000000) (hL : ∀ q ∈ L, al_oq n q.2) (hS : ∀ v ∈ st, al_oq n v) {C : String} {index : Nat} (t : Nat) (ht : tt_tyl[t]? = some (.object C)) (hcl : Cond.classLink own index C ∈ Ts) (hover : va_AO C s) {k : Int32} {N : Nat} (hn0 : ¬ k < 0) (hN : k.toNatClampNeg = N) (hbytes : N * 4 ≤ 536870912) (hcells : kc + 1 ≤ R.cells) (hslots : ks + N ≤ R.slots) (hd : decode cc pc = .ok (.anewarray index, 3))
    (kk : ∀ q, tt_T cl (p, l, e, R, s, m, args, below, meth, c, Q, D, ca, A, nL, none) (va_up ad n q) (kc + 1) (ks + N) (pc + 3) L (.ref n :: st) (va_up h n (some (tt_qa t N (fun _ => none))))) : tt_T cl (p, l, e, R, s, m, args, below, meth, c, Q, D, ca, A, nL, none) ad kc ks pc L (.int k :: st) h := by
  intro n' H locs ls hI hl
  obtain rfl := al_n_eq hw hI.1
  refine va_newq X.1 X.2.1 X.2.2.2.1 (X.2.2.2.2.1 _ hcl) hover X.2.2.2.2.2.2.2.1 hI.2.1 hI.2.2.1 hI.2.2.2.1 X.2.2.2.2.2.2.2.2 hn0 hN hbytes hcells hslots hd (fun q cA H1 hK hP hD hS1 => ?_)
  have hag : ∀ i, i < n' ∨ n' + 1 ≤ i → va_up ad n' q i = ad i := fun i hi => va_up_ne _ _ (by omega)
  have hcA : cA = ca t := by
    obtain ⟨_, _, _, _, _, h1⟩ := (hK.2 5 (cA, .object C) rfl).2
    obtain ⟨_, _, _, _, _, h2⟩ := (X.2.2.2.2.2.2.2.1.2 t _ (tt_tys_at ca ht)).2
    exact Option.some.inj (h1.symm.trans h2)
  have hq : (Sum.inl (cA, (N, .inr (.inr (.inr (.inr (fun _ => none)))))) : va_E) = tt_e ca ad (tt_qa t N (fun _ => none)) := by rw [hcA]; rfl
  rw [hq] at hP hD
  have h9 := kk q (n' + 1) H1 locs ls (al_push (H := H) (x := tt_qa t N (fun _ => none)) hw ho (fun j i hf => by cases hf) hP hD hS1) (by rw [al_m_eq hag (by omega) hL]; exact hl)
  rw [List.map_cons, al_vs_eq hag (by omega) hS] at h9
  rw [show tt_v (va_up ad n' q) (.ref n') = .ref q from congrArg Value.ref (va_up_self _ _ _)] at h9
  exact h9
variable {y : MethodName} {bytes : ByteArray} {maxL mc ms index : Nat} {ws : List Cond} {rm : Room} {P : Option Value → tt_H → Prop}
/-- a constructor's call -/
theorem al_call (X : tt_X cl (p, l, e, R, s, m, args, below, meth, c, Q, D, ca, A, nL, none) cc own ret Ts) (hE : al_E s) (hw : tt_wf n h) {b n2 : Nat} (hn2 : n ≤ n2 ∧ n2 < 1000000) (hL : ∀ q ∈ L, al_oq n q.2) (hS : ∀ v ∈ st, al_oq n v) (hM : al_N cl l y ws rm mc ms [.ref b] h P) (hP2 : ∀ v h', P v h' → v = none ∧ tt_wf n2 h') (cw : (∀ w ∈ Ts, w.before args s = true) → CallB R s args own index y bytes maxL none ws rm mc ms 0 ∧ y.name = "<init>" ∧ (Cond.instanceMethod y).before args s = true) (hW : (st.map fun v => v.category).sum ≤ 8) (hd : decode cc pc = .ok (.invokespecial index, 3)) (hf : kc + mc ≤ R.cells ∧ ks + ms ≤ R.slots)
    (kk : ∀ (h' : tt_H) (ad' : Nat → Nat), P none h' → (∀ i, i < n ∨ n2 ≤ i → ad' i = ad i) → tt_T cl (p, l, e, R, s, m, args, below, meth, c, Q, D, ca, A, nL, none) ad' (kc + mc) (ks + ms) (pc + 3) L st h') : tt_T cl (p, l, e, R, s, m, args, below, meth, c, Q, D, ca, A, nL, none) ad kc ks pc L (.ref b :: st) h := by
  intro n' H locs ls hI hl
  obtain rfl := al_n_eq hw hI.1
  refine tt_back (st0 := .ref b :: st) (st := st) (mc := mc) (ms := ms) (al := true) (P := P) (ar := (Value.ref (ad b) :: []).toArray) hI X.2.2.2.2.2.2.2.2 (Or.inr rfl) ?_ (fun v h' ad' n2' H' locs' hp _ _ hag hI' => ?_)
  · have hpr : PreS s H (va_Pc (([.ref b] : List Value).map (tt_v ad)) (fun U => tt_B cl D ca ad n' H.size h U ∧ al_E U)) (([.ref b] : List Value).map (tt_v ad)) :=
      ⟨fun a U g mk q => ⟨q.1, ⟨q.2.1.1, q.2.1.2.1, va_K.moved (u := U) (U := U.calling g mk a) (Vm.Alike.refl U.vm) q.2.1.2.2.1, q.2.1.2.2.2⟩, al_E.same (u := U) (U := U.calling g mk a) rfl q.2.2⟩, fun U hU hW => ⟨rfl, ⟨by rw [hU], by rw [hU]; exact hI.2.1, va_K.moved hW.alike X.2.2.2.2.2.2.2.1, hI.2.2.1.weaken (fun _ _ _ _ => trivial)⟩, hE.moved hW⟩⟩
    exact va_runI (b := ad b) (As := []) (rest := st.map (tt_v ad)) ⟨X.1, X.2.1, X.2.2.1, X.2.2.2.1, X.2.2.2.2.1⟩ (hM D ca ad n' H.size hI.1) (cw X.2.2.2.2.1) hpr rfl rfl hl.1 rfl (by show 2 * 0 + _ ≤ 8; rw [tt_cats]; omega) hd hf
  · obtain ⟨rfl, hw2⟩ := hP2 v h' hp
    obtain rfl := al_n_eq hw2 hI'.1
    have h9 := kk h' ad' hp hag n2' H' locs' ls hI' (by rw [al_m_eq hag (by omega) hL]; exact hl)
    rw [al_vs_eq hag (by omega) hS] at h9
    exact h9
/-- a nest mate's private constructor's call -/
theorem al_callN (X : tt_X cl (p, l, e, R, s, m, args, below, meth, c, Q, D, ca, A, nL, none) cc own ret Ts) (hE : al_E s) (hw : tt_wf n h) {b n2 : Nat} {host : String} (hn2 : n ≤ n2 ∧ n2 < 1000000) (hL : ∀ q ∈ L, al_oq n q.2) (hS : ∀ v ∈ st, al_oq n v) (hM : al_N cl l y ws rm mc ms [.ref b] h P) (hP2 : ∀ v h', P v h' → v = none ∧ tt_wf n2 h') (cw : (∀ w ∈ Ts, w.before args s = true) → va_CN R s args own index y host bytes maxL none ws rm mc ms 0 ∧ y.name = "<init>" ∧ (Cond.instanceMethod y).before args s = true) (hW : (st.map fun v => v.category).sum ≤ 8) (hd : decode cc pc = .ok (.invokespecial index, 3)) (hf : kc + mc ≤ R.cells ∧ ks + ms ≤ R.slots)
    (kk : ∀ (h' : tt_H) (ad' : Nat → Nat), P none h' → (∀ i, i < n ∨ n2 ≤ i → ad' i = ad i) → tt_T cl (p, l, e, R, s, m, args, below, meth, c, Q, D, ca, A, nL, none) ad' (kc + mc) (ks + ms) (pc + 3) L st h') : tt_T cl (p, l, e, R, s, m, args, below, meth, c, Q, D, ca, A, nL, none) ad kc ks pc L (.ref b :: st) h := by
  intro n' H locs ls hI hl
  obtain rfl := al_n_eq hw hI.1
  refine tt_back (st0 := .ref b :: st) (st := st) (mc := mc) (ms := ms) (al := true) (P := P) (ar := (Value.ref (ad b) :: []).toArray) hI X.2.2.2.2.2.2.2.2 (Or.inr rfl) ?_ (fun v h' ad' n2' H' locs' hp _ _ hag hI' => ?_)
  · have hpr : PreS s H (va_Pc (([.ref b] : List Value).map (tt_v ad)) (fun U => tt_B cl D ca ad n' H.size h U ∧ al_E U)) (([.ref b] : List Value).map (tt_v ad)) :=
      ⟨fun a U g mk q => ⟨q.1, ⟨q.2.1.1, q.2.1.2.1, va_K.moved (u := U) (U := U.calling g mk a) (Vm.Alike.refl U.vm) q.2.1.2.2.1, q.2.1.2.2.2⟩, al_E.same (u := U) (U := U.calling g mk a) rfl q.2.2⟩, fun U hU hW => ⟨rfl, ⟨by rw [hU], by rw [hU]; exact hI.2.1, va_K.moved hW.alike X.2.2.2.2.2.2.2.1, hI.2.2.1.weaken (fun _ _ _ _ => trivial)⟩, hE.moved hW⟩⟩
    exact va_runIN (b := ad b) (As := []) (rest := st.map (tt_v ad)) ⟨X.1, X.2.1, X.2.2.1, X.2.2.2.1, X.2.2.2.2.1⟩ (hM D ca ad n' H.size hI.1) (cw X.2.2.2.2.1) hpr rfl rfl hl.1 rfl (by show 2 * 0 + _ ≤ 8; rw [tt_cats]; omega) hd hf
  · obtain ⟨rfl, hw2⟩ := hP2 v h' hp
    obtain rfl := al_n_eq hw2 hI'.1
    have h9 := kk h' ad' hp hag n2' H' locs' ls hI' (by rw [al_m_eq hag (by omega) hL]; exact hl)
    rw [al_vs_eq hag (by omega) hS] at h9
    exact h9
end ALR
section ALE
variable {cl : List vw_C} {p : Program} {l : Launch} {e : Env} {R : Room} {s : State} {m : MethodId} {args : Array Value} {below : List Frame} {meth : Method} {c : Code} {D : va_G} {ca : Nat → ClassId} {nL : Nat} {ad ad0 : Nat → Nat} {pc n0 n2 sz mc ms : Nat} {L : List (Nat × Value)} {h : tt_H} {cc : ByteArray} {own : String} {ret : Option FieldType} {Ts : List Cond} {P : Option Value → tt_H → Prop}
theorem al_vret (X : tt_X cl (p, l, e, R, s, m, args, below, meth, c, MQ below (tt_Q cl D ca ad0 n0 sz true P) args s mc ms (tt_A ad0 n0 sz), D, ca, tt_A ad0 n0 sz, nL, none) cc own ret Ts) (hr : ret = none) (hd : decode cc pc = .ok (.return_, 1)) (hw : tt_wf n2 h) (hn : n0 ≤ n2) (hag : ∀ i, i < n0 ∨ n2 ≤ i → ad i = ad0 i) (hP : P none h) : tt_T cl (p, l, e, R, s, m, args, below, meth, c, MQ below (tt_Q cl D ca ad0 n0 sz true P) args s mc ms (tt_A ad0 n0 sz), D, ca, tt_A ad0 n0 sz, nL, none) ad mc ms pc L [] h := by
  intro n H locs ls hI hl
  obtain rfl := al_n_eq hw hI.1
  exact W.vret X.1 X.2.1 (by rw [X.2.2.2.2.2.1, hr]) (tt_end (v := none) hI hP ⟨hn, (fun q => by cases q), hag⟩) hI.2.2.2.1.2.2 hd X.2.2.2.2.2.2.1
end ALE
end
section
theorem al_okq_up {n a k : Nat} {f : Nat → Option Nat} (hf : ∀ j i, f j = some i → i < n) (ha : a < n) : ∀ j i, va_up f k (some a) j = some i → i < n := by
  intro j i h
  by_cases hj : j = k
  · subst hj; rw [va_up_self] at h; cases h; exact ha
  · rw [va_up_ne _ _ hj] at h; exact hf j i h
theorem in_X4_init_X4 : ∀ w ∈ u_ws RX4 TX4 1, w ∈ wsX4_init := by decide +kernel
def C_X4 (b n : Nat) (h : tt_H) : tt_H := va_up (va_up h n (some (tt_ja 169 (fun _ => 0)))) b (some (.inr (4, [.ref n])))
abbrev rm_X4_init : Room := { frames := 1, cells := 1, slots := 169, locals := 20 }
set_option maxHeartbeats 8000000 in
set_option maxRecDepth 100000 in
theorem c_X4_init (l : Launch) {b n : Nat} {h : tt_H} (hw : tt_wf n h) (ho : tt_okh n h) (hbn : b < n ∧ n < 999000) (hb : h b = some (.inr (4, [.null]))) : al_N tt_cl l yX4_init wsX4_init rm_X4_init 1 169 [.ref b] h (fun v h2 => v = none ∧ h2 = C_X4 b n h ∧ tt_wf (n + 1) h2 ∧ tt_okh (n + 1) h2) := by
  obtain ⟨hbn, hn9⟩ := hbn
  refine al_N.of (cc := cX4_init) (maxL := 1) (ret := none) (by decide +kernel) rfl (Nat.le_of_ble_eq_true rfl) rfl ?_
  intro p e s m args below meth c D ca ad n0 sz hwf hE X hini
  have hnn := al_n_eq hwf hw
  subst hnn
  refine tt_aload_n X dX4_init_0 rfl ?_
  refine al_objInit X (by decide +kernel) (by decide +kernel) (by decide +kernel) dX4_init_1 (by decide) (Nat.le_of_ble_eq_true rfl) ?_
  refine tt_aload_n X dX4_init_4 rfl ?_
  refine tt_sipush (v := 169) X dX4_init_5 (by decide) ?_
  refine al_newa (n := n) (ty := .long) X hw ho (by omega) (by exact (List.forall_mem_cons.mpr ⟨(Or.inl (show (b : Nat) < n by omega)), (fun _ hz => absurd hz List.not_mem_nil)⟩)) (by exact (List.forall_mem_cons.mpr ⟨(Or.inl (show (b : Nat) < n by omega)), (fun _ hz => absurd hz List.not_mem_nil)⟩)) 1 rfl (fun _ _ z => z) (by decide +kernel) rfl (N := 169) (a0 := (169, .inr (.inl (fun _ => 0)))) (fun _ => rfl) trivial (fun _ => rfl) (by decide) (by decide) (Nat.le_of_ble_eq_true rfl) (Nat.le_of_ble_eq_true rfl) (Nat.le_of_ble_eq_true rfl) dX4_init_8 (fun q1 => ?_)
  have ho2 : tt_okh (n + 1) _ := al_ok_new (e := tt_ja 169 (fun _ => 0)) ho trivial
  have hw2 : tt_wf (n + 1) _ := tt_wf_new hw (tt_ja 169 (fun _ => 0))
  refine tt_putfF X (fs := [.null]) (by first | rfl | (simp (disch := omega) only [va_up_self, va_up_ne, hb] <;> rfl)) rfl in_X4_init_X4 tyX4 tyX4_ok nmX4 0 (by decide) (by decide +kernel) rfl rfl hini rfl (fun _ => rfl) (fun _ => rfl) (Nat.le_of_ble_eq_true rfl) dX4_init_10 ?_
  have ho3 : tt_okh (n + 1) _ := al_ok_up (e := .inr (4, [.ref n])) ho2 (by exact (List.forall_mem_cons.mpr ⟨(show (n : Nat) < (n + 1) by omega), (fun _ hz => absurd hz List.not_mem_nil)⟩)) b
  have hw3 : tt_wf (n + 1) _ := al_wf_put hw2 (show (b : Nat) < n + 1 by omega) (.inr (4, [.ref n]))
  exact al_vret X rfl dX4_init_13 hw3 (by omega) (by intro i hi; rw [va_up_ne _ _ (by omega)]) ⟨rfl, rfl, hw3, ho3⟩
theorem in_X2_init_X2 : ∀ w ∈ u_ws RX2 TX2 2, w ∈ wsX2_init := by decide +kernel
def C_X2 (b n : Nat) (h : tt_H) : tt_H := va_up (va_up (va_up h n (some (tt_ia 12 (fun _ => 0)))) b (some (.inr (2, [.ref n, .int 0])))) b (some (.inr (2, [.ref n, .int 0])))
abbrev rm_X2_init : Room := { frames := 1, cells := 1, slots := 12, locals := 20 }
set_option maxHeartbeats 8000000 in
set_option maxRecDepth 100000 in
theorem c_X2_init (l : Launch) {b n : Nat} {h : tt_H} (hw : tt_wf n h) (ho : tt_okh n h) (hbn : b < n ∧ n < 999000) (hb : h b = some (.inr (2, [.null, .int 0]))) : al_N tt_cl l yX2_init wsX2_init rm_X2_init 1 12 [.ref b] h (fun v h2 => v = none ∧ h2 = C_X2 b n h ∧ tt_wf (n + 1) h2 ∧ tt_okh (n + 1) h2) := by
  obtain ⟨hbn, hn9⟩ := hbn
  refine al_N.of (cc := cX2_init) (maxL := 1) (ret := none) (by decide +kernel) rfl (Nat.le_of_ble_eq_true rfl) rfl ?_
  intro p e s m args below meth c D ca ad n0 sz hwf hE X hini
  have hnn := al_n_eq hwf hw
  subst hnn
  refine tt_aload_n X dX2_init_0 rfl ?_
  refine al_objInit X (by decide +kernel) (by decide +kernel) (by decide +kernel) dX2_init_1 (by decide) (Nat.le_of_ble_eq_true rfl) ?_
  refine tt_aload_n X dX2_init_4 rfl ?_
  refine tt_bipush (v := 12) X dX2_init_5 (by decide) ?_
  refine al_newa (n := n) (ty := .int) X hw ho (by omega) (by exact (List.forall_mem_cons.mpr ⟨(Or.inl (show (b : Nat) < n by omega)), (fun _ hz => absurd hz List.not_mem_nil)⟩)) (by exact (List.forall_mem_cons.mpr ⟨(Or.inl (show (b : Nat) < n by omega)), (fun _ hz => absurd hz List.not_mem_nil)⟩)) 0 rfl (fun _ _ z => z) (by decide +kernel) rfl (N := 12) (a0 := (12, .inl (fun _ => 0))) (fun _ => rfl) trivial (fun _ => rfl) (by decide) (by decide) (Nat.le_of_ble_eq_true rfl) (Nat.le_of_ble_eq_true rfl) (Nat.le_of_ble_eq_true rfl) dX2_init_7 (fun q1 => ?_)
  have ho2 : tt_okh (n + 1) _ := al_ok_new (e := tt_ia 12 (fun _ => 0)) ho trivial
  have hw2 : tt_wf (n + 1) _ := tt_wf_new hw (tt_ia 12 (fun _ => 0))
  refine tt_putfF X (fs := [.null, .int 0]) (by first | rfl | (simp (disch := omega) only [va_up_self, va_up_ne, hb] <;> rfl)) rfl in_X2_init_X2 tyX2 tyX2_ok nmX2 0 (by decide) (by decide +kernel) rfl rfl hini rfl (fun _ => rfl) (fun _ => rfl) (Nat.le_of_ble_eq_true rfl) dX2_init_9 ?_
  have ho3 : tt_okh (n + 1) _ := al_ok_up (e := .inr (2, [.ref n, .int 0])) ho2 (by exact (List.forall_mem_cons.mpr ⟨(show (n : Nat) < (n + 1) by omega), (List.forall_mem_cons.mpr ⟨trivial, (fun _ hz => absurd hz List.not_mem_nil)⟩)⟩)) b
  have hw3 : tt_wf (n + 1) _ := al_wf_put hw2 (show (b : Nat) < n + 1 by omega) (.inr (2, [.ref n, .int 0]))
  refine tt_aload_n X dX2_init_12 rfl ?_
  refine tt_iconst (v := 0) X dX2_init_13 (by decide) ?_
  refine tt_putf X (fs := [.ref n, .int 0]) (by first | rfl | (simp (disch := omega) only [va_up_self, va_up_ne, hb] <;> rfl)) rfl in_X2_init_X2 tyX2 tyX2_ok nmX2 1 (by decide) (by decide +kernel) rfl rfl (fun _ => rfl) (fun _ => rfl) (Nat.le_of_ble_eq_true rfl) dX2_init_14 ?_
  have ho4 : tt_okh (n + 1) _ := al_ok_up (e := .inr (2, [.ref n, .int 0])) ho3 (by exact (List.forall_mem_cons.mpr ⟨(show (n : Nat) < (n + 1) by omega), (List.forall_mem_cons.mpr ⟨trivial, (fun _ hz => absurd hz List.not_mem_nil)⟩)⟩)) b
  have hw4 : tt_wf (n + 1) _ := al_wf_put hw3 (show (b : Nat) < n + 1 by omega) (.inr (2, [.ref n, .int 0]))
  exact al_vret X rfl dX2_init_17 hw4 (by omega) (by intro i hi; rw [va_up_ne _ _ (by omega)]) ⟨rfl, rfl, hw4, ho4⟩
theorem in_X6_init_X6 : ∀ w ∈ u_ws RX6 TX6 3, w ∈ wsX6_init := by decide +kernel
def C_X6 (b n : Nat) (h : tt_H) : tt_H := va_up (va_up (va_up (va_up h n (some (tt_ia 80 (fun _ => 0)))) b (some (.inr (6, [.ref n, .int 0, .int 0])))) b (some (.inr (6, [.ref n, .int (-1), .int 0])))) b (some (.inr (6, [.ref n, .int (-1), .int 0])))
abbrev rm_X6_init : Room := { frames := 1, cells := 1, slots := 80, locals := 20 }
set_option maxHeartbeats 8000000 in
set_option maxRecDepth 100000 in
theorem c_X6_init (l : Launch) {b n : Nat} {h : tt_H} (hw : tt_wf n h) (ho : tt_okh n h) (hbn : b < n ∧ n < 999000) (hb : h b = some (.inr (6, [.null, .int 0, .int 0]))) : al_N tt_cl l yX6_init wsX6_init rm_X6_init 1 80 [.ref b] h (fun v h2 => v = none ∧ h2 = C_X6 b n h ∧ tt_wf (n + 1) h2 ∧ tt_okh (n + 1) h2) := by
  obtain ⟨hbn, hn9⟩ := hbn
  refine al_N.of (cc := cX6_init) (maxL := 1) (ret := none) (by decide +kernel) rfl (Nat.le_of_ble_eq_true rfl) rfl ?_
  intro p e s m args below meth c D ca ad n0 sz hwf hE X hini
  have hnn := al_n_eq hwf hw
  subst hnn
  refine tt_aload_n X dX6_init_0 rfl ?_
  refine al_objInit X (by decide +kernel) (by decide +kernel) (by decide +kernel) dX6_init_1 (by decide) (Nat.le_of_ble_eq_true rfl) ?_
  refine tt_aload_n X dX6_init_4 rfl ?_
  refine tt_bipush (v := 80) X dX6_init_5 (by decide) ?_
  refine al_newa (n := n) (ty := .int) X hw ho (by omega) (by exact (List.forall_mem_cons.mpr ⟨(Or.inl (show (b : Nat) < n by omega)), (fun _ hz => absurd hz List.not_mem_nil)⟩)) (by exact (List.forall_mem_cons.mpr ⟨(Or.inl (show (b : Nat) < n by omega)), (fun _ hz => absurd hz List.not_mem_nil)⟩)) 0 rfl (fun _ _ z => z) (by decide +kernel) rfl (N := 80) (a0 := (80, .inl (fun _ => 0))) (fun _ => rfl) trivial (fun _ => rfl) (by decide) (by decide) (Nat.le_of_ble_eq_true rfl) (Nat.le_of_ble_eq_true rfl) (Nat.le_of_ble_eq_true rfl) dX6_init_7 (fun q1 => ?_)
  have ho2 : tt_okh (n + 1) _ := al_ok_new (e := tt_ia 80 (fun _ => 0)) ho trivial
  have hw2 : tt_wf (n + 1) _ := tt_wf_new hw (tt_ia 80 (fun _ => 0))
  refine tt_putfF X (fs := [.null, .int 0, .int 0]) (by first | rfl | (simp (disch := omega) only [va_up_self, va_up_ne, hb] <;> rfl)) rfl in_X6_init_X6 tyX6 tyX6_ok nmX6 0 (by decide) (by decide +kernel) rfl rfl hini rfl (fun _ => rfl) (fun _ => rfl) (Nat.le_of_ble_eq_true rfl) dX6_init_9 ?_
  have ho3 : tt_okh (n + 1) _ := al_ok_up (e := .inr (6, [.ref n, .int 0, .int 0])) ho2 (by exact (List.forall_mem_cons.mpr ⟨(show (n : Nat) < (n + 1) by omega), (List.forall_mem_cons.mpr ⟨trivial, (List.forall_mem_cons.mpr ⟨trivial, (fun _ hz => absurd hz List.not_mem_nil)⟩)⟩)⟩)) b
  have hw3 : tt_wf (n + 1) _ := al_wf_put hw2 (show (b : Nat) < n + 1 by omega) (.inr (6, [.ref n, .int 0, .int 0]))
  refine tt_aload_n X dX6_init_12 rfl ?_
  refine tt_iconst (v := (-1)) X dX6_init_13 (by decide) ?_
  refine tt_putf X (fs := [.ref n, .int 0, .int 0]) (by first | rfl | (simp (disch := omega) only [va_up_self, va_up_ne, hb] <;> rfl)) rfl in_X6_init_X6 tyX6 tyX6_ok nmX6 1 (by decide) (by decide +kernel) rfl rfl (fun _ => rfl) (fun _ => rfl) (Nat.le_of_ble_eq_true rfl) dX6_init_14 ?_
  have ho4 : tt_okh (n + 1) _ := al_ok_up (e := .inr (6, [.ref n, .int (-1), .int 0])) ho3 (by exact (List.forall_mem_cons.mpr ⟨(show (n : Nat) < (n + 1) by omega), (List.forall_mem_cons.mpr ⟨trivial, (List.forall_mem_cons.mpr ⟨trivial, (fun _ hz => absurd hz List.not_mem_nil)⟩)⟩)⟩)) b
  have hw4 : tt_wf (n + 1) _ := al_wf_put hw3 (show (b : Nat) < n + 1 by omega) (.inr (6, [.ref n, .int (-1), .int 0]))
  refine tt_aload_n X dX6_init_17 rfl ?_
  refine tt_iconst (v := 0) X dX6_init_18 (by decide) ?_
  refine tt_putf X (fs := [.ref n, .int (-1), .int 0]) (by first | rfl | (simp (disch := omega) only [va_up_self, va_up_ne, hb] <;> rfl)) rfl in_X6_init_X6 tyX6 tyX6_ok nmX6 2 (by decide) (by decide +kernel) rfl rfl (fun _ => rfl) (fun _ => rfl) (Nat.le_of_ble_eq_true rfl) dX6_init_19 ?_
  have ho5 : tt_okh (n + 1) _ := al_ok_up (e := .inr (6, [.ref n, .int (-1), .int 0])) ho4 (by exact (List.forall_mem_cons.mpr ⟨(show (n : Nat) < (n + 1) by omega), (List.forall_mem_cons.mpr ⟨trivial, (List.forall_mem_cons.mpr ⟨trivial, (fun _ hz => absurd hz List.not_mem_nil)⟩)⟩)⟩)) b
  have hw5 : tt_wf (n + 1) _ := al_wf_put hw4 (show (b : Nat) < n + 1 by omega) (.inr (6, [.ref n, .int (-1), .int 0]))
  exact al_vret X rfl dX6_init_22 hw5 (by omega) (by intro i hi; rw [va_up_ne _ _ (by omega)]) ⟨rfl, rfl, hw5, ho5⟩
theorem in_X3_init_X3 : ∀ w ∈ u_ws RX3 TX3 3, w ∈ wsX3_init := by decide +kernel
def C_X3 (b n : Nat) (h : tt_H) : tt_H := va_up (va_up (va_up (va_up (va_up (va_up h n (some (tt_ia 12 (fun _ => 0)))) b (some (.inr (3, [.ref n, .null, .null])))) (n + 1) (some (tt_ia 12 (fun _ => 0)))) b (some (.inr (3, [.ref n, .ref (n + 1), .null])))) (n + 2) (some (tt_ja 13 (fun _ => 0)))) b (some (.inr (3, [.ref n, .ref (n + 1), .ref (n + 2)])))
abbrev rm_X3_init : Room := { frames := 1, cells := 3, slots := 37, locals := 20 }
set_option maxHeartbeats 8000000 in
set_option maxRecDepth 100000 in
theorem c_X3_init (l : Launch) {b n : Nat} {h : tt_H} (hw : tt_wf n h) (ho : tt_okh n h) (hbn : b < n ∧ n < 999000) (hb : h b = some (.inr (3, [.null, .null, .null]))) : al_N tt_cl l yX3_init wsX3_init rm_X3_init 3 37 [.ref b] h (fun v h2 => v = none ∧ h2 = C_X3 b n h ∧ tt_wf (n + 3) h2 ∧ tt_okh (n + 3) h2) := by
  obtain ⟨hbn, hn9⟩ := hbn
  refine al_N.of (cc := cX3_init) (maxL := 1) (ret := none) (by decide +kernel) rfl (Nat.le_of_ble_eq_true rfl) rfl ?_
  intro p e s m args below meth c D ca ad n0 sz hwf hE X hini
  have hnn := al_n_eq hwf hw
  subst hnn
  refine tt_aload_n X dX3_init_0 rfl ?_
  refine al_objInit X (by decide +kernel) (by decide +kernel) (by decide +kernel) dX3_init_1 (by decide) (Nat.le_of_ble_eq_true rfl) ?_
  refine tt_aload_n X dX3_init_4 rfl ?_
  refine tt_bipush (v := 12) X dX3_init_5 (by decide) ?_
  refine al_newa (n := n) (ty := .int) X hw ho (by omega) (by exact (List.forall_mem_cons.mpr ⟨(Or.inl (show (b : Nat) < n by omega)), (fun _ hz => absurd hz List.not_mem_nil)⟩)) (by exact (List.forall_mem_cons.mpr ⟨(Or.inl (show (b : Nat) < n by omega)), (fun _ hz => absurd hz List.not_mem_nil)⟩)) 0 rfl (fun _ _ z => z) (by decide +kernel) rfl (N := 12) (a0 := (12, .inl (fun _ => 0))) (fun _ => rfl) trivial (fun _ => rfl) (by decide) (by decide) (Nat.le_of_ble_eq_true rfl) (Nat.le_of_ble_eq_true rfl) (Nat.le_of_ble_eq_true rfl) dX3_init_7 (fun q1 => ?_)
  have ho2 : tt_okh (n + 1) _ := al_ok_new (e := tt_ia 12 (fun _ => 0)) ho trivial
  have hw2 : tt_wf (n + 1) _ := tt_wf_new hw (tt_ia 12 (fun _ => 0))
  refine tt_putfF X (fs := [.null, .null, .null]) (by first | rfl | (simp (disch := omega) only [va_up_self, va_up_ne, hb] <;> rfl)) rfl in_X3_init_X3 tyX3 tyX3_ok nmX3 0 (by decide) (by decide +kernel) rfl rfl hini rfl (fun _ => rfl) (fun _ => rfl) (Nat.le_of_ble_eq_true rfl) dX3_init_9 ?_
  have ho3 : tt_okh (n + 1) _ := al_ok_up (e := .inr (3, [.ref n, .null, .null])) ho2 (by exact (List.forall_mem_cons.mpr ⟨(show (n : Nat) < (n + 1) by omega), (List.forall_mem_cons.mpr ⟨trivial, (List.forall_mem_cons.mpr ⟨trivial, (fun _ hz => absurd hz List.not_mem_nil)⟩)⟩)⟩)) b
  have hw3 : tt_wf (n + 1) _ := al_wf_put hw2 (show (b : Nat) < n + 1 by omega) (.inr (3, [.ref n, .null, .null]))
  refine tt_aload_n X dX3_init_12 rfl ?_
  refine tt_bipush (v := 12) X dX3_init_13 (by decide) ?_
  refine al_newa (n := (n + 1)) (ty := .int) X hw3 ho3 (by omega) (by exact (List.forall_mem_cons.mpr ⟨(Or.inl (show (b : Nat) < (n + 1) by omega)), (fun _ hz => absurd hz List.not_mem_nil)⟩)) (by exact (List.forall_mem_cons.mpr ⟨(Or.inl (show (b : Nat) < (n + 1) by omega)), (fun _ hz => absurd hz List.not_mem_nil)⟩)) 0 rfl (fun _ _ z => z) (by decide +kernel) rfl (N := 12) (a0 := (12, .inl (fun _ => 0))) (fun _ => rfl) trivial (fun _ => rfl) (by decide) (by decide) (Nat.le_of_ble_eq_true rfl) (Nat.le_of_ble_eq_true rfl) (Nat.le_of_ble_eq_true rfl) dX3_init_15 (fun q4 => ?_)
  have ho5 : tt_okh (n + 2) _ := al_ok_new (e := tt_ia 12 (fun _ => 0)) ho3 trivial
  have hw5 : tt_wf (n + 2) _ := tt_wf_new hw3 (tt_ia 12 (fun _ => 0))
  refine tt_putfF X (fs := [.ref n, .null, .null]) (by first | rfl | (simp (disch := omega) only [va_up_self, va_up_ne, hb] <;> rfl)) rfl in_X3_init_X3 tyX3 tyX3_ok nmX3 1 (by decide) (by decide +kernel) rfl rfl hini rfl (fun _ => rfl) (fun _ => rfl) (Nat.le_of_ble_eq_true rfl) dX3_init_17 ?_
  have ho6 : tt_okh (n + 2) _ := al_ok_up (e := .inr (3, [.ref n, .ref (n + 1), .null])) ho5 (by exact (List.forall_mem_cons.mpr ⟨(show (n : Nat) < (n + 2) by omega), (List.forall_mem_cons.mpr ⟨(show ((n + 1) : Nat) < (n + 2) by omega), (List.forall_mem_cons.mpr ⟨trivial, (fun _ hz => absurd hz List.not_mem_nil)⟩)⟩)⟩)) b
  have hw6 : tt_wf (n + 2) _ := al_wf_put hw5 (show (b : Nat) < n + 2 by omega) (.inr (3, [.ref n, .ref (n + 1), .null]))
  refine tt_aload_n X dX3_init_20 rfl ?_
  refine tt_bipush (v := 13) X dX3_init_21 (by decide) ?_
  refine al_newa (n := (n + 2)) (ty := .long) X hw6 ho6 (by omega) (by exact (List.forall_mem_cons.mpr ⟨(Or.inl (show (b : Nat) < (n + 2) by omega)), (fun _ hz => absurd hz List.not_mem_nil)⟩)) (by exact (List.forall_mem_cons.mpr ⟨(Or.inl (show (b : Nat) < (n + 2) by omega)), (fun _ hz => absurd hz List.not_mem_nil)⟩)) 1 rfl (fun _ _ z => z) (by decide +kernel) rfl (N := 13) (a0 := (13, .inr (.inl (fun _ => 0)))) (fun _ => rfl) trivial (fun _ => rfl) (by decide) (by decide) (Nat.le_of_ble_eq_true rfl) (Nat.le_of_ble_eq_true rfl) (Nat.le_of_ble_eq_true rfl) dX3_init_23 (fun q7 => ?_)
  have ho8 : tt_okh (n + 3) _ := al_ok_new (e := tt_ja 13 (fun _ => 0)) ho6 trivial
  have hw8 : tt_wf (n + 3) _ := tt_wf_new hw6 (tt_ja 13 (fun _ => 0))
  refine tt_putfF X (fs := [.ref n, .ref (n + 1), .null]) (by first | rfl | (simp (disch := omega) only [va_up_self, va_up_ne, hb] <;> rfl)) rfl in_X3_init_X3 tyX3 tyX3_ok nmX3 2 (by decide) (by decide +kernel) rfl rfl hini rfl (fun _ => rfl) (fun _ => rfl) (Nat.le_of_ble_eq_true rfl) dX3_init_25 ?_
  have ho9 : tt_okh (n + 3) _ := al_ok_up (e := .inr (3, [.ref n, .ref (n + 1), .ref (n + 2)])) ho8 (by exact (List.forall_mem_cons.mpr ⟨(show (n : Nat) < (n + 3) by omega), (List.forall_mem_cons.mpr ⟨(show ((n + 1) : Nat) < (n + 3) by omega), (List.forall_mem_cons.mpr ⟨(show ((n + 2) : Nat) < (n + 3) by omega), (fun _ hz => absurd hz List.not_mem_nil)⟩)⟩)⟩)) b
  have hw9 : tt_wf (n + 3) _ := al_wf_put hw8 (show (b : Nat) < n + 3 by omega) (.inr (3, [.ref n, .ref (n + 1), .ref (n + 2)]))
  exact al_vret X rfl dX3_init_28 hw9 (by omega) (by intro i hi; rw [va_up_ne _ _ (by omega), va_up_ne _ _ (by omega), va_up_ne _ _ (by omega)]) ⟨rfl, rfl, hw9, ho9⟩
theorem in_X5_init_X5 : ∀ w ∈ u_ws RX5 TX5 2, w ∈ wsX5_init := by decide +kernel
def C_X5 (b n : Nat) (h : tt_H) : tt_H := va_up (va_up (va_up (va_up h n (some (tt_za 104 (fun _ => 0)))) b (some (.inr (5, [.ref n, .null])))) (n + 1) (some (tt_ia 2 (fun _ => 0)))) b (some (.inr (5, [.ref n, .ref (n + 1)])))
abbrev rm_X5_init : Room := { frames := 1, cells := 2, slots := 106, locals := 20 }
set_option maxHeartbeats 8000000 in
set_option maxRecDepth 100000 in
theorem c_X5_init (l : Launch) {b n : Nat} {h : tt_H} (hw : tt_wf n h) (ho : tt_okh n h) (hbn : b < n ∧ n < 999000) (hb : h b = some (.inr (5, [.null, .null]))) : al_N tt_cl l yX5_init wsX5_init rm_X5_init 2 106 [.ref b] h (fun v h2 => v = none ∧ h2 = C_X5 b n h ∧ tt_wf (n + 2) h2 ∧ tt_okh (n + 2) h2) := by
  obtain ⟨hbn, hn9⟩ := hbn
  refine al_N.of (cc := cX5_init) (maxL := 1) (ret := none) (by decide +kernel) rfl (Nat.le_of_ble_eq_true rfl) rfl ?_
  intro p e s m args below meth c D ca ad n0 sz hwf hE X hini
  have hnn := al_n_eq hwf hw
  subst hnn
  refine tt_aload_n X dX5_init_0 rfl ?_
  refine al_objInit X (by decide +kernel) (by decide +kernel) (by decide +kernel) dX5_init_1 (by decide) (Nat.le_of_ble_eq_true rfl) ?_
  refine tt_aload_n X dX5_init_4 rfl ?_
  refine tt_bipush (v := 104) X dX5_init_5 (by decide) ?_
  refine al_newa (n := n) (ty := .boolean) X hw ho (by omega) (by exact (List.forall_mem_cons.mpr ⟨(Or.inl (show (b : Nat) < n by omega)), (fun _ hz => absurd hz List.not_mem_nil)⟩)) (by exact (List.forall_mem_cons.mpr ⟨(Or.inl (show (b : Nat) < n by omega)), (fun _ hz => absurd hz List.not_mem_nil)⟩)) 2 rfl (fun _ _ z => z) (by decide +kernel) rfl (N := 104) (a0 := (104, .inl (fun _ => 0))) (fun _ => rfl) trivial (fun _ => rfl) (by decide) (by decide) (Nat.le_of_ble_eq_true rfl) (Nat.le_of_ble_eq_true rfl) (Nat.le_of_ble_eq_true rfl) dX5_init_7 (fun q1 => ?_)
  have ho2 : tt_okh (n + 1) _ := al_ok_new (e := tt_za 104 (fun _ => 0)) ho trivial
  have hw2 : tt_wf (n + 1) _ := tt_wf_new hw (tt_za 104 (fun _ => 0))
  refine tt_putfF X (fs := [.null, .null]) (by first | rfl | (simp (disch := omega) only [va_up_self, va_up_ne, hb] <;> rfl)) rfl in_X5_init_X5 tyX5 tyX5_ok nmX5 0 (by decide) (by decide +kernel) rfl rfl hini rfl (fun _ => rfl) (fun _ => rfl) (Nat.le_of_ble_eq_true rfl) dX5_init_9 ?_
  have ho3 : tt_okh (n + 1) _ := al_ok_up (e := .inr (5, [.ref n, .null])) ho2 (by exact (List.forall_mem_cons.mpr ⟨(show (n : Nat) < (n + 1) by omega), (List.forall_mem_cons.mpr ⟨trivial, (fun _ hz => absurd hz List.not_mem_nil)⟩)⟩)) b
  have hw3 : tt_wf (n + 1) _ := al_wf_put hw2 (show (b : Nat) < n + 1 by omega) (.inr (5, [.ref n, .null]))
  refine tt_aload_n X dX5_init_12 rfl ?_
  refine tt_iconst (v := 2) X dX5_init_13 (by decide) ?_
  refine al_newa (n := (n + 1)) (ty := .int) X hw3 ho3 (by omega) (by exact (List.forall_mem_cons.mpr ⟨(Or.inl (show (b : Nat) < (n + 1) by omega)), (fun _ hz => absurd hz List.not_mem_nil)⟩)) (by exact (List.forall_mem_cons.mpr ⟨(Or.inl (show (b : Nat) < (n + 1) by omega)), (fun _ hz => absurd hz List.not_mem_nil)⟩)) 0 rfl (fun _ _ z => z) (by decide +kernel) rfl (N := 2) (a0 := (2, .inl (fun _ => 0))) (fun _ => rfl) trivial (fun _ => rfl) (by decide) (by decide) (Nat.le_of_ble_eq_true rfl) (Nat.le_of_ble_eq_true rfl) (Nat.le_of_ble_eq_true rfl) dX5_init_14 (fun q4 => ?_)
  have ho5 : tt_okh (n + 2) _ := al_ok_new (e := tt_ia 2 (fun _ => 0)) ho3 trivial
  have hw5 : tt_wf (n + 2) _ := tt_wf_new hw3 (tt_ia 2 (fun _ => 0))
  refine tt_putfF X (fs := [.ref n, .null]) (by first | rfl | (simp (disch := omega) only [va_up_self, va_up_ne, hb] <;> rfl)) rfl in_X5_init_X5 tyX5 tyX5_ok nmX5 1 (by decide) (by decide +kernel) rfl rfl hini rfl (fun _ => rfl) (fun _ => rfl) (Nat.le_of_ble_eq_true rfl) dX5_init_16 ?_
  have ho6 : tt_okh (n + 2) _ := al_ok_up (e := .inr (5, [.ref n, .ref (n + 1)])) ho5 (by exact (List.forall_mem_cons.mpr ⟨(show (n : Nat) < (n + 2) by omega), (List.forall_mem_cons.mpr ⟨(show ((n + 1) : Nat) < (n + 2) by omega), (fun _ hz => absurd hz List.not_mem_nil)⟩)⟩)) b
  have hw6 : tt_wf (n + 2) _ := al_wf_put hw5 (show (b : Nat) < n + 2 by omega) (.inr (5, [.ref n, .ref (n + 1)]))
  exact al_vret X rfl dX5_init_19 hw6 (by omega) (by intro i hi; rw [va_up_ne _ _ (by omega), va_up_ne _ _ (by omega)]) ⟨rfl, rfl, hw6, ho6⟩
theorem in_X7_init_X4 : ∀ w ∈ u_ws RX4 TX4 1, w ∈ wsX7_init := by decide +kernel
theorem in_X7_init_X7 : ∀ w ∈ u_ws RX7 TX7 2, w ∈ wsX7_init := by decide +kernel
def C_X7 (b n : Nat) (h : tt_H) : tt_H := va_up (va_up (va_up (va_up (va_up (va_up (va_up (va_up h n (some (.inr (4, [.null])))) (n + 1) (some (tt_ja 169 (fun _ => 0)))) n (some (.inr (4, [.ref (n + 1)])))) b (some (.inr (7, [.ref n, .null])))) (n + 2) (some (.inr (4, [.null])))) (n + 3) (some (tt_ja 169 (fun _ => 0)))) (n + 2) (some (.inr (4, [.ref (n + 3)])))) b (some (.inr (7, [.ref n, .ref (n + 2)])))
abbrev rm_X7_init : Room := { frames := 2, cells := 4, slots := 340, locals := 40 }
set_option maxHeartbeats 8000000 in
set_option maxRecDepth 100000 in
theorem c_X7_init (l : Launch) {b n : Nat} {h : tt_H} (hw : tt_wf n h) (ho : tt_okh n h) (hbn : b < n ∧ n < 998000) (hb : h b = some (.inr (7, [.null, .null]))) : al_N tt_cl l yX7_init wsX7_init rm_X7_init 4 340 [.ref b] h (fun v h2 => v = none ∧ h2 = C_X7 b n h ∧ tt_wf (n + 4) h2 ∧ tt_okh (n + 4) h2) := by
  obtain ⟨hbn, hn9⟩ := hbn
  refine al_N.of (cc := cX7_init) (maxL := 1) (ret := none) (by decide +kernel) rfl (Nat.le_of_ble_eq_true rfl) rfl ?_
  intro p e s m args below meth c D ca ad n0 sz hwf hE X hini
  have hnn := al_n_eq hwf hw
  subst hnn
  refine tt_aload_n X dX7_init_0 rfl ?_
  refine al_objInit X (by decide +kernel) (by decide +kernel) (by decide +kernel) dX7_init_1 (by decide) (Nat.le_of_ble_eq_true rfl) ?_
  refine tt_aload_n X dX7_init_4 rfl ?_
  refine al_new (n := n) X hw ho (by omega) (by exact (List.forall_mem_cons.mpr ⟨(Or.inl (show (b : Nat) < n by omega)), (fun _ hz => absurd hz List.not_mem_nil)⟩)) (by exact (List.forall_mem_cons.mpr ⟨(Or.inl (show (b : Nat) < n by omega)), (fun _ hz => absurd hz List.not_mem_nil)⟩)) (ci := 4) rfl in_X7_init_X4 tyX4 tyX4_ok (by decide +kernel) (by decide +kernel) (by decide +kernel) (fs := [.null]) (fun j hj => by match j, hj with | 0, _ => rfl | j + 1, hj => omega) (fun _ => rfl) (by exact (List.forall_mem_cons.mpr ⟨trivial, (fun _ hz => absurd hz List.not_mem_nil)⟩)) (Nat.le_of_ble_eq_true rfl) (Nat.le_of_ble_eq_true rfl) dX7_init_5 (fun q1 => ?_)
  have ho2 : tt_okh (n + 1) _ := al_ok_new (e := .inr (4, [.null])) ho (by exact (List.forall_mem_cons.mpr ⟨trivial, (fun _ hz => absurd hz List.not_mem_nil)⟩))
  have hw2 : tt_wf (n + 1) _ := tt_wf_new hw (.inr (4, [.null]))
  refine tt_dup X dX7_init_8 rfl ?_
  refine al_callN X hE hw2 (n2 := (n + 2)) (by omega) (by exact (List.forall_mem_cons.mpr ⟨(Or.inl (show (b : Nat) < (n + 1) by omega)), (fun _ hz => absurd hz List.not_mem_nil)⟩)) (by exact (List.forall_mem_cons.mpr ⟨(Or.inl (show (n : Nat) < (n + 1) by omega)), (List.forall_mem_cons.mpr ⟨(Or.inl (show (b : Nat) < (n + 1) by omega)), (fun _ hz => absurd hz List.not_mem_nil)⟩)⟩)) (c_X4_init l (b := n) hw2 ho2 (by omega) (by first | rfl | (simp (disch := omega) only [C_X4, va_up_self, va_up_ne, hb] <;> rfl))) (fun v h hp => ⟨hp.1, hp.2.2.1⟩) (fun hts => ⟨va_cnB 0 hts gX7_init_X4_init_n11 rfl rfl rfl (hE.2.2 (RX7, 11, yX4_init, RX8) (by decide +kernel)) (hts _ (by decide +kernel)) (by decide +kernel) ⟨by decide, by decide⟩, rfl, hts _ (by decide +kernel)⟩) (Nat.le_of_ble_eq_true rfl) dX7_init_9 ⟨Nat.le_of_ble_eq_true rfl, Nat.le_of_ble_eq_true rfl⟩ (fun h3 ad3 hp3 hag3 => ?_)
  obtain ⟨-, rfl, hw3, ho3⟩ := hp3
  refine tt_putfF X (fs := [.null, .null]) (by first | rfl | (simp (disch := omega) only [C_X4, va_up_self, va_up_ne, hb] <;> rfl)) rfl in_X7_init_X7 tyX7 tyX7_ok nmX7 0 (by decide) (by decide +kernel) rfl rfl hini rfl (fun _ => rfl) (fun _ => rfl) (Nat.le_of_ble_eq_true rfl) dX7_init_12 ?_
  have ho4 : tt_okh (n + 2) _ := al_ok_up (e := .inr (7, [.ref n, .null])) ho3 (by exact (List.forall_mem_cons.mpr ⟨(show (n : Nat) < (n + 2) by omega), (List.forall_mem_cons.mpr ⟨trivial, (fun _ hz => absurd hz List.not_mem_nil)⟩)⟩)) b
  have hw4 : tt_wf (n + 2) _ := al_wf_put hw3 (show (b : Nat) < n + 2 by omega) (.inr (7, [.ref n, .null]))
  refine tt_aload_n X dX7_init_15 rfl ?_
  refine al_new (n := (n + 2)) X hw4 ho4 (by omega) (by exact (List.forall_mem_cons.mpr ⟨(Or.inl (show (b : Nat) < (n + 2) by omega)), (fun _ hz => absurd hz List.not_mem_nil)⟩)) (by exact (List.forall_mem_cons.mpr ⟨(Or.inl (show (b : Nat) < (n + 2) by omega)), (fun _ hz => absurd hz List.not_mem_nil)⟩)) (ci := 4) rfl in_X7_init_X4 tyX4 tyX4_ok (by decide +kernel) (by decide +kernel) (by decide +kernel) (fs := [.null]) (fun j hj => by match j, hj with | 0, _ => rfl | j + 1, hj => omega) (fun _ => rfl) (by exact (List.forall_mem_cons.mpr ⟨trivial, (fun _ hz => absurd hz List.not_mem_nil)⟩)) (Nat.le_of_ble_eq_true rfl) (Nat.le_of_ble_eq_true rfl) dX7_init_16 (fun q5 => ?_)
  have ho6 : tt_okh (n + 3) _ := al_ok_new (e := .inr (4, [.null])) ho4 (by exact (List.forall_mem_cons.mpr ⟨trivial, (fun _ hz => absurd hz List.not_mem_nil)⟩))
  have hw6 : tt_wf (n + 3) _ := tt_wf_new hw4 (.inr (4, [.null]))
  refine tt_dup X dX7_init_19 rfl ?_
  refine al_callN X hE hw6 (n2 := (n + 4)) (by omega) (by exact (List.forall_mem_cons.mpr ⟨(Or.inl (show (b : Nat) < (n + 3) by omega)), (fun _ hz => absurd hz List.not_mem_nil)⟩)) (by exact (List.forall_mem_cons.mpr ⟨(Or.inl (show ((n + 2) : Nat) < (n + 3) by omega)), (List.forall_mem_cons.mpr ⟨(Or.inl (show (b : Nat) < (n + 3) by omega)), (fun _ hz => absurd hz List.not_mem_nil)⟩)⟩)) (c_X4_init l (b := (n + 2)) hw6 ho6 (by omega) (by first | rfl | (simp (disch := omega) only [C_X4, va_up_self, va_up_ne, hb] <;> rfl))) (fun v h hp => ⟨hp.1, hp.2.2.1⟩) (fun hts => ⟨va_cnB 0 hts gX7_init_X4_init_n11 rfl rfl rfl (hE.2.2 (RX7, 11, yX4_init, RX8) (by decide +kernel)) (hts _ (by decide +kernel)) (by decide +kernel) ⟨by decide, by decide⟩, rfl, hts _ (by decide +kernel)⟩) (Nat.le_of_ble_eq_true rfl) dX7_init_20 ⟨Nat.le_of_ble_eq_true rfl, Nat.le_of_ble_eq_true rfl⟩ (fun h7 ad7 hp7 hag7 => ?_)
  obtain ⟨-, rfl, hw7, ho7⟩ := hp7
  refine tt_putfF X (fs := [.ref n, .null]) (by first | rfl | (simp (disch := omega) only [C_X4, va_up_self, va_up_ne, hb] <;> rfl)) rfl in_X7_init_X7 tyX7 tyX7_ok nmX7 1 (by decide) (by decide +kernel) rfl rfl hini rfl (fun _ => rfl) (fun _ => rfl) (Nat.le_of_ble_eq_true rfl) dX7_init_23 ?_
  have ho8 : tt_okh (n + 4) _ := al_ok_up (e := .inr (7, [.ref n, .ref (n + 2)])) ho7 (by exact (List.forall_mem_cons.mpr ⟨(show (n : Nat) < (n + 4) by omega), (List.forall_mem_cons.mpr ⟨(show ((n + 2) : Nat) < (n + 4) by omega), (fun _ hz => absurd hz List.not_mem_nil)⟩)⟩)) b
  have hw8 : tt_wf (n + 4) _ := al_wf_put hw7 (show (b : Nat) < n + 4 by omega) (.inr (7, [.ref n, .ref (n + 2)]))
  exact al_vret X rfl dX7_init_26 hw8 (by omega) (by intro i hi; rw [hag7 i (by omega), va_up_ne _ _ (by omega), hag3 i (by omega), va_up_ne _ _ (by omega)]) ⟨rfl, rfl, hw8, ho8⟩
theorem in_X1_init_X1 : ∀ w ∈ u_ws RX1 TX1 2, w ∈ wsX1_init := by decide +kernel
theorem in_X1_init_X4 : ∀ w ∈ u_ws RX4 TX4 1, w ∈ wsX1_init := by decide +kernel
def C_X1 (b n : Nat) (h : tt_H) : tt_H := va_up (va_up (va_up (va_up (va_up (va_up (va_up (va_up h n (some (.inr (4, [.null])))) (n + 1) (some (tt_ja 169 (fun _ => 0)))) n (some (.inr (4, [.ref (n + 1)])))) b (some (.inr (1, [.ref n, .null])))) (n + 2) (some (.inr (4, [.null])))) (n + 3) (some (tt_ja 169 (fun _ => 0)))) (n + 2) (some (.inr (4, [.ref (n + 3)])))) b (some (.inr (1, [.ref n, .ref (n + 2)])))
abbrev rm_X1_init : Room := { frames := 2, cells := 4, slots := 340, locals := 40 }
set_option maxHeartbeats 8000000 in
set_option maxRecDepth 100000 in
theorem c_X1_init (l : Launch) {b n : Nat} {h : tt_H} (hw : tt_wf n h) (ho : tt_okh n h) (hbn : b < n ∧ n < 998000) (hb : h b = some (.inr (1, [.null, .null]))) : al_N tt_cl l yX1_init wsX1_init rm_X1_init 4 340 [.ref b] h (fun v h2 => v = none ∧ h2 = C_X1 b n h ∧ tt_wf (n + 4) h2 ∧ tt_okh (n + 4) h2) := by
  obtain ⟨hbn, hn9⟩ := hbn
  refine al_N.of (cc := cX1_init) (maxL := 1) (ret := none) (by decide +kernel) rfl (Nat.le_of_ble_eq_true rfl) rfl ?_
  intro p e s m args below meth c D ca ad n0 sz hwf hE X hini
  have hnn := al_n_eq hwf hw
  subst hnn
  refine tt_aload_n X dX1_init_0 rfl ?_
  refine al_objInit X (by decide +kernel) (by decide +kernel) (by decide +kernel) dX1_init_1 (by decide) (Nat.le_of_ble_eq_true rfl) ?_
  refine tt_aload_n X dX1_init_4 rfl ?_
  refine al_new (n := n) X hw ho (by omega) (by exact (List.forall_mem_cons.mpr ⟨(Or.inl (show (b : Nat) < n by omega)), (fun _ hz => absurd hz List.not_mem_nil)⟩)) (by exact (List.forall_mem_cons.mpr ⟨(Or.inl (show (b : Nat) < n by omega)), (fun _ hz => absurd hz List.not_mem_nil)⟩)) (ci := 4) rfl in_X1_init_X4 tyX4 tyX4_ok (by decide +kernel) (by decide +kernel) (by decide +kernel) (fs := [.null]) (fun j hj => by match j, hj with | 0, _ => rfl | j + 1, hj => omega) (fun _ => rfl) (by exact (List.forall_mem_cons.mpr ⟨trivial, (fun _ hz => absurd hz List.not_mem_nil)⟩)) (Nat.le_of_ble_eq_true rfl) (Nat.le_of_ble_eq_true rfl) dX1_init_5 (fun q1 => ?_)
  have ho2 : tt_okh (n + 1) _ := al_ok_new (e := .inr (4, [.null])) ho (by exact (List.forall_mem_cons.mpr ⟨trivial, (fun _ hz => absurd hz List.not_mem_nil)⟩))
  have hw2 : tt_wf (n + 1) _ := tt_wf_new hw (.inr (4, [.null]))
  refine tt_dup X dX1_init_8 rfl ?_
  refine al_callN X hE hw2 (n2 := (n + 2)) (by omega) (by exact (List.forall_mem_cons.mpr ⟨(Or.inl (show (b : Nat) < (n + 1) by omega)), (fun _ hz => absurd hz List.not_mem_nil)⟩)) (by exact (List.forall_mem_cons.mpr ⟨(Or.inl (show (n : Nat) < (n + 1) by omega)), (List.forall_mem_cons.mpr ⟨(Or.inl (show (b : Nat) < (n + 1) by omega)), (fun _ hz => absurd hz List.not_mem_nil)⟩)⟩)) (c_X4_init l (b := n) hw2 ho2 (by omega) (by first | rfl | (simp (disch := omega) only [C_X4, va_up_self, va_up_ne, hb] <;> rfl))) (fun v h hp => ⟨hp.1, hp.2.2.1⟩) (fun hts => ⟨va_cnB 0 hts gX1_init_X4_init_n11 rfl rfl rfl (hE.2.2 (RX1, 11, yX4_init, RX8) (by decide +kernel)) (hts _ (by decide +kernel)) (by decide +kernel) ⟨by decide, by decide⟩, rfl, hts _ (by decide +kernel)⟩) (Nat.le_of_ble_eq_true rfl) dX1_init_9 ⟨Nat.le_of_ble_eq_true rfl, Nat.le_of_ble_eq_true rfl⟩ (fun h3 ad3 hp3 hag3 => ?_)
  obtain ⟨-, rfl, hw3, ho3⟩ := hp3
  refine tt_putf X (fs := [.null, .null]) (by first | rfl | (simp (disch := omega) only [C_X4, va_up_self, va_up_ne, hb] <;> rfl)) rfl in_X1_init_X1 tyX1 tyX1_ok nmX1 0 (by decide) (by decide +kernel) rfl rfl (fun _ => rfl) (fun _ => rfl) (Nat.le_of_ble_eq_true rfl) dX1_init_12 ?_
  have ho4 : tt_okh (n + 2) _ := al_ok_up (e := .inr (1, [.ref n, .null])) ho3 (by exact (List.forall_mem_cons.mpr ⟨(show (n : Nat) < (n + 2) by omega), (List.forall_mem_cons.mpr ⟨trivial, (fun _ hz => absurd hz List.not_mem_nil)⟩)⟩)) b
  have hw4 : tt_wf (n + 2) _ := al_wf_put hw3 (show (b : Nat) < n + 2 by omega) (.inr (1, [.ref n, .null]))
  refine tt_aload_n X dX1_init_15 rfl ?_
  refine al_new (n := (n + 2)) X hw4 ho4 (by omega) (by exact (List.forall_mem_cons.mpr ⟨(Or.inl (show (b : Nat) < (n + 2) by omega)), (fun _ hz => absurd hz List.not_mem_nil)⟩)) (by exact (List.forall_mem_cons.mpr ⟨(Or.inl (show (b : Nat) < (n + 2) by omega)), (fun _ hz => absurd hz List.not_mem_nil)⟩)) (ci := 4) rfl in_X1_init_X4 tyX4 tyX4_ok (by decide +kernel) (by decide +kernel) (by decide +kernel) (fs := [.null]) (fun j hj => by match j, hj with | 0, _ => rfl | j + 1, hj => omega) (fun _ => rfl) (by exact (List.forall_mem_cons.mpr ⟨trivial, (fun _ hz => absurd hz List.not_mem_nil)⟩)) (Nat.le_of_ble_eq_true rfl) (Nat.le_of_ble_eq_true rfl) dX1_init_16 (fun q5 => ?_)
  have ho6 : tt_okh (n + 3) _ := al_ok_new (e := .inr (4, [.null])) ho4 (by exact (List.forall_mem_cons.mpr ⟨trivial, (fun _ hz => absurd hz List.not_mem_nil)⟩))
  have hw6 : tt_wf (n + 3) _ := tt_wf_new hw4 (.inr (4, [.null]))
  refine tt_dup X dX1_init_19 rfl ?_
  refine al_callN X hE hw6 (n2 := (n + 4)) (by omega) (by exact (List.forall_mem_cons.mpr ⟨(Or.inl (show (b : Nat) < (n + 3) by omega)), (fun _ hz => absurd hz List.not_mem_nil)⟩)) (by exact (List.forall_mem_cons.mpr ⟨(Or.inl (show ((n + 2) : Nat) < (n + 3) by omega)), (List.forall_mem_cons.mpr ⟨(Or.inl (show (b : Nat) < (n + 3) by omega)), (fun _ hz => absurd hz List.not_mem_nil)⟩)⟩)) (c_X4_init l (b := (n + 2)) hw6 ho6 (by omega) (by first | rfl | (simp (disch := omega) only [C_X4, va_up_self, va_up_ne, hb] <;> rfl))) (fun v h hp => ⟨hp.1, hp.2.2.1⟩) (fun hts => ⟨va_cnB 0 hts gX1_init_X4_init_n11 rfl rfl rfl (hE.2.2 (RX1, 11, yX4_init, RX8) (by decide +kernel)) (hts _ (by decide +kernel)) (by decide +kernel) ⟨by decide, by decide⟩, rfl, hts _ (by decide +kernel)⟩) (Nat.le_of_ble_eq_true rfl) dX1_init_20 ⟨Nat.le_of_ble_eq_true rfl, Nat.le_of_ble_eq_true rfl⟩ (fun h7 ad7 hp7 hag7 => ?_)
  obtain ⟨-, rfl, hw7, ho7⟩ := hp7
  refine tt_putf X (fs := [.ref n, .null]) (by first | rfl | (simp (disch := omega) only [C_X4, va_up_self, va_up_ne, hb] <;> rfl)) rfl in_X1_init_X1 tyX1 tyX1_ok nmX1 1 (by decide) (by decide +kernel) rfl rfl (fun _ => rfl) (fun _ => rfl) (Nat.le_of_ble_eq_true rfl) dX1_init_23 ?_
  have ho8 : tt_okh (n + 4) _ := al_ok_up (e := .inr (1, [.ref n, .ref (n + 2)])) ho7 (by exact (List.forall_mem_cons.mpr ⟨(show (n : Nat) < (n + 4) by omega), (List.forall_mem_cons.mpr ⟨(show ((n + 2) : Nat) < (n + 4) by omega), (fun _ hz => absurd hz List.not_mem_nil)⟩)⟩)) b
  have hw8 : tt_wf (n + 4) _ := al_wf_put hw7 (show (b : Nat) < n + 4 by omega) (.inr (1, [.ref n, .ref (n + 2)]))
  exact al_vret X rfl dX1_init_26 hw8 (by omega) (by intro i hi; rw [hag7 i (by omega), va_up_ne _ _ (by omega), hag3 i (by omega), va_up_ne _ _ (by omega)]) ⟨rfl, rfl, hw8, ho8⟩
theorem in_X0_init_X0 : ∀ w ∈ u_ws RX0 TX0 2, w ∈ wsX0_init := by decide +kernel
theorem in_X0_init_X4 : ∀ w ∈ u_ws RX4 TX4 1, w ∈ wsX0_init := by decide +kernel
def C_X0 (b n : Nat) (h : tt_H) : tt_H := va_up (va_up (va_up (va_up (va_up (va_up (va_up (va_up h n (some (.inr (4, [.null])))) (n + 1) (some (tt_ja 169 (fun _ => 0)))) n (some (.inr (4, [.ref (n + 1)])))) b (some (.inr (0, [.ref n, .null])))) (n + 2) (some (.inr (4, [.null])))) (n + 3) (some (tt_ja 169 (fun _ => 0)))) (n + 2) (some (.inr (4, [.ref (n + 3)])))) b (some (.inr (0, [.ref n, .ref (n + 2)])))
abbrev rm_X0_init : Room := { frames := 2, cells := 4, slots := 340, locals := 40 }
set_option maxHeartbeats 8000000 in
set_option maxRecDepth 100000 in
theorem c_X0_init (l : Launch) {b n : Nat} {h : tt_H} (hw : tt_wf n h) (ho : tt_okh n h) (hbn : b < n ∧ n < 998000) (hb : h b = some (.inr (0, [.null, .null]))) : al_N tt_cl l yX0_init wsX0_init rm_X0_init 4 340 [.ref b] h (fun v h2 => v = none ∧ h2 = C_X0 b n h ∧ tt_wf (n + 4) h2 ∧ tt_okh (n + 4) h2) := by
  obtain ⟨hbn, hn9⟩ := hbn
  refine al_N.of (cc := cX0_init) (maxL := 1) (ret := none) (by decide +kernel) rfl (Nat.le_of_ble_eq_true rfl) rfl ?_
  intro p e s m args below meth c D ca ad n0 sz hwf hE X hini
  have hnn := al_n_eq hwf hw
  subst hnn
  refine tt_aload_n X dX0_init_0 rfl ?_
  refine al_objInit X (by decide +kernel) (by decide +kernel) (by decide +kernel) dX0_init_1 (by decide) (Nat.le_of_ble_eq_true rfl) ?_
  refine tt_aload_n X dX0_init_4 rfl ?_
  refine al_new (n := n) X hw ho (by omega) (by exact (List.forall_mem_cons.mpr ⟨(Or.inl (show (b : Nat) < n by omega)), (fun _ hz => absurd hz List.not_mem_nil)⟩)) (by exact (List.forall_mem_cons.mpr ⟨(Or.inl (show (b : Nat) < n by omega)), (fun _ hz => absurd hz List.not_mem_nil)⟩)) (ci := 4) rfl in_X0_init_X4 tyX4 tyX4_ok (by decide +kernel) (by decide +kernel) (by decide +kernel) (fs := [.null]) (fun j hj => by match j, hj with | 0, _ => rfl | j + 1, hj => omega) (fun _ => rfl) (by exact (List.forall_mem_cons.mpr ⟨trivial, (fun _ hz => absurd hz List.not_mem_nil)⟩)) (Nat.le_of_ble_eq_true rfl) (Nat.le_of_ble_eq_true rfl) dX0_init_5 (fun q1 => ?_)
  have ho2 : tt_okh (n + 1) _ := al_ok_new (e := .inr (4, [.null])) ho (by exact (List.forall_mem_cons.mpr ⟨trivial, (fun _ hz => absurd hz List.not_mem_nil)⟩))
  have hw2 : tt_wf (n + 1) _ := tt_wf_new hw (.inr (4, [.null]))
  refine tt_dup X dX0_init_8 rfl ?_
  refine al_callN X hE hw2 (n2 := (n + 2)) (by omega) (by exact (List.forall_mem_cons.mpr ⟨(Or.inl (show (b : Nat) < (n + 1) by omega)), (fun _ hz => absurd hz List.not_mem_nil)⟩)) (by exact (List.forall_mem_cons.mpr ⟨(Or.inl (show (n : Nat) < (n + 1) by omega)), (List.forall_mem_cons.mpr ⟨(Or.inl (show (b : Nat) < (n + 1) by omega)), (fun _ hz => absurd hz List.not_mem_nil)⟩)⟩)) (c_X4_init l (b := n) hw2 ho2 (by omega) (by first | rfl | (simp (disch := omega) only [C_X4, va_up_self, va_up_ne, hb] <;> rfl))) (fun v h hp => ⟨hp.1, hp.2.2.1⟩) (fun hts => ⟨va_cnB 0 hts gX0_init_X4_init_n9 rfl rfl rfl (hE.2.2 (RX0, 9, yX4_init, RX8) (by decide +kernel)) (hts _ (by decide +kernel)) (by decide +kernel) ⟨by decide, by decide⟩, rfl, hts _ (by decide +kernel)⟩) (Nat.le_of_ble_eq_true rfl) dX0_init_9 ⟨Nat.le_of_ble_eq_true rfl, Nat.le_of_ble_eq_true rfl⟩ (fun h3 ad3 hp3 hag3 => ?_)
  obtain ⟨-, rfl, hw3, ho3⟩ := hp3
  refine tt_putf X (fs := [.null, .null]) (by first | rfl | (simp (disch := omega) only [C_X4, va_up_self, va_up_ne, hb] <;> rfl)) rfl in_X0_init_X0 tyX0 tyX0_ok nmX0 0 (by decide) (by decide +kernel) rfl rfl (fun _ => rfl) (fun _ => rfl) (Nat.le_of_ble_eq_true rfl) dX0_init_12 ?_
  have ho4 : tt_okh (n + 2) _ := al_ok_up (e := .inr (0, [.ref n, .null])) ho3 (by exact (List.forall_mem_cons.mpr ⟨(show (n : Nat) < (n + 2) by omega), (List.forall_mem_cons.mpr ⟨trivial, (fun _ hz => absurd hz List.not_mem_nil)⟩)⟩)) b
  have hw4 : tt_wf (n + 2) _ := al_wf_put hw3 (show (b : Nat) < n + 2 by omega) (.inr (0, [.ref n, .null]))
  refine tt_aload_n X dX0_init_15 rfl ?_
  refine al_new (n := (n + 2)) X hw4 ho4 (by omega) (by exact (List.forall_mem_cons.mpr ⟨(Or.inl (show (b : Nat) < (n + 2) by omega)), (fun _ hz => absurd hz List.not_mem_nil)⟩)) (by exact (List.forall_mem_cons.mpr ⟨(Or.inl (show (b : Nat) < (n + 2) by omega)), (fun _ hz => absurd hz List.not_mem_nil)⟩)) (ci := 4) rfl in_X0_init_X4 tyX4 tyX4_ok (by decide +kernel) (by decide +kernel) (by decide +kernel) (fs := [.null]) (fun j hj => by match j, hj with | 0, _ => rfl | j + 1, hj => omega) (fun _ => rfl) (by exact (List.forall_mem_cons.mpr ⟨trivial, (fun _ hz => absurd hz List.not_mem_nil)⟩)) (Nat.le_of_ble_eq_true rfl) (Nat.le_of_ble_eq_true rfl) dX0_init_16 (fun q5 => ?_)
  have ho6 : tt_okh (n + 3) _ := al_ok_new (e := .inr (4, [.null])) ho4 (by exact (List.forall_mem_cons.mpr ⟨trivial, (fun _ hz => absurd hz List.not_mem_nil)⟩))
  have hw6 : tt_wf (n + 3) _ := tt_wf_new hw4 (.inr (4, [.null]))
  refine tt_dup X dX0_init_19 rfl ?_
  refine al_callN X hE hw6 (n2 := (n + 4)) (by omega) (by exact (List.forall_mem_cons.mpr ⟨(Or.inl (show (b : Nat) < (n + 3) by omega)), (fun _ hz => absurd hz List.not_mem_nil)⟩)) (by exact (List.forall_mem_cons.mpr ⟨(Or.inl (show ((n + 2) : Nat) < (n + 3) by omega)), (List.forall_mem_cons.mpr ⟨(Or.inl (show (b : Nat) < (n + 3) by omega)), (fun _ hz => absurd hz List.not_mem_nil)⟩)⟩)) (c_X4_init l (b := (n + 2)) hw6 ho6 (by omega) (by first | rfl | (simp (disch := omega) only [C_X4, va_up_self, va_up_ne, hb] <;> rfl))) (fun v h hp => ⟨hp.1, hp.2.2.1⟩) (fun hts => ⟨va_cnB 0 hts gX0_init_X4_init_n9 rfl rfl rfl (hE.2.2 (RX0, 9, yX4_init, RX8) (by decide +kernel)) (hts _ (by decide +kernel)) (by decide +kernel) ⟨by decide, by decide⟩, rfl, hts _ (by decide +kernel)⟩) (Nat.le_of_ble_eq_true rfl) dX0_init_20 ⟨Nat.le_of_ble_eq_true rfl, Nat.le_of_ble_eq_true rfl⟩ (fun h7 ad7 hp7 hag7 => ?_)
  obtain ⟨-, rfl, hw7, ho7⟩ := hp7
  refine tt_putf X (fs := [.ref n, .null]) (by first | rfl | (simp (disch := omega) only [C_X4, va_up_self, va_up_ne, hb] <;> rfl)) rfl in_X0_init_X0 tyX0 tyX0_ok nmX0 1 (by decide) (by decide +kernel) rfl rfl (fun _ => rfl) (fun _ => rfl) (Nat.le_of_ble_eq_true rfl) dX0_init_23 ?_
  have ho8 : tt_okh (n + 4) _ := al_ok_up (e := .inr (0, [.ref n, .ref (n + 2)])) ho7 (by exact (List.forall_mem_cons.mpr ⟨(show (n : Nat) < (n + 4) by omega), (List.forall_mem_cons.mpr ⟨(show ((n + 2) : Nat) < (n + 4) by omega), (fun _ hz => absurd hz List.not_mem_nil)⟩)⟩)) b
  have hw8 : tt_wf (n + 4) _ := al_wf_put hw7 (show (b : Nat) < n + 4 by omega) (.inr (0, [.ref n, .ref (n + 2)]))
  exact al_vret X rfl dX0_init_26 hw8 (by omega) (by intro i hi; rw [hag7 i (by omega), va_up_ne _ _ (by omega), hag3 i (by omega), va_up_ne _ _ (by omega)]) ⟨rfl, rfl, hw8, ho8⟩
end
section
theorem in_X8_init_X0 : ∀ w ∈ u_ws RX0 TX0 2, w ∈ wsX8_init := by decide +kernel
theorem in_X8_init_X1 : ∀ w ∈ u_ws RX1 TX1 2, w ∈ wsX8_init := by decide +kernel
theorem in_X8_init_X2 : ∀ w ∈ u_ws RX2 TX2 2, w ∈ wsX8_init := by decide +kernel
theorem in_X8_init_X3 : ∀ w ∈ u_ws RX3 TX3 3, w ∈ wsX8_init := by decide +kernel
theorem in_X8_init_X5 : ∀ w ∈ u_ws RX5 TX5 2, w ∈ wsX8_init := by decide +kernel
theorem in_X8_init_X6 : ∀ w ∈ u_ws RX6 TX6 3, w ∈ wsX8_init := by decide +kernel
theorem in_X8_init_X7 : ∀ w ∈ u_ws RX7 TX7 2, w ∈ wsX8_init := by decide +kernel
theorem in_X8_init_X8 : ∀ w ∈ u_ws RX8 TX8 13, w ∈ wsX8_init := by decide +kernel
def C_X8 (h : tt_H) : tt_H := va_up (va_up (va_up (va_up (va_up (va_up (va_up (va_up (va_up (va_up (va_up (va_up (va_up (va_up (va_up (va_up (va_up (va_up (va_up (va_up (va_up (va_up (va_up (va_up (va_up (va_up (va_up (va_up (va_up (va_up (va_up (va_up (va_up (va_up (va_up (va_up (va_up (va_up (va_up (va_up (va_up (va_up (va_up (va_up (va_up (va_up (va_up (va_up (va_up (va_up (va_up (va_up (va_up (va_up (va_up (va_up (va_up (va_up (va_up (va_up (va_up (va_up (va_up (va_up (va_up (va_up (va_up (va_up (va_up (va_up (va_up (va_up (va_up (va_up (va_up (va_up (va_up (va_up (va_up (va_up (va_up (va_up (va_up (va_up (va_up (va_up (va_up (va_up (va_up (va_up (va_up (va_up (va_up (va_up (va_up (va_up (va_up (va_up (va_up (va_up (va_up (va_up (va_up (va_up (va_up (va_up (va_up (va_up (va_up (va_up (va_up (va_up (va_up (va_up h 1 (some (tt_ia 8 (fun _ => 0)))) 0 (some (.inr (8, [.ref 1, .null, .null, .null, .null, .null, .null, .null, .null, .null, .int 0, .int 0, .int 0])))) 2 (some (tt_qa 3 6 (fun _ => none)))) 0 (some (.inr (8, [.ref 1, .ref 2, .null, .null, .null, .null, .null, .null, .null, .null, .int 0, .int 0, .int 0])))) 3 (some (tt_qa 4 4 (fun _ => none)))) 0 (some (.inr (8, [.ref 1, .ref 2, .ref 3, .null, .null, .null, .null, .null, .null, .null, .int 0, .int 0, .int 0])))) 4 (some (.inr (2, [.null, .int 0])))) 5 (some (tt_ia 12 (fun _ => 0)))) 4 (some (.inr (2, [.ref 5, .int 0])))) 4 (some (.inr (2, [.ref 5, .int 0])))) 0 (some (.inr (8, [.ref 1, .ref 2, .ref 3, .ref 4, .null, .null, .null, .null, .null, .null, .int 0, .int 0, .int 0])))) 6 (some (.inr (3, [.null, .null, .null])))) 7 (some (tt_ia 12 (fun _ => 0)))) 6 (some (.inr (3, [.ref 7, .null, .null])))) 8 (some (tt_ia 12 (fun _ => 0)))) 6 (some (.inr (3, [.ref 7, .ref 8, .null])))) 9 (some (tt_ja 13 (fun _ => 0)))) 6 (some (.inr (3, [.ref 7, .ref 8, .ref 9])))) 0 (some (.inr (8, [.ref 1, .ref 2, .ref 3, .ref 4, .ref 6, .null, .null, .null, .null, .null, .int 0, .int 0, .int 0])))) 10 (some (.inr (5, [.null, .null])))) 11 (some (tt_za 104 (fun _ => 0)))) 10 (some (.inr (5, [.ref 11, .null])))) 12 (some (tt_ia 2 (fun _ => 0)))) 10 (some (.inr (5, [.ref 11, .ref 12])))) 0 (some (.inr (8, [.ref 1, .ref 2, .ref 3, .ref 4, .ref 6, .ref 10, .null, .null, .null, .null, .int 0, .int 0, .int 0])))) 13 (some (.inr (7, [.null, .null])))) 14 (some (.inr (4, [.null])))) 15 (some (tt_ja 169 (fun _ => 0)))) 14 (some (.inr (4, [.ref 15])))) 13 (some (.inr (7, [.ref 14, .null])))) 16 (some (.inr (4, [.null])))) 17 (some (tt_ja 169 (fun _ => 0)))) 16 (some (.inr (4, [.ref 17])))) 13 (some (.inr (7, [.ref 14, .ref 16])))) 0 (some (.inr (8, [.ref 1, .ref 2, .ref 3, .ref 4, .ref 6, .ref 10, .ref 13, .null, .null, .null, .int 0, .int 0, .int 0])))) 18 (some (.inr (1, [.null, .null])))) 19 (some (.inr (4, [.null])))) 20 (some (tt_ja 169 (fun _ => 0)))) 19 (some (.inr (4, [.ref 20])))) 18 (some (.inr (1, [.ref 19, .null])))) 21 (some (.inr (4, [.null])))) 22 (some (tt_ja 169 (fun _ => 0)))) 21 (some (.inr (4, [.ref 22])))) 18 (some (.inr (1, [.ref 19, .ref 21])))) 0 (some (.inr (8, [.ref 1, .ref 2, .ref 3, .ref 4, .ref 6, .ref 10, .ref 13, .ref 18, .null, .null, .int 0, .int 0, .int 0])))) 23 (some (.inr (0, [.null, .null])))) 24 (some (.inr (4, [.null])))) 25 (some (tt_ja 169 (fun _ => 0)))) 24 (some (.inr (4, [.ref 25])))) 23 (some (.inr (0, [.ref 24, .null])))) 26 (some (.inr (4, [.null])))) 27 (some (tt_ja 169 (fun _ => 0)))) 26 (some (.inr (4, [.ref 27])))) 23 (some (.inr (0, [.ref 24, .ref 26])))) 0 (some (.inr (8, [.ref 1, .ref 2, .ref 3, .ref 4, .ref 6, .ref 10, .ref 13, .ref 18, .ref 23, .null, .int 0, .int 0, .int 0])))) 28 (some (tt_ia 13 (fun _ => 0)))) 0 (some (.inr (8, [.ref 1, .ref 2, .ref 3, .ref 4, .ref 6, .ref 10, .ref 13, .ref 18, .ref 23, .ref 28, .int 0, .int 0, .int 0])))) 0 (some (.inr (8, [.ref 1, .ref 2, .ref 3, .ref 4, .ref 6, .ref 10, .ref 13, .ref 18, .ref 23, .ref 28, .int 0, .int 0, .int 0])))) 0 (some (.inr (8, [.ref 1, .ref 2, .ref 3, .ref 4, .ref 6, .ref 10, .ref 13, .ref 18, .ref 23, .ref 28, .int 0, .int 0, .int 0])))) 0 (some (.inr (8, [.ref 1, .ref 2, .ref 3, .ref 4, .ref 6, .ref 10, .ref 13, .ref 18, .ref 23, .ref 28, .int 0, .int 0, .int 0])))) 29 (some (.inr (2, [.null, .int 0])))) 30 (some (tt_ia 12 (fun _ => 0)))) 29 (some (.inr (2, [.ref 30, .int 0])))) 29 (some (.inr (2, [.ref 30, .int 0])))) 2 (some (tt_qa 3 6 (va_up (fun _ => none) 0 (some 29))))) 31 (some (.inr (2, [.null, .int 0])))) 32 (some (tt_ia 12 (fun _ => 0)))) 31 (some (.inr (2, [.ref 32, .int 0])))) 31 (some (.inr (2, [.ref 32, .int 0])))) 2 (some (tt_qa 3 6 (va_up (va_up (fun _ => none) 0 (some 29)) 1 (some 31))))) 33 (some (.inr (2, [.null, .int 0])))) 34 (some (tt_ia 12 (fun _ => 0)))) 33 (some (.inr (2, [.ref 34, .int 0])))) 33 (some (.inr (2, [.ref 34, .int 0])))) 2 (some (tt_qa 3 6 (va_up (va_up (va_up (fun _ => none) 0 (some 29)) 1 (some 31)) 2 (some 33))))) 35 (some (.inr (2, [.null, .int 0])))) 36 (some (tt_ia 12 (fun _ => 0)))) 35 (some (.inr (2, [.ref 36, .int 0])))) 35 (some (.inr (2, [.ref 36, .int 0])))) 2 (some (tt_qa 3 6 (va_up (va_up (va_up (va_up (fun _ => none) 0 (some 29)) 1 (some 31)) 2 (some 33)) 3 (some 35))))) 37 (some (.inr (2, [.null, .int 0])))) 38 (some (tt_ia 12 (fun _ => 0)))) 37 (some (.inr (2, [.ref 38, .int 0])))) 37 (some (.inr (2, [.ref 38, .int 0])))) 2 (some (tt_qa 3 6 (va_up (va_up (va_up (va_up (va_up (fun _ => none) 0 (some 29)) 1 (some 31)) 2 (some 33)) 3 (some 35)) 4 (some 37))))) 39 (some (.inr (2, [.null, .int 0])))) 40 (some (tt_ia 12 (fun _ => 0)))) 39 (some (.inr (2, [.ref 40, .int 0])))) 39 (some (.inr (2, [.ref 40, .int 0])))) 2 (some (tt_qa 3 6 (va_up (va_up (va_up (va_up (va_up (va_up (fun _ => none) 0 (some 29)) 1 (some 31)) 2 (some 33)) 3 (some 35)) 4 (some 37)) 5 (some 39))))) 41 (some (.inr (6, [.null, .int 0, .int 0])))) 42 (some (tt_ia 80 (fun _ => 0)))) 41 (some (.inr (6, [.ref 42, .int 0, .int 0])))) 41 (some (.inr (6, [.ref 42, .int (-1), .int 0])))) 41 (some (.inr (6, [.ref 42, .int (-1), .int 0])))) 3 (some (tt_qa 4 4 (va_up (fun _ => none) 0 (some 41))))) 43 (some (.inr (6, [.null, .int 0, .int 0])))) 44 (some (tt_ia 80 (fun _ => 0)))) 43 (some (.inr (6, [.ref 44, .int 0, .int 0])))) 43 (some (.inr (6, [.ref 44, .int (-1), .int 0])))) 43 (some (.inr (6, [.ref 44, .int (-1), .int 0])))) 3 (some (tt_qa 4 4 (va_up (va_up (fun _ => none) 0 (some 41)) 1 (some 43))))) 45 (some (.inr (6, [.null, .int 0, .int 0])))) 46 (some (tt_ia 80 (fun _ => 0)))) 45 (some (.inr (6, [.ref 46, .int 0, .int 0])))) 45 (some (.inr (6, [.ref 46, .int (-1), .int 0])))) 45 (some (.inr (6, [.ref 46, .int (-1), .int 0])))) 3 (some (tt_qa 4 4 (va_up (va_up (va_up (fun _ => none) 0 (some 41)) 1 (some 43)) 2 (some 45))))) 47 (some (.inr (6, [.null, .int 0, .int 0])))) 48 (some (tt_ia 80 (fun _ => 0)))) 47 (some (.inr (6, [.ref 48, .int 0, .int 0])))) 47 (some (.inr (6, [.ref 48, .int (-1), .int 0])))) 47 (some (.inr (6, [.ref 48, .int (-1), .int 0])))) 3 (some (tt_qa 4 4 (va_up (va_up (va_up (va_up (fun _ => none) 0 (some 41)) 1 (some 43)) 2 (some 45)) 3 (some 47))))
abbrev rm_X8_init : Room := { frames := 3, cells := 48, slots := 1635, locals := 60 }
set_option maxHeartbeats 8000000 in
set_option maxRecDepth 100000 in
theorem c_X8_init (l : Launch) {b : Nat} {h : tt_H} (hw : tt_wf 1 h) (ho : tt_okh 1 h) (hbn : b = 0 ∧ True) (hb : h b = some (.inr (8, [.null, .null, .null, .null, .null, .null, .null, .null, .null, .null, .int 0, .int 0, .int 0]))) : al_N tt_cl l yX8_init wsX8_init rm_X8_init 48 1635 [.ref b] h (fun v h2 => v = none ∧ h2 = C_X8 h ∧ tt_wf 49 h2 ∧ tt_okh 49 h2) := by
  obtain ⟨rfl, -⟩ := hbn
  refine al_N.of (cc := cX8_init) (maxL := 2) (ret := none) (by decide +kernel) rfl (Nat.le_of_ble_eq_true rfl) rfl ?_
  intro p e s m args below meth c D ca ad n0 sz hwf hE X hini
  have hnn := al_n_eq hwf hw
  subst hnn
  refine tt_aload_n X dX8_init_0 rfl ?_
  refine al_objInit X (by decide +kernel) (by decide +kernel) (by decide +kernel) dX8_init_1 (by decide) (Nat.le_of_ble_eq_true rfl) ?_
  refine tt_aload_n X dX8_init_4 rfl ?_
  refine tt_bipush (v := 8) X dX8_init_5 (by decide) ?_
  refine al_newa (n := 1) (ty := .int) X hw ho (by omega) (by exact (List.forall_mem_cons.mpr ⟨(Or.inl (show (0 : Nat) < 1 by omega)), (fun _ hz => absurd hz List.not_mem_nil)⟩)) (by exact (List.forall_mem_cons.mpr ⟨(Or.inl (show (0 : Nat) < 1 by omega)), (fun _ hz => absurd hz List.not_mem_nil)⟩)) 0 rfl (fun _ _ z => z) (by decide +kernel) rfl (N := 8) (a0 := (8, .inl (fun _ => 0))) (fun _ => rfl) trivial (fun _ => rfl) (by decide) (by decide) (Nat.le_of_ble_eq_true rfl) (Nat.le_of_ble_eq_true rfl) (Nat.le_of_ble_eq_true rfl) dX8_init_7 (fun q1 => ?_)
  have ho2 : tt_okh 2 _ := al_ok_new (e := tt_ia 8 (fun _ => 0)) ho trivial
  have hw2 : tt_wf 2 _ := tt_wf_new hw (tt_ia 8 (fun _ => 0))
  refine tt_putfF X (fs := [.null, .null, .null, .null, .null, .null, .null, .null, .null, .null, .int 0, .int 0, .int 0]) (by first | rfl | exact hb) rfl in_X8_init_X8 tyX8 tyX8_ok nmX8 0 (by decide) (by decide +kernel) rfl rfl hini rfl (fun _ => rfl) (fun _ => rfl) (Nat.le_of_ble_eq_true rfl) dX8_init_9 ?_
  have ho3 : tt_okh 2 _ := al_ok_up (e := .inr (8, [.ref 1, .null, .null, .null, .null, .null, .null, .null, .null, .null, .int 0, .int 0, .int 0])) ho2 (by exact (List.forall_mem_cons.mpr ⟨(show (1 : Nat) < 2 by omega), (List.forall_mem_cons.mpr ⟨trivial, (List.forall_mem_cons.mpr ⟨trivial, (List.forall_mem_cons.mpr ⟨trivial, (List.forall_mem_cons.mpr ⟨trivial, (List.forall_mem_cons.mpr ⟨trivial, (List.forall_mem_cons.mpr ⟨trivial, (List.forall_mem_cons.mpr ⟨trivial, (List.forall_mem_cons.mpr ⟨trivial, (List.forall_mem_cons.mpr ⟨trivial, (List.forall_mem_cons.mpr ⟨trivial, (List.forall_mem_cons.mpr ⟨trivial, (List.forall_mem_cons.mpr ⟨trivial, (fun _ hz => absurd hz List.not_mem_nil)⟩)⟩)⟩)⟩)⟩)⟩)⟩)⟩)⟩)⟩)⟩)⟩)⟩)) 0
  have hw3 : tt_wf 2 _ := al_wf_put hw2 (show (0 : Nat) < 2 by omega) (.inr (8, [.ref 1, .null, .null, .null, .null, .null, .null, .null, .null, .null, .int 0, .int 0, .int 0]))
  refine tt_aload_n X dX8_init_12 rfl ?_
  refine tt_bipush (v := 6) X dX8_init_13 (by decide) ?_
  refine al_newq (n := 2) X hw3 ho3 (by omega) (by exact (List.forall_mem_cons.mpr ⟨(Or.inl (show (0 : Nat) < 2 by omega)), (fun _ hz => absurd hz List.not_mem_nil)⟩)) (by exact (List.forall_mem_cons.mpr ⟨(Or.inl (show (0 : Nat) < 2 by omega)), (fun _ hz => absurd hz List.not_mem_nil)⟩)) 3 rfl (by decide +kernel) hE.1 (N := 6) (by decide) (by decide) (Nat.le_of_ble_eq_true rfl) (Nat.le_of_ble_eq_true rfl) (Nat.le_of_ble_eq_true rfl) dX8_init_15 (fun q4 => ?_)
  have ho5 : tt_okh 3 _ := al_ok_new (e := tt_qa 3 6 (fun _ => none)) ho3 (fun j i hf => by cases hf)
  have hw5 : tt_wf 3 _ := tt_wf_new hw3 (tt_qa 3 6 (fun _ => none))
  refine tt_putfF X (fs := [.ref 1, .null, .null, .null, .null, .null, .null, .null, .null, .null, .int 0, .int 0, .int 0]) (by first | rfl | exact hb) rfl in_X8_init_X8 tyX8 tyX8_ok nmX8 1 (by decide) (by decide +kernel) rfl rfl hini rfl (fun _ => rfl) (fun _ => rfl) (Nat.le_of_ble_eq_true rfl) dX8_init_18 ?_
  have ho6 : tt_okh 3 _ := al_ok_up (e := .inr (8, [.ref 1, .ref 2, .null, .null, .null, .null, .null, .null, .null, .null, .int 0, .int 0, .int 0])) ho5 (by exact (List.forall_mem_cons.mpr ⟨(show (1 : Nat) < 3 by omega), (List.forall_mem_cons.mpr ⟨(show (2 : Nat) < 3 by omega), (List.forall_mem_cons.mpr ⟨trivial, (List.forall_mem_cons.mpr ⟨trivial, (List.forall_mem_cons.mpr ⟨trivial, (List.forall_mem_cons.mpr ⟨trivial, (List.forall_mem_cons.mpr ⟨trivial, (List.forall_mem_cons.mpr ⟨trivial, (List.forall_mem_cons.mpr ⟨trivial, (List.forall_mem_cons.mpr ⟨trivial, (List.forall_mem_cons.mpr ⟨trivial, (List.forall_mem_cons.mpr ⟨trivial, (List.forall_mem_cons.mpr ⟨trivial, (fun _ hz => absurd hz List.not_mem_nil)⟩)⟩)⟩)⟩)⟩)⟩)⟩)⟩)⟩)⟩)⟩)⟩)⟩)) 0
  have hw6 : tt_wf 3 _ := al_wf_put hw5 (show (0 : Nat) < 3 by omega) (.inr (8, [.ref 1, .ref 2, .null, .null, .null, .null, .null, .null, .null, .null, .int 0, .int 0, .int 0]))
  refine tt_aload_n X dX8_init_21 rfl ?_
  refine tt_iconst (v := 4) X dX8_init_22 (by decide) ?_
  refine al_newq (n := 3) X hw6 ho6 (by omega) (by exact (List.forall_mem_cons.mpr ⟨(Or.inl (show (0 : Nat) < 3 by omega)), (fun _ hz => absurd hz List.not_mem_nil)⟩)) (by exact (List.forall_mem_cons.mpr ⟨(Or.inl (show (0 : Nat) < 3 by omega)), (fun _ hz => absurd hz List.not_mem_nil)⟩)) 4 rfl (by decide +kernel) hE.2.1 (N := 4) (by decide) (by decide) (Nat.le_of_ble_eq_true rfl) (Nat.le_of_ble_eq_true rfl) (Nat.le_of_ble_eq_true rfl) dX8_init_23 (fun q7 => ?_)
  have ho8 : tt_okh 4 _ := al_ok_new (e := tt_qa 4 4 (fun _ => none)) ho6 (fun j i hf => by cases hf)
  have hw8 : tt_wf 4 _ := tt_wf_new hw6 (tt_qa 4 4 (fun _ => none))
  refine tt_putfF X (fs := [.ref 1, .ref 2, .null, .null, .null, .null, .null, .null, .null, .null, .int 0, .int 0, .int 0]) (by first | rfl | exact hb) rfl in_X8_init_X8 tyX8 tyX8_ok nmX8 2 (by decide) (by decide +kernel) rfl rfl hini rfl (fun _ => rfl) (fun _ => rfl) (Nat.le_of_ble_eq_true rfl) dX8_init_26 ?_
  have ho9 : tt_okh 4 _ := al_ok_up (e := .inr (8, [.ref 1, .ref 2, .ref 3, .null, .null, .null, .null, .null, .null, .null, .int 0, .int 0, .int 0])) ho8 (by exact (List.forall_mem_cons.mpr ⟨(show (1 : Nat) < 4 by omega), (List.forall_mem_cons.mpr ⟨(show (2 : Nat) < 4 by omega), (List.forall_mem_cons.mpr ⟨(show (3 : Nat) < 4 by omega), (List.forall_mem_cons.mpr ⟨trivial, (List.forall_mem_cons.mpr ⟨trivial, (List.forall_mem_cons.mpr ⟨trivial, (List.forall_mem_cons.mpr ⟨trivial, (List.forall_mem_cons.mpr ⟨trivial, (List.forall_mem_cons.mpr ⟨trivial, (List.forall_mem_cons.mpr ⟨trivial, (List.forall_mem_cons.mpr ⟨trivial, (List.forall_mem_cons.mpr ⟨trivial, (List.forall_mem_cons.mpr ⟨trivial, (fun _ hz => absurd hz List.not_mem_nil)⟩)⟩)⟩)⟩)⟩)⟩)⟩)⟩)⟩)⟩)⟩)⟩)⟩)) 0
  have hw9 : tt_wf 4 _ := al_wf_put hw8 (show (0 : Nat) < 4 by omega) (.inr (8, [.ref 1, .ref 2, .ref 3, .null, .null, .null, .null, .null, .null, .null, .int 0, .int 0, .int 0]))
  refine tt_aload_n X dX8_init_29 rfl ?_
  refine al_new (n := 4) X hw9 ho9 (by omega) (by exact (List.forall_mem_cons.mpr ⟨(Or.inl (show (0 : Nat) < 4 by omega)), (fun _ hz => absurd hz List.not_mem_nil)⟩)) (by exact (List.forall_mem_cons.mpr ⟨(Or.inl (show (0 : Nat) < 4 by omega)), (fun _ hz => absurd hz List.not_mem_nil)⟩)) (ci := 2) rfl in_X8_init_X2 tyX2 tyX2_ok (by decide +kernel) (by decide +kernel) (by decide +kernel) (fs := [.null, .int 0]) (fun j hj => by match j, hj with | 0, _ => rfl | 1, _ => rfl | j + 2, hj => omega) (fun _ => rfl) (by exact (List.forall_mem_cons.mpr ⟨trivial, (List.forall_mem_cons.mpr ⟨trivial, (fun _ hz => absurd hz List.not_mem_nil)⟩)⟩)) (Nat.le_of_ble_eq_true rfl) (Nat.le_of_ble_eq_true rfl) dX8_init_30 (fun q10 => ?_)
  have ho11 : tt_okh 5 _ := al_ok_new (e := .inr (2, [.null, .int 0])) ho9 (by exact (List.forall_mem_cons.mpr ⟨trivial, (List.forall_mem_cons.mpr ⟨trivial, (fun _ hz => absurd hz List.not_mem_nil)⟩)⟩))
  have hw11 : tt_wf 5 _ := tt_wf_new hw9 (.inr (2, [.null, .int 0]))
  refine tt_dup X dX8_init_33 rfl ?_
  refine al_callN X hE hw11 (n2 := 6) (by omega) (by exact (List.forall_mem_cons.mpr ⟨(Or.inl (show (0 : Nat) < 5 by omega)), (fun _ hz => absurd hz List.not_mem_nil)⟩)) (by exact (List.forall_mem_cons.mpr ⟨(Or.inl (show (4 : Nat) < 5 by omega)), (List.forall_mem_cons.mpr ⟨(Or.inl (show (0 : Nat) < 5 by omega)), (fun _ hz => absurd hz List.not_mem_nil)⟩)⟩)) (c_X2_init l (b := 4) hw11 ho11 (by omega) (by first | rfl | exact hb)) (fun v h hp => ⟨hp.1, hp.2.2.1⟩) (fun hts => ⟨va_cnB 0 hts gX8_init_X2_init_n27 rfl rfl rfl (hE.2.2 (RX8, 27, yX2_init, RX8) (by decide +kernel)) (hts _ (by decide +kernel)) (by decide +kernel) ⟨by decide, by decide⟩, rfl, hts _ (by decide +kernel)⟩) (Nat.le_of_ble_eq_true rfl) dX8_init_34 ⟨Nat.le_of_ble_eq_true rfl, Nat.le_of_ble_eq_true rfl⟩ (fun h12 ad12 hp12 hag12 => ?_)
  obtain ⟨-, rfl, hw12, ho12⟩ := hp12
  refine tt_putfF X (fs := [.ref 1, .ref 2, .ref 3, .null, .null, .null, .null, .null, .null, .null, .int 0, .int 0, .int 0]) (by first | rfl | exact hb) rfl in_X8_init_X8 tyX8 tyX8_ok nmX8 3 (by decide) (by decide +kernel) rfl rfl hini rfl (fun _ => rfl) (fun _ => rfl) (Nat.le_of_ble_eq_true rfl) dX8_init_37 ?_
  have ho13 : tt_okh 6 _ := al_ok_up (e := .inr (8, [.ref 1, .ref 2, .ref 3, .ref 4, .null, .null, .null, .null, .null, .null, .int 0, .int 0, .int 0])) ho12 (by exact (List.forall_mem_cons.mpr ⟨(show (1 : Nat) < 6 by omega), (List.forall_mem_cons.mpr ⟨(show (2 : Nat) < 6 by omega), (List.forall_mem_cons.mpr ⟨(show (3 : Nat) < 6 by omega), (List.forall_mem_cons.mpr ⟨(show (4 : Nat) < 6 by omega), (List.forall_mem_cons.mpr ⟨trivial, (List.forall_mem_cons.mpr ⟨trivial, (List.forall_mem_cons.mpr ⟨trivial, (List.forall_mem_cons.mpr ⟨trivial, (List.forall_mem_cons.mpr ⟨trivial, (List.forall_mem_cons.mpr ⟨trivial, (List.forall_mem_cons.mpr ⟨trivial, (List.forall_mem_cons.mpr ⟨trivial, (List.forall_mem_cons.mpr ⟨trivial, (fun _ hz => absurd hz List.not_mem_nil)⟩)⟩)⟩)⟩)⟩)⟩)⟩)⟩)⟩)⟩)⟩)⟩)⟩)) 0
  have hw13 : tt_wf 6 _ := al_wf_put hw12 (show (0 : Nat) < 6 by omega) (.inr (8, [.ref 1, .ref 2, .ref 3, .ref 4, .null, .null, .null, .null, .null, .null, .int 0, .int 0, .int 0]))
  refine tt_aload_n X dX8_init_40 rfl ?_
  refine al_new (n := 6) X hw13 ho13 (by omega) (by exact (List.forall_mem_cons.mpr ⟨(Or.inl (show (0 : Nat) < 6 by omega)), (fun _ hz => absurd hz List.not_mem_nil)⟩)) (by exact (List.forall_mem_cons.mpr ⟨(Or.inl (show (0 : Nat) < 6 by omega)), (fun _ hz => absurd hz List.not_mem_nil)⟩)) (ci := 3) rfl in_X8_init_X3 tyX3 tyX3_ok (by decide +kernel) (by decide +kernel) (by decide +kernel) (fs := [.null, .null, .null]) (fun j hj => by match j, hj with | 0, _ => rfl | 1, _ => rfl | 2, _ => rfl | j + 3, hj => omega) (fun _ => rfl) (by exact (List.forall_mem_cons.mpr ⟨trivial, (List.forall_mem_cons.mpr ⟨trivial, (List.forall_mem_cons.mpr ⟨trivial, (fun _ hz => absurd hz List.not_mem_nil)⟩)⟩)⟩)) (Nat.le_of_ble_eq_true rfl) (Nat.le_of_ble_eq_true rfl) dX8_init_41 (fun q14 => ?_)
  have ho15 : tt_okh 7 _ := al_ok_new (e := .inr (3, [.null, .null, .null])) ho13 (by exact (List.forall_mem_cons.mpr ⟨trivial, (List.forall_mem_cons.mpr ⟨trivial, (List.forall_mem_cons.mpr ⟨trivial, (fun _ hz => absurd hz List.not_mem_nil)⟩)⟩)⟩))
  have hw15 : tt_wf 7 _ := tt_wf_new hw13 (.inr (3, [.null, .null, .null]))
  refine tt_dup X dX8_init_44 rfl ?_
  refine al_callN X hE hw15 (n2 := 10) (by omega) (by exact (List.forall_mem_cons.mpr ⟨(Or.inl (show (0 : Nat) < 7 by omega)), (fun _ hz => absurd hz List.not_mem_nil)⟩)) (by exact (List.forall_mem_cons.mpr ⟨(Or.inl (show (6 : Nat) < 7 by omega)), (List.forall_mem_cons.mpr ⟨(Or.inl (show (0 : Nat) < 7 by omega)), (fun _ hz => absurd hz List.not_mem_nil)⟩)⟩)) (c_X3_init l (b := 6) hw15 ho15 (by omega) (by first | rfl | exact hb)) (fun v h hp => ⟨hp.1, hp.2.2.1⟩) (fun hts => ⟨va_cnB 0 hts gX8_init_X3_init_n34 rfl rfl rfl (hE.2.2 (RX8, 34, yX3_init, RX8) (by decide +kernel)) (hts _ (by decide +kernel)) (by decide +kernel) ⟨by decide, by decide⟩, rfl, hts _ (by decide +kernel)⟩) (Nat.le_of_ble_eq_true rfl) dX8_init_45 ⟨Nat.le_of_ble_eq_true rfl, Nat.le_of_ble_eq_true rfl⟩ (fun h16 ad16 hp16 hag16 => ?_)
  obtain ⟨-, rfl, hw16, ho16⟩ := hp16
  refine tt_putfF X (fs := [.ref 1, .ref 2, .ref 3, .ref 4, .null, .null, .null, .null, .null, .null, .int 0, .int 0, .int 0]) (by first | rfl | exact hb) rfl in_X8_init_X8 tyX8 tyX8_ok nmX8 4 (by decide) (by decide +kernel) rfl rfl hini rfl (fun _ => rfl) (fun _ => rfl) (Nat.le_of_ble_eq_true rfl) dX8_init_48 ?_
  have ho17 : tt_okh 10 _ := al_ok_up (e := .inr (8, [.ref 1, .ref 2, .ref 3, .ref 4, .ref 6, .null, .null, .null, .null, .null, .int 0, .int 0, .int 0])) ho16 (by exact (List.forall_mem_cons.mpr ⟨(show (1 : Nat) < 10 by omega), (List.forall_mem_cons.mpr ⟨(show (2 : Nat) < 10 by omega), (List.forall_mem_cons.mpr ⟨(show (3 : Nat) < 10 by omega), (List.forall_mem_cons.mpr ⟨(show (4 : Nat) < 10 by omega), (List.forall_mem_cons.mpr ⟨(show (6 : Nat) < 10 by omega), (List.forall_mem_cons.mpr ⟨trivial, (List.forall_mem_cons.mpr ⟨trivial, (List.forall_mem_cons.mpr ⟨trivial, (List.forall_mem_cons.mpr ⟨trivial, (List.forall_mem_cons.mpr ⟨trivial, (List.forall_mem_cons.mpr ⟨trivial, (List.forall_mem_cons.mpr ⟨trivial, (List.forall_mem_cons.mpr ⟨trivial, (fun _ hz => absurd hz List.not_mem_nil)⟩)⟩)⟩)⟩)⟩)⟩)⟩)⟩)⟩)⟩)⟩)⟩)⟩)) 0
  have hw17 : tt_wf 10 _ := al_wf_put hw16 (show (0 : Nat) < 10 by omega) (.inr (8, [.ref 1, .ref 2, .ref 3, .ref 4, .ref 6, .null, .null, .null, .null, .null, .int 0, .int 0, .int 0]))
  refine tt_aload_n X dX8_init_51 rfl ?_
  refine al_new (n := 10) X hw17 ho17 (by omega) (by exact (List.forall_mem_cons.mpr ⟨(Or.inl (show (0 : Nat) < 10 by omega)), (fun _ hz => absurd hz List.not_mem_nil)⟩)) (by exact (List.forall_mem_cons.mpr ⟨(Or.inl (show (0 : Nat) < 10 by omega)), (fun _ hz => absurd hz List.not_mem_nil)⟩)) (ci := 5) rfl in_X8_init_X5 tyX5 tyX5_ok (by decide +kernel) (by decide +kernel) (by decide +kernel) (fs := [.null, .null]) (fun j hj => by match j, hj with | 0, _ => rfl | 1, _ => rfl | j + 2, hj => omega) (fun _ => rfl) (by exact (List.forall_mem_cons.mpr ⟨trivial, (List.forall_mem_cons.mpr ⟨trivial, (fun _ hz => absurd hz List.not_mem_nil)⟩)⟩)) (Nat.le_of_ble_eq_true rfl) (Nat.le_of_ble_eq_true rfl) dX8_init_52 (fun q18 => ?_)
  have ho19 : tt_okh 11 _ := al_ok_new (e := .inr (5, [.null, .null])) ho17 (by exact (List.forall_mem_cons.mpr ⟨trivial, (List.forall_mem_cons.mpr ⟨trivial, (fun _ hz => absurd hz List.not_mem_nil)⟩)⟩))
  have hw19 : tt_wf 11 _ := tt_wf_new hw17 (.inr (5, [.null, .null]))
  refine tt_dup X dX8_init_55 rfl ?_
  refine al_callN X hE hw19 (n2 := 13) (by omega) (by exact (List.forall_mem_cons.mpr ⟨(Or.inl (show (0 : Nat) < 11 by omega)), (fun _ hz => absurd hz List.not_mem_nil)⟩)) (by exact (List.forall_mem_cons.mpr ⟨(Or.inl (show (10 : Nat) < 11 by omega)), (List.forall_mem_cons.mpr ⟨(Or.inl (show (0 : Nat) < 11 by omega)), (fun _ hz => absurd hz List.not_mem_nil)⟩)⟩)) (c_X5_init l (b := 10) hw19 ho19 (by omega) (by first | rfl | exact hb)) (fun v h hp => ⟨hp.1, hp.2.2.1⟩) (fun hts => ⟨va_cnB 0 hts gX8_init_X5_init_n41 rfl rfl rfl (hE.2.2 (RX8, 41, yX5_init, RX8) (by decide +kernel)) (hts _ (by decide +kernel)) (by decide +kernel) ⟨by decide, by decide⟩, rfl, hts _ (by decide +kernel)⟩) (Nat.le_of_ble_eq_true rfl) dX8_init_56 ⟨Nat.le_of_ble_eq_true rfl, Nat.le_of_ble_eq_true rfl⟩ (fun h20 ad20 hp20 hag20 => ?_)
  obtain ⟨-, rfl, hw20, ho20⟩ := hp20
  refine tt_putfF X (fs := [.ref 1, .ref 2, .ref 3, .ref 4, .ref 6, .null, .null, .null, .null, .null, .int 0, .int 0, .int 0]) (by first | rfl | exact hb) rfl in_X8_init_X8 tyX8 tyX8_ok nmX8 5 (by decide) (by decide +kernel) rfl rfl hini rfl (fun _ => rfl) (fun _ => rfl) (Nat.le_of_ble_eq_true rfl) dX8_init_59 ?_
  have ho21 : tt_okh 13 _ := al_ok_up (e := .inr (8, [.ref 1, .ref 2, .ref 3, .ref 4, .ref 6, .ref 10, .null, .null, .null, .null, .int 0, .int 0, .int 0])) ho20 (by exact (List.forall_mem_cons.mpr ⟨(show (1 : Nat) < 13 by omega), (List.forall_mem_cons.mpr ⟨(show (2 : Nat) < 13 by omega), (List.forall_mem_cons.mpr ⟨(show (3 : Nat) < 13 by omega), (List.forall_mem_cons.mpr ⟨(show (4 : Nat) < 13 by omega), (List.forall_mem_cons.mpr ⟨(show (6 : Nat) < 13 by omega), (List.forall_mem_cons.mpr ⟨(show (10 : Nat) < 13 by omega), (List.forall_mem_cons.mpr ⟨trivial, (List.forall_mem_cons.mpr ⟨trivial, (List.forall_mem_cons.mpr ⟨trivial, (List.forall_mem_cons.mpr ⟨trivial, (List.forall_mem_cons.mpr ⟨trivial, (List.forall_mem_cons.mpr ⟨trivial, (List.forall_mem_cons.mpr ⟨trivial, (fun _ hz => absurd hz List.not_mem_nil)⟩)⟩)⟩)⟩)⟩)⟩)⟩)⟩)⟩)⟩)⟩)⟩)⟩)) 0
  have hw21 : tt_wf 13 _ := al_wf_put hw20 (show (0 : Nat) < 13 by omega) (.inr (8, [.ref 1, .ref 2, .ref 3, .ref 4, .ref 6, .ref 10, .null, .null, .null, .null, .int 0, .int 0, .int 0]))
  refine tt_aload_n X dX8_init_62 rfl ?_
  refine al_new (n := 13) X hw21 ho21 (by omega) (by exact (List.forall_mem_cons.mpr ⟨(Or.inl (show (0 : Nat) < 13 by omega)), (fun _ hz => absurd hz List.not_mem_nil)⟩)) (by exact (List.forall_mem_cons.mpr ⟨(Or.inl (show (0 : Nat) < 13 by omega)), (fun _ hz => absurd hz List.not_mem_nil)⟩)) (ci := 7) rfl in_X8_init_X7 tyX7 tyX7_ok (by decide +kernel) (by decide +kernel) (by decide +kernel) (fs := [.null, .null]) (fun j hj => by match j, hj with | 0, _ => rfl | 1, _ => rfl | j + 2, hj => omega) (fun _ => rfl) (by exact (List.forall_mem_cons.mpr ⟨trivial, (List.forall_mem_cons.mpr ⟨trivial, (fun _ hz => absurd hz List.not_mem_nil)⟩)⟩)) (Nat.le_of_ble_eq_true rfl) (Nat.le_of_ble_eq_true rfl) dX8_init_63 (fun q22 => ?_)
  have ho23 : tt_okh 14 _ := al_ok_new (e := .inr (7, [.null, .null])) ho21 (by exact (List.forall_mem_cons.mpr ⟨trivial, (List.forall_mem_cons.mpr ⟨trivial, (fun _ hz => absurd hz List.not_mem_nil)⟩)⟩))
  have hw23 : tt_wf 14 _ := tt_wf_new hw21 (.inr (7, [.null, .null]))
  refine tt_dup X dX8_init_66 rfl ?_
  refine al_callN X hE hw23 (n2 := 18) (by omega) (by exact (List.forall_mem_cons.mpr ⟨(Or.inl (show (0 : Nat) < 14 by omega)), (fun _ hz => absurd hz List.not_mem_nil)⟩)) (by exact (List.forall_mem_cons.mpr ⟨(Or.inl (show (13 : Nat) < 14 by omega)), (List.forall_mem_cons.mpr ⟨(Or.inl (show (0 : Nat) < 14 by omega)), (fun _ hz => absurd hz List.not_mem_nil)⟩)⟩)) (c_X7_init l (b := 13) hw23 ho23 (by omega) (by first | rfl | exact hb)) (fun v h hp => ⟨hp.1, hp.2.2.1⟩) (fun hts => ⟨va_cnB 0 hts gX8_init_X7_init_n48 rfl rfl rfl (hE.2.2 (RX8, 48, yX7_init, RX8) (by decide +kernel)) (hts _ (by decide +kernel)) (by decide +kernel) ⟨by decide, by decide⟩, rfl, hts _ (by decide +kernel)⟩) (Nat.le_of_ble_eq_true rfl) dX8_init_67 ⟨Nat.le_of_ble_eq_true rfl, Nat.le_of_ble_eq_true rfl⟩ (fun h24 ad24 hp24 hag24 => ?_)
  obtain ⟨-, rfl, hw24, ho24⟩ := hp24
  refine tt_putfF X (fs := [.ref 1, .ref 2, .ref 3, .ref 4, .ref 6, .ref 10, .null, .null, .null, .null, .int 0, .int 0, .int 0]) (by first | rfl | exact hb) rfl in_X8_init_X8 tyX8 tyX8_ok nmX8 6 (by decide) (by decide +kernel) rfl rfl hini rfl (fun _ => rfl) (fun _ => rfl) (Nat.le_of_ble_eq_true rfl) dX8_init_70 ?_
  have ho25 : tt_okh 18 _ := al_ok_up (e := .inr (8, [.ref 1, .ref 2, .ref 3, .ref 4, .ref 6, .ref 10, .ref 13, .null, .null, .null, .int 0, .int 0, .int 0])) ho24 (by exact (List.forall_mem_cons.mpr ⟨(show (1 : Nat) < 18 by omega), (List.forall_mem_cons.mpr ⟨(show (2 : Nat) < 18 by omega), (List.forall_mem_cons.mpr ⟨(show (3 : Nat) < 18 by omega), (List.forall_mem_cons.mpr ⟨(show (4 : Nat) < 18 by omega), (List.forall_mem_cons.mpr ⟨(show (6 : Nat) < 18 by omega), (List.forall_mem_cons.mpr ⟨(show (10 : Nat) < 18 by omega), (List.forall_mem_cons.mpr ⟨(show (13 : Nat) < 18 by omega), (List.forall_mem_cons.mpr ⟨trivial, (List.forall_mem_cons.mpr ⟨trivial, (List.forall_mem_cons.mpr ⟨trivial, (List.forall_mem_cons.mpr ⟨trivial, (List.forall_mem_cons.mpr ⟨trivial, (List.forall_mem_cons.mpr ⟨trivial, (fun _ hz => absurd hz List.not_mem_nil)⟩)⟩)⟩)⟩)⟩)⟩)⟩)⟩)⟩)⟩)⟩)⟩)⟩)) 0
  have hw25 : tt_wf 18 _ := al_wf_put hw24 (show (0 : Nat) < 18 by omega) (.inr (8, [.ref 1, .ref 2, .ref 3, .ref 4, .ref 6, .ref 10, .ref 13, .null, .null, .null, .int 0, .int 0, .int 0]))
  refine tt_aload_n X dX8_init_73 rfl ?_
  refine al_new (n := 18) X hw25 ho25 (by omega) (by exact (List.forall_mem_cons.mpr ⟨(Or.inl (show (0 : Nat) < 18 by omega)), (fun _ hz => absurd hz List.not_mem_nil)⟩)) (by exact (List.forall_mem_cons.mpr ⟨(Or.inl (show (0 : Nat) < 18 by omega)), (fun _ hz => absurd hz List.not_mem_nil)⟩)) (ci := 1) rfl in_X8_init_X1 tyX1 tyX1_ok (by decide +kernel) (by decide +kernel) (by decide +kernel) (fs := [.null, .null]) (fun j hj => by match j, hj with | 0, _ => rfl | 1, _ => rfl | j + 2, hj => omega) (fun _ => rfl) (by exact (List.forall_mem_cons.mpr ⟨trivial, (List.forall_mem_cons.mpr ⟨trivial, (fun _ hz => absurd hz List.not_mem_nil)⟩)⟩)) (Nat.le_of_ble_eq_true rfl) (Nat.le_of_ble_eq_true rfl) dX8_init_74 (fun q26 => ?_)
  have ho27 : tt_okh 19 _ := al_ok_new (e := .inr (1, [.null, .null])) ho25 (by exact (List.forall_mem_cons.mpr ⟨trivial, (List.forall_mem_cons.mpr ⟨trivial, (fun _ hz => absurd hz List.not_mem_nil)⟩)⟩))
  have hw27 : tt_wf 19 _ := tt_wf_new hw25 (.inr (1, [.null, .null]))
  refine tt_dup X dX8_init_77 rfl ?_
  refine al_callN X hE hw27 (n2 := 23) (by omega) (by exact (List.forall_mem_cons.mpr ⟨(Or.inl (show (0 : Nat) < 19 by omega)), (fun _ hz => absurd hz List.not_mem_nil)⟩)) (by exact (List.forall_mem_cons.mpr ⟨(Or.inl (show (18 : Nat) < 19 by omega)), (List.forall_mem_cons.mpr ⟨(Or.inl (show (0 : Nat) < 19 by omega)), (fun _ hz => absurd hz List.not_mem_nil)⟩)⟩)) (c_X1_init l (b := 18) hw27 ho27 (by omega) (by first | rfl | exact hb)) (fun v h hp => ⟨hp.1, hp.2.2.1⟩) (fun hts => ⟨va_cnB 0 hts gX8_init_X1_init_n55 rfl rfl rfl (hE.2.2 (RX8, 55, yX1_init, RX8) (by decide +kernel)) (hts _ (by decide +kernel)) (by decide +kernel) ⟨by decide, by decide⟩, rfl, hts _ (by decide +kernel)⟩) (Nat.le_of_ble_eq_true rfl) dX8_init_78 ⟨Nat.le_of_ble_eq_true rfl, Nat.le_of_ble_eq_true rfl⟩ (fun h28 ad28 hp28 hag28 => ?_)
  obtain ⟨-, rfl, hw28, ho28⟩ := hp28
  refine tt_putfF X (fs := [.ref 1, .ref 2, .ref 3, .ref 4, .ref 6, .ref 10, .ref 13, .null, .null, .null, .int 0, .int 0, .int 0]) (by first | rfl | exact hb) rfl in_X8_init_X8 tyX8 tyX8_ok nmX8 7 (by decide) (by decide +kernel) rfl rfl hini rfl (fun _ => rfl) (fun _ => rfl) (Nat.le_of_ble_eq_true rfl) dX8_init_81 ?_
  have ho29 : tt_okh 23 _ := al_ok_up (e := .inr (8, [.ref 1, .ref 2, .ref 3, .ref 4, .ref 6, .ref 10, .ref 13, .ref 18, .null, .null, .int 0, .int 0, .int 0])) ho28 (by exact (List.forall_mem_cons.mpr ⟨(show (1 : Nat) < 23 by omega), (List.forall_mem_cons.mpr ⟨(show (2 : Nat) < 23 by omega), (List.forall_mem_cons.mpr ⟨(show (3 : Nat) < 23 by omega), (List.forall_mem_cons.mpr ⟨(show (4 : Nat) < 23 by omega), (List.forall_mem_cons.mpr ⟨(show (6 : Nat) < 23 by omega), (List.forall_mem_cons.mpr ⟨(show (10 : Nat) < 23 by omega), (List.forall_mem_cons.mpr ⟨(show (13 : Nat) < 23 by omega), (List.forall_mem_cons.mpr ⟨(show (18 : Nat) < 23 by omega), (List.forall_mem_cons.mpr ⟨trivial, (List.forall_mem_cons.mpr ⟨trivial, (List.forall_mem_cons.mpr ⟨trivial, (List.forall_mem_cons.mpr ⟨trivial, (List.forall_mem_cons.mpr ⟨trivial, (fun _ hz => absurd hz List.not_mem_nil)⟩)⟩)⟩)⟩)⟩)⟩)⟩)⟩)⟩)⟩)⟩)⟩)⟩)) 0
  have hw29 : tt_wf 23 _ := al_wf_put hw28 (show (0 : Nat) < 23 by omega) (.inr (8, [.ref 1, .ref 2, .ref 3, .ref 4, .ref 6, .ref 10, .ref 13, .ref 18, .null, .null, .int 0, .int 0, .int 0]))
  refine tt_aload_n X dX8_init_84 rfl ?_
  refine al_new (n := 23) X hw29 ho29 (by omega) (by exact (List.forall_mem_cons.mpr ⟨(Or.inl (show (0 : Nat) < 23 by omega)), (fun _ hz => absurd hz List.not_mem_nil)⟩)) (by exact (List.forall_mem_cons.mpr ⟨(Or.inl (show (0 : Nat) < 23 by omega)), (fun _ hz => absurd hz List.not_mem_nil)⟩)) (ci := 0) rfl in_X8_init_X0 tyX0 tyX0_ok (by decide +kernel) (by decide +kernel) (by decide +kernel) (fs := [.null, .null]) (fun j hj => by match j, hj with | 0, _ => rfl | 1, _ => rfl | j + 2, hj => omega) (fun _ => rfl) (by exact (List.forall_mem_cons.mpr ⟨trivial, (List.forall_mem_cons.mpr ⟨trivial, (fun _ hz => absurd hz List.not_mem_nil)⟩)⟩)) (Nat.le_of_ble_eq_true rfl) (Nat.le_of_ble_eq_true rfl) dX8_init_85 (fun q30 => ?_)
  have ho31 : tt_okh 24 _ := al_ok_new (e := .inr (0, [.null, .null])) ho29 (by exact (List.forall_mem_cons.mpr ⟨trivial, (List.forall_mem_cons.mpr ⟨trivial, (fun _ hz => absurd hz List.not_mem_nil)⟩)⟩))
  have hw31 : tt_wf 24 _ := tt_wf_new hw29 (.inr (0, [.null, .null]))
  refine tt_dup X dX8_init_88 rfl ?_
  refine al_callN X hE hw31 (n2 := 28) (by omega) (by exact (List.forall_mem_cons.mpr ⟨(Or.inl (show (0 : Nat) < 24 by omega)), (fun _ hz => absurd hz List.not_mem_nil)⟩)) (by exact (List.forall_mem_cons.mpr ⟨(Or.inl (show (23 : Nat) < 24 by omega)), (List.forall_mem_cons.mpr ⟨(Or.inl (show (0 : Nat) < 24 by omega)), (fun _ hz => absurd hz List.not_mem_nil)⟩)⟩)) (c_X0_init l (b := 23) hw31 ho31 (by omega) (by first | rfl | exact hb)) (fun v h hp => ⟨hp.1, hp.2.2.1⟩) (fun hts => ⟨va_cnB 0 hts gX8_init_X0_init_n62 rfl rfl rfl (hE.2.2 (RX8, 62, yX0_init, RX8) (by decide +kernel)) (hts _ (by decide +kernel)) (by decide +kernel) ⟨by decide, by decide⟩, rfl, hts _ (by decide +kernel)⟩) (Nat.le_of_ble_eq_true rfl) dX8_init_89 ⟨Nat.le_of_ble_eq_true rfl, Nat.le_of_ble_eq_true rfl⟩ (fun h32 ad32 hp32 hag32 => ?_)
  obtain ⟨-, rfl, hw32, ho32⟩ := hp32
  refine tt_putfF X (fs := [.ref 1, .ref 2, .ref 3, .ref 4, .ref 6, .ref 10, .ref 13, .ref 18, .null, .null, .int 0, .int 0, .int 0]) (by first | rfl | exact hb) rfl in_X8_init_X8 tyX8 tyX8_ok nmX8 8 (by decide) (by decide +kernel) rfl rfl hini rfl (fun _ => rfl) (fun _ => rfl) (Nat.le_of_ble_eq_true rfl) dX8_init_92 ?_
  have ho33 : tt_okh 28 _ := al_ok_up (e := .inr (8, [.ref 1, .ref 2, .ref 3, .ref 4, .ref 6, .ref 10, .ref 13, .ref 18, .ref 23, .null, .int 0, .int 0, .int 0])) ho32 (by exact (List.forall_mem_cons.mpr ⟨(show (1 : Nat) < 28 by omega), (List.forall_mem_cons.mpr ⟨(show (2 : Nat) < 28 by omega), (List.forall_mem_cons.mpr ⟨(show (3 : Nat) < 28 by omega), (List.forall_mem_cons.mpr ⟨(show (4 : Nat) < 28 by omega), (List.forall_mem_cons.mpr ⟨(show (6 : Nat) < 28 by omega), (List.forall_mem_cons.mpr ⟨(show (10 : Nat) < 28 by omega), (List.forall_mem_cons.mpr ⟨(show (13 : Nat) < 28 by omega), (List.forall_mem_cons.mpr ⟨(show (18 : Nat) < 28 by omega), (List.forall_mem_cons.mpr ⟨(show (23 : Nat) < 28 by omega), (List.forall_mem_cons.mpr ⟨trivial, (List.forall_mem_cons.mpr ⟨trivial, (List.forall_mem_cons.mpr ⟨trivial, (List.forall_mem_cons.mpr ⟨trivial, (fun _ hz => absurd hz List.not_mem_nil)⟩)⟩)⟩)⟩)⟩)⟩)⟩)⟩)⟩)⟩)⟩)⟩)⟩)) 0
  have hw33 : tt_wf 28 _ := al_wf_put hw32 (show (0 : Nat) < 28 by omega) (.inr (8, [.ref 1, .ref 2, .ref 3, .ref 4, .ref 6, .ref 10, .ref 13, .ref 18, .ref 23, .null, .int 0, .int 0, .int 0]))
  refine tt_aload_n X dX8_init_95 rfl ?_
  refine tt_bipush (v := 13) X dX8_init_96 (by decide) ?_
  refine al_newa (n := 28) (ty := .int) X hw33 ho33 (by omega) (by exact (List.forall_mem_cons.mpr ⟨(Or.inl (show (0 : Nat) < 28 by omega)), (fun _ hz => absurd hz List.not_mem_nil)⟩)) (by exact (List.forall_mem_cons.mpr ⟨(Or.inl (show (0 : Nat) < 28 by omega)), (fun _ hz => absurd hz List.not_mem_nil)⟩)) 0 rfl (fun _ _ z => z) (by decide +kernel) rfl (N := 13) (a0 := (13, .inl (fun _ => 0))) (fun _ => rfl) trivial (fun _ => rfl) (by decide) (by decide) (Nat.le_of_ble_eq_true rfl) (Nat.le_of_ble_eq_true rfl) (Nat.le_of_ble_eq_true rfl) dX8_init_98 (fun q34 => ?_)
  have ho35 : tt_okh 29 _ := al_ok_new (e := tt_ia 13 (fun _ => 0)) ho33 trivial
  have hw35 : tt_wf 29 _ := tt_wf_new hw33 (tt_ia 13 (fun _ => 0))
  refine tt_putfF X (fs := [.ref 1, .ref 2, .ref 3, .ref 4, .ref 6, .ref 10, .ref 13, .ref 18, .ref 23, .null, .int 0, .int 0, .int 0]) (by first | rfl | exact hb) rfl in_X8_init_X8 tyX8 tyX8_ok nmX8 9 (by decide) (by decide +kernel) rfl rfl hini rfl (fun _ => rfl) (fun _ => rfl) (Nat.le_of_ble_eq_true rfl) dX8_init_100 ?_
  have ho36 : tt_okh 29 _ := al_ok_up (e := .inr (8, [.ref 1, .ref 2, .ref 3, .ref 4, .ref 6, .ref 10, .ref 13, .ref 18, .ref 23, .ref 28, .int 0, .int 0, .int 0])) ho35 (by exact (List.forall_mem_cons.mpr ⟨(show (1 : Nat) < 29 by omega), (List.forall_mem_cons.mpr ⟨(show (2 : Nat) < 29 by omega), (List.forall_mem_cons.mpr ⟨(show (3 : Nat) < 29 by omega), (List.forall_mem_cons.mpr ⟨(show (4 : Nat) < 29 by omega), (List.forall_mem_cons.mpr ⟨(show (6 : Nat) < 29 by omega), (List.forall_mem_cons.mpr ⟨(show (10 : Nat) < 29 by omega), (List.forall_mem_cons.mpr ⟨(show (13 : Nat) < 29 by omega), (List.forall_mem_cons.mpr ⟨(show (18 : Nat) < 29 by omega), (List.forall_mem_cons.mpr ⟨(show (23 : Nat) < 29 by omega), (List.forall_mem_cons.mpr ⟨(show (28 : Nat) < 29 by omega), (List.forall_mem_cons.mpr ⟨trivial, (List.forall_mem_cons.mpr ⟨trivial, (List.forall_mem_cons.mpr ⟨trivial, (fun _ hz => absurd hz List.not_mem_nil)⟩)⟩)⟩)⟩)⟩)⟩)⟩)⟩)⟩)⟩)⟩)⟩)⟩)) 0
  have hw36 : tt_wf 29 _ := al_wf_put hw35 (show (0 : Nat) < 29 by omega) (.inr (8, [.ref 1, .ref 2, .ref 3, .ref 4, .ref 6, .ref 10, .ref 13, .ref 18, .ref 23, .ref 28, .int 0, .int 0, .int 0]))
  refine tt_aload_n X dX8_init_103 rfl ?_
  refine tt_iconst (v := 0) X dX8_init_104 (by decide) ?_
  refine tt_putf X (fs := [.ref 1, .ref 2, .ref 3, .ref 4, .ref 6, .ref 10, .ref 13, .ref 18, .ref 23, .ref 28, .int 0, .int 0, .int 0]) (by first | rfl | exact hb) rfl in_X8_init_X8 tyX8 tyX8_ok nmX8 10 (by decide) (by decide +kernel) rfl rfl (fun _ => rfl) (fun _ => rfl) (Nat.le_of_ble_eq_true rfl) dX8_init_105 ?_
  have ho37 : tt_okh 29 _ := al_ok_up (e := .inr (8, [.ref 1, .ref 2, .ref 3, .ref 4, .ref 6, .ref 10, .ref 13, .ref 18, .ref 23, .ref 28, .int 0, .int 0, .int 0])) ho36 (by exact (List.forall_mem_cons.mpr ⟨(show (1 : Nat) < 29 by omega), (List.forall_mem_cons.mpr ⟨(show (2 : Nat) < 29 by omega), (List.forall_mem_cons.mpr ⟨(show (3 : Nat) < 29 by omega), (List.forall_mem_cons.mpr ⟨(show (4 : Nat) < 29 by omega), (List.forall_mem_cons.mpr ⟨(show (6 : Nat) < 29 by omega), (List.forall_mem_cons.mpr ⟨(show (10 : Nat) < 29 by omega), (List.forall_mem_cons.mpr ⟨(show (13 : Nat) < 29 by omega), (List.forall_mem_cons.mpr ⟨(show (18 : Nat) < 29 by omega), (List.forall_mem_cons.mpr ⟨(show (23 : Nat) < 29 by omega), (List.forall_mem_cons.mpr ⟨(show (28 : Nat) < 29 by omega), (List.forall_mem_cons.mpr ⟨trivial, (List.forall_mem_cons.mpr ⟨trivial, (List.forall_mem_cons.mpr ⟨trivial, (fun _ hz => absurd hz List.not_mem_nil)⟩)⟩)⟩)⟩)⟩)⟩)⟩)⟩)⟩)⟩)⟩)⟩)⟩)) 0
  have hw37 : tt_wf 29 _ := al_wf_put hw36 (show (0 : Nat) < 29 by omega) (.inr (8, [.ref 1, .ref 2, .ref 3, .ref 4, .ref 6, .ref 10, .ref 13, .ref 18, .ref 23, .ref 28, .int 0, .int 0, .int 0]))
  refine tt_aload_n X dX8_init_108 rfl ?_
  refine tt_iconst (v := 0) X dX8_init_109 (by decide) ?_
  refine tt_putf X (fs := [.ref 1, .ref 2, .ref 3, .ref 4, .ref 6, .ref 10, .ref 13, .ref 18, .ref 23, .ref 28, .int 0, .int 0, .int 0]) (by first | rfl | exact hb) rfl in_X8_init_X8 tyX8 tyX8_ok nmX8 11 (by decide) (by decide +kernel) rfl rfl (fun _ => rfl) (fun _ => rfl) (Nat.le_of_ble_eq_true rfl) dX8_init_110 ?_
  have ho38 : tt_okh 29 _ := al_ok_up (e := .inr (8, [.ref 1, .ref 2, .ref 3, .ref 4, .ref 6, .ref 10, .ref 13, .ref 18, .ref 23, .ref 28, .int 0, .int 0, .int 0])) ho37 (by exact (List.forall_mem_cons.mpr ⟨(show (1 : Nat) < 29 by omega), (List.forall_mem_cons.mpr ⟨(show (2 : Nat) < 29 by omega), (List.forall_mem_cons.mpr ⟨(show (3 : Nat) < 29 by omega), (List.forall_mem_cons.mpr ⟨(show (4 : Nat) < 29 by omega), (List.forall_mem_cons.mpr ⟨(show (6 : Nat) < 29 by omega), (List.forall_mem_cons.mpr ⟨(show (10 : Nat) < 29 by omega), (List.forall_mem_cons.mpr ⟨(show (13 : Nat) < 29 by omega), (List.forall_mem_cons.mpr ⟨(show (18 : Nat) < 29 by omega), (List.forall_mem_cons.mpr ⟨(show (23 : Nat) < 29 by omega), (List.forall_mem_cons.mpr ⟨(show (28 : Nat) < 29 by omega), (List.forall_mem_cons.mpr ⟨trivial, (List.forall_mem_cons.mpr ⟨trivial, (List.forall_mem_cons.mpr ⟨trivial, (fun _ hz => absurd hz List.not_mem_nil)⟩)⟩)⟩)⟩)⟩)⟩)⟩)⟩)⟩)⟩)⟩)⟩)⟩)) 0
  have hw38 : tt_wf 29 _ := al_wf_put hw37 (show (0 : Nat) < 29 by omega) (.inr (8, [.ref 1, .ref 2, .ref 3, .ref 4, .ref 6, .ref 10, .ref 13, .ref 18, .ref 23, .ref 28, .int 0, .int 0, .int 0]))
  refine tt_aload_n X dX8_init_113 rfl ?_
  refine tt_iconst (v := 0) X dX8_init_114 (by decide) ?_
  refine tt_putf X (fs := [.ref 1, .ref 2, .ref 3, .ref 4, .ref 6, .ref 10, .ref 13, .ref 18, .ref 23, .ref 28, .int 0, .int 0, .int 0]) (by first | rfl | exact hb) rfl in_X8_init_X8 tyX8 tyX8_ok nmX8 12 (by decide) (by decide +kernel) rfl rfl (fun _ => rfl) (fun _ => rfl) (Nat.le_of_ble_eq_true rfl) dX8_init_115 ?_
  have ho39 : tt_okh 29 _ := al_ok_up (e := .inr (8, [.ref 1, .ref 2, .ref 3, .ref 4, .ref 6, .ref 10, .ref 13, .ref 18, .ref 23, .ref 28, .int 0, .int 0, .int 0])) ho38 (by exact (List.forall_mem_cons.mpr ⟨(show (1 : Nat) < 29 by omega), (List.forall_mem_cons.mpr ⟨(show (2 : Nat) < 29 by omega), (List.forall_mem_cons.mpr ⟨(show (3 : Nat) < 29 by omega), (List.forall_mem_cons.mpr ⟨(show (4 : Nat) < 29 by omega), (List.forall_mem_cons.mpr ⟨(show (6 : Nat) < 29 by omega), (List.forall_mem_cons.mpr ⟨(show (10 : Nat) < 29 by omega), (List.forall_mem_cons.mpr ⟨(show (13 : Nat) < 29 by omega), (List.forall_mem_cons.mpr ⟨(show (18 : Nat) < 29 by omega), (List.forall_mem_cons.mpr ⟨(show (23 : Nat) < 29 by omega), (List.forall_mem_cons.mpr ⟨(show (28 : Nat) < 29 by omega), (List.forall_mem_cons.mpr ⟨trivial, (List.forall_mem_cons.mpr ⟨trivial, (List.forall_mem_cons.mpr ⟨trivial, (fun _ hz => absurd hz List.not_mem_nil)⟩)⟩)⟩)⟩)⟩)⟩)⟩)⟩)⟩)⟩)⟩)⟩)⟩)) 0
  have hw39 : tt_wf 29 _ := al_wf_put hw38 (show (0 : Nat) < 29 by omega) (.inr (8, [.ref 1, .ref 2, .ref 3, .ref 4, .ref 6, .ref 10, .ref 13, .ref 18, .ref 23, .ref 28, .int 0, .int 0, .int 0]))
  refine tt_iconst (v := 0) X dX8_init_118 (by decide) ?_
  refine tt_istore_n X dX8_init_119 (Nat.le_of_ble_eq_true rfl) ?_
  refine tt_iload_n X dX8_init_120 rfl ?_
  refine tt_bipush (v := 6) X dX8_init_121 (by decide) ?_
  refine tt_icmp_ge (tgt := 145) X dX8_init_123 (by decide) (fun c => absurd c (by decide)) (fun _ => ?_)
  refine tt_aload_n X dX8_init_126 rfl ?_
  refine tt_getf X (fs := [.ref 1, .ref 2, .ref 3, .ref 4, .ref 6, .ref 10, .ref 13, .ref 18, .ref 23, .ref 28, .int 0, .int 0, .int 0]) (by first | rfl | exact hb) rfl in_X8_init_X8 1 (by decide) (by decide +kernel) rfl (v := .ref 2) rfl dX8_init_127 ?_
  refine tt_iload_n X dX8_init_130 rfl ?_
  refine al_new (n := 29) X hw39 ho39 (by omega) (by exact (List.forall_mem_cons.mpr ⟨(Or.inl (show (0 : Nat) < 29 by omega)), (List.forall_mem_cons.mpr ⟨trivial, (fun _ hz => absurd hz List.not_mem_nil)⟩)⟩)) (by exact (List.forall_mem_cons.mpr ⟨trivial, (List.forall_mem_cons.mpr ⟨(Or.inl (show (2 : Nat) < 29 by omega)), (fun _ hz => absurd hz List.not_mem_nil)⟩)⟩)) (ci := 2) rfl in_X8_init_X2 tyX2 tyX2_ok (by decide +kernel) (by decide +kernel) (by decide +kernel) (fs := [.null, .int 0]) (fun j hj => by match j, hj with | 0, _ => rfl | 1, _ => rfl | j + 2, hj => omega) (fun _ => rfl) (by exact (List.forall_mem_cons.mpr ⟨trivial, (List.forall_mem_cons.mpr ⟨trivial, (fun _ hz => absurd hz List.not_mem_nil)⟩)⟩)) (Nat.le_of_ble_eq_true rfl) (Nat.le_of_ble_eq_true rfl) dX8_init_131 (fun q40 => ?_)
  have ho41 : tt_okh 30 _ := al_ok_new (e := .inr (2, [.null, .int 0])) ho39 (by exact (List.forall_mem_cons.mpr ⟨trivial, (List.forall_mem_cons.mpr ⟨trivial, (fun _ hz => absurd hz List.not_mem_nil)⟩)⟩))
  have hw41 : tt_wf 30 _ := tt_wf_new hw39 (.inr (2, [.null, .int 0]))
  refine tt_dup X dX8_init_134 rfl ?_
  refine al_callN X hE hw41 (n2 := 31) (by omega) (by exact (List.forall_mem_cons.mpr ⟨(Or.inl (show (0 : Nat) < 30 by omega)), (List.forall_mem_cons.mpr ⟨trivial, (fun _ hz => absurd hz List.not_mem_nil)⟩)⟩)) (by exact (List.forall_mem_cons.mpr ⟨(Or.inl (show (29 : Nat) < 30 by omega)), (List.forall_mem_cons.mpr ⟨trivial, (List.forall_mem_cons.mpr ⟨(Or.inl (show (2 : Nat) < 30 by omega)), (fun _ hz => absurd hz List.not_mem_nil)⟩)⟩)⟩)) (c_X2_init l (b := 29) hw41 ho41 (by omega) (by first | rfl | exact hb)) (fun v h hp => ⟨hp.1, hp.2.2.1⟩) (fun hts => ⟨va_cnB 0 hts gX8_init_X2_init_n27 rfl rfl rfl (hE.2.2 (RX8, 27, yX2_init, RX8) (by decide +kernel)) (hts _ (by decide +kernel)) (by decide +kernel) ⟨by decide, by decide⟩, rfl, hts _ (by decide +kernel)⟩) (Nat.le_of_ble_eq_true rfl) dX8_init_135 ⟨Nat.le_of_ble_eq_true rfl, Nat.le_of_ble_eq_true rfl⟩ (fun h42 ad42 hp42 hag42 => ?_)
  obtain ⟨-, rfl, hw42, ho42⟩ := hp42
  refine tt_astq X (t := 3) (N := 6) (by first | rfl | exact hb) rfl (by first | rfl | exact hb) (ci := 2) rfl (by unfold vp_in; decide) dX8_init_138 ?_
  have ho43 : tt_okh 31 _ := al_ok_up (e := tt_qa 3 6 (va_up (fun _ => none) 0 (some 29))) ho42 (al_okq_up (fun j i hf => by cases hf) (by omega)) 2
  have hw43 : tt_wf 31 _ := al_wf_put hw42 (show (2 : Nat) < 31 by omega) (tt_qa 3 6 (va_up (fun _ => none) 0 (some 29)))
  refine tt_iinc (v := 1) X dX8_init_139 rfl (by decide) (Nat.le_of_ble_eq_true rfl) ?_
  refine tt_goto (tgt := 120) X dX8_init_142 (by decide) ?_
  refine tt_iload_n X dX8_init_120 rfl ?_
  refine tt_bipush (v := 6) X dX8_init_121 (by decide) ?_
  refine tt_icmp_ge (tgt := 145) X dX8_init_123 (by decide) (fun c => absurd c (by decide)) (fun _ => ?_)
  refine tt_aload_n X dX8_init_126 rfl ?_
  refine tt_getf X (fs := [.ref 1, .ref 2, .ref 3, .ref 4, .ref 6, .ref 10, .ref 13, .ref 18, .ref 23, .ref 28, .int 0, .int 0, .int 0]) (by first | rfl | exact hb) rfl in_X8_init_X8 1 (by decide) (by decide +kernel) rfl (v := .ref 2) rfl dX8_init_127 ?_
  refine tt_iload_n X dX8_init_130 rfl ?_
  refine al_new (n := 31) X hw43 ho43 (by omega) (by exact (List.forall_mem_cons.mpr ⟨(Or.inl (show (0 : Nat) < 31 by omega)), (List.forall_mem_cons.mpr ⟨trivial, (fun _ hz => absurd hz List.not_mem_nil)⟩)⟩)) (by exact (List.forall_mem_cons.mpr ⟨trivial, (List.forall_mem_cons.mpr ⟨(Or.inl (show (2 : Nat) < 31 by omega)), (fun _ hz => absurd hz List.not_mem_nil)⟩)⟩)) (ci := 2) rfl in_X8_init_X2 tyX2 tyX2_ok (by decide +kernel) (by decide +kernel) (by decide +kernel) (fs := [.null, .int 0]) (fun j hj => by match j, hj with | 0, _ => rfl | 1, _ => rfl | j + 2, hj => omega) (fun _ => rfl) (by exact (List.forall_mem_cons.mpr ⟨trivial, (List.forall_mem_cons.mpr ⟨trivial, (fun _ hz => absurd hz List.not_mem_nil)⟩)⟩)) (Nat.le_of_ble_eq_true rfl) (Nat.le_of_ble_eq_true rfl) dX8_init_131 (fun q44 => ?_)
  have ho45 : tt_okh 32 _ := al_ok_new (e := .inr (2, [.null, .int 0])) ho43 (by exact (List.forall_mem_cons.mpr ⟨trivial, (List.forall_mem_cons.mpr ⟨trivial, (fun _ hz => absurd hz List.not_mem_nil)⟩)⟩))
  have hw45 : tt_wf 32 _ := tt_wf_new hw43 (.inr (2, [.null, .int 0]))
  refine tt_dup X dX8_init_134 rfl ?_
  refine al_callN X hE hw45 (n2 := 33) (by omega) (by exact (List.forall_mem_cons.mpr ⟨(Or.inl (show (0 : Nat) < 32 by omega)), (List.forall_mem_cons.mpr ⟨trivial, (fun _ hz => absurd hz List.not_mem_nil)⟩)⟩)) (by exact (List.forall_mem_cons.mpr ⟨(Or.inl (show (31 : Nat) < 32 by omega)), (List.forall_mem_cons.mpr ⟨trivial, (List.forall_mem_cons.mpr ⟨(Or.inl (show (2 : Nat) < 32 by omega)), (fun _ hz => absurd hz List.not_mem_nil)⟩)⟩)⟩)) (c_X2_init l (b := 31) hw45 ho45 (by omega) (by first | rfl | exact hb)) (fun v h hp => ⟨hp.1, hp.2.2.1⟩) (fun hts => ⟨va_cnB 0 hts gX8_init_X2_init_n27 rfl rfl rfl (hE.2.2 (RX8, 27, yX2_init, RX8) (by decide +kernel)) (hts _ (by decide +kernel)) (by decide +kernel) ⟨by decide, by decide⟩, rfl, hts _ (by decide +kernel)⟩) (Nat.le_of_ble_eq_true rfl) dX8_init_135 ⟨Nat.le_of_ble_eq_true rfl, Nat.le_of_ble_eq_true rfl⟩ (fun h46 ad46 hp46 hag46 => ?_)
  obtain ⟨-, rfl, hw46, ho46⟩ := hp46
  refine tt_astq X (t := 3) (N := 6) (by first | rfl | exact hb) rfl (by first | rfl | exact hb) (ci := 2) rfl (by unfold vp_in; decide) dX8_init_138 ?_
  have ho47 : tt_okh 33 _ := al_ok_up (e := tt_qa 3 6 (va_up (va_up (fun _ => none) 0 (some 29)) 1 (some 31))) ho46 (al_okq_up (al_okq_up (fun j i hf => by cases hf) (by omega)) (by omega)) 2
  have hw47 : tt_wf 33 _ := al_wf_put hw46 (show (2 : Nat) < 33 by omega) (tt_qa 3 6 (va_up (va_up (fun _ => none) 0 (some 29)) 1 (some 31)))
  refine tt_iinc (v := 2) X dX8_init_139 rfl (by decide) (Nat.le_of_ble_eq_true rfl) ?_
  refine tt_goto (tgt := 120) X dX8_init_142 (by decide) ?_
  refine tt_iload_n X dX8_init_120 rfl ?_
  refine tt_bipush (v := 6) X dX8_init_121 (by decide) ?_
  refine tt_icmp_ge (tgt := 145) X dX8_init_123 (by decide) (fun c => absurd c (by decide)) (fun _ => ?_)
  refine tt_aload_n X dX8_init_126 rfl ?_
  refine tt_getf X (fs := [.ref 1, .ref 2, .ref 3, .ref 4, .ref 6, .ref 10, .ref 13, .ref 18, .ref 23, .ref 28, .int 0, .int 0, .int 0]) (by first | rfl | exact hb) rfl in_X8_init_X8 1 (by decide) (by decide +kernel) rfl (v := .ref 2) rfl dX8_init_127 ?_
  refine tt_iload_n X dX8_init_130 rfl ?_
  refine al_new (n := 33) X hw47 ho47 (by omega) (by exact (List.forall_mem_cons.mpr ⟨(Or.inl (show (0 : Nat) < 33 by omega)), (List.forall_mem_cons.mpr ⟨trivial, (fun _ hz => absurd hz List.not_mem_nil)⟩)⟩)) (by exact (List.forall_mem_cons.mpr ⟨trivial, (List.forall_mem_cons.mpr ⟨(Or.inl (show (2 : Nat) < 33 by omega)), (fun _ hz => absurd hz List.not_mem_nil)⟩)⟩)) (ci := 2) rfl in_X8_init_X2 tyX2 tyX2_ok (by decide +kernel) (by decide +kernel) (by decide +kernel) (fs := [.null, .int 0]) (fun j hj => by match j, hj with | 0, _ => rfl | 1, _ => rfl | j + 2, hj => omega) (fun _ => rfl) (by exact (List.forall_mem_cons.mpr ⟨trivial, (List.forall_mem_cons.mpr ⟨trivial, (fun _ hz => absurd hz List.not_mem_nil)⟩)⟩)) (Nat.le_of_ble_eq_true rfl) (Nat.le_of_ble_eq_true rfl) dX8_init_131 (fun q48 => ?_)
  have ho49 : tt_okh 34 _ := al_ok_new (e := .inr (2, [.null, .int 0])) ho47 (by exact (List.forall_mem_cons.mpr ⟨trivial, (List.forall_mem_cons.mpr ⟨trivial, (fun _ hz => absurd hz List.not_mem_nil)⟩)⟩))
  have hw49 : tt_wf 34 _ := tt_wf_new hw47 (.inr (2, [.null, .int 0]))
  refine tt_dup X dX8_init_134 rfl ?_
  refine al_callN X hE hw49 (n2 := 35) (by omega) (by exact (List.forall_mem_cons.mpr ⟨(Or.inl (show (0 : Nat) < 34 by omega)), (List.forall_mem_cons.mpr ⟨trivial, (fun _ hz => absurd hz List.not_mem_nil)⟩)⟩)) (by exact (List.forall_mem_cons.mpr ⟨(Or.inl (show (33 : Nat) < 34 by omega)), (List.forall_mem_cons.mpr ⟨trivial, (List.forall_mem_cons.mpr ⟨(Or.inl (show (2 : Nat) < 34 by omega)), (fun _ hz => absurd hz List.not_mem_nil)⟩)⟩)⟩)) (c_X2_init l (b := 33) hw49 ho49 (by omega) (by first | rfl | exact hb)) (fun v h hp => ⟨hp.1, hp.2.2.1⟩) (fun hts => ⟨va_cnB 0 hts gX8_init_X2_init_n27 rfl rfl rfl (hE.2.2 (RX8, 27, yX2_init, RX8) (by decide +kernel)) (hts _ (by decide +kernel)) (by decide +kernel) ⟨by decide, by decide⟩, rfl, hts _ (by decide +kernel)⟩) (Nat.le_of_ble_eq_true rfl) dX8_init_135 ⟨Nat.le_of_ble_eq_true rfl, Nat.le_of_ble_eq_true rfl⟩ (fun h50 ad50 hp50 hag50 => ?_)
  obtain ⟨-, rfl, hw50, ho50⟩ := hp50
  refine tt_astq X (t := 3) (N := 6) (by first | rfl | exact hb) rfl (by first | rfl | exact hb) (ci := 2) rfl (by unfold vp_in; decide) dX8_init_138 ?_
  have ho51 : tt_okh 35 _ := al_ok_up (e := tt_qa 3 6 (va_up (va_up (va_up (fun _ => none) 0 (some 29)) 1 (some 31)) 2 (some 33))) ho50 (al_okq_up (al_okq_up (al_okq_up (fun j i hf => by cases hf) (by omega)) (by omega)) (by omega)) 2
  have hw51 : tt_wf 35 _ := al_wf_put hw50 (show (2 : Nat) < 35 by omega) (tt_qa 3 6 (va_up (va_up (va_up (fun _ => none) 0 (some 29)) 1 (some 31)) 2 (some 33)))
  refine tt_iinc (v := 3) X dX8_init_139 rfl (by decide) (Nat.le_of_ble_eq_true rfl) ?_
  refine tt_goto (tgt := 120) X dX8_init_142 (by decide) ?_
  refine tt_iload_n X dX8_init_120 rfl ?_
  refine tt_bipush (v := 6) X dX8_init_121 (by decide) ?_
  refine tt_icmp_ge (tgt := 145) X dX8_init_123 (by decide) (fun c => absurd c (by decide)) (fun _ => ?_)
  refine tt_aload_n X dX8_init_126 rfl ?_
  refine tt_getf X (fs := [.ref 1, .ref 2, .ref 3, .ref 4, .ref 6, .ref 10, .ref 13, .ref 18, .ref 23, .ref 28, .int 0, .int 0, .int 0]) (by first | rfl | exact hb) rfl in_X8_init_X8 1 (by decide) (by decide +kernel) rfl (v := .ref 2) rfl dX8_init_127 ?_
  refine tt_iload_n X dX8_init_130 rfl ?_
  refine al_new (n := 35) X hw51 ho51 (by omega) (by exact (List.forall_mem_cons.mpr ⟨(Or.inl (show (0 : Nat) < 35 by omega)), (List.forall_mem_cons.mpr ⟨trivial, (fun _ hz => absurd hz List.not_mem_nil)⟩)⟩)) (by exact (List.forall_mem_cons.mpr ⟨trivial, (List.forall_mem_cons.mpr ⟨(Or.inl (show (2 : Nat) < 35 by omega)), (fun _ hz => absurd hz List.not_mem_nil)⟩)⟩)) (ci := 2) rfl in_X8_init_X2 tyX2 tyX2_ok (by decide +kernel) (by decide +kernel) (by decide +kernel) (fs := [.null, .int 0]) (fun j hj => by match j, hj with | 0, _ => rfl | 1, _ => rfl | j + 2, hj => omega) (fun _ => rfl) (by exact (List.forall_mem_cons.mpr ⟨trivial, (List.forall_mem_cons.mpr ⟨trivial, (fun _ hz => absurd hz List.not_mem_nil)⟩)⟩)) (Nat.le_of_ble_eq_true rfl) (Nat.le_of_ble_eq_true rfl) dX8_init_131 (fun q52 => ?_)
  have ho53 : tt_okh 36 _ := al_ok_new (e := .inr (2, [.null, .int 0])) ho51 (by exact (List.forall_mem_cons.mpr ⟨trivial, (List.forall_mem_cons.mpr ⟨trivial, (fun _ hz => absurd hz List.not_mem_nil)⟩)⟩))
  have hw53 : tt_wf 36 _ := tt_wf_new hw51 (.inr (2, [.null, .int 0]))
  refine tt_dup X dX8_init_134 rfl ?_
  refine al_callN X hE hw53 (n2 := 37) (by omega) (by exact (List.forall_mem_cons.mpr ⟨(Or.inl (show (0 : Nat) < 36 by omega)), (List.forall_mem_cons.mpr ⟨trivial, (fun _ hz => absurd hz List.not_mem_nil)⟩)⟩)) (by exact (List.forall_mem_cons.mpr ⟨(Or.inl (show (35 : Nat) < 36 by omega)), (List.forall_mem_cons.mpr ⟨trivial, (List.forall_mem_cons.mpr ⟨(Or.inl (show (2 : Nat) < 36 by omega)), (fun _ hz => absurd hz List.not_mem_nil)⟩)⟩)⟩)) (c_X2_init l (b := 35) hw53 ho53 (by omega) (by first | rfl | exact hb)) (fun v h hp => ⟨hp.1, hp.2.2.1⟩) (fun hts => ⟨va_cnB 0 hts gX8_init_X2_init_n27 rfl rfl rfl (hE.2.2 (RX8, 27, yX2_init, RX8) (by decide +kernel)) (hts _ (by decide +kernel)) (by decide +kernel) ⟨by decide, by decide⟩, rfl, hts _ (by decide +kernel)⟩) (Nat.le_of_ble_eq_true rfl) dX8_init_135 ⟨Nat.le_of_ble_eq_true rfl, Nat.le_of_ble_eq_true rfl⟩ (fun h54 ad54 hp54 hag54 => ?_)
  obtain ⟨-, rfl, hw54, ho54⟩ := hp54
  refine tt_astq X (t := 3) (N := 6) (by first | rfl | exact hb) rfl (by first | rfl | exact hb) (ci := 2) rfl (by unfold vp_in; decide) dX8_init_138 ?_
  have ho55 : tt_okh 37 _ := al_ok_up (e := tt_qa 3 6 (va_up (va_up (va_up (va_up (fun _ => none) 0 (some 29)) 1 (some 31)) 2 (some 33)) 3 (some 35))) ho54 (al_okq_up (al_okq_up (al_okq_up (al_okq_up (fun j i hf => by cases hf) (by omega)) (by omega)) (by omega)) (by omega)) 2
  have hw55 : tt_wf 37 _ := al_wf_put hw54 (show (2 : Nat) < 37 by omega) (tt_qa 3 6 (va_up (va_up (va_up (va_up (fun _ => none) 0 (some 29)) 1 (some 31)) 2 (some 33)) 3 (some 35)))
  refine tt_iinc (v := 4) X dX8_init_139 rfl (by decide) (Nat.le_of_ble_eq_true rfl) ?_
  refine tt_goto (tgt := 120) X dX8_init_142 (by decide) ?_
  refine tt_iload_n X dX8_init_120 rfl ?_
  refine tt_bipush (v := 6) X dX8_init_121 (by decide) ?_
  refine tt_icmp_ge (tgt := 145) X dX8_init_123 (by decide) (fun c => absurd c (by decide)) (fun _ => ?_)
  refine tt_aload_n X dX8_init_126 rfl ?_
  refine tt_getf X (fs := [.ref 1, .ref 2, .ref 3, .ref 4, .ref 6, .ref 10, .ref 13, .ref 18, .ref 23, .ref 28, .int 0, .int 0, .int 0]) (by first | rfl | exact hb) rfl in_X8_init_X8 1 (by decide) (by decide +kernel) rfl (v := .ref 2) rfl dX8_init_127 ?_
  refine tt_iload_n X dX8_init_130 rfl ?_
  refine al_new (n := 37) X hw55 ho55 (by omega) (by exact (List.forall_mem_cons.mpr ⟨(Or.inl (show (0 : Nat) < 37 by omega)), (List.forall_mem_cons.mpr ⟨trivial, (fun _ hz => absurd hz List.not_mem_nil)⟩)⟩)) (by exact (List.forall_mem_cons.mpr ⟨trivial, (List.forall_mem_cons.mpr ⟨(Or.inl (show (2 : Nat) < 37 by omega)), (fun _ hz => absurd hz List.not_mem_nil)⟩)⟩)) (ci := 2) rfl in_X8_init_X2 tyX2 tyX2_ok (by decide +kernel) (by decide +kernel) (by decide +kernel) (fs := [.null, .int 0]) (fun j hj => by match j, hj with | 0, _ => rfl | 1, _ => rfl | j + 2, hj => omega) (fun _ => rfl) (by exact (List.forall_mem_cons.mpr ⟨trivial, (List.forall_mem_cons.mpr ⟨trivial, (fun _ hz => absurd hz List.not_mem_nil)⟩)⟩)) (Nat.le_of_ble_eq_true rfl) (Nat.le_of_ble_eq_true rfl) dX8_init_131 (fun q56 => ?_)
  have ho57 : tt_okh 38 _ := al_ok_new (e := .inr (2, [.null, .int 0])) ho55 (by exact (List.forall_mem_cons.mpr ⟨trivial, (List.forall_mem_cons.mpr ⟨trivial, (fun _ hz => absurd hz List.not_mem_nil)⟩)⟩))
  have hw57 : tt_wf 38 _ := tt_wf_new hw55 (.inr (2, [.null, .int 0]))
  refine tt_dup X dX8_init_134 rfl ?_
  refine al_callN X hE hw57 (n2 := 39) (by omega) (by exact (List.forall_mem_cons.mpr ⟨(Or.inl (show (0 : Nat) < 38 by omega)), (List.forall_mem_cons.mpr ⟨trivial, (fun _ hz => absurd hz List.not_mem_nil)⟩)⟩)) (by exact (List.forall_mem_cons.mpr ⟨(Or.inl (show (37 : Nat) < 38 by omega)), (List.forall_mem_cons.mpr ⟨trivial, (List.forall_mem_cons.mpr ⟨(Or.inl (show (2 : Nat) < 38 by omega)), (fun _ hz => absurd hz List.not_mem_nil)⟩)⟩)⟩)) (c_X2_init l (b := 37) hw57 ho57 (by omega) (by first | rfl | exact hb)) (fun v h hp => ⟨hp.1, hp.2.2.1⟩) (fun hts => ⟨va_cnB 0 hts gX8_init_X2_init_n27 rfl rfl rfl (hE.2.2 (RX8, 27, yX2_init, RX8) (by decide +kernel)) (hts _ (by decide +kernel)) (by decide +kernel) ⟨by decide, by decide⟩, rfl, hts _ (by decide +kernel)⟩) (Nat.le_of_ble_eq_true rfl) dX8_init_135 ⟨Nat.le_of_ble_eq_true rfl, Nat.le_of_ble_eq_true rfl⟩ (fun h58 ad58 hp58 hag58 => ?_)
  obtain ⟨-, rfl, hw58, ho58⟩ := hp58
  refine tt_astq X (t := 3) (N := 6) (by first | rfl | exact hb) rfl (by first | rfl | exact hb) (ci := 2) rfl (by unfold vp_in; decide) dX8_init_138 ?_
  have ho59 : tt_okh 39 _ := al_ok_up (e := tt_qa 3 6 (va_up (va_up (va_up (va_up (va_up (fun _ => none) 0 (some 29)) 1 (some 31)) 2 (some 33)) 3 (some 35)) 4 (some 37))) ho58 (al_okq_up (al_okq_up (al_okq_up (al_okq_up (al_okq_up (fun j i hf => by cases hf) (by omega)) (by omega)) (by omega)) (by omega)) (by omega)) 2
  have hw59 : tt_wf 39 _ := al_wf_put hw58 (show (2 : Nat) < 39 by omega) (tt_qa 3 6 (va_up (va_up (va_up (va_up (va_up (fun _ => none) 0 (some 29)) 1 (some 31)) 2 (some 33)) 3 (some 35)) 4 (some 37)))
  refine tt_iinc (v := 5) X dX8_init_139 rfl (by decide) (Nat.le_of_ble_eq_true rfl) ?_
  refine tt_goto (tgt := 120) X dX8_init_142 (by decide) ?_
  refine tt_iload_n X dX8_init_120 rfl ?_
  refine tt_bipush (v := 6) X dX8_init_121 (by decide) ?_
  refine tt_icmp_ge (tgt := 145) X dX8_init_123 (by decide) (fun c => absurd c (by decide)) (fun _ => ?_)
  refine tt_aload_n X dX8_init_126 rfl ?_
  refine tt_getf X (fs := [.ref 1, .ref 2, .ref 3, .ref 4, .ref 6, .ref 10, .ref 13, .ref 18, .ref 23, .ref 28, .int 0, .int 0, .int 0]) (by first | rfl | exact hb) rfl in_X8_init_X8 1 (by decide) (by decide +kernel) rfl (v := .ref 2) rfl dX8_init_127 ?_
  refine tt_iload_n X dX8_init_130 rfl ?_
  refine al_new (n := 39) X hw59 ho59 (by omega) (by exact (List.forall_mem_cons.mpr ⟨(Or.inl (show (0 : Nat) < 39 by omega)), (List.forall_mem_cons.mpr ⟨trivial, (fun _ hz => absurd hz List.not_mem_nil)⟩)⟩)) (by exact (List.forall_mem_cons.mpr ⟨trivial, (List.forall_mem_cons.mpr ⟨(Or.inl (show (2 : Nat) < 39 by omega)), (fun _ hz => absurd hz List.not_mem_nil)⟩)⟩)) (ci := 2) rfl in_X8_init_X2 tyX2 tyX2_ok (by decide +kernel) (by decide +kernel) (by decide +kernel) (fs := [.null, .int 0]) (fun j hj => by match j, hj with | 0, _ => rfl | 1, _ => rfl | j + 2, hj => omega) (fun _ => rfl) (by exact (List.forall_mem_cons.mpr ⟨trivial, (List.forall_mem_cons.mpr ⟨trivial, (fun _ hz => absurd hz List.not_mem_nil)⟩)⟩)) (Nat.le_of_ble_eq_true rfl) (Nat.le_of_ble_eq_true rfl) dX8_init_131 (fun q60 => ?_)
  have ho61 : tt_okh 40 _ := al_ok_new (e := .inr (2, [.null, .int 0])) ho59 (by exact (List.forall_mem_cons.mpr ⟨trivial, (List.forall_mem_cons.mpr ⟨trivial, (fun _ hz => absurd hz List.not_mem_nil)⟩)⟩))
  have hw61 : tt_wf 40 _ := tt_wf_new hw59 (.inr (2, [.null, .int 0]))
  refine tt_dup X dX8_init_134 rfl ?_
  refine al_callN X hE hw61 (n2 := 41) (by omega) (by exact (List.forall_mem_cons.mpr ⟨(Or.inl (show (0 : Nat) < 40 by omega)), (List.forall_mem_cons.mpr ⟨trivial, (fun _ hz => absurd hz List.not_mem_nil)⟩)⟩)) (by exact (List.forall_mem_cons.mpr ⟨(Or.inl (show (39 : Nat) < 40 by omega)), (List.forall_mem_cons.mpr ⟨trivial, (List.forall_mem_cons.mpr ⟨(Or.inl (show (2 : Nat) < 40 by omega)), (fun _ hz => absurd hz List.not_mem_nil)⟩)⟩)⟩)) (c_X2_init l (b := 39) hw61 ho61 (by omega) (by first | rfl | exact hb)) (fun v h hp => ⟨hp.1, hp.2.2.1⟩) (fun hts => ⟨va_cnB 0 hts gX8_init_X2_init_n27 rfl rfl rfl (hE.2.2 (RX8, 27, yX2_init, RX8) (by decide +kernel)) (hts _ (by decide +kernel)) (by decide +kernel) ⟨by decide, by decide⟩, rfl, hts _ (by decide +kernel)⟩) (Nat.le_of_ble_eq_true rfl) dX8_init_135 ⟨Nat.le_of_ble_eq_true rfl, Nat.le_of_ble_eq_true rfl⟩ (fun h62 ad62 hp62 hag62 => ?_)
  obtain ⟨-, rfl, hw62, ho62⟩ := hp62
  refine tt_astq X (t := 3) (N := 6) (by first | rfl | exact hb) rfl (by first | rfl | exact hb) (ci := 2) rfl (by unfold vp_in; decide) dX8_init_138 ?_
  have ho63 : tt_okh 41 _ := al_ok_up (e := tt_qa 3 6 (va_up (va_up (va_up (va_up (va_up (va_up (fun _ => none) 0 (some 29)) 1 (some 31)) 2 (some 33)) 3 (some 35)) 4 (some 37)) 5 (some 39))) ho62 (al_okq_up (al_okq_up (al_okq_up (al_okq_up (al_okq_up (al_okq_up (fun j i hf => by cases hf) (by omega)) (by omega)) (by omega)) (by omega)) (by omega)) (by omega)) 2
  have hw63 : tt_wf 41 _ := al_wf_put hw62 (show (2 : Nat) < 41 by omega) (tt_qa 3 6 (va_up (va_up (va_up (va_up (va_up (va_up (fun _ => none) 0 (some 29)) 1 (some 31)) 2 (some 33)) 3 (some 35)) 4 (some 37)) 5 (some 39)))
  refine tt_iinc (v := 6) X dX8_init_139 rfl (by decide) (Nat.le_of_ble_eq_true rfl) ?_
  refine tt_goto (tgt := 120) X dX8_init_142 (by decide) ?_
  refine tt_iload_n X dX8_init_120 rfl ?_
  refine tt_bipush (v := 6) X dX8_init_121 (by decide) ?_
  refine tt_icmp_ge (tgt := 145) X dX8_init_123 (by decide) (fun _ => ?_) (fun c => absurd (by decide) c)
  refine tt_iconst (v := 0) X dX8_init_145 (by decide) ?_
  refine tt_istore_n X dX8_init_146 (Nat.le_of_ble_eq_true rfl) ?_
  refine tt_iload_n X dX8_init_147 rfl ?_
  refine tt_iconst (v := 4) X dX8_init_148 (by decide) ?_
  refine tt_icmp_ge (tgt := 171) X dX8_init_149 (by decide) (fun c => absurd c (by decide)) (fun _ => ?_)
  refine tt_aload_n X dX8_init_152 rfl ?_
  refine tt_getf X (fs := [.ref 1, .ref 2, .ref 3, .ref 4, .ref 6, .ref 10, .ref 13, .ref 18, .ref 23, .ref 28, .int 0, .int 0, .int 0]) (by first | rfl | exact hb) rfl in_X8_init_X8 2 (by decide) (by decide +kernel) rfl (v := .ref 3) rfl dX8_init_153 ?_
  refine tt_iload_n X dX8_init_156 rfl ?_
  refine al_new (n := 41) X hw63 ho63 (by omega) (by exact (List.forall_mem_cons.mpr ⟨(Or.inl (show (0 : Nat) < 41 by omega)), (List.forall_mem_cons.mpr ⟨trivial, (fun _ hz => absurd hz List.not_mem_nil)⟩)⟩)) (by exact (List.forall_mem_cons.mpr ⟨trivial, (List.forall_mem_cons.mpr ⟨(Or.inl (show (3 : Nat) < 41 by omega)), (fun _ hz => absurd hz List.not_mem_nil)⟩)⟩)) (ci := 6) rfl in_X8_init_X6 tyX6 tyX6_ok (by decide +kernel) (by decide +kernel) (by decide +kernel) (fs := [.null, .int 0, .int 0]) (fun j hj => by match j, hj with | 0, _ => rfl | 1, _ => rfl | 2, _ => rfl | j + 3, hj => omega) (fun _ => rfl) (by exact (List.forall_mem_cons.mpr ⟨trivial, (List.forall_mem_cons.mpr ⟨trivial, (List.forall_mem_cons.mpr ⟨trivial, (fun _ hz => absurd hz List.not_mem_nil)⟩)⟩)⟩)) (Nat.le_of_ble_eq_true rfl) (Nat.le_of_ble_eq_true rfl) dX8_init_157 (fun q64 => ?_)
  have ho65 : tt_okh 42 _ := al_ok_new (e := .inr (6, [.null, .int 0, .int 0])) ho63 (by exact (List.forall_mem_cons.mpr ⟨trivial, (List.forall_mem_cons.mpr ⟨trivial, (List.forall_mem_cons.mpr ⟨trivial, (fun _ hz => absurd hz List.not_mem_nil)⟩)⟩)⟩))
  have hw65 : tt_wf 42 _ := tt_wf_new hw63 (.inr (6, [.null, .int 0, .int 0]))
  refine tt_dup X dX8_init_160 rfl ?_
  refine al_callN X hE hw65 (n2 := 43) (by omega) (by exact (List.forall_mem_cons.mpr ⟨(Or.inl (show (0 : Nat) < 42 by omega)), (List.forall_mem_cons.mpr ⟨trivial, (fun _ hz => absurd hz List.not_mem_nil)⟩)⟩)) (by exact (List.forall_mem_cons.mpr ⟨(Or.inl (show (41 : Nat) < 42 by omega)), (List.forall_mem_cons.mpr ⟨trivial, (List.forall_mem_cons.mpr ⟨(Or.inl (show (3 : Nat) < 42 by omega)), (fun _ hz => absurd hz List.not_mem_nil)⟩)⟩)⟩)) (c_X6_init l (b := 41) hw65 ho65 (by omega) (by first | rfl | exact hb)) (fun v h hp => ⟨hp.1, hp.2.2.1⟩) (fun hts => ⟨va_cnB 0 hts gX8_init_X6_init_n80 rfl rfl rfl (hE.2.2 (RX8, 80, yX6_init, RX8) (by decide +kernel)) (hts _ (by decide +kernel)) (by decide +kernel) ⟨by decide, by decide⟩, rfl, hts _ (by decide +kernel)⟩) (Nat.le_of_ble_eq_true rfl) dX8_init_161 ⟨Nat.le_of_ble_eq_true rfl, Nat.le_of_ble_eq_true rfl⟩ (fun h66 ad66 hp66 hag66 => ?_)
  obtain ⟨-, rfl, hw66, ho66⟩ := hp66
  refine tt_astq X (t := 4) (N := 4) (by first | rfl | exact hb) rfl (by first | rfl | exact hb) (ci := 6) rfl (by unfold vp_in; decide) dX8_init_164 ?_
  have ho67 : tt_okh 43 _ := al_ok_up (e := tt_qa 4 4 (va_up (fun _ => none) 0 (some 41))) ho66 (al_okq_up (fun j i hf => by cases hf) (by omega)) 3
  have hw67 : tt_wf 43 _ := al_wf_put hw66 (show (3 : Nat) < 43 by omega) (tt_qa 4 4 (va_up (fun _ => none) 0 (some 41)))
  refine tt_iinc (v := 1) X dX8_init_165 rfl (by decide) (Nat.le_of_ble_eq_true rfl) ?_
  refine tt_goto (tgt := 147) X dX8_init_168 (by decide) ?_
  refine tt_iload_n X dX8_init_147 rfl ?_
  refine tt_iconst (v := 4) X dX8_init_148 (by decide) ?_
  refine tt_icmp_ge (tgt := 171) X dX8_init_149 (by decide) (fun c => absurd c (by decide)) (fun _ => ?_)
  refine tt_aload_n X dX8_init_152 rfl ?_
  refine tt_getf X (fs := [.ref 1, .ref 2, .ref 3, .ref 4, .ref 6, .ref 10, .ref 13, .ref 18, .ref 23, .ref 28, .int 0, .int 0, .int 0]) (by first | rfl | exact hb) rfl in_X8_init_X8 2 (by decide) (by decide +kernel) rfl (v := .ref 3) rfl dX8_init_153 ?_
  refine tt_iload_n X dX8_init_156 rfl ?_
  refine al_new (n := 43) X hw67 ho67 (by omega) (by exact (List.forall_mem_cons.mpr ⟨(Or.inl (show (0 : Nat) < 43 by omega)), (List.forall_mem_cons.mpr ⟨trivial, (fun _ hz => absurd hz List.not_mem_nil)⟩)⟩)) (by exact (List.forall_mem_cons.mpr ⟨trivial, (List.forall_mem_cons.mpr ⟨(Or.inl (show (3 : Nat) < 43 by omega)), (fun _ hz => absurd hz List.not_mem_nil)⟩)⟩)) (ci := 6) rfl in_X8_init_X6 tyX6 tyX6_ok (by decide +kernel) (by decide +kernel) (by decide +kernel) (fs := [.null, .int 0, .int 0]) (fun j hj => by match j, hj with | 0, _ => rfl | 1, _ => rfl | 2, _ => rfl | j + 3, hj => omega) (fun _ => rfl) (by exact (List.forall_mem_cons.mpr ⟨trivial, (List.forall_mem_cons.mpr ⟨trivial, (List.forall_mem_cons.mpr ⟨trivial, (fun _ hz => absurd hz List.not_mem_nil)⟩)⟩)⟩)) (Nat.le_of_ble_eq_true rfl) (Nat.le_of_ble_eq_true rfl) dX8_init_157 (fun q68 => ?_)
  have ho69 : tt_okh 44 _ := al_ok_new (e := .inr (6, [.null, .int 0, .int 0])) ho67 (by exact (List.forall_mem_cons.mpr ⟨trivial, (List.forall_mem_cons.mpr ⟨trivial, (List.forall_mem_cons.mpr ⟨trivial, (fun _ hz => absurd hz List.not_mem_nil)⟩)⟩)⟩))
  have hw69 : tt_wf 44 _ := tt_wf_new hw67 (.inr (6, [.null, .int 0, .int 0]))
  refine tt_dup X dX8_init_160 rfl ?_
  refine al_callN X hE hw69 (n2 := 45) (by omega) (by exact (List.forall_mem_cons.mpr ⟨(Or.inl (show (0 : Nat) < 44 by omega)), (List.forall_mem_cons.mpr ⟨trivial, (fun _ hz => absurd hz List.not_mem_nil)⟩)⟩)) (by exact (List.forall_mem_cons.mpr ⟨(Or.inl (show (43 : Nat) < 44 by omega)), (List.forall_mem_cons.mpr ⟨trivial, (List.forall_mem_cons.mpr ⟨(Or.inl (show (3 : Nat) < 44 by omega)), (fun _ hz => absurd hz List.not_mem_nil)⟩)⟩)⟩)) (c_X6_init l (b := 43) hw69 ho69 (by omega) (by first | rfl | exact hb)) (fun v h hp => ⟨hp.1, hp.2.2.1⟩) (fun hts => ⟨va_cnB 0 hts gX8_init_X6_init_n80 rfl rfl rfl (hE.2.2 (RX8, 80, yX6_init, RX8) (by decide +kernel)) (hts _ (by decide +kernel)) (by decide +kernel) ⟨by decide, by decide⟩, rfl, hts _ (by decide +kernel)⟩) (Nat.le_of_ble_eq_true rfl) dX8_init_161 ⟨Nat.le_of_ble_eq_true rfl, Nat.le_of_ble_eq_true rfl⟩ (fun h70 ad70 hp70 hag70 => ?_)
  obtain ⟨-, rfl, hw70, ho70⟩ := hp70
  refine tt_astq X (t := 4) (N := 4) (by first | rfl | exact hb) rfl (by first | rfl | exact hb) (ci := 6) rfl (by unfold vp_in; decide) dX8_init_164 ?_
  have ho71 : tt_okh 45 _ := al_ok_up (e := tt_qa 4 4 (va_up (va_up (fun _ => none) 0 (some 41)) 1 (some 43))) ho70 (al_okq_up (al_okq_up (fun j i hf => by cases hf) (by omega)) (by omega)) 3
  have hw71 : tt_wf 45 _ := al_wf_put hw70 (show (3 : Nat) < 45 by omega) (tt_qa 4 4 (va_up (va_up (fun _ => none) 0 (some 41)) 1 (some 43)))
  refine tt_iinc (v := 2) X dX8_init_165 rfl (by decide) (Nat.le_of_ble_eq_true rfl) ?_
  refine tt_goto (tgt := 147) X dX8_init_168 (by decide) ?_
  refine tt_iload_n X dX8_init_147 rfl ?_
  refine tt_iconst (v := 4) X dX8_init_148 (by decide) ?_
  refine tt_icmp_ge (tgt := 171) X dX8_init_149 (by decide) (fun c => absurd c (by decide)) (fun _ => ?_)
  refine tt_aload_n X dX8_init_152 rfl ?_
  refine tt_getf X (fs := [.ref 1, .ref 2, .ref 3, .ref 4, .ref 6, .ref 10, .ref 13, .ref 18, .ref 23, .ref 28, .int 0, .int 0, .int 0]) (by first | rfl | exact hb) rfl in_X8_init_X8 2 (by decide) (by decide +kernel) rfl (v := .ref 3) rfl dX8_init_153 ?_
  refine tt_iload_n X dX8_init_156 rfl ?_
  refine al_new (n := 45) X hw71 ho71 (by omega) (by exact (List.forall_mem_cons.mpr ⟨(Or.inl (show (0 : Nat) < 45 by omega)), (List.forall_mem_cons.mpr ⟨trivial, (fun _ hz => absurd hz List.not_mem_nil)⟩)⟩)) (by exact (List.forall_mem_cons.mpr ⟨trivial, (List.forall_mem_cons.mpr ⟨(Or.inl (show (3 : Nat) < 45 by omega)), (fun _ hz => absurd hz List.not_mem_nil)⟩)⟩)) (ci := 6) rfl in_X8_init_X6 tyX6 tyX6_ok (by decide +kernel) (by decide +kernel) (by decide +kernel) (fs := [.null, .int 0, .int 0]) (fun j hj => by match j, hj with | 0, _ => rfl | 1, _ => rfl | 2, _ => rfl | j + 3, hj => omega) (fun _ => rfl) (by exact (List.forall_mem_cons.mpr ⟨trivial, (List.forall_mem_cons.mpr ⟨trivial, (List.forall_mem_cons.mpr ⟨trivial, (fun _ hz => absurd hz List.not_mem_nil)⟩)⟩)⟩)) (Nat.le_of_ble_eq_true rfl) (Nat.le_of_ble_eq_true rfl) dX8_init_157 (fun q72 => ?_)
  have ho73 : tt_okh 46 _ := al_ok_new (e := .inr (6, [.null, .int 0, .int 0])) ho71 (by exact (List.forall_mem_cons.mpr ⟨trivial, (List.forall_mem_cons.mpr ⟨trivial, (List.forall_mem_cons.mpr ⟨trivial, (fun _ hz => absurd hz List.not_mem_nil)⟩)⟩)⟩))
  have hw73 : tt_wf 46 _ := tt_wf_new hw71 (.inr (6, [.null, .int 0, .int 0]))
  refine tt_dup X dX8_init_160 rfl ?_
  refine al_callN X hE hw73 (n2 := 47) (by omega) (by exact (List.forall_mem_cons.mpr ⟨(Or.inl (show (0 : Nat) < 46 by omega)), (List.forall_mem_cons.mpr ⟨trivial, (fun _ hz => absurd hz List.not_mem_nil)⟩)⟩)) (by exact (List.forall_mem_cons.mpr ⟨(Or.inl (show (45 : Nat) < 46 by omega)), (List.forall_mem_cons.mpr ⟨trivial, (List.forall_mem_cons.mpr ⟨(Or.inl (show (3 : Nat) < 46 by omega)), (fun _ hz => absurd hz List.not_mem_nil)⟩)⟩)⟩)) (c_X6_init l (b := 45) hw73 ho73 (by omega) (by first | rfl | exact hb)) (fun v h hp => ⟨hp.1, hp.2.2.1⟩) (fun hts => ⟨va_cnB 0 hts gX8_init_X6_init_n80 rfl rfl rfl (hE.2.2 (RX8, 80, yX6_init, RX8) (by decide +kernel)) (hts _ (by decide +kernel)) (by decide +kernel) ⟨by decide, by decide⟩, rfl, hts _ (by decide +kernel)⟩) (Nat.le_of_ble_eq_true rfl) dX8_init_161 ⟨Nat.le_of_ble_eq_true rfl, Nat.le_of_ble_eq_true rfl⟩ (fun h74 ad74 hp74 hag74 => ?_)
  obtain ⟨-, rfl, hw74, ho74⟩ := hp74
  refine tt_astq X (t := 4) (N := 4) (by first | rfl | exact hb) rfl (by first | rfl | exact hb) (ci := 6) rfl (by unfold vp_in; decide) dX8_init_164 ?_
  have ho75 : tt_okh 47 _ := al_ok_up (e := tt_qa 4 4 (va_up (va_up (va_up (fun _ => none) 0 (some 41)) 1 (some 43)) 2 (some 45))) ho74 (al_okq_up (al_okq_up (al_okq_up (fun j i hf => by cases hf) (by omega)) (by omega)) (by omega)) 3
  have hw75 : tt_wf 47 _ := al_wf_put hw74 (show (3 : Nat) < 47 by omega) (tt_qa 4 4 (va_up (va_up (va_up (fun _ => none) 0 (some 41)) 1 (some 43)) 2 (some 45)))
  refine tt_iinc (v := 3) X dX8_init_165 rfl (by decide) (Nat.le_of_ble_eq_true rfl) ?_
  refine tt_goto (tgt := 147) X dX8_init_168 (by decide) ?_
  refine tt_iload_n X dX8_init_147 rfl ?_
  refine tt_iconst (v := 4) X dX8_init_148 (by decide) ?_
  refine tt_icmp_ge (tgt := 171) X dX8_init_149 (by decide) (fun c => absurd c (by decide)) (fun _ => ?_)
  refine tt_aload_n X dX8_init_152 rfl ?_
  refine tt_getf X (fs := [.ref 1, .ref 2, .ref 3, .ref 4, .ref 6, .ref 10, .ref 13, .ref 18, .ref 23, .ref 28, .int 0, .int 0, .int 0]) (by first | rfl | exact hb) rfl in_X8_init_X8 2 (by decide) (by decide +kernel) rfl (v := .ref 3) rfl dX8_init_153 ?_
  refine tt_iload_n X dX8_init_156 rfl ?_
  refine al_new (n := 47) X hw75 ho75 (by omega) (by exact (List.forall_mem_cons.mpr ⟨(Or.inl (show (0 : Nat) < 47 by omega)), (List.forall_mem_cons.mpr ⟨trivial, (fun _ hz => absurd hz List.not_mem_nil)⟩)⟩)) (by exact (List.forall_mem_cons.mpr ⟨trivial, (List.forall_mem_cons.mpr ⟨(Or.inl (show (3 : Nat) < 47 by omega)), (fun _ hz => absurd hz List.not_mem_nil)⟩)⟩)) (ci := 6) rfl in_X8_init_X6 tyX6 tyX6_ok (by decide +kernel) (by decide +kernel) (by decide +kernel) (fs := [.null, .int 0, .int 0]) (fun j hj => by match j, hj with | 0, _ => rfl | 1, _ => rfl | 2, _ => rfl | j + 3, hj => omega) (fun _ => rfl) (by exact (List.forall_mem_cons.mpr ⟨trivial, (List.forall_mem_cons.mpr ⟨trivial, (List.forall_mem_cons.mpr ⟨trivial, (fun _ hz => absurd hz List.not_mem_nil)⟩)⟩)⟩)) (Nat.le_of_ble_eq_true rfl) (Nat.le_of_ble_eq_true rfl) dX8_init_157 (fun q76 => ?_)
  have ho77 : tt_okh 48 _ := al_ok_new (e := .inr (6, [.null, .int 0, .int 0])) ho75 (by exact (List.forall_mem_cons.mpr ⟨trivial, (List.forall_mem_cons.mpr ⟨trivial, (List.forall_mem_cons.mpr ⟨trivial, (fun _ hz => absurd hz List.not_mem_nil)⟩)⟩)⟩))
  have hw77 : tt_wf 48 _ := tt_wf_new hw75 (.inr (6, [.null, .int 0, .int 0]))
  refine tt_dup X dX8_init_160 rfl ?_
  refine al_callN X hE hw77 (n2 := 49) (by omega) (by exact (List.forall_mem_cons.mpr ⟨(Or.inl (show (0 : Nat) < 48 by omega)), (List.forall_mem_cons.mpr ⟨trivial, (fun _ hz => absurd hz List.not_mem_nil)⟩)⟩)) (by exact (List.forall_mem_cons.mpr ⟨(Or.inl (show (47 : Nat) < 48 by omega)), (List.forall_mem_cons.mpr ⟨trivial, (List.forall_mem_cons.mpr ⟨(Or.inl (show (3 : Nat) < 48 by omega)), (fun _ hz => absurd hz List.not_mem_nil)⟩)⟩)⟩)) (c_X6_init l (b := 47) hw77 ho77 (by omega) (by first | rfl | exact hb)) (fun v h hp => ⟨hp.1, hp.2.2.1⟩) (fun hts => ⟨va_cnB 0 hts gX8_init_X6_init_n80 rfl rfl rfl (hE.2.2 (RX8, 80, yX6_init, RX8) (by decide +kernel)) (hts _ (by decide +kernel)) (by decide +kernel) ⟨by decide, by decide⟩, rfl, hts _ (by decide +kernel)⟩) (Nat.le_of_ble_eq_true rfl) dX8_init_161 ⟨Nat.le_of_ble_eq_true rfl, Nat.le_of_ble_eq_true rfl⟩ (fun h78 ad78 hp78 hag78 => ?_)
  obtain ⟨-, rfl, hw78, ho78⟩ := hp78
  refine tt_astq X (t := 4) (N := 4) (by first | rfl | exact hb) rfl (by first | rfl | exact hb) (ci := 6) rfl (by unfold vp_in; decide) dX8_init_164 ?_
  have ho79 : tt_okh 49 _ := al_ok_up (e := tt_qa 4 4 (va_up (va_up (va_up (va_up (fun _ => none) 0 (some 41)) 1 (some 43)) 2 (some 45)) 3 (some 47))) ho78 (al_okq_up (al_okq_up (al_okq_up (al_okq_up (fun j i hf => by cases hf) (by omega)) (by omega)) (by omega)) (by omega)) 3
  have hw79 : tt_wf 49 _ := al_wf_put hw78 (show (3 : Nat) < 49 by omega) (tt_qa 4 4 (va_up (va_up (va_up (va_up (fun _ => none) 0 (some 41)) 1 (some 43)) 2 (some 45)) 3 (some 47)))
  refine tt_iinc (v := 4) X dX8_init_165 rfl (by decide) (Nat.le_of_ble_eq_true rfl) ?_
  refine tt_goto (tgt := 147) X dX8_init_168 (by decide) ?_
  refine tt_iload_n X dX8_init_147 rfl ?_
  refine tt_iconst (v := 4) X dX8_init_148 (by decide) ?_
  refine tt_icmp_ge (tgt := 171) X dX8_init_149 (by decide) (fun _ => ?_) (fun c => absurd (by decide) c)
  exact al_vret X rfl dX8_init_171 hw79 (by omega) (by intro i hi; rw [hag78 i (by omega), va_up_ne _ _ (by omega), hag74 i (by omega), va_up_ne _ _ (by omega), hag70 i (by omega), va_up_ne _ _ (by omega), hag66 i (by omega), va_up_ne _ _ (by omega), hag62 i (by omega), va_up_ne _ _ (by omega), hag58 i (by omega), va_up_ne _ _ (by omega), hag54 i (by omega), va_up_ne _ _ (by omega), hag50 i (by omega), va_up_ne _ _ (by omega), hag46 i (by omega), va_up_ne _ _ (by omega), hag42 i (by omega), va_up_ne _ _ (by omega), va_up_ne _ _ (by omega), hag32 i (by omega), va_up_ne _ _ (by omega), hag28 i (by omega), va_up_ne _ _ (by omega), hag24 i (by omega), va_up_ne _ _ (by omega), hag20 i (by omega), va_up_ne _ _ (by omega), hag16 i (by omega), va_up_ne _ _ (by omega), hag12 i (by omega), va_up_ne _ _ (by omega), va_up_ne _ _ (by omega), va_up_ne _ _ (by omega), va_up_ne _ _ (by omega)]) ⟨rfl, rfl, hw79, ho79⟩
end
section
noncomputable def s_L_law_L731 (Ls : Nat) (xs : Nat → Int32) (κ703 : Int32 → Int32 → Nat → tt_H → Option (Int32 × tt_H)) : Nat → Int32 → Int32 → Int32 → Nat → tt_H → Option (Int32 × tt_H)
  | 0, _, _, _, _, _ => none
  | n + 1, x7, x9, x10, nn, h =>
    (gg_il h 50 0).bind fun z735 =>
    if z735 ≤ x10 then
      κ703 x7 (x9 + 1) nn h
    else
    (gg_obj h 0 8).bind fun _ =>
    (s_X8_said 0 x10 h).bind fun w742 =>
    (gg_jl w742.2 49 x10).bind fun z750 =>
    (gg_il w742.2 50 (1 + x10)).bind fun z756 =>
    (s_L_said 51 z750 z756 w742.2).bind fun w757 =>
    if w742.1 = w757.1 then
      s_L_law_L731 Ls xs κ703 n x7 x9 (x10 + 1) nn w757.2
    else
    some (0, w757.2)
noncomputable def s_L_law_L703 (Ls : Nat) (xs : Nat → Int32) : Nat → Int32 → Int32 → Nat → tt_H → Option (Int32 × tt_H)
  | 0, _, _, _, _ => none
  | n + 1, x7, x9, nn, h =>
    if 4 ≤ x9 then
      (gg_il h 50 0).bind fun z781 =>
      (gg_obj h 0 8).bind fun _ =>
      (s_X8_within 0 0 z781 h).bind fun w782 =>
      if w782.1 = ((-1)) then
        (gg_obj w782.2 0 8).bind fun _ =>
        (s_X8_within 0 ((-1)) 0 w782.2).bind fun w792 =>
        if w792.1 = ((-1)) then
          (gg_il w792.2 50 0).bind fun z802 =>
          (gg_obj w792.2 0 8).bind fun _ =>
          (s_X8_ways 0 z802 0 w792.2).bind fun w804 =>
          if (lg_cmp w804.1 ((-9223372036854775808))) = 0 then
            (gg_il w804.2 50 0).bind fun z818 =>
            (gg_obj w804.2 0 8).bind fun _ =>
            (s_X8_place 0 0 z818 0 0 w804.2).bind fun w821 =>
            if w821.1 = ((-1)) then
              (gg_il w821.2 50 1).bind fun z833 =>
              (gg_obj w821.2 0 8).bind fun _ =>
              (s_X8_place 0 0 0 z833 0 w821.2).bind fun w835 =>
              if w835.1 = ((-1)) then
                (gg_obj w835.2 0 8).bind fun _ =>
                (s_X8_place 0 0 0 ((-1)) 0 w835.2).bind fun w847 =>
                if w847.1 = ((-1)) then
                  (gg_obj w847.2 0 8).bind fun _ =>
                  (s_X8_place 0 0 0 0 2 w847.2).bind fun w859 =>
                  if w859.1 = ((-2)) then
                    (gg_il w859.2 50 (1 + x7)).bind fun z873 =>
                    (gg_obj w859.2 0 8).bind fun _ =>
                    (s_X8_mayBe 0 z873 w859.2).bind fun w874 =>
                    if w874.1 = ((-1)) then
                      (gg_obj w874.2 0 8).bind fun _ =>
                      (s_X8_mayBe 0 ((-1)) w874.2).bind fun w883 =>
                      if w883.1 = ((-1)) then
                        (gg_il w883.2 50 0).bind fun z893 =>
                        (gg_obj w883.2 0 8).bind fun _ =>
                        (s_X8_said 0 z893 w883.2).bind fun w894 =>
                        if w894.1 = ((-1)) then
                          (gg_il w894.2 50 0).bind fun z904 =>
                          (gg_obj w894.2 0 8).bind fun _ =>
                          (s_X8_ofDay 0 z904 0 w894.2).bind fun w906 =>
                          if w906.1 = ((-1)) then
                            (gg_obj w906.2 0 8).bind fun _ =>
                            (s_X8_ofDay 0 0 ((-2)) w906.2).bind fun w917 =>
                            if w917.1 = ((-1)) then
                              (gg_obj w917.2 0 8).bind fun _ =>
                              (s_X8_kind 0 8 0 w917.2).bind fun w928 =>
                              if w928.1 = ((-1)) then
                                (gg_obj w928.2 0 8).bind fun _ =>
                                (s_X8_kind 0 0 3 w928.2).bind fun w938 =>
                                if w938.1 = ((-2)) then
                                  (gg_obj w938.2 0 8).bind fun _ =>
                                  (s_X8_kind 0 ((-1)) 0 w938.2).bind fun w949 =>
                                  if w949.1 = ((-1)) then
                                    some (1, w949.2)
                                  else
                                  some (0, w949.2)
                                else
                                some (0, w938.2)
                              else
                              some (0, w928.2)
                            else
                            some (0, w917.2)
                          else
                          some (0, w906.2)
                        else
                        some (0, w894.2)
                      else
                      some (0, w883.2)
                    else
                    some (0, w874.2)
                  else
                  some (0, w859.2)
                else
                some (0, w847.2)
              else
              some (0, w835.2)
            else
            some (0, w821.2)
          else
          some (0, w804.2)
        else
        some (0, w792.2)
      else
      some (0, w782.2)
    else
    (s_L_cell Ls xs (4 + x9) h).bind fun w715 =>
    (s_L_kinds 0 w715.1 51 w715.2).bind fun w720 =>
    if w720.1 = 0 then
      some (0, w720.2)
    else
    s_L_law_L731 Ls xs (s_L_law_L703 Ls xs n) 10000 x7 x9 0 nn w720.2
noncomputable def s_L_law_L667 (Ls : Nat) (xs : Nat → Int32) : Nat → Int32 → Nat → Int32 → Nat → tt_H → Option (Int32 × tt_H)
  | 0, _, _, _, _, _ => none
  | n + 1, x7, b8, x9, nn, h =>
    (gg_il h 50 (1 + x7)).bind fun z674 =>
    if z674 ≤ x9 then
      s_L_law_L703 Ls xs 10000 x7 0 nn h
    else
    (gg_obj h 0 8).bind fun _ =>
    (s_X8_mayBe 0 x9 h).bind fun w681 =>
    (gg_il w681.2 b8 x9).bind fun z688 =>
    if w681.1 = z688 then
      s_L_law_L667 Ls xs n x7 b8 (x9 + 1) nn w681.2
    else
    some (0, w681.2)
noncomputable def s_L_law_J652 (Ls : Nat) (xs : Nat → Int32) (κ244 : Int32 → Nat → Int32 → Int32 → Nat → tt_H → Option (Int32 × tt_H)) (x7 : Int32) (b8 : Nat) (x9 : Int32) (x10 : Int32) (nn : Nat) (h : tt_H) : Option (Int32 × tt_H) :=
  κ244 x7 b8 x9 (x10 + 1) nn h
noncomputable def s_L_law_L595 (Ls : Nat) (xs : Nat → Int32) (κ652 : Int32 → Nat → Int32 → Int32 → Nat → tt_H → Option (Int32 × tt_H)) : Nat → Int32 → Nat → Int32 → Int32 → Nat → Nat → Int32 → Nat → tt_H → Option (Int32 × tt_H)
  | 0, _, _, _, _, _, _, _, _, _ => none
  | n + 1, x7, b8, x9, x10, b13, b14, x15, nn, h =>
    (gg_il h 50 (1 + x9)).bind fun z602 =>
    if z602 ≤ x15 then
      κ652 x7 b8 x9 x10 nn h
    else
    (gg_obj h 0 8).bind fun _ =>
    (s_X8_place 0 x9 x10 x15 0 h).bind fun w614 =>
    (gg_il w614.2 b13 x15).bind fun z621 =>
    if w614.1 = z621 then
      (gg_obj w614.2 0 8).bind fun _ =>
      (s_X8_place 0 x9 x10 x15 1 w614.2).bind fun w633 =>
      (gg_il w633.2 b14 x15).bind fun z640 =>
      if w633.1 = z640 then
        s_L_law_L595 Ls xs κ652 n x7 b8 x9 x10 b13 b14 (x15 + 1) nn w633.2
      else
      some (0, w633.2)
    else
    some (0, w614.2)
noncomputable def s_L_law_J585 (Ls : Nat) (xs : Nat → Int32) (κ652 : Int32 → Nat → Int32 → Int32 → Nat → tt_H → Option (Int32 × tt_H)) (x7 : Int32) (b8 : Nat) (x9 : Int32) (x10 : Int32) (x11 : Int32) (b13 : Nat) (b14 : Nat) (ux0 : Int32) (nn : Nat) (h : tt_H) : Option (Int32 × tt_H) :=
  if ux0 = x11 then
    s_L_law_L595 Ls xs κ652 10000 x7 b8 x9 x10 b13 b14 0 nn h
  else
  some (0, h)
noncomputable def s_L_law_J554 (Ls : Nat) (xs : Nat → Int32) (κ382 : Int32 → Nat → Int32 → Int32 → Int32 → Int32 → Nat → Nat → Int32 → Nat → tt_H → Option (Int32 × tt_H)) (x7 : Int32) (b8 : Nat) (x9 : Int32) (x10 : Int32) (x11 : Int32) (x12 : Int32) (b13 : Nat) (b14 : Nat) (x15 : Int32) (nn : Nat) (h : tt_H) : Option (Int32 × tt_H) :=
  κ382 x7 b8 x9 x10 x11 x12 b13 b14 (x15 + 1) nn h
noncomputable def s_L_law_J548 (Ls : Nat) (xs : Nat → Int32) (κ444 : Int32 → Nat → Int32 → Int32 → Int32 → Int32 → Nat → Nat → Int32 → Int32 → Int32 → Nat → tt_H → Option (Int32 × tt_H)) (x7 : Int32) (b8 : Nat) (x9 : Int32) (x10 : Int32) (x11 : Int32) (x12 : Int32) (b13 : Nat) (b14 : Nat) (x15 : Int32) (x16 : Int32) (x17 : Int32) (nn : Nat) (h : tt_H) : Option (Int32 × tt_H) :=
  κ444 x7 b8 x9 x10 x11 x12 b13 b14 x15 x16 (x17 + 1) nn h
noncomputable def s_L_law_J545 (Ls : Nat) (xs : Nat → Int32) (κ548 : Int32 → Nat → Int32 → Int32 → Int32 → Int32 → Nat → Nat → Int32 → Int32 → Int32 → Nat → tt_H → Option (Int32 × tt_H)) (x7 : Int32) (b8 : Nat) (x9 : Int32) (x10 : Int32) (x11 : Int32) (x12 : Int32) (b13 : Nat) (b14 : Nat) (x15 : Int32) (x16 : Int32) (x17 : Int32) (nn : Nat) (h : tt_H) : Option (Int32 × tt_H) :=
  κ548 x7 b8 x9 x10 x11 x12 b13 b14 x15 (x16 + 1) x17 nn h
noncomputable def s_L_law_J525 (Ls : Nat) (xs : Nat → Int32) (κ548 : Int32 → Nat → Int32 → Int32 → Int32 → Int32 → Nat → Nat → Int32 → Int32 → Int32 → Nat → tt_H → Option (Int32 × tt_H)) (x7 : Int32) (b8 : Nat) (x9 : Int32) (x10 : Int32) (x11 : Int32) (x12 : Int32) (b13 : Nat) (b14 : Nat) (x15 : Int32) (x16 : Int32) (x17 : Int32) (ub0 : Nat) (ux1 : Int32) (ux2 : Int32) (nn : Nat) (h : tt_H) : Option (Int32 × tt_H) :=
  (gg_is h ub0 ux1 ux2).bind fun h525 =>
  if x10 = x7 then
    (gg_il h525 b8 x17).bind fun z538 =>
    (gg_is h525 b8 x17 (z538 ||| ((1 : Int32) <<< (x9 &&& 31)))).bind fun h544 =>
    s_L_law_J545 Ls xs κ548 x7 b8 x9 x10 x11 x12 b13 b14 x15 x16 x17 nn h544
  else
  s_L_law_J545 Ls xs κ548 x7 b8 x9 x10 x11 x12 b13 b14 x15 x16 x17 nn h525
noncomputable def s_L_law_J500 (Ls : Nat) (xs : Nat → Int32) (κ548 : Int32 → Nat → Int32 → Int32 → Int32 → Int32 → Nat → Nat → Int32 → Int32 → Int32 → Nat → tt_H → Option (Int32 × tt_H)) (x7 : Int32) (b8 : Nat) (x9 : Int32) (x10 : Int32) (x11 : Int32) (x12 : Int32) (b13 : Nat) (b14 : Nat) (x15 : Int32) (x16 : Int32) (x17 : Int32) (ub0 : Nat) (ux1 : Int32) (ux2 : Int32) (nn : Nat) (h : tt_H) : Option (Int32 × tt_H) :=
  (gg_is h ub0 ux1 ux2).bind fun h500 =>
  (gg_il h500 b14 x16).bind fun z511 =>
  if x17 ≤ z511 then
    (gg_il h500 b14 x16).bind fun z524 =>
    s_L_law_J525 Ls xs κ548 x7 b8 x9 x10 x11 x12 b13 b14 x15 x16 x17 b14 x16 z524 nn h500
  else
  s_L_law_J525 Ls xs κ548 x7 b8 x9 x10 x11 x12 b13 b14 x15 x16 x17 b14 x16 x17 nn h500
noncomputable def s_L_law_J490 (Ls : Nat) (xs : Nat → Int32) (κ500 : Int32 → Nat → Int32 → Int32 → Int32 → Int32 → Nat → Nat → Int32 → Int32 → Int32 → Nat → Int32 → Int32 → Nat → tt_H → Option (Int32 × tt_H)) (x7 : Int32) (b8 : Nat) (x9 : Int32) (x10 : Int32) (x11 : Int32) (x12 : Int32) (b13 : Nat) (b14 : Nat) (x15 : Int32) (x16 : Int32) (x17 : Int32) (ub0 : Nat) (ux1 : Int32) (nn : Nat) (h : tt_H) : Option (Int32 × tt_H) :=
  κ500 x7 b8 x9 x10 x11 x12 b13 b14 x15 x16 x17 ub0 ux1 x17 nn h
noncomputable def s_L_law_L444 (Ls : Nat) (xs : Nat → Int32) (κ554 : Int32 → Nat → Int32 → Int32 → Int32 → Int32 → Nat → Nat → Int32 → Nat → tt_H → Option (Int32 × tt_H)) : Nat → Int32 → Nat → Int32 → Int32 → Int32 → Int32 → Nat → Nat → Int32 → Int32 → Int32 → Nat → tt_H → Option (Int32 × tt_H)
  | 0, _, _, _, _, _, _, _, _, _, _, _, _, _ => none
  | n + 1, x7, b8, x9, x10, x11, x12, b13, b14, x15, x16, x17, nn, h =>
    (gg_il h 50 (1 + x10)).bind fun z451 =>
    if z451 ≤ x17 then
      κ554 x7 b8 x9 x10 x11 x12 b13 b14 x15 nn h
    else
    if ((x15 >>> (x17 &&& 31)) &&& 1) = 0 then
      s_L_law_J548 Ls xs (s_L_law_L444 Ls xs κ554 n) x7 b8 x9 x10 x11 x12 b13 b14 x15 x16 x17 nn h
    else
    (gg_il h b13 x16).bind fun z476 =>
    if z476 < 0 then
      s_L_law_J490 Ls xs (s_L_law_J500 Ls xs (s_L_law_J548 Ls xs (s_L_law_L444 Ls xs κ554 n))) x7 b8 x9 x10 x11 x12 b13 b14 x15 x16 x17 b13 x16 nn h
    else
    (gg_il h b13 x16).bind fun z486 =>
    if z486 ≤ x17 then
      (gg_il h b13 x16).bind fun z499 =>
      s_L_law_J500 Ls xs (s_L_law_J548 Ls xs (s_L_law_L444 Ls xs κ554 n)) x7 b8 x9 x10 x11 x12 b13 b14 x15 x16 x17 b13 x16 z499 nn h
    else
    s_L_law_J490 Ls xs (s_L_law_J500 Ls xs (s_L_law_J548 Ls xs (s_L_law_L444 Ls xs κ554 n))) x7 b8 x9 x10 x11 x12 b13 b14 x15 x16 x17 b13 x16 nn h
noncomputable def s_L_law_L382 (Ls : Nat) (xs : Nat → Int32) (κ652 : Int32 → Nat → Int32 → Int32 → Nat → tt_H → Option (Int32 × tt_H)) : Nat → Int32 → Nat → Int32 → Int32 → Int32 → Int32 → Nat → Nat → Int32 → Nat → tt_H → Option (Int32 × tt_H)
  | 0, _, _, _, _, _, _, _, _, _, _, _ => none
  | n + 1, x7, b8, x9, x10, x11, x12, b13, b14, x15, nn, h =>
    (gg_il h 50 (1 + x10)).bind fun z390 =>
    if ((1 : Int32) <<< (z390 &&& 31)) ≤ x15 then
      (gg_obj h 0 8).bind fun _ =>
      (s_X8_ways 0 x9 x10 h).bind fun w565 =>
      if (lg_cmp w565.1 x12.toInt64) = 0 then
        if x12 ≤ 0 then
          s_L_law_J585 Ls xs κ652 x7 b8 x9 x10 x11 b13 b14 0 nn w565.2
        else
        s_L_law_J585 Ls xs κ652 x7 b8 x9 x10 x11 b13 b14 1 nn w565.2
      else
      some (0, w565.2)
    else
    (s_L_size x15 h).bind fun w397 =>
    (gg_il w397.2 50 (1 + x9)).bind fun z405 =>
    if w397.1 = z405 then
      (gg_jl w397.2 49 x10).bind fun z412 =>
      (gg_il w397.2 50 (1 + x10)).bind fun z418 =>
      (s_L_part z412 z418 x15 w397.2).bind fun w421 =>
      (gg_jl w421.2 49 x9).bind fun z427 =>
      if (lg_cmp w421.1 z427) = 0 then
        s_L_law_L444 Ls xs (s_L_law_J554 Ls xs (s_L_law_L382 Ls xs κ652 n)) 10000 x7 b8 x9 x10 x11 (x12 + 1) b13 b14 x15 0 0 nn w421.2
      else
      s_L_law_J554 Ls xs (s_L_law_L382 Ls xs κ652 n) x7 b8 x9 x10 x11 x12 b13 b14 x15 nn w421.2
    else
    s_L_law_J554 Ls xs (s_L_law_L382 Ls xs κ652 n) x7 b8 x9 x10 x11 x12 b13 b14 x15 nn w397.2
noncomputable def s_L_law_L352 (Ls : Nat) (xs : Nat → Int32) (κ652 : Int32 → Nat → Int32 → Int32 → Nat → tt_H → Option (Int32 × tt_H)) : Nat → Int32 → Nat → Int32 → Int32 → Int32 → Int32 → Nat → Nat → Int32 → Nat → tt_H → Option (Int32 × tt_H)
  | 0, _, _, _, _, _, _, _, _, _, _, _ => none
  | n + 1, x7, b8, x9, x10, x11, x12, b13, b14, x15, nn, h =>
    if 12 ≤ x15 then
      s_L_law_L382 Ls xs κ652 10000 x7 b8 x9 x10 x11 x12 b13 b14 0 nn h
    else
    (gg_is h b13 x15 ((-9))).bind fun h365 =>
    (gg_is h365 b14 x15 ((-9))).bind fun h372 =>
    s_L_law_L352 Ls xs κ652 n x7 b8 x9 x10 x11 x12 b13 b14 (x15 + 1) nn h372
noncomputable def s_L_law_J334 (Ls : Nat) (xs : Nat → Int32) (κ652 : Int32 → Nat → Int32 → Int32 → Nat → tt_H → Option (Int32 × tt_H)) (x7 : Int32) (b8 : Nat) (x9 : Int32) (x10 : Int32) (x11 : Int32) (nn : Nat) (h : tt_H) : Option (Int32 × tt_H) :=
  (gg_new nn [1000000, 0, 49, 50, 51, b8] h).bind fun _ =>
  (gg_new (nn + 1) [1000000, 0, 49, 50, 51, b8, nn] (va_up h nn (some (tt_ia 12 (fun _ => 0))))).bind fun _ =>
  s_L_law_L352 Ls xs κ652 10000 x7 b8 x9 x10 x11 0 nn (nn + 1) 0 (nn + 1 + 1) (va_up (va_up h nn (some (tt_ia 12 (fun _ => 0)))) (nn + 1) (some (tt_ia 12 (fun _ => 0))))
noncomputable def s_L_law_J295 (Ls : Nat) (xs : Nat → Int32) (κ244 : Int32 → Nat → Int32 → Int32 → Nat → tt_H → Option (Int32 × tt_H)) (x7 : Int32) (b8 : Nat) (x9 : Int32) (x10 : Int32) (x11 : Int32) (ux0 : Int32) (ux1 : Int32) (nn : Nat) (h : tt_H) : Option (Int32 × tt_H) :=
  if ux0 = ux1 then
    if x9 = x7 then
      s_L_law_J334 Ls xs (s_L_law_J652 Ls xs κ244) x7 b8 x9 x10 x11 nn h
    else
    if x10 = x7 then
      s_L_law_J334 Ls xs (s_L_law_J652 Ls xs κ244) x7 b8 x9 x10 x11 nn h
    else
    (gg_nz 2).bind fun _ =>
    if ((x9 + x10) - (x9 + x10) / 2 * 2) = 0 then
      if x9 = x10 then
        s_L_law_J334 Ls xs (s_L_law_J652 Ls xs κ244) x7 b8 x9 x10 x11 nn h
      else
      s_L_law_J652 Ls xs κ244 x7 b8 x9 x10 nn h
    else
    s_L_law_J334 Ls xs (s_L_law_J652 Ls xs κ244) x7 b8 x9 x10 x11 nn h
  else
  some (0, h)
noncomputable def s_L_law_L244 (Ls : Nat) (xs : Nat → Int32) (κ157 : Int32 → Nat → Int32 → Nat → tt_H → Option (Int32 × tt_H)) : Nat → Int32 → Nat → Int32 → Int32 → Nat → tt_H → Option (Int32 × tt_H)
  | 0, _, _, _, _, _, _ => none
  | n + 1, x7, b8, x9, x10, nn, h =>
    (gg_il h 50 0).bind fun z248 =>
    if z248 ≤ x10 then
      κ157 x7 b8 (x9 + 1) nn h
    else
    (gg_jl h 49 x9).bind fun z255 =>
    (gg_il h 50 (1 + x9)).bind fun z261 =>
    (gg_jl h 49 x10).bind fun z265 =>
    (gg_il h 50 (1 + x10)).bind fun z271 =>
    (s_L_within z255 z261 z265 z271 h).bind fun w272 =>
    (gg_obj w272.2 0 8).bind fun _ =>
    (s_X8_within 0 x9 x10 w272.2).bind fun w282 =>
    if w272.1 = 0 then
      s_L_law_J295 Ls xs (s_L_law_L244 Ls xs κ157 n) x7 b8 x9 x10 w272.1 w282.1 0 nn w282.2
    else
    s_L_law_J295 Ls xs (s_L_law_L244 Ls xs κ157 n) x7 b8 x9 x10 w272.1 w282.1 1 nn w282.2
noncomputable def s_L_law_L202 (Ls : Nat) (xs : Nat → Int32) (κ157 : Int32 → Nat → Int32 → Nat → tt_H → Option (Int32 × tt_H)) : Nat → Int32 → Nat → Int32 → Int32 → Nat → tt_H → Option (Int32 × tt_H)
  | 0, _, _, _, _, _, _ => none
  | n + 1, x7, b8, x9, x10, nn, h =>
    (gg_il h 50 (1 + x9)).bind fun z209 =>
    if z209 ≤ x10 then
      s_L_law_L244 Ls xs κ157 10000 x7 b8 x9 0 nn h
    else
    (gg_obj h 0 8).bind fun _ =>
    (s_X8_ofDay 0 x9 x10 h).bind fun w218 =>
    (gg_jl w218.2 49 x9).bind fun z224 =>
    (s_L_word z224 x10 w218.2).bind fun w227 =>
    if w218.1 = w227.1 then
      s_L_law_L202 Ls xs κ157 n x7 b8 x9 (x10 + 1) nn w227.2
    else
    some (0, w227.2)
noncomputable def s_L_law_L157 (Ls : Nat) (xs : Nat → Int32) : Nat → Int32 → Nat → Int32 → Nat → tt_H → Option (Int32 × tt_H)
  | 0, _, _, _, _, _ => none
  | n + 1, x7, b8, x9, nn, h =>
    (gg_il h 50 0).bind fun z161 =>
    if z161 ≤ x9 then
      s_L_law_L667 Ls xs 10000 x7 b8 0 nn h
    else
    (gg_obj h 0 8).bind fun _ =>
    (s_X8_ofDay 0 x9 ((-1)) h).bind fun w169 =>
    (gg_il w169.2 50 (1 + x9)).bind fun z177 =>
    if w169.1 = z177 then
      (gg_il w169.2 50 (1 + x9)).bind fun z189 =>
      (gg_obj w169.2 0 8).bind fun _ =>
      (s_X8_ofDay 0 x9 z189 w169.2).bind fun w190 =>
      if w190.1 = ((-1)) then
        s_L_law_L202 Ls xs (s_L_law_L157 Ls xs n) 10000 x7 b8 x9 0 nn w190.2
      else
      some (0, w190.2)
    else
    some (0, w169.2)
noncomputable def s_L_law_J130 (Ls : Nat) (xs : Nat → Int32) (x6 : Int32) (nn : Nat) (h : tt_H) : Option (Int32 × tt_H) :=
  (gg_obj h 0 8).bind fun _ =>
  (s_X8_leftOut 0 h).bind fun w131 =>
  if w131.1 = x6 then
    (gg_il w131.2 50 0).bind fun z143 =>
    (gg_new nn [1000000, 0, 49, 50, 51] w131.2).bind fun _ =>
    s_L_law_L157 Ls xs 10000 (z143 - 1) nn 0 (nn + 1) (va_up w131.2 nn (some (tt_ia 12 (fun _ => 0))))
  else
  some (0, w131.2)
noncomputable def s_L_law_J122 (Ls : Nat) (xs : Nat → Int32) (κ76 : Int32 → Int32 → Nat → tt_H → Option (Int32 × tt_H)) (x7 : Int32) (ux0 : Int32) (nn : Nat) (h : tt_H) : Option (Int32 × tt_H) :=
  κ76 ux0 (x7 + 1) nn h
noncomputable def s_L_law_L76 (Ls : Nat) (xs : Nat → Int32) : Nat → Int32 → Int32 → Nat → tt_H → Option (Int32 × tt_H)
  | 0, _, _, _, _ => none
  | n + 1, x6, x7, nn, h =>
    (gg_il h 50 0).bind fun z80 =>
    if z80 ≤ x7 then
      s_L_law_J130 Ls xs x6 nn h
    else
    if 0 ≤ x6 then
      s_L_law_J130 Ls xs x6 nn h
    else
    (gg_jl h 49 (x7 - 1)).bind fun z94 =>
    (gg_il h 50 x7).bind fun z98 =>
    (gg_jl h 49 x7).bind fun z102 =>
    (gg_il h 50 (1 + x7)).bind fun z108 =>
    (s_L_within z94 z98 z102 z108 h).bind fun w109 =>
    if w109.1 = 0 then
      s_L_law_J122 Ls xs (s_L_law_L76 Ls xs n) x7 x7 nn w109.2
    else
    s_L_law_J122 Ls xs (s_L_law_L76 Ls xs n) x7 ((-9)) nn w109.2
noncomputable def s_L_law (Ls : Nat) (xs : Nat → Int32) (nn : Nat) (h : tt_H) : Option (Int32 × tt_H) :=
  (s_L_put Ls xs 0 0 12 49 50 h).bind fun w31 =>
  if w31.1 < 1 then
    some (0, w31.2)
  else
  (gg_obj w31.2 0 8).bind fun _ =>
  (s_X8_cries 0 0 0 0 w31.1 w31.2).bind fun w48 =>
  (gg_il w48.2 50 0).bind fun z53 =>
  if w48.1 = z53 then
    (gg_obj w48.2 0 8).bind fun _ =>
    (s_X8_many 0 w48.2).bind fun w58 =>
    (gg_il w58.2 50 0).bind fun z63 =>
    if w58.1 = z63 then
      s_L_law_L76 Ls xs 10000 ((-9)) 1 nn w58.2
    else
    some (0, w58.2)
  else
  some (0, w48.2)
end
