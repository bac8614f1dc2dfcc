section
/-! THE TOY HEAP: places (numbers) instead of addresses. A cell at a place is an object (class number, values) or an array (type number, contents); a reference is the number of a place. 'ad' gives each place its address, 'ca' each array type its class. -/
abbrev tt_E : Type := (Nat × vp_A) ⊕ (Nat × List Value)
abbrev tt_H : Type := Nat → Option tt_E
abbrev tt_ia (N : Nat) (f : Nat → Int32) : tt_E := .inl (0, (N, .inl f))
abbrev tt_ja (N : Nat) (f : Nat → Int64) : tt_E := .inl (1, (N, .inr (.inl f)))
abbrev tt_za (N : Nat) (f : Nat → Int32) : tt_E := .inl (2, (N, .inl f))
abbrev tt_qa (t N : Nat) (f : Nat → Option Nat) : tt_E := .inl (t, (N, .inr (.inr (.inr (.inr f)))))
abbrev tt_ob (ci : Nat) (fs : List Value) : tt_E := .inr (ci, fs)
def tt_tyl : List FieldType := [.int, .long, .boolean, .object "AddedCries$Cry", .object "AddedCries$Sheet"]
def tt_tys (ca : Nat → ClassId) : List (ClassId × FieldType) := [(ca 0, .int), (ca 1, .long), (ca 2, .boolean), (ca 3, .object "AddedCries$Cry"), (ca 4, .object "AddedCries$Sheet")]
def tt_v (ad : Nat → Nat) (v : Value) : Value := match v with
  | .ref i => .ref (ad i)
  | w => w
def tt_a (ad : Nat → Nat) (a : vp_A) : vp_A := match a with
  | (n, .inr (.inr (.inr (.inr f)))) => (n, .inr (.inr (.inr (.inr (fun j => (f j).map ad)))))
  | b => b
def tt_e (ca ad : Nat → Nat) (e : tt_E) : va_E := match e with
  | .inl (t, a) => .inl (ca t, tt_a ad a)
  | .inr (ci, fs) => .inr (ci, fs.map (tt_v ad))
def tt_w (ca ad : Nat → Nat) (n : Nat) (h : tt_H) : va_W := (List.range n).map (fun i => (ad i, tt_e ca ad ((h i).getD (.inr (0, [])))))
def tt_wf (n : Nat) (h : tt_H) : Prop := ∀ i, i < n ↔ (h i).isSome = true
def tt_A (ad : Nat → Nat) (n sz : Nat) : Nat → Prop := fun q => (∃ i, i < n ∧ q = ad i) ∨ sz ≤ q
theorem tt_v_cat (ad : Nat → Nat) (v : Value) : (tt_v ad v).category = v.category := by cases v <;> rfl
theorem tt_cats (ad : Nat → Nat) (st : List Value) : ((st.map (tt_v ad)).map fun v => v.category) = st.map fun v => v.category := by
  rw [List.map_map]
  exact List.map_congr_left (fun v _ => tt_v_cat ad v)
theorem tt_lt {n : Nat} {h : tt_H} (hw : tt_wf n h) {i : Nat} {e : tt_E} (hi : h i = some e) : i < n := (hw i).mpr (by rw [hi]; rfl)
theorem tt_w_len (ca ad : Nat → Nat) (n : Nat) (h : tt_H) : (tt_w ca ad n h).length = n := by simp [tt_w]
theorem tt_w_at (ca ad : Nat → Nat) (n : Nat) (h : tt_H) (i : Nat) : (tt_w ca ad n h)[i]? = if i < n then some (ad i, tt_e ca ad ((h i).getD (.inr (0, [])))) else none := by
  unfold tt_w
  rw [List.getElem?_map]
  by_cases hi : i < n
  · rw [if_pos hi, List.getElem?_range hi]; rfl
  · rw [if_neg hi, List.getElem?_eq_none (by simp; omega)]; rfl
theorem tt_w_get {ca ad : Nat → Nat} {n : Nat} {h : tt_H} (hw : tt_wf n h) {i : Nat} {e : tt_E} (hi : h i = some e) : (tt_w ca ad n h)[i]? = some (ad i, tt_e ca ad e) := by
  rw [tt_w_at, if_pos (tt_lt hw hi), hi]; rfl
theorem tt_w_set {ca ad : Nat → Nat} {n : Nat} {h : tt_H} (hw : tt_wf n h) {i : Nat} {e0 e : tt_E} (hi : h i = some e0) : (tt_w ca ad n h).set i (ad i, tt_e ca ad e) = tt_w ca ad n (va_up h i (some e)) := by
  apply List.ext_getElem?
  intro j
  have hl : i < (tt_w ca ad n h).length := by rw [tt_w_len]; exact tt_lt hw hi
  by_cases hj : i = j
  · subst hj
    rw [List.getElem?_set_self hl, tt_w_at, if_pos (tt_lt hw hi), va_up_self]; rfl
  · rw [List.getElem?_set_ne hj, tt_w_at, tt_w_at, va_up_ne _ _ (Ne.symm hj)]
theorem tt_wf_set {n : Nat} {h : tt_H} (hw : tt_wf n h) {i : Nat} {e0 e : tt_E} (hi : h i = some e0) : tt_wf n (va_up h i (some e)) := by
  intro j
  by_cases hj : j = i
  · subst hj
    rw [va_up_self]
    exact ⟨fun _ => rfl, fun _ => tt_lt hw hi⟩
  · rw [va_up_ne _ _ hj]; exact hw j
/-! a place's cells speak of places below n alone: then more addresses change nothing -/
def tt_okv (n : Nat) (v : Value) : Prop := match v with
  | .ref i => i < n
  | _ => True
def tt_oka (n : Nat) (a : vp_A) : Prop := match a with
  | (_, .inr (.inr (.inr (.inr f)))) => ∀ j i, f j = some i → i < n
  | _ => True
def tt_oke (n : Nat) (e : tt_E) : Prop := match e with
  | .inl (_, a) => tt_oka n a
  | .inr (_, fs) => ∀ v ∈ fs, tt_okv n v
def tt_okh (n : Nat) (h : tt_H) : Prop := ∀ i e, h i = some e → tt_oke n e
theorem tt_v_eq {ad ad' : Nat → Nat} {n : Nat} (ha : ∀ i, i < n → ad' i = ad i) {v : Value} (hv : tt_okv n v) : tt_v ad' v = tt_v ad v := by
  cases v <;> first | rfl | exact congrArg Value.ref (ha _ hv)
theorem tt_vs_eq {ad ad' : Nat → Nat} {n : Nat} (ha : ∀ i, i < n → ad' i = ad i) {vs : List Value} (hv : ∀ v ∈ vs, tt_okv n v) : vs.map (tt_v ad') = vs.map (tt_v ad) :=
  List.map_congr_left (fun v h => tt_v_eq ha (hv v h))
theorem tt_a_eq {ad ad' : Nat → Nat} {n : Nat} (ha : ∀ i, i < n → ad' i = ad i) {a : vp_A} (hv : tt_oka n a) : tt_a ad' a = tt_a ad a := by
  obtain ⟨k, f | f | f | f | f⟩ := a <;> try rfl
  show (k, _) = (k, _)
  congr 5
  funext j
  cases hf : f j with
  | none => rfl
  | some i => exact congrArg some (ha i (hv j i hf))
theorem tt_e_eq {ca ad ad' : Nat → Nat} {n : Nat} (ha : ∀ i, i < n → ad' i = ad i) {e : tt_E} (hv : tt_oke n e) : tt_e ca ad' e = tt_e ca ad e := by
  obtain ⟨t, a⟩ | ⟨ci, fs⟩ := e
  · show Sum.inl (ca t, _) = Sum.inl (ca t, _)
    rw [tt_a_eq ha hv]
  · show Sum.inr (ci, _) = Sum.inr (ci, _)
    rw [tt_vs_eq ha hv]
theorem tt_w_eq {ca ad ad' : Nat → Nat} {n : Nat} {h : tt_H} (hw : tt_wf n h) (ho : tt_okh n h) (ha : ∀ i, i < n → ad' i = ad i) : tt_w ca ad' n h = tt_w ca ad n h := by
  apply List.ext_getElem?
  intro i
  rw [tt_w_at, tt_w_at]
  by_cases hi : i < n
  · rw [if_pos hi, if_pos hi, ha i hi]
    obtain ⟨e, he⟩ := Option.isSome_iff_exists.mp ((hw i).mp hi)
    rw [he]
    show some (_, tt_e ca ad' e) = some (_, tt_e ca ad e)
    rw [tt_e_eq ha (ho i e he)]
  · rw [if_neg hi, if_neg hi]
theorem tt_wf_new {n : Nat} {h : tt_H} (hw : tt_wf n h) (e : tt_E) : tt_wf (n + 1) (va_up h n (some e)) := by
  intro j
  by_cases hj : j = n
  · subst hj
    rw [va_up_self]
    exact ⟨fun _ => rfl, fun _ => Nat.lt_succ_self _⟩
  · rw [va_up_ne _ _ hj, ← hw j]; omega
theorem tt_w_new {ca ad : Nat → Nat} {n : Nat} {h : tt_H} (hw : tt_wf n h) (ho : tt_okh n h) {e : tt_E} (he : tt_oke n e) (q : Nat) : tt_w ca (va_up ad n q) (n + 1) (va_up h n (some e)) = tt_w ca ad n h ++ [(q, tt_e ca ad e)] := by
  apply List.ext_getElem?
  intro i
  have hag : ∀ i, i < n → va_up ad n q i = ad i := fun i hi => va_up_ne _ _ (by omega)
  rw [tt_w_at]
  by_cases hi : i < n
  · rw [if_pos (by omega), List.getElem?_append_left (by rw [tt_w_len]; exact hi), tt_w_at, if_pos hi, hag i hi, va_up_ne _ _ (by omega)]
    obtain ⟨e1, he1⟩ := Option.isSome_iff_exists.mp ((hw i).mp hi)
    rw [he1]
    show some (_, tt_e ca _ e1) = some (_, tt_e ca ad e1)
    rw [tt_e_eq hag (ho i e1 he1)]
  · rw [List.getElem?_append_right (by rw [tt_w_len]; omega), tt_w_len]
    by_cases hin : i = n
    · subst hin
      rw [if_pos (by omega), Nat.sub_self, va_up_self, va_up_self]
      show some (q, tt_e ca _ e) = some (q, tt_e ca ad e)
      rw [tt_e_eq hag he]
    · rw [if_neg (by omega), List.getElem?_eq_none (by simp; omega)]
/-! THE LOCALS: a list by their numbers, in order -/
def tt_ins (i : Nat) (v : Value) : List (Nat × Value) → List (Nat × Value)
  | [] => [(i, v)]
  | q :: r => match Nat.decLt i q.1 with
    | isTrue _ => (i, v) :: q :: r
    | isFalse _ => q :: tt_ins i v r
def tt_cl1 (i : Nat) : List (Nat × Value) → List (Nat × Value)
  | [] => []
  | q :: r => if (!(q.1 == i) && !(q.1 + 1 == i && q.2.category == 2)) = true then q :: tt_cl1 i r else tt_cl1 i r
def tt_cl2 (i : Nat) : List (Nat × Value) → List (Nat × Value)
  | [] => []
  | q :: r => if (!(q.1 == i) && (!(q.1 == i + 1) && !(q.1 + 1 == i && q.2.category == 2))) = true then q :: tt_cl2 i r else tt_cl2 i r
def tt_put (i : Nat) (v : Value) (L : List (Nat × Value)) : List (Nat × Value) := tt_ins i v (tt_cl1 i L)
def tt_put2 (i : Nat) (v : Value) (L : List (Nat × Value)) : List (Nat × Value) := tt_ins i v (tt_cl2 i L)
theorem tt_ins_mem {i : Nat} {v : Value} : ∀ {L : List (Nat × Value)} {q : Nat × Value}, q ∈ tt_ins i v L → q = (i, v) ∨ q ∈ L
  | [], q, h => Or.inl (List.mem_singleton.mp h)
  | a :: r, q, h => by
    unfold tt_ins at h
    cases hd : Nat.decLt i a.1 with
    | isTrue _ =>
      rw [hd] at h
      rcases List.mem_cons.mp h with h | h
      · exact Or.inl h
      · exact Or.inr h
    | isFalse _ =>
      rw [hd] at h
      rcases List.mem_cons.mp h with h | h
      · exact Or.inr (by rw [h]; exact List.mem_cons_self)
      · rcases tt_ins_mem h with h | h
        · exact Or.inl h
        · exact Or.inr (List.mem_cons_of_mem _ h)
theorem tt_cl1_mem {i : Nat} : ∀ {L : List (Nat × Value)} {q : Nat × Value}, q ∈ tt_cl1 i L → q ∈ L.filter (fun q => !(q.1 == i) && !(q.1 + 1 == i && q.2.category == 2))
  | [], q, h => h
  | a :: r, q, h => by
    unfold tt_cl1 at h
    by_cases hc : (!(a.1 == i) && !(a.1 + 1 == i && a.2.category == 2)) = true
    · rw [if_pos hc] at h
      rw [List.filter_cons_of_pos (by exact hc)]
      rcases List.mem_cons.mp h with h | h
      · rw [h]; exact List.mem_cons_self
      · exact List.mem_cons_of_mem _ (tt_cl1_mem h)
    · rw [if_neg hc] at h
      rw [List.filter_cons_of_neg (by exact hc)]
      exact tt_cl1_mem h
theorem tt_cl2_mem {i : Nat} : ∀ {L : List (Nat × Value)} {q : Nat × Value}, q ∈ tt_cl2 i L → q ∈ L.filter (fun q => !(q.1 == i) && (!(q.1 == i + 1) && !(q.1 + 1 == i && q.2.category == 2)))
  | [], q, h => h
  | a :: r, q, h => by
    unfold tt_cl2 at h
    by_cases hc : (!(a.1 == i) && (!(a.1 == i + 1) && !(a.1 + 1 == i && a.2.category == 2))) = true
    · rw [if_pos hc] at h
      rw [List.filter_cons_of_pos (by exact hc)]
      rcases List.mem_cons.mp h with h | h
      · rw [h]; exact List.mem_cons_self
      · exact List.mem_cons_of_mem _ (tt_cl2_mem h)
    · rw [if_neg hc] at h
      rw [List.filter_cons_of_neg (by exact hc)]
      exact tt_cl2_mem h
def tt_m (ad : Nat → Nat) (L : List (Nat × Value)) : List (Nat × Value) := L.map (fun q => (q.1, tt_v ad q.2))
theorem tt_look {ls : Array Slot} {nL : Nat} {ad : Nat → Nat} {L : List (Nat × Value)} (h : lv_has ls nL (tt_m ad L)) {i : Nat} {v : Value} (hl : L.lookup i = some v) : ls[i]? = some (.val (tt_v ad v)) := by
  refine h.2.2 (i, tt_v ad v) (List.mem_map.mpr ⟨(i, v), ?_, rfl⟩)
  clear h
  induction L with
  | nil => cases hl
  | cons a r ih =>
    obtain ⟨k, w⟩ := a
    by_cases hk : i == k
    · rw [List.lookup_cons] at hl
      rw [hk] at hl
      cases hl
      rw [beq_iff_eq.mp hk]
      exact List.mem_cons_self
    · rw [List.lookup_cons] at hl
      simp only [hk] at hl
      exact List.mem_cons_of_mem _ (ih hl)
theorem tt_st1 {ls : Array Slot} {nL : Nat} {ad : Nat → Nat} {L : List (Nat × Value)} {i : Nat} {v : Value} (h : lv_has ls nL ((i, tt_v ad v) :: (tt_m ad L).filter (fun q => !(q.1 == i) && !(q.1 + 1 == i && q.2.category == 2)))) : lv_has ls nL (tt_m ad (tt_put i v L)) := by
  refine ⟨h.1, h.2.1, fun q hq => h.2.2 q ?_⟩
  obtain ⟨q0, h0, rfl⟩ := List.mem_map.mp hq
  rcases tt_ins_mem h0 with h0 | h0
  · subst h0; exact List.mem_cons_self
  · refine List.mem_cons_of_mem _ (List.mem_filter.mpr ?_)
    obtain ⟨m1, m2⟩ := List.mem_filter.mp (tt_cl1_mem h0)
    exact ⟨List.mem_map.mpr ⟨q0, m1, rfl⟩, by rw [tt_v_cat]; exact m2⟩
theorem tt_st2 {ls : Array Slot} {nL : Nat} {ad : Nat → Nat} {L : List (Nat × Value)} {i : Nat} {v : Value} (h : lv_has ls nL ((i, tt_v ad v) :: (tt_m ad L).filter (fun q => !(q.1 == i) && (!(q.1 == i + 1) && !(q.1 + 1 == i && q.2.category == 2))))) : lv_has ls nL (tt_m ad (tt_put2 i v L)) := by
  refine ⟨h.1, h.2.1, fun q hq => h.2.2 q ?_⟩
  obtain ⟨q0, h0, rfl⟩ := List.mem_map.mp hq
  rcases tt_ins_mem h0 with h0 | h0
  · subst h0; exact List.mem_cons_self
  · refine List.mem_cons_of_mem _ (List.mem_filter.mpr ?_)
    obtain ⟨m1, m2⟩ := List.mem_filter.mp (tt_cl2_mem h0)
    exact ⟨List.mem_map.mpr ⟨q0, m1, rfl⟩, by rw [tt_v_cat]; exact m2⟩
def tt_args : Nat → List Value → List (Nat × Value)
  | _, [] => []
  | i, v :: vs => (i, v) :: tt_args (if v.category = 2 then i + 2 else i + 1) vs
theorem tt_args_m (ad : Nat → Nat) : ∀ (vs : List Value) (i : Nat), lv_args i (vs.map (tt_v ad)) = tt_m ad (tt_args i vs)
  | [], _ => rfl
  | v :: vs, i => by
    show (i, tt_v ad v) :: lv_args _ (vs.map (tt_v ad)) = (i, tt_v ad v) :: tt_m ad (tt_args _ vs)
    rw [tt_v_cat, tt_args_m ad vs]
/-! THE JUDGEMENT. K: the machine around (program, launch, environment, room, the state at entry, method, arguments, frames below, the method's row, its code, what is wanted, the classes, the array classes, what may be written, how many locals) -/
abbrev tt_K : Type := Program × Launch × Env × Room × State × MethodId × Array Value × List Frame × Method × Code × (State → Prop) × va_G × (Nat → ClassId) × (Nat → Prop) × Nat × Option Nat
def tt_nk (nz : Option Nat) (n : Nat) : Prop := match nz with
  | some n0 => n = n0
  | none => True
def tt_I (cl : List vw_C) (K : tt_K) (ad : Nat → Nat) (n : Nat) (h : tt_H) (H : Heap) (locs : List Loc) : Prop := match K with
  | (_, _, _, _, s, _, _, _, _, _, _, D, ca, A, _, nz) => tt_wf n h ∧ va_P D cl (tt_w ca ad n h) H ∧ va_D A (tt_w ca ad n h) ∧ va_S A s.heap H locs ∧ tt_nk nz n
def tt_T (cl : List vw_C) (K : tt_K) (ad : Nat → Nat) (kc ks pc : Nat) (L : List (Nat × Value)) (st : List Value) (h : tt_H) : Prop := match K with
  | (p, l, e, R, s, m, args, below, meth, c, Q, D, ca, A, nL, nz) => ∀ (n : Nat) (H : Heap) (locs : List Loc) (ls : Array Slot), tt_I cl (p, l, e, R, s, m, args, below, meth, c, Q, D, ca, A, nL, nz) ad n h H locs → lv_has ls nL (tt_m ad L) → W p l e R s m args below meth c H locs kc ks Q (F0 m pc ls (st.map (tt_v ad)))
/-- what is known of the machine around -/
def tt_X (cl : List vw_C) (K : tt_K) (cc : ByteArray) (own : String) (ret : Option FieldType) (Ts : List Cond) : Prop := match K with
  | (p, _, _, _, s, m, args, _, meth, c, _, D, ca, A, nL, _) => p.tables.exec = Jvm.exec ∧ c.code = cc ∧ c.maxLocals = nL ∧ s.vm.findClass own = some m.cls ∧ (∀ w ∈ Ts, w.before args s = true) ∧ meth.sig.returnType = ret ∧ meth.locks = false ∧ va_K D cl (tt_tys ca) s ∧ (∀ q : Nat, s.heap.size ≤ q → A q)
def tt_nL (K : tt_K) : Nat := match K with
  | (_, _, _, _, _, _, _, _, _, _, _, _, _, _, nL, _) => nL
def tt_mn (K : tt_K) : String := match K with
  | (_, _, _, _, _, _, _, _, meth, _, _, _, _, _, _, _) => meth.name
def tt_R (K : tt_K) : Room := match K with
  | (_, _, _, R, _, _, _, _, _, _, _, _, _, _, _, _) => R
section TTR
variable {cl : List vw_C} {K : tt_K} {ad : Nat → Nat} {kc ks pc : Nat} {L : List (Nat × Value)} {st : List Value} {h : tt_H} {cc : ByteArray} {own : String} {ret : Option FieldType} {Ts : List Cond}
theorem tt_iconst (X : tt_X cl K cc own ret Ts) {n : Int} {v : Int32} (hd : decode cc pc = .ok (.iconst n, 1)) (hv : Int32.ofInt n = v) (kk : tt_T cl K ad kc ks (pc + 1) L (.int v :: st) h) : tt_T cl K ad kc ks pc L st h := by
  obtain ⟨p, l, e, R, s, m, args, below, meth, c, Q, D, ca, A, nL, nz⟩ := K
  exact fun n H locs ls hI hl => lv_iconst X.1 X.2.1 hd hv (kk n H locs ls hI hl)
theorem tt_bipush (X : tt_X cl K cc own ret Ts) {n : Int} {v : Int32} (hd : decode cc pc = .ok (.bipush n, 2)) (hv : (Int8.ofInt n).toInt32 = v) (kk : tt_T cl K ad kc ks (pc + 2) L (.int v :: st) h) : tt_T cl K ad kc ks pc L st h := by
  obtain ⟨p, l, e, R, s, m, args, below, meth, c, Q, D, ca, A, nL, nz⟩ := K
  exact fun n H locs ls hI hl => lv_bipush X.1 X.2.1 hd hv (kk n H locs ls hI hl)
theorem tt_sipush (X : tt_X cl K cc own ret Ts) {n : Int} {v : Int32} (hd : decode cc pc = .ok (.sipush n, 3)) (hv : (Int16.ofInt n).toInt32 = v) (kk : tt_T cl K ad kc ks (pc + 3) L (.int v :: st) h) : tt_T cl K ad kc ks pc L st h := by
  obtain ⟨p, l, e, R, s, m, args, below, meth, c, Q, D, ca, A, nL, nz⟩ := K
  exact fun n H locs ls hI hl => lv_sipush X.1 X.2.1 hd hv (kk n H locs ls hI hl)
theorem tt_lconst (X : tt_X cl K cc own ret Ts) {n : Fin 2} {v : Int64} (hd : decode cc pc = .ok (.lconst n, 1)) (hv : Int64.ofNat (n : Nat) = v) (kk : tt_T cl K ad kc ks (pc + 1) L (.long v :: st) h) : tt_T cl K ad kc ks pc L st h := by
  obtain ⟨p, l, e, R, s, m, args, below, meth, c, Q, D, ca, A, nL, nz⟩ := K
  exact fun n H locs ls hI hl => lv_lconst X.1 X.2.1 hd hv (kk n H locs ls hI hl)
theorem tt_ldc2 (X : tt_X cl K cc own ret Ts) {index : Nat} {v : Int64} (hcn : Jvm.Cond.constantLong own index v ∈ Ts) (hd : decode cc pc = .ok (.ldc2_w index, 3)) (kk : tt_T cl K ad kc ks (pc + 3) L (.long v :: st) h) : tt_T cl K ad kc ks pc L st h := by
  obtain ⟨p, l, e, R, s, m, args, below, meth, c, Q, D, ca, A, nL, nz⟩ := K
  exact fun n H locs ls hI hl => lv_ldc2 X.1 X.2.1 X.2.2.2.1 (X.2.2.2.2.1 _ hcn) hd (kk n H locs ls hI hl)
theorem tt_iload_n (X : tt_X cl K cc own ret Ts) {k : Fin 4} {x : Int32} (hd : decode cc pc = .ok (.iload_n k, 1)) (hl : L.lookup (k : Nat) = some (.int x)) (kk : tt_T cl K ad kc ks (pc + 1) L (.int x :: st) h) : tt_T cl K ad kc ks pc L st h := by
  obtain ⟨p, l, e, R, s, m, args, below, meth, c, Q, D, ca, A, nL, nz⟩ := K
  exact fun n H locs ls hI hv => lv_iload_n X.1 X.2.1 hd rfl (tt_look hv hl) (kk n H locs ls hI hv)
theorem tt_iload (X : tt_X cl K cc own ret Ts) {i : Nat} {x : Int32} (hd : decode cc pc = .ok (.iload i, 2)) (hl : L.lookup i = some (.int x)) (kk : tt_T cl K ad kc ks (pc + 2) L (.int x :: st) h) : tt_T cl K ad kc ks pc L st h := by
  obtain ⟨p, l, e, R, s, m, args, below, meth, c, Q, D, ca, A, nL, nz⟩ := K
  exact fun n H locs ls hI hv => lv_iload X.1 X.2.1 hd (tt_look hv hl) (kk n H locs ls hI hv)
theorem tt_lload_n (X : tt_X cl K cc own ret Ts) {k : Fin 4} {x : Int64} (hd : decode cc pc = .ok (.lload_n k, 1)) (hl : L.lookup (k : Nat) = some (.long x)) (kk : tt_T cl K ad kc ks (pc + 1) L (.long x :: st) h) : tt_T cl K ad kc ks pc L st h := by
  obtain ⟨p, l, e, R, s, m, args, below, meth, c, Q, D, ca, A, nL, nz⟩ := K
  exact fun n H locs ls hI hv => lv_lload_n X.1 X.2.1 hd rfl (tt_look hv hl) (kk n H locs ls hI hv)
theorem tt_lload (X : tt_X cl K cc own ret Ts) {i : Nat} {x : Int64} (hd : decode cc pc = .ok (.lload i, 2)) (hl : L.lookup i = some (.long x)) (kk : tt_T cl K ad kc ks (pc + 2) L (.long x :: st) h) : tt_T cl K ad kc ks pc L st h := by
  obtain ⟨p, l, e, R, s, m, args, below, meth, c, Q, D, ca, A, nL, nz⟩ := K
  exact fun n H locs ls hI hv => lv_lload X.1 X.2.1 hd (tt_look hv hl) (kk n H locs ls hI hv)
theorem tt_aload_n (X : tt_X cl K cc own ret Ts) {k : Fin 4} {x : Nat} (hd : decode cc pc = .ok (.aload_n k, 1)) (hl : L.lookup (k : Nat) = some (.ref x)) (kk : tt_T cl K ad kc ks (pc + 1) L (.ref x :: st) h) : tt_T cl K ad kc ks pc L st h := by
  obtain ⟨p, l, e, R, s, m, args, below, meth, c, Q, D, ca, A, nL, nz⟩ := K
  exact fun n H locs ls hI hv => lv_aload_n X.1 X.2.1 hd rfl (tt_look hv hl) (kk n H locs ls hI hv)
theorem tt_aload (X : tt_X cl K cc own ret Ts) {i : Nat} {x : Nat} (hd : decode cc pc = .ok (.aload i, 2)) (hl : L.lookup i = some (.ref x)) (kk : tt_T cl K ad kc ks (pc + 2) L (.ref x :: st) h) : tt_T cl K ad kc ks pc L st h := by
  obtain ⟨p, l, e, R, s, m, args, below, meth, c, Q, D, ca, A, nL, nz⟩ := K
  exact fun n H locs ls hI hv => lv_aload X.1 X.2.1 hd (tt_look hv hl) (kk n H locs ls hI hv)
theorem tt_look_at {ad : Nat → Nat} {L : List (Nat × Value)} {i : Nat} {v : Value} (hl : L.lookup i = some v) : ∃ k : Nat, (tt_m ad L)[k]? = some (i, tt_v ad v) := by
  refine List.getElem?_of_mem (List.mem_map.mpr ⟨(i, v), ?_, rfl⟩)
  induction L with
  | nil => cases hl
  | cons a r ih =>
    obtain ⟨k, w⟩ := a
    by_cases hk : i == k
    · rw [List.lookup_cons] at hl
      rw [hk] at hl
      cases hl
      rw [beq_iff_eq.mp hk]
      exact List.mem_cons_self
    · rw [List.lookup_cons] at hl
      simp only [hk] at hl
      exact List.mem_cons_of_mem _ (ih hl)
theorem tt_tys_at (ca : Nat → ClassId) {t : Nat} {ty : FieldType} (ht : tt_tyl[t]? = some ty) : (tt_tys ca)[t]? = some (ca t, ty) := by
  match t, ht with
  | 0, ht => cases ht; rfl
  | 1, ht => cases ht; rfl
  | 2, ht => cases ht; rfl
  | 3, ht => cases ht; rfl
  | 4, ht => cases ht; rfl
  | t + 5, ht => simp [tt_tyl] at ht
theorem tt_istore_n (X : tt_X cl K cc own ret Ts) {k : Fin 4} {x : Int32} (hd : decode cc pc = .ok (.istore_n k, 1)) (hn : (k : Nat) < tt_nL K) (kk : tt_T cl K ad kc ks (pc + 1) (tt_put (k : Nat) (.int x) L) st h) : tt_T cl K ad kc ks pc L (.int x :: st) h := by
  obtain ⟨p, l, e, R, s, m, args, below, meth, c, Q, D, ca, A, nL, nz⟩ := K
  exact fun n H locs ls hI hv => lv_istore_n X.1 X.2.1 hd rfl hv hn rfl (fun ls' hv' => kk n H locs ls' hI (tt_st1 (v := .int x) hv'))
theorem tt_istore (X : tt_X cl K cc own ret Ts) {i : Nat} {x : Int32} (hd : decode cc pc = .ok (.istore i, 2)) (hn : i < tt_nL K) (kk : tt_T cl K ad kc ks (pc + 2) (tt_put i (.int x) L) st h) : tt_T cl K ad kc ks pc L (.int x :: st) h := by
  obtain ⟨p, l, e, R, s, m, args, below, meth, c, Q, D, ca, A, nL, nz⟩ := K
  exact fun n H locs ls hI hv => lv_istore X.1 X.2.1 hd hv hn rfl (fun ls' hv' => kk n H locs ls' hI (tt_st1 (v := .int x) hv'))
theorem tt_lstore_n (X : tt_X cl K cc own ret Ts) {k : Fin 4} {x : Int64} (hd : decode cc pc = .ok (.lstore_n k, 1)) (hn : (k : Nat) + 1 < tt_nL K) (kk : tt_T cl K ad kc ks (pc + 1) (tt_put2 (k : Nat) (.long x) L) st h) : tt_T cl K ad kc ks pc L (.long x :: st) h := by
  obtain ⟨p, l, e, R, s, m, args, below, meth, c, Q, D, ca, A, nL, nz⟩ := K
  exact fun n H locs ls hI hv => lv_lstore_n X.1 X.2.1 hd rfl hv hn rfl (fun ls' hv' => kk n H locs ls' hI (tt_st2 (v := .long x) hv'))
theorem tt_lstore (X : tt_X cl K cc own ret Ts) {i : Nat} {x : Int64} (hd : decode cc pc = .ok (.lstore i, 2)) (hn : i + 1 < tt_nL K) (kk : tt_T cl K ad kc ks (pc + 2) (tt_put2 i (.long x) L) st h) : tt_T cl K ad kc ks pc L (.long x :: st) h := by
  obtain ⟨p, l, e, R, s, m, args, below, meth, c, Q, D, ca, A, nL, nz⟩ := K
  exact fun n H locs ls hI hv => lv_lstore X.1 X.2.1 hd hv hn rfl (fun ls' hv' => kk n H locs ls' hI (tt_st2 (v := .long x) hv'))
theorem tt_astore_n (X : tt_X cl K cc own ret Ts) {k : Fin 4} {x : Nat} (hd : decode cc pc = .ok (.astore_n k, 1)) (hn : (k : Nat) < tt_nL K) (kk : tt_T cl K ad kc ks (pc + 1) (tt_put (k : Nat) (.ref x) L) st h) : tt_T cl K ad kc ks pc L (.ref x :: st) h := by
  obtain ⟨p, l, e, R, s, m, args, below, meth, c, Q, D, ca, A, nL, nz⟩ := K
  exact fun n H locs ls hI hv => lv_astore_n X.1 X.2.1 hd rfl hv hn rfl (fun ls' hv' => kk n H locs ls' hI (tt_st1 (v := .ref x) hv'))
theorem tt_astore (X : tt_X cl K cc own ret Ts) {i : Nat} {x : Nat} (hd : decode cc pc = .ok (.astore i, 2)) (hn : i < tt_nL K) (kk : tt_T cl K ad kc ks (pc + 2) (tt_put i (.ref x) L) st h) : tt_T cl K ad kc ks pc L (.ref x :: st) h := by
  obtain ⟨p, l, e, R, s, m, args, below, meth, c, Q, D, ca, A, nL, nz⟩ := K
  exact fun n H locs ls hI hv => lv_astore X.1 X.2.1 hd hv hn rfl (fun ls' hv' => kk n H locs ls' hI (tt_st1 (v := .ref x) hv'))
theorem tt_iinc (X : tt_X cl K cc own ret Ts) {i : Nat} {n : Int} {x v : Int32} (hd : decode cc pc = .ok (.iinc i n, 3)) (hl : L.lookup i = some (.int x)) (hz : x + Int32.ofInt n = v) (hn : i < tt_nL K) (kk : tt_T cl K ad kc ks (pc + 3) (tt_put i (.int v) L) st h) : tt_T cl K ad kc ks pc L st h := by
  obtain ⟨p, l, e, R, s, m, args, below, meth, c, Q, D, ca, A, nL, nz⟩ := K
  intro n0 H locs ls hI hv
  obtain ⟨k, hk⟩ := tt_look_at (ad := ad) hl
  exact lv_iinc X.1 X.2.1 hd hv hk hz hn rfl (fun ls' hv' => kk n0 H locs ls' hI (tt_st1 (v := .int v) hv'))
theorem tt_iadd (X : tt_X cl K cc own ret Ts) {x y : Int32} (hd : decode cc pc = .ok (.iadd, 1)) (kk : tt_T cl K ad kc ks (pc + 1) L (.int (x + y) :: st) h) : tt_T cl K ad kc ks pc L (.int y :: .int x :: st) h := by
  obtain ⟨p, l, e, R, s, m, args, below, meth, c, Q, D, ca, A, nL, nz⟩ := K
  exact fun n H locs ls hI hv => lv_iadd X.1 X.2.1 hd (kk n H locs ls hI hv)
theorem tt_isub (X : tt_X cl K cc own ret Ts) {x y : Int32} (hd : decode cc pc = .ok (.isub, 1)) (kk : tt_T cl K ad kc ks (pc + 1) L (.int (x - y) :: st) h) : tt_T cl K ad kc ks pc L (.int y :: .int x :: st) h := by
  obtain ⟨p, l, e, R, s, m, args, below, meth, c, Q, D, ca, A, nL, nz⟩ := K
  exact fun n H locs ls hI hv => lv_isub X.1 X.2.1 hd (kk n H locs ls hI hv)
theorem tt_imul (X : tt_X cl K cc own ret Ts) {x y : Int32} (hd : decode cc pc = .ok (.imul, 1)) (kk : tt_T cl K ad kc ks (pc + 1) L (.int (x * y) :: st) h) : tt_T cl K ad kc ks pc L (.int y :: .int x :: st) h := by
  obtain ⟨p, l, e, R, s, m, args, below, meth, c, Q, D, ca, A, nL, nz⟩ := K
  exact fun n H locs ls hI hv => lv_imul X.1 X.2.1 hd (kk n H locs ls hI hv)
theorem tt_iand (X : tt_X cl K cc own ret Ts) {x y : Int32} (hd : decode cc pc = .ok (.iand, 1)) (kk : tt_T cl K ad kc ks (pc + 1) L (.int (x &&& y) :: st) h) : tt_T cl K ad kc ks pc L (.int y :: .int x :: st) h := by
  obtain ⟨p, l, e, R, s, m, args, below, meth, c, Q, D, ca, A, nL, nz⟩ := K
  exact fun n H locs ls hI hv => lv_iand X.1 X.2.1 hd (kk n H locs ls hI hv)
theorem tt_ior (X : tt_X cl K cc own ret Ts) {x y : Int32} (hd : decode cc pc = .ok (.ior, 1)) (kk : tt_T cl K ad kc ks (pc + 1) L (.int (x ||| y) :: st) h) : tt_T cl K ad kc ks pc L (.int y :: .int x :: st) h := by
  obtain ⟨p, l, e, R, s, m, args, below, meth, c, Q, D, ca, A, nL, nz⟩ := K
  exact fun n H locs ls hI hv => lv_ior X.1 X.2.1 hd (kk n H locs ls hI hv)
theorem tt_ixor (X : tt_X cl K cc own ret Ts) {x y : Int32} (hd : decode cc pc = .ok (.ixor, 1)) (kk : tt_T cl K ad kc ks (pc + 1) L (.int (x ^^^ y) :: st) h) : tt_T cl K ad kc ks pc L (.int y :: .int x :: st) h := by
  obtain ⟨p, l, e, R, s, m, args, below, meth, c, Q, D, ca, A, nL, nz⟩ := K
  exact fun n H locs ls hI hv => lv_ixor X.1 X.2.1 hd (kk n H locs ls hI hv)
theorem tt_ishl (X : tt_X cl K cc own ret Ts) {x y : Int32} (hd : decode cc pc = .ok (.ishl, 1)) (kk : tt_T cl K ad kc ks (pc + 1) L (.int (x <<< (y &&& 31)) :: st) h) : tt_T cl K ad kc ks pc L (.int y :: .int x :: st) h := by
  obtain ⟨p, l, e, R, s, m, args, below, meth, c, Q, D, ca, A, nL, nz⟩ := K
  exact fun n H locs ls hI hv => lv_ishl X.1 X.2.1 hd (kk n H locs ls hI hv)
theorem tt_ishr (X : tt_X cl K cc own ret Ts) {x y : Int32} (hd : decode cc pc = .ok (.ishr, 1)) (kk : tt_T cl K ad kc ks (pc + 1) L (.int (x >>> (y &&& 31)) :: st) h) : tt_T cl K ad kc ks pc L (.int y :: .int x :: st) h := by
  obtain ⟨p, l, e, R, s, m, args, below, meth, c, Q, D, ca, A, nL, nz⟩ := K
  exact fun n H locs ls hI hv => lv_ishr X.1 X.2.1 hd (kk n H locs ls hI hv)
theorem tt_ladd (X : tt_X cl K cc own ret Ts) {x y : Int64} (hd : decode cc pc = .ok (.ladd, 1)) (kk : tt_T cl K ad kc ks (pc + 1) L (.long (x + y) :: st) h) : tt_T cl K ad kc ks pc L (.long y :: .long x :: st) h := by
  obtain ⟨p, l, e, R, s, m, args, below, meth, c, Q, D, ca, A, nL, nz⟩ := K
  exact fun n H locs ls hI hv => lv_ladd X.1 X.2.1 hd (kk n H locs ls hI hv)
theorem tt_lsub (X : tt_X cl K cc own ret Ts) {x y : Int64} (hd : decode cc pc = .ok (.lsub, 1)) (kk : tt_T cl K ad kc ks (pc + 1) L (.long (x - y) :: st) h) : tt_T cl K ad kc ks pc L (.long y :: .long x :: st) h := by
  obtain ⟨p, l, e, R, s, m, args, below, meth, c, Q, D, ca, A, nL, nz⟩ := K
  exact fun n H locs ls hI hv => lv_lsub X.1 X.2.1 hd (kk n H locs ls hI hv)
theorem tt_idiv (X : tt_X cl K cc own ret Ts) {x y : Int32} (hd : decode cc pc = .ok (.idiv, 1)) (hne : ¬ y = 0) (kk : tt_T cl K ad kc ks (pc + 1) L (.int (x / y) :: st) h) : tt_T cl K ad kc ks pc L (.int y :: .int x :: st) h := by
  obtain ⟨p, l, e, R, s, m, args, below, meth, c, Q, D, ca, A, nL, nz⟩ := K
  exact fun n H locs ls hI hv => lv_idiv X.1 X.2.1 hd hne (kk n H locs ls hI hv)
theorem tt_irem (X : tt_X cl K cc own ret Ts) {x y : Int32} (hd : decode cc pc = .ok (.irem, 1)) (hne : ¬ y = 0) (kk : tt_T cl K ad kc ks (pc + 1) L (.int (x - x / y * y) :: st) h) : tt_T cl K ad kc ks pc L (.int y :: .int x :: st) h := by
  obtain ⟨p, l, e, R, s, m, args, below, meth, c, Q, D, ca, A, nL, nz⟩ := K
  exact fun n H locs ls hI hv => lv_irem X.1 X.2.1 hd hne (kk n H locs ls hI hv)
theorem tt_lcmp (X : tt_X cl K cc own ret Ts) {x y : Int64} (hd : decode cc pc = .ok (.lcmp, 1)) (kk : tt_T cl K ad kc ks (pc + 1) L (.int (lg_cmp x y) :: st) h) : tt_T cl K ad kc ks pc L (.long y :: .long x :: st) h := by
  obtain ⟨p, l, e, R, s, m, args, below, meth, c, Q, D, ca, A, nL, nz⟩ := K
  exact fun n H locs ls hI hv => W.lcmp X.1 X.2.1 hd (kk n H locs ls hI hv)
theorem tt_i2l (X : tt_X cl K cc own ret Ts) {x : Int32} (hd : decode cc pc = .ok (.i2l, 1)) (kk : tt_T cl K ad kc ks (pc + 1) L (.long (x.toInt64) :: st) h) : tt_T cl K ad kc ks pc L (.int x :: st) h := by
  obtain ⟨p, l, e, R, s, m, args, below, meth, c, Q, D, ca, A, nL, nz⟩ := K
  exact fun n H locs ls hI hv => lv_i2l X.1 X.2.1 hd rfl (kk n H locs ls hI hv)
theorem tt_l2i (X : tt_X cl K cc own ret Ts) {x : Int64} (hd : decode cc pc = .ok (.l2i, 1)) (kk : tt_T cl K ad kc ks (pc + 1) L (.int (x.toInt32) :: st) h) : tt_T cl K ad kc ks pc L (.long x :: st) h := by
  obtain ⟨p, l, e, R, s, m, args, below, meth, c, Q, D, ca, A, nL, nz⟩ := K
  exact fun n H locs ls hI hv => lv_l2i X.1 X.2.1 hd rfl (kk n H locs ls hI hv)
theorem tt_i2b (X : tt_X cl K cc own ret Ts) {x : Int32} (hd : decode cc pc = .ok (.i2b, 1)) (kk : tt_T cl K ad kc ks (pc + 1) L (.int (x.toInt8.toInt32) :: st) h) : tt_T cl K ad kc ks pc L (.int x :: st) h := by
  obtain ⟨p, l, e, R, s, m, args, below, meth, c, Q, D, ca, A, nL, nz⟩ := K
  exact fun n H locs ls hI hv => lv_i2b X.1 X.2.1 hd rfl (kk n H locs ls hI hv)
theorem tt_i2s (X : tt_X cl K cc own ret Ts) {x : Int32} (hd : decode cc pc = .ok (.i2s, 1)) (kk : tt_T cl K ad kc ks (pc + 1) L (.int (x.toInt16.toInt32) :: st) h) : tt_T cl K ad kc ks pc L (.int x :: st) h := by
  obtain ⟨p, l, e, R, s, m, args, below, meth, c, Q, D, ca, A, nL, nz⟩ := K
  exact fun n H locs ls hI hv => lv_i2s X.1 X.2.1 hd rfl (kk n H locs ls hI hv)
theorem tt_dup (X : tt_X cl K cc own ret Ts) {a : Value} (hd : decode cc pc = .ok (.dup, 1)) (ha : a.category = 1) (kk : tt_T cl K ad kc ks (pc + 1) L (a :: a :: st) h) : tt_T cl K ad kc ks pc L (a :: st) h := by
  obtain ⟨p, l, e, R, s, m, args, below, meth, c, Q, D, ca, A, nL, nz⟩ := K
  exact fun n H locs ls hI hv => lv_dup X.1 X.2.1 hd (by rw [tt_v_cat]; exact ha) (kk n H locs ls hI hv)
theorem tt_pop (X : tt_X cl K cc own ret Ts) {a : Value} (hd : decode cc pc = .ok (.pop, 1)) (ha : a.category = 1) (kk : tt_T cl K ad kc ks (pc + 1) L st h) : tt_T cl K ad kc ks pc L (a :: st) h := by
  obtain ⟨p, l, e, R, s, m, args, below, meth, c, Q, D, ca, A, nL, nz⟩ := K
  exact fun n H locs ls hI hv => lv_pop X.1 X.2.1 hd (by rw [tt_v_cat]; exact ha) (kk n H locs ls hI hv)
theorem tt_dup2 (X : tt_X cl K cc own ret Ts) {a b : Value} (hd : decode cc pc = .ok (.dup2, 1)) (ha : a.category = 1) (hb : b.category = 1) (kk : tt_T cl K ad kc ks (pc + 1) L (a :: b :: a :: b :: st) h) : tt_T cl K ad kc ks pc L (a :: b :: st) h := by
  obtain ⟨p, l, e, R, s, m, args, below, meth, c, Q, D, ca, A, nL, nz⟩ := K
  exact fun n H locs ls hI hv => lv_dup2_11 X.1 X.2.1 hd (by rw [tt_v_cat]; exact ha) (by rw [tt_v_cat]; exact hb) (kk n H locs ls hI hv)
theorem tt_if_eq (X : tt_X cl K cc own ret Ts) {x : Int32} {off : Int} {tgt : Nat} (hd : decode cc pc = .ok (.ifCond .eq off, 3)) (ht : (pc : Int) + off = (tgt : Int)) (kt : x = 0 → tt_T cl K ad kc ks tgt L st h) (kf : ¬ x = 0 → tt_T cl K ad kc ks (pc + 3) L st h) : tt_T cl K ad kc ks pc L (.int x :: st) h := by
  obtain ⟨p, l, e, R, s, m, args, below, meth, c, Q, D, ca, A, nL, nz⟩ := K
  exact fun n H locs ls hI hv => lv_if_eq X.1 X.2.1 hd ht (fun q => kt q n H locs ls hI hv) (fun q => kf q n H locs ls hI hv)
theorem tt_icmp_eq (X : tt_X cl K cc own ret Ts) {x y : Int32} {off : Int} {tgt : Nat} (hd : decode cc pc = .ok (.if_icmp .eq off, 3)) (ht : (pc : Int) + off = (tgt : Int)) (kt : x = y → tt_T cl K ad kc ks tgt L st h) (kf : ¬ x = y → tt_T cl K ad kc ks (pc + 3) L st h) : tt_T cl K ad kc ks pc L (.int y :: .int x :: st) h := by
  obtain ⟨p, l, e, R, s, m, args, below, meth, c, Q, D, ca, A, nL, nz⟩ := K
  exact fun n H locs ls hI hv => lv_icmp_eq X.1 X.2.1 hd ht (fun q => kt q n H locs ls hI hv) (fun q => kf q n H locs ls hI hv)
theorem tt_if_ne (X : tt_X cl K cc own ret Ts) {x : Int32} {off : Int} {tgt : Nat} (hd : decode cc pc = .ok (.ifCond .ne off, 3)) (ht : (pc : Int) + off = (tgt : Int)) (kt : ¬ x = 0 → tt_T cl K ad kc ks tgt L st h) (kf : x = 0 → tt_T cl K ad kc ks (pc + 3) L st h) : tt_T cl K ad kc ks pc L (.int x :: st) h := by
  obtain ⟨p, l, e, R, s, m, args, below, meth, c, Q, D, ca, A, nL, nz⟩ := K
  exact fun n H locs ls hI hv => lv_if_ne X.1 X.2.1 hd ht (fun q => kt q n H locs ls hI hv) (fun q => kf q n H locs ls hI hv)
theorem tt_icmp_ne (X : tt_X cl K cc own ret Ts) {x y : Int32} {off : Int} {tgt : Nat} (hd : decode cc pc = .ok (.if_icmp .ne off, 3)) (ht : (pc : Int) + off = (tgt : Int)) (kt : ¬ x = y → tt_T cl K ad kc ks tgt L st h) (kf : x = y → tt_T cl K ad kc ks (pc + 3) L st h) : tt_T cl K ad kc ks pc L (.int y :: .int x :: st) h := by
  obtain ⟨p, l, e, R, s, m, args, below, meth, c, Q, D, ca, A, nL, nz⟩ := K
  exact fun n H locs ls hI hv => lv_icmp_ne X.1 X.2.1 hd ht (fun q => kt q n H locs ls hI hv) (fun q => kf q n H locs ls hI hv)
theorem tt_if_lt (X : tt_X cl K cc own ret Ts) {x : Int32} {off : Int} {tgt : Nat} (hd : decode cc pc = .ok (.ifCond .lt off, 3)) (ht : (pc : Int) + off = (tgt : Int)) (kt : x < 0 → tt_T cl K ad kc ks tgt L st h) (kf : ¬ x < 0 → tt_T cl K ad kc ks (pc + 3) L st h) : tt_T cl K ad kc ks pc L (.int x :: st) h := by
  obtain ⟨p, l, e, R, s, m, args, below, meth, c, Q, D, ca, A, nL, nz⟩ := K
  exact fun n H locs ls hI hv => lv_if_lt X.1 X.2.1 hd ht (fun q => kt q n H locs ls hI hv) (fun q => kf q n H locs ls hI hv)
theorem tt_icmp_lt (X : tt_X cl K cc own ret Ts) {x y : Int32} {off : Int} {tgt : Nat} (hd : decode cc pc = .ok (.if_icmp .lt off, 3)) (ht : (pc : Int) + off = (tgt : Int)) (kt : x < y → tt_T cl K ad kc ks tgt L st h) (kf : ¬ x < y → tt_T cl K ad kc ks (pc + 3) L st h) : tt_T cl K ad kc ks pc L (.int y :: .int x :: st) h := by
  obtain ⟨p, l, e, R, s, m, args, below, meth, c, Q, D, ca, A, nL, nz⟩ := K
  exact fun n H locs ls hI hv => lv_icmp_lt X.1 X.2.1 hd ht (fun q => kt q n H locs ls hI hv) (fun q => kf q n H locs ls hI hv)
theorem tt_if_ge (X : tt_X cl K cc own ret Ts) {x : Int32} {off : Int} {tgt : Nat} (hd : decode cc pc = .ok (.ifCond .ge off, 3)) (ht : (pc : Int) + off = (tgt : Int)) (kt : 0 ≤ x → tt_T cl K ad kc ks tgt L st h) (kf : ¬ 0 ≤ x → tt_T cl K ad kc ks (pc + 3) L st h) : tt_T cl K ad kc ks pc L (.int x :: st) h := by
  obtain ⟨p, l, e, R, s, m, args, below, meth, c, Q, D, ca, A, nL, nz⟩ := K
  exact fun n H locs ls hI hv => lv_if_ge X.1 X.2.1 hd ht (fun q => kt q n H locs ls hI hv) (fun q => kf q n H locs ls hI hv)
theorem tt_icmp_ge (X : tt_X cl K cc own ret Ts) {x y : Int32} {off : Int} {tgt : Nat} (hd : decode cc pc = .ok (.if_icmp .ge off, 3)) (ht : (pc : Int) + off = (tgt : Int)) (kt : y ≤ x → tt_T cl K ad kc ks tgt L st h) (kf : ¬ y ≤ x → tt_T cl K ad kc ks (pc + 3) L st h) : tt_T cl K ad kc ks pc L (.int y :: .int x :: st) h := by
  obtain ⟨p, l, e, R, s, m, args, below, meth, c, Q, D, ca, A, nL, nz⟩ := K
  exact fun n H locs ls hI hv => lv_icmp_ge X.1 X.2.1 hd ht (fun q => kt q n H locs ls hI hv) (fun q => kf q n H locs ls hI hv)
theorem tt_if_gt (X : tt_X cl K cc own ret Ts) {x : Int32} {off : Int} {tgt : Nat} (hd : decode cc pc = .ok (.ifCond .gt off, 3)) (ht : (pc : Int) + off = (tgt : Int)) (kt : 0 < x → tt_T cl K ad kc ks tgt L st h) (kf : ¬ 0 < x → tt_T cl K ad kc ks (pc + 3) L st h) : tt_T cl K ad kc ks pc L (.int x :: st) h := by
  obtain ⟨p, l, e, R, s, m, args, below, meth, c, Q, D, ca, A, nL, nz⟩ := K
  exact fun n H locs ls hI hv => lv_if_gt X.1 X.2.1 hd ht (fun q => kt q n H locs ls hI hv) (fun q => kf q n H locs ls hI hv)
theorem tt_icmp_gt (X : tt_X cl K cc own ret Ts) {x y : Int32} {off : Int} {tgt : Nat} (hd : decode cc pc = .ok (.if_icmp .gt off, 3)) (ht : (pc : Int) + off = (tgt : Int)) (kt : y < x → tt_T cl K ad kc ks tgt L st h) (kf : ¬ y < x → tt_T cl K ad kc ks (pc + 3) L st h) : tt_T cl K ad kc ks pc L (.int y :: .int x :: st) h := by
  obtain ⟨p, l, e, R, s, m, args, below, meth, c, Q, D, ca, A, nL, nz⟩ := K
  exact fun n H locs ls hI hv => lv_icmp_gt X.1 X.2.1 hd ht (fun q => kt q n H locs ls hI hv) (fun q => kf q n H locs ls hI hv)
theorem tt_if_le (X : tt_X cl K cc own ret Ts) {x : Int32} {off : Int} {tgt : Nat} (hd : decode cc pc = .ok (.ifCond .le off, 3)) (ht : (pc : Int) + off = (tgt : Int)) (kt : x ≤ 0 → tt_T cl K ad kc ks tgt L st h) (kf : ¬ x ≤ 0 → tt_T cl K ad kc ks (pc + 3) L st h) : tt_T cl K ad kc ks pc L (.int x :: st) h := by
  obtain ⟨p, l, e, R, s, m, args, below, meth, c, Q, D, ca, A, nL, nz⟩ := K
  exact fun n H locs ls hI hv => lv_if_le X.1 X.2.1 hd ht (fun q => kt q n H locs ls hI hv) (fun q => kf q n H locs ls hI hv)
theorem tt_icmp_le (X : tt_X cl K cc own ret Ts) {x y : Int32} {off : Int} {tgt : Nat} (hd : decode cc pc = .ok (.if_icmp .le off, 3)) (ht : (pc : Int) + off = (tgt : Int)) (kt : x ≤ y → tt_T cl K ad kc ks tgt L st h) (kf : ¬ x ≤ y → tt_T cl K ad kc ks (pc + 3) L st h) : tt_T cl K ad kc ks pc L (.int y :: .int x :: st) h := by
  obtain ⟨p, l, e, R, s, m, args, below, meth, c, Q, D, ca, A, nL, nz⟩ := K
  exact fun n H locs ls hI hv => lv_icmp_le X.1 X.2.1 hd ht (fun q => kt q n H locs ls hI hv) (fun q => kf q n H locs ls hI hv)
theorem tt_goto (X : tt_X cl K cc own ret Ts) {off : Int} {tgt : Nat} (hd : decode cc pc = .ok (.goto off, 3)) (ht : (pc : Int) + off = (tgt : Int)) (kk : tt_T cl K ad kc ks tgt L st h) : tt_T cl K ad kc ks pc L st h := by
  obtain ⟨p, l, e, R, s, m, args, below, meth, c, Q, D, ca, A, nL, nz⟩ := K
  exact fun n H locs ls hI hv => lv_goto X.1 X.2.1 hd ht (kk n H locs ls hI hv)
theorem tt_null (X : tt_X cl K cc own ret Ts) (hd : decode cc pc = .ok (.aconst_null, 1)) (kk : tt_T cl K ad kc ks (pc + 1) L (.null :: st) h) : tt_T cl K ad kc ks pc L st h := by
  obtain ⟨p, l, e, R, s, m, args, below, meth, c, Q, D, ca, A, nL, nz⟩ := K
  exact fun n H locs ls hI hv => lv_null X.1 X.2.1 hd (kk n H locs ls hI hv)
theorem tt_aload_nN (X : tt_X cl K cc own ret Ts) {k : Fin 4} (hd : decode cc pc = .ok (.aload_n k, 1)) (hl : L.lookup (k : Nat) = some .null) (kk : tt_T cl K ad kc ks (pc + 1) L (.null :: st) h) : tt_T cl K ad kc ks pc L st h := by
  obtain ⟨p, l, e, R, s, m, args, below, meth, c, Q, D, ca, A, nL, nz⟩ := K
  exact fun n H locs ls hI hv => lv_aload_nN X.1 X.2.1 hd rfl (tt_look hv hl) (kk n H locs ls hI hv)
theorem tt_aloadN (X : tt_X cl K cc own ret Ts) {i : Nat} (hd : decode cc pc = .ok (.aload i, 2)) (hl : L.lookup i = some .null) (kk : tt_T cl K ad kc ks (pc + 2) L (.null :: st) h) : tt_T cl K ad kc ks pc L st h := by
  obtain ⟨p, l, e, R, s, m, args, below, meth, c, Q, D, ca, A, nL, nz⟩ := K
  exact fun n H locs ls hI hv => lv_aloadN X.1 X.2.1 hd (tt_look hv hl) (kk n H locs ls hI hv)
theorem tt_astore_nN (X : tt_X cl K cc own ret Ts) {k : Fin 4} (hd : decode cc pc = .ok (.astore_n k, 1)) (hn : (k : Nat) < tt_nL K) (kk : tt_T cl K ad kc ks (pc + 1) (tt_put (k : Nat) .null L) st h) : tt_T cl K ad kc ks pc L (.null :: st) h := by
  obtain ⟨p, l, e, R, s, m, args, below, meth, c, Q, D, ca, A, nL, nz⟩ := K
  exact fun n H locs ls hI hv => lv_astore_nN X.1 X.2.1 hd rfl hv hn rfl (fun ls' hv' => kk n H locs ls' hI (tt_st1 (v := .null) hv'))
theorem tt_astoreN (X : tt_X cl K cc own ret Ts) {i : Nat} (hd : decode cc pc = .ok (.astore i, 2)) (hn : i < tt_nL K) (kk : tt_T cl K ad kc ks (pc + 2) (tt_put i .null L) st h) : tt_T cl K ad kc ks pc L (.null :: st) h := by
  obtain ⟨p, l, e, R, s, m, args, below, meth, c, Q, D, ca, A, nL, nz⟩ := K
  exact fun n H locs ls hI hv => lv_astoreN X.1 X.2.1 hd hv hn rfl (fun ls' hv' => kk n H locs ls' hI (tt_st1 (v := .null) hv'))
theorem tt_ifnull (X : tt_X cl K cc own ret Ts) {x : Nat} {off : Int} (hd : decode cc pc = .ok (.ifnull off, 3)) (kk : tt_T cl K ad kc ks (pc + 3) L st h) : tt_T cl K ad kc ks pc L (.ref x :: st) h := by
  obtain ⟨p, l, e, R, s, m, args, below, meth, c, Q, D, ca, A, nL, nz⟩ := K
  exact fun n H locs ls hI hv => lv_ifnull X.1 X.2.1 hd (kk n H locs ls hI hv)
theorem tt_ifnullN (X : tt_X cl K cc own ret Ts) {off : Int} {tgt : Nat} (hd : decode cc pc = .ok (.ifnull off, 3)) (ht : (pc : Int) + off = (tgt : Int)) (kk : tt_T cl K ad kc ks tgt L st h) : tt_T cl K ad kc ks pc L (.null :: st) h := by
  obtain ⟨p, l, e, R, s, m, args, below, meth, c, Q, D, ca, A, nL, nz⟩ := K
  exact fun n H locs ls hI hv => lv_ifnullN X.1 X.2.1 hd ht (kk n H locs ls hI hv)
theorem tt_ifnonnull (X : tt_X cl K cc own ret Ts) {x : Nat} {off : Int} {tgt : Nat} (hd : decode cc pc = .ok (.ifnonnull off, 3)) (ht : (pc : Int) + off = (tgt : Int)) (kk : tt_T cl K ad kc ks tgt L st h) : tt_T cl K ad kc ks pc L (.ref x :: st) h := by
  obtain ⟨p, l, e, R, s, m, args, below, meth, c, Q, D, ca, A, nL, nz⟩ := K
  exact fun n H locs ls hI hv => lv_ifnonnull X.1 X.2.1 hd ht (kk n H locs ls hI hv)
theorem tt_ifnonnullN (X : tt_X cl K cc own ret Ts) {off : Int} (hd : decode cc pc = .ok (.ifnonnull off, 3)) (kk : tt_T cl K ad kc ks (pc + 3) L st h) : tt_T cl K ad kc ks pc L (.null :: st) h := by
  obtain ⟨p, l, e, R, s, m, args, below, meth, c, Q, D, ca, A, nL, nz⟩ := K
  exact fun n H locs ls hI hv => lv_ifnonnullN X.1 X.2.1 hd (kk n H locs ls hI hv)
def tt_keep (is : List Nat) : List (Nat × Value) → List (Nat × Value)
  | [] => []
  | q :: r => if is.contains q.1 = true then q :: tt_keep is r else tt_keep is r
theorem tt_keep_mem {is : List Nat} : ∀ {L : List (Nat × Value)} {q : Nat × Value}, q ∈ tt_keep is L → q ∈ L
  | [], q, h => h
  | a :: r, q, h => by
    unfold tt_keep at h
    by_cases hc : is.contains a.1 = true
    · rw [if_pos hc] at h
      rcases List.mem_cons.mp h with h | h
      · rw [h]; exact List.mem_cons_self
      · exact List.mem_cons_of_mem _ (tt_keep_mem h)
    · rw [if_neg hc] at h
      exact List.mem_cons_of_mem _ (tt_keep_mem h)
theorem tt_drop (is : List Nat) (kk : tt_T cl K ad kc ks pc (tt_keep is L) st h) : tt_T cl K ad kc ks pc L st h := by
  obtain ⟨p, l, e, R, s, m, args, below, meth, c, Q, D, ca, A, nL, nz⟩ := K
  exact fun n H locs ls hI hv => kk n H locs ls hI ⟨hv.1, hv.2.1, fun q hq => hv.2.2 q (by
    obtain ⟨q0, h0, rfl⟩ := List.mem_map.mp hq
    exact List.mem_map.mpr ⟨q0, tt_keep_mem h0, rfl⟩)⟩
theorem tt_getf (X : tt_X cl K cc own ret Ts) {b ci : Nat} {fs : List Value} {C ref : String} {F : u_T} {N index : Nat} (hb : h b = some (.inr (ci, fs))) (hc : cl[ci]? = some (C, F, N)) (hin : ∀ w ∈ u_ws C F N, w ∈ Ts) (k : Nat) (hk : k < N) (hlink : Cond.fieldLink own index ref (F k).2.1 (F k).2.2.1 ∈ Ts) (hown : (F k).1 = ref) {v : Value} (hv : fs[k]? = some v) (hd : decode cc pc = .ok (.getfield index, 3)) (kk : tt_T cl K ad kc ks (pc + 3) L (v :: st) h) : tt_T cl K ad kc ks pc L (.ref b :: st) h := by
  obtain ⟨p, l, e, R, s, m, args, below, meth, c, Q, D, ca, A, nL, nz⟩ := K
  intro n H locs ls hI hl
  exact va_get X.1 X.2.1 X.2.2.2.2.1 hin X.2.2.2.1 X.2.2.2.2.2.2.2.1 hI.2.1 b (tt_w_get hI.1 hb) hc k hk (X.2.2.2.2.1 _ hlink) (fun x hx => by rw [← hown]; exact hx) (v := tt_v ad v) (by rw [List.getElem?_map, hv]; rfl) hd (kk n H locs ls hI hl)
theorem tt_putf (X : tt_X cl K cc own ret Ts) {b ci : Nat} {fs : List Value} {C ref : String} {F : u_T} {N index : Nat} (hb : h b = some (.inr (ci, fs))) (hc : cl[ci]? = some (C, F, N)) (hin : ∀ w ∈ u_ws C F N, w ∈ Ts) (ty0 : Nat → FieldType) (hty : ∀ k, k < N → parseFieldDescriptor (F k).2.2.1 = some (ty0 k)) (hnm : ∀ a, a < N → ∀ b, b < N → a ≠ b → (F a).2.1 ≠ (F b).2.1) (k : Nat) (hk : k < N) (hlink : Cond.fieldLink own index ref (F k).2.1 (F k).2.2.1 ∈ Ts) (hown : (F k).1 = ref) (hfin : (F k).2.2.2 = false) {v : Value} (hn : ∀ ad, narrow (ty0 k) (tt_v ad v) = tt_v ad v) (hfit : ∀ ad, fits (ty0 k) (tt_v ad v) = true) (hl : k < fs.length) (hd : decode cc pc = .ok (.putfield index, 3)) (kk : tt_T cl K ad kc ks (pc + 3) L st (va_up h b (some (.inr (ci, fs.set k v))))) : tt_T cl K ad kc ks pc L (v :: .ref b :: st) h := by
  obtain ⟨p, l, e, R, s, m, args, below, meth, c, Q, D, ca, A, nL, nz⟩ := K
  intro n H locs ls hI hl2
  refine va_put X.1 X.2.1 X.2.2.2.2.1 hin ty0 hty hnm X.2.2.2.1 X.2.2.2.2.2.2.2.1 hI.2.1 hI.2.2.1 hI.2.2.2.1 b (tt_w_get hI.1 hb) hc k hk (X.2.2.2.2.1 _ hlink) (fun x hx => by rw [← hown]; exact hx) hfin (v := tt_v ad v) (hty k hk) (hn ad) (hfit ad) (by rw [List.length_map]; exact hl) hd (fun H1 locs1 hP hD hS => ?_)
  rw [show (Sum.inr (ci, (fs.map (tt_v ad)).set k (tt_v ad v)) : va_E) = tt_e ca ad (.inr (ci, fs.set k v)) from by show _ = Sum.inr (ci, _); rw [List.map_set], tt_w_set hI.1 hb] at hP hD
  exact kk n H1 locs1 ls ⟨tt_wf_set hI.1 hb, hP, hD, hS, hI.2.2.2.2⟩ hl2
theorem tt_putfF (X : tt_X cl K cc own ret Ts) {b ci : Nat} {fs : List Value} {C ref : String} {F : u_T} {N index : Nat} (hb : h b = some (.inr (ci, fs))) (hc : cl[ci]? = some (C, F, N)) (hin : ∀ w ∈ u_ws C F N, w ∈ Ts) (ty0 : Nat → FieldType) (hty : ∀ k, k < N → parseFieldDescriptor (F k).2.2.1 = some (ty0 k)) (hnm : ∀ a, a < N → ∀ b, b < N → a ≠ b → (F a).2.1 ≠ (F b).2.1) (k : Nat) (hk : k < N) (hlink : Cond.fieldLink own index ref (F k).2.1 (F k).2.2.1 ∈ Ts) (hown : (F k).1 = ref) (hfin : (F k).2.2.2 = true) (hini : tt_mn K = "<init>") (hdecl : (F k).1 = own) {v : Value} (hn : ∀ ad, narrow (ty0 k) (tt_v ad v) = tt_v ad v) (hfit : ∀ ad, fits (ty0 k) (tt_v ad v) = true) (hl : k < fs.length) (hd : decode cc pc = .ok (.putfield index, 3)) (kk : tt_T cl K ad kc ks (pc + 3) L st (va_up h b (some (.inr (ci, fs.set k v))))) : tt_T cl K ad kc ks pc L (v :: .ref b :: st) h := by
  obtain ⟨p, l, e, R, s, m, args, below, meth, c, Q, D, ca, A, nL, nz⟩ := K
  intro n H locs ls hI hl2
  refine va_putF X.1 X.2.1 X.2.2.2.2.1 hin ty0 hty hnm X.2.2.2.1 X.2.2.2.2.2.2.2.1 hI.2.1 hI.2.2.1 hI.2.2.2.1 b (tt_w_get hI.1 hb) hc k hk (X.2.2.2.2.1 _ hlink) (fun x hx => by rw [← hown]; exact hx) hfin hini hdecl (v := tt_v ad v) (hty k hk) (hn ad) (hfit ad) (by rw [List.length_map]; exact hl) hd (fun H1 locs1 hP hD hS => ?_)
  rw [show (Sum.inr (ci, (fs.map (tt_v ad)).set k (tt_v ad v)) : va_E) = tt_e ca ad (.inr (ci, fs.set k v)) from by show _ = Sum.inr (ci, _); rw [List.map_set], tt_w_set hI.1 hb] at hP hD
  exact kk n H1 locs1 ls ⟨tt_wf_set hI.1 hb, hP, hD, hS, hI.2.2.2.2⟩ hl2
theorem tt_iald (X : tt_X cl K cc own ret Ts) {b N : Nat} {f : Nat → Int32} {i : Int32} (hb : h b = some (tt_ia N f)) (hin : vp_in i N) (hd : decode cc pc = .ok (.iaload, 1)) (kk : tt_T cl K ad kc ks (pc + 1) L (.int (f i.toNatClampNeg) :: st) h) : tt_T cl K ad kc ks pc L (.int i :: .ref b :: st) h := by
  obtain ⟨p, l, e, R, s, m, args, below, meth, c, Q, D, ca, A, nL, nz⟩ := K
  intro n H locs ls hI hl
  exact va_iald X.1 X.2.1 X.2.2.2.2.2.2.2.1 hI.2.1 b 0 (tt_w_get hI.1 hb) rfl hin hd (kk n H locs ls hI hl)
theorem tt_zald (X : tt_X cl K cc own ret Ts) {b N : Nat} {f : Nat → Int32} {i : Int32} (hb : h b = some (tt_za N f)) (hin : vp_in i N) (hd : decode cc pc = .ok (.baload, 1)) (kk : tt_T cl K ad kc ks (pc + 1) L (.int (f i.toNatClampNeg) :: st) h) : tt_T cl K ad kc ks pc L (.int i :: .ref b :: st) h := by
  obtain ⟨p, l, e, R, s, m, args, below, meth, c, Q, D, ca, A, nL, nz⟩ := K
  intro n H locs ls hI hl
  exact va_zald X.1 X.2.1 X.2.2.2.2.2.2.2.1 hI.2.1 b 2 (tt_w_get hI.1 hb) rfl hin hd (kk n H locs ls hI hl)
theorem tt_lald (X : tt_X cl K cc own ret Ts) {b N : Nat} {f : Nat → Int64} {i : Int32} (hb : h b = some (tt_ja N f)) (hin : vp_in i N) (hd : decode cc pc = .ok (.laload, 1)) (kk : tt_T cl K ad kc ks (pc + 1) L (.long (f i.toNatClampNeg) :: st) h) : tt_T cl K ad kc ks pc L (.int i :: .ref b :: st) h := by
  obtain ⟨p, l, e, R, s, m, args, below, meth, c, Q, D, ca, A, nL, nz⟩ := K
  intro n H locs ls hI hl
  exact va_lald X.1 X.2.1 X.2.2.2.2.2.2.2.1 hI.2.1 b 1 (tt_w_get hI.1 hb) rfl hin hd (kk n H locs ls hI hl)
theorem tt_iast (X : tt_X cl K cc own ret Ts) {b N : Nat} {f : Nat → Int32} {i : Int32} {x : Int32} (hb : h b = some (tt_ia N f)) (hin : vp_in i N) (hd : decode cc pc = .ok (.iastore, 1)) (kk : tt_T cl K ad kc ks (pc + 1) L st (va_up h b (some (tt_ia N (upd f i.toNatClampNeg x))))) : tt_T cl K ad kc ks pc L (.int x :: .int i :: .ref b :: st) h := by
  obtain ⟨p, l, e, R, s, m, args, below, meth, c, Q, D, ca, A, nL, nz⟩ := K
  intro n H locs ls hI hl
  refine va_iast X.1 X.2.1 X.2.2.2.2.2.2.2.1 hI.2.1 hI.2.2.1 hI.2.2.2.1 b 0 (tt_w_get hI.1 hb) rfl hin hd (fun H1 locs1 hP hD hS => ?_)
  have hq := tt_w_set (ca := ca) (ad := ad) (e := tt_ia N (upd f i.toNatClampNeg x)) hI.1 hb
  exact kk n H1 locs1 ls ⟨tt_wf_set hI.1 hb, hq ▸ hP, hq ▸ hD, hS, hI.2.2.2.2⟩ hl
theorem tt_zast (X : tt_X cl K cc own ret Ts) {b N : Nat} {f : Nat → Int32} {i : Int32} {x : Int32} (hb : h b = some (tt_za N f)) (hin : vp_in i N) (hd : decode cc pc = .ok (.bastore, 1)) (kk : tt_T cl K ad kc ks (pc + 1) L st (va_up h b (some (tt_za N (upd f i.toNatClampNeg (vp_nar .boolean x)))))) : tt_T cl K ad kc ks pc L (.int x :: .int i :: .ref b :: st) h := by
  obtain ⟨p, l, e, R, s, m, args, below, meth, c, Q, D, ca, A, nL, nz⟩ := K
  intro n H locs ls hI hl
  refine va_zast X.1 X.2.1 X.2.2.2.2.2.2.2.1 hI.2.1 hI.2.2.1 hI.2.2.2.1 b 2 (tt_w_get hI.1 hb) rfl hin hd (fun H1 locs1 hP hD hS => ?_)
  have hq := tt_w_set (ca := ca) (ad := ad) (e := tt_za N (upd f i.toNatClampNeg (vp_nar .boolean x))) hI.1 hb
  exact kk n H1 locs1 ls ⟨tt_wf_set hI.1 hb, hq ▸ hP, hq ▸ hD, hS, hI.2.2.2.2⟩ hl
theorem tt_last (X : tt_X cl K cc own ret Ts) {b N : Nat} {f : Nat → Int64} {i : Int32} {x : Int64} (hb : h b = some (tt_ja N f)) (hin : vp_in i N) (hd : decode cc pc = .ok (.lastore, 1)) (kk : tt_T cl K ad kc ks (pc + 1) L st (va_up h b (some (tt_ja N (vp_updL f i.toNatClampNeg x))))) : tt_T cl K ad kc ks pc L (.long x :: .int i :: .ref b :: st) h := by
  obtain ⟨p, l, e, R, s, m, args, below, meth, c, Q, D, ca, A, nL, nz⟩ := K
  intro n H locs ls hI hl
  refine va_last X.1 X.2.1 X.2.2.2.2.2.2.2.1 hI.2.1 hI.2.2.1 hI.2.2.2.1 b 1 (tt_w_get hI.1 hb) rfl hin hd (fun H1 locs1 hP hD hS => ?_)
  have hq := tt_w_set (ca := ca) (ad := ad) (e := tt_ja N (vp_updL f i.toNatClampNeg x)) hI.1 hb
  exact kk n H1 locs1 ls ⟨tt_wf_set hI.1 hb, hq ▸ hP, hq ▸ hD, hS, hI.2.2.2.2⟩ hl
theorem tt_alen (X : tt_X cl K cc own ret Ts) {b t : Nat} {x : vp_A} {ty : FieldType} {v : Int32} (hb : h b = some (.inl (t, x))) (ht : tt_tyl[t]? = some ty) (hz : Int32.ofNat x.1 = v) (hd : decode cc pc = .ok (.arraylength, 1)) (kk : tt_T cl K ad kc ks (pc + 1) L (.int v :: st) h) : tt_T cl K ad kc ks pc L (.ref b :: st) h := by
  obtain ⟨p, l, e, R, s, m, args, below, meth, c, Q, D, ca, A, nL, nz⟩ := K
  intro n H locs ls hI hl
  refine va_alen X.1 X.2.1 X.2.2.2.2.2.2.2.1 hI.2.1 b t (tt_w_get hI.1 hb) (ty := ty) (tt_tys_at ca ht) ?_ hd (kk n H locs ls hI hl)
  obtain ⟨k, f | f | f | f | f⟩ := x <;> exact hz
theorem tt_aldq (X : tt_X cl K cc own ret Ts) {b t N : Nat} {C : String} {f : Nat → Option Nat} {i : Int32} {a : Nat} (hb : h b = some (tt_qa t N f)) (ht : tt_tyl[t]? = some (.object C)) (hin : vp_in i N) (ha : f i.toNatClampNeg = some a) (hd : decode cc pc = .ok (.aaload, 1)) (kk : tt_T cl K ad kc ks (pc + 1) L (.ref a :: st) h) : tt_T cl K ad kc ks pc L (.int i :: .ref b :: st) h := by
  obtain ⟨p, l, e, R, s, m, args, below, meth, c, Q, D, ca, A, nL, nz⟩ := K
  intro n H locs ls hI hl
  refine va_aldq X.1 X.2.1 X.2.2.2.2.2.2.2.1 hI.2.1 b t (tt_w_get hI.1 hb) (C := C) (tt_tys_at ca ht) hin hd ?_
  rw [ha]
  exact kk n H locs ls hI hl
theorem tt_astq (X : tt_X cl K cc own ret Ts) {b t N a ci : Nat} {C : String} {F : u_T} {M : Nat} {fs : List Value} {f : Nat → Option Nat} {i : Int32} (hb : h b = some (tt_qa t N f)) (ht : tt_tyl[t]? = some (.object C)) (ha : h a = some (.inr (ci, fs))) (hc : cl[ci]? = some (C, F, M)) (hin : vp_in i N) (hd : decode cc pc = .ok (.aastore, 1)) (kk : tt_T cl K ad kc ks (pc + 1) L st (va_up h b (some (tt_qa t N (va_up f i.toNatClampNeg (some a)))))) : tt_T cl K ad kc ks pc L (.ref a :: .int i :: .ref b :: st) h := by
  obtain ⟨p, l, e, R, s, m, args, below, meth, c, Q, D, ca, A, nL, nz⟩ := K
  intro n H locs ls hI hl
  refine va_astq X.1 X.2.1 X.2.2.2.2.2.2.2.1 hI.2.1 hI.2.2.1 hI.2.2.2.1 b t a ci (r := (C, F, M)) (tt_w_get hI.1 hb) (tt_tys_at ca ht) (tt_w_get hI.1 ha) hc hin hd (fun H1 locs1 hP hD hS => ?_)
  have hq := tt_w_set (ca := ca) (ad := ad) (e := tt_qa t N (va_up f i.toNatClampNeg (some a))) hI.1 hb
  have he : (tt_e ca ad (tt_qa t N (va_up f i.toNatClampNeg (some a)))) = .inl (ca t, N, .inr (.inr (.inr (.inr (va_up (fun j => (f j).map ad) i.toNatClampNeg (some (ad a))))))) := by
    show Sum.inl (ca t, N, _) = Sum.inl (ca t, N, _)
    congr 7
    funext j
    by_cases hj : j = i.toNatClampNeg
    · subst hj; rw [va_up_self, va_up_self]; rfl
    · rw [va_up_ne _ _ hj, va_up_ne _ _ hj]
  rw [he] at hq
  exact kk n H1 locs1 ls ⟨tt_wf_set hI.1 hb, hq ▸ hP, hq ▸ hD, hS, hI.2.2.2.2⟩ hl
theorem tt_widen {k n : Nat} (h1 : kc ≤ k) (h2 : ks ≤ n) (kk : tt_T cl K ad k n pc L st h) : tt_T cl K ad kc ks pc L st h := by
  obtain ⟨p, l, e, R, s, m, args, below, meth, c, Q, D, ca, A, nL, nz⟩ := K
  exact fun n0 H locs ls hI hl => W.widen h1 h2 (kk n0 H locs ls hI hl)
end TTR
/-! CONTRACTS over the toy heap: on arguments vs and heap h, method y returns v and leaves h' with P v h'. al: whether it may make cells -/
def tt_B (cl : List vw_C) (D : va_G) (ca ad : Nat → Nat) (n sz : Nat) (h : tt_H) (U : State) : Prop := U.heap.size = sz ∧ va_P D cl (tt_w ca ad n h) U.heap ∧ va_K D cl (tt_tys ca) U ∧ va_D (fun _ => True) (tt_w ca ad n h)
def tt_Q (cl : List vw_C) (D : va_G) (ca ad : Nat → Nat) (n sz : Nat) (al : Bool) (P : Option Value → tt_H → Prop) : Array Value → State → Outcome → State → Prop := fun _ st oc t =>
  (∃ (v : Option Value) (h' : tt_H) (ad' : Nat → Nat) (n' : Nat), oc = .returned (v.map (tt_v ad')) ∧ P v h' ∧ n ≤ n' ∧ (al = false → n' = n ∧ ad' = ad) ∧ (∀ i, i < n ∨ n' ≤ i → ad' i = ad i) ∧ tt_wf n' h' ∧ va_P D cl (tt_w ca ad' n' h') t.heap ∧ va_D (tt_A ad n sz) (tt_w ca ad' n' h')) ∧ va_F (tt_A ad n sz) st t
def tt_M (cl : List vw_C) (l : Launch) (y : MethodName) (ws : List Cond) (rm : Room) (mc ms : Nat) (al : Bool) (vs : List Value) (h : tt_H) (P : Option Value → tt_H → Prop) : Prop :=
  ∀ (D : va_G) (ca ad : Nat → Nat) (n sz : Nat), tt_wf n h → Met l y ws rm (va_Pc (vs.map (tt_v ad)) (tt_B cl D ca ad n sz h)) (tt_Q cl D ca ad n sz al P) mc ms (tt_A ad n sz)
theorem tt_M.mono {cl : List vw_C} {l : Launch} {y : MethodName} {ws : List Cond} {rm : Room} {mc ms : Nat} {al : Bool} {vs : List Value} {h : tt_H} {P P' : Option Value → tt_H → Prop} (hM : tt_M cl l y ws rm mc ms al vs h P) (hP : ∀ v h', P v h' → P' v h') : tt_M cl l y ws rm mc ms al vs h P' := by
  intro D ca ad n sz hw p e ha hc hk s m args below hf happ hpre hK
  obtain ⟨k, o, h1, h2, h3, ⟨⟨v, h', ad', n', r1, r2, r3⟩, r4⟩, h5⟩ := hM D ca ad n sz hw p e ha hc hk s m args below hf happ hpre hK
  exact ⟨k, o, h1, h2, h3, ⟨⟨v, h', ad', n', r1, hP v h' r2, r3⟩, r4⟩, h5⟩
theorem tt_A_D {cl : List vw_C} {ca ad : Nat → Nat} {n sz : Nat} {h : tt_H} (hD : va_D (fun _ => True) (tt_w ca ad n h)) : va_D (tt_A ad n sz) (tt_w ca ad n h) := by
  refine ⟨hD.1, fun k q hk => ?_⟩
  rw [tt_w_at] at hk
  by_cases hkn : k < n
  · rw [if_pos hkn] at hk
    cases hk
    exact Or.inl ⟨k, hkn, rfl⟩
  · rw [if_neg hkn] at hk
    cases hk
/-- a method by its body's walk -/
theorem tt_M.of {cl : List vw_C} {l : Launch} {y : MethodName} {ws ws' : List Cond} {rm : Room} {mc ms : Nat} {al : Bool} {vs : List Value} {h : tt_H} {P : Option Value → tt_H → Prop} {cc : ByteArray} {maxL : Nat} {ret : Option FieldType} (hy : plainName y.cls = true) (hw : ws = Cond.code y cc maxL ret :: ws') (hsl : (lg_sl vs).length ≤ maxL)
    (body : ∀ (p : Program) (e : Env) (s : State) (m : MethodId) (args : Array Value) (below : List Frame) (meth : Method) (c : Code) (D : va_G) (ca ad : Nat → Nat) (n sz : Nat), tt_wf n h → s.heap.size = sz → tt_X cl (p, l, e, rm, s, m, args, below, meth, c, MQ below (tt_Q cl D ca ad n sz al P) args s mc ms (tt_A ad n sz), D, ca, tt_A ad n sz, maxL, if al then none else some n) cc y.cls ret ws → (y.name = "<init>" → meth.name = "<init>") →
      tt_T cl (p, l, e, rm, s, m, args, below, meth, c, MQ below (tt_Q cl D ca ad n sz al P) args s mc ms (tt_A ad n sz), D, ca, tt_A ad n sz, maxL, if al then none else some n) ad 0 0 0 (tt_args 0 vs) [] h) : tt_M cl l y ws rm mc ms al vs h P := by
  intro D ca ad n sz hwf
  refine Met.ofW (cc := cc) (maxL := maxL) (ret := ret) hy hw ?_
  intro p e s m args below meth c s₁ B hml hv
  obtain ⟨rfl, hsz, hP, hK, hD0⟩ := hv
  have hl0 := lv_entry (vs.map (tt_v ad)) (n := maxL) (by
    have : ∀ us : List Value, (lg_sl (us.map (tt_v ad))).length = (lg_sl us).length := by
      intro us
      induction us with
      | nil => rfl
      | cons u us ih => cases u <;> simp [lg_sl, tt_v, Value.category] at ih ⊢ <;> first | exact ih | omega
    rw [this]; exact hsl)
  rw [tt_args_m] at hl0
  rw [lg_entry_eq]
  have hX : tt_X cl (p, l, e, rm, s, m, ((vs.map (tt_v ad)).toArray), below, meth, c, MQ below (tt_Q cl D ca ad n sz al P) (vs.map (tt_v ad)).toArray s mc ms (tt_A ad n sz), D, ca, tt_A ad n sz, maxL, if al then none else some n) cc y.cls ret ws :=
    ⟨B.exec, B.bytes, hml, findClass_of_methodNamed B.named, atoms_spec (ws := ws) B.pre, B.returns, B.notSynchronized, hK, fun q hq => Or.inr (by rw [← hsz]; exact hq)⟩
  exact body p e s m _ below meth c D ca ad n sz hwf hsz hX (fun hi => by rw [← hi]; exact (name_of_methodNamed B.named B.method).1) n s.heap [] _ ⟨hwf, hP, tt_A_D (cl := cl) hD0, va_S.rf, by cases al <;> trivial⟩ hl0
section TTC
variable {cl : List vw_C} {p : Program} {l : Launch} {e : Env} {R : Room} {s : State} {m : MethodId} {args : Array Value} {below : List Frame} {meth : Method} {c : Code} {D : va_G} {ca : Nat → ClassId} {A : Nat → Prop} {nL : Nat} {nz : Option Nat} {Q : State → Prop} {ad : Nat → Nat} {kc ks pc : Nat} {L : List (Nat × Value)} {st : List Value} {h : tt_H} {cc : ByteArray} {own : String} {ret : Option FieldType} {Ts : List Cond}
/-- what a call's return gives -/
theorem tt_back {n : Nat} {H : Heap} {locs : List Loc} {mc ms : Nat} {al : Bool} {P : Option Value → tt_H → Prop} {ls : Array Slot} {st0 : List Value} {ar : Array Value} (hI : tt_I cl (p, l, e, R, s, m, args, below, meth, c, Q, D, ca, A, nL, nz) ad n h H locs) (hA : ∀ q : Nat, s.heap.size ≤ q → A q) (hal : al = false ∨ nz = none)
    (hr : va_Run p l e R s m args below meth c H locs kc ks mc ms (F0 m pc ls (st0.map (tt_v ad))) (st.map (tt_v ad)) (tt_Q cl D ca ad n H.size al P ar) (tt_A ad n H.size))
    (kk : ∀ (v : Option Value) (h' : tt_H) (ad' : Nat → Nat) (n' : Nat) (H' : Heap) (locs' : List Loc), P v h' → n ≤ n' → (al = false → n' = n ∧ ad' = ad) → (∀ i, i < n ∨ n' ≤ i → ad' i = ad i) → tt_I cl (p, l, e, R, s, m, args, below, meth, c, Q, D, ca, A, nL, nz) ad' n' h' H' locs' → W p l e R s m args below meth c H' locs' (kc + mc) (ks + ms) Q (F0 m (pc + 3) ls ((v.map (tt_v ad')).toList ++ st.map (tt_v ad)))) :
    W p l e R s m args below meth c H locs kc ks Q (F0 m pc ls (st0.map (tt_v ad))) := by
  obtain ⟨hwf, hP, hD, hS, hnk⟩ := hI
  have hAA : ∀ q, tt_A ad n H.size q → A q := by
    intro q hq
    rcases hq with ⟨i, hi, rfl⟩ | hq
    · exact hD.2 i _ (by rw [tt_w_at, if_pos hi])
    · exact hA q (Nat.le_trans hS.1 hq)
  intro T hT X
  obtain ⟨v, st₀, t, T', L', g0, X', hL, e1, e2, ⟨⟨v2, h', ad', n', ho, hp, r1, r2, r3, r4, r5, r6⟩, hz, hk⟩, st'⟩ := hr T hT X
  cases ho
  rw [g0] at hz hk
  obtain ⟨t2, a1, b1⟩ := kk v2 h' ad' n' T'.heap (locs ++ L') hp r1 r2 r3 ⟨r4, by rw [e1]; exact r5, r6.weaken (fun _ _ _ hq => hAA _ hq), ⟨Nat.le_trans hS.1 (by rw [e1]; exact hz), fun q h1 h2 => by rw [e1, hk q (Nat.lt_of_lt_of_le h1 hS.1) (fun z => h2 (hAA q z))]; exact hS.2.1 q h1 h2, fun q hq => by
      rcases List.mem_append.mp hq with h | h
      · exact hS.2.2 q h
      · exact hAA _ (hL q h)⟩, by
        rcases hal with q | q
        · rw [(r2 q).1]; exact hnk
        · rw [q]; trivial⟩ T' rfl X'
  exact ⟨t2, st' t2 a1, b1⟩
theorem tt_pre {n : Nat} {H : Heap} {locs : List Loc} {vs : List Value} (hI : tt_I cl (p, l, e, R, s, m, args, below, meth, c, Q, D, ca, A, nL, nz) ad n h H locs) (hK : va_K D cl (tt_tys ca) s) : PreS s H (va_Pc (vs.map (tt_v ad)) (tt_B cl D ca ad n H.size h)) (vs.map (tt_v ad)) :=
  ⟨fun a U g mk q => ⟨q.1, q.2.1, q.2.2.1, va_K.moved (u := U) (U := U.calling g mk a) (Vm.Alike.refl U.vm) q.2.2.2.1, q.2.2.2.2⟩, fun U hU hW => ⟨rfl, by rw [hU], by rw [hU]; exact hI.2.1, va_K.moved hW.alike hK, hI.2.2.1.weaken (fun _ _ _ _ => trivial)⟩⟩
variable {y : MethodName} {bytes : ByteArray} {maxL mc ms k index : Nat} {rt : Option FieldType} {ws : List Cond} {rm : Room} {P : Option Value → tt_H → Prop} {As : List Value}
/-- a call of an instance's method that makes no cell -/
theorem tt_callV (X : tt_X cl (p, l, e, R, s, m, args, below, meth, c, Q, D, ca, A, nL, nz) cc own ret Ts) {b ci : Nat} {fs : List Value} {C : String} {F : u_T} {N : Nat} (hb : h b = some (.inr (ci, fs))) (hc : cl[ci]? = some (C, F, N)) (hM : tt_M cl l y ws rm 0 0 false (.ref b :: As) h P) (cw : (∀ w ∈ Ts, w.before args s = true) → CallW R s args own C index y bytes maxL rt ws rm 0 0 k) (hn : As.length = k) {st0 : List Value} (hst : st0 = As.reverse ++ .ref b :: st) (hW : (st.map fun v => v.category).sum ≤ 8) (hd : decode cc pc = .ok (.invokevirtual index, 3)) (hf : kc ≤ R.cells ∧ ks ≤ R.slots)
    (kk : ∀ v h', P v h' → tt_T cl (p, l, e, R, s, m, args, below, meth, c, Q, D, ca, A, nL, nz) ad kc ks (pc + 3) L (v.toList ++ st) h') : tt_T cl (p, l, e, R, s, m, args, below, meth, c, Q, D, ca, A, nL, nz) ad kc ks pc L st0 h := by
  intro n H locs ls hI hl
  subst hst
  refine tt_back (st := st) (mc := 0) (ms := 0) (al := false) (P := P) (ar := (Value.ref (ad b) :: As.map (tt_v ad)).toArray) hI X.2.2.2.2.2.2.2.2 (Or.inl rfl) ?_ (fun v h' ad' n' H' locs' hp _ hal _ hI' => ?_)
  · have hpr := tt_pre (vs := .ref b :: As) hI X.2.2.2.2.2.2.2.1
    exact va_runV (b := ad b) (As := As.map (tt_v ad)) (rest := st.map (tt_v ad)) ⟨X.1, X.2.1, X.2.2.1, X.2.2.2.1, X.2.2.2.2.1⟩ (hM D ca ad n H.size hI.1) (cw X.2.2.2.2.1) ⟨hpr.1, va_recv X.2.2.2.2.2.2.2.1 hI.2.1 hc (tt_w_get hI.1 hb), hpr.2⟩ rfl (by rw [List.length_map]; exact hn) hl.1 (by rw [← List.map_reverse]; show (_ ++ _ :: _).map _ = _; rw [List.map_append]; rfl) (by show 2 * 0 + _ ≤ 8; rw [tt_cats]; omega) hd hf
  · obtain ⟨rfl, rfl⟩ := hal rfl
    have h9 := kk v h' hp n' H' locs' ls hI' hl
    rw [List.map_append] at h9
    rw [show (v.map (tt_v ad')).toList = v.toList.map (tt_v ad') from by cases v <;> rfl]
    exact h9
/-- a call of a static method that makes no cell -/
theorem tt_callS (X : tt_X cl (p, l, e, R, s, m, args, below, meth, c, Q, D, ca, A, nL, nz) cc own ret Ts) (hM : tt_M cl l y ws rm 0 0 false As h P) (cw : (∀ w ∈ Ts, w.before args s = true) → CallB R s args own index y bytes maxL rt ws rm 0 0 k ∧ (Cond.static y).before args s = true) (hn : As.length = k) {st0 : List Value} (hst : st0 = As.reverse ++ st) (hW : (st.map fun v => v.category).sum ≤ 8) (hd : decode cc pc = .ok (.invokestatic index, 3)) (hf : kc ≤ R.cells ∧ ks ≤ R.slots)
    (kk : ∀ v h', P v h' → tt_T cl (p, l, e, R, s, m, args, below, meth, c, Q, D, ca, A, nL, nz) ad kc ks (pc + 3) L (v.toList ++ st) h') : tt_T cl (p, l, e, R, s, m, args, below, meth, c, Q, D, ca, A, nL, nz) ad kc ks pc L st0 h := by
  intro n H locs ls hI hl
  subst hst
  refine tt_back (st := st) (mc := 0) (ms := 0) (al := false) (P := P) (ar := (As.map (tt_v ad)).toArray) hI X.2.2.2.2.2.2.2.2 (Or.inl rfl) ?_ (fun v h' ad' n' H' locs' hp _ hal _ hI' => ?_)
  · have hpr := tt_pre (vs := As) hI X.2.2.2.2.2.2.2.1
    exact va_runS (As := As.map (tt_v ad)) (rest := st.map (tt_v ad)) ⟨X.1, X.2.1, X.2.2.1, X.2.2.2.1, X.2.2.2.2.1⟩ (hM D ca ad n H.size hI.1) (cw X.2.2.2.2.1) hpr rfl (by rw [List.length_map]; exact hn) hl.1 (by rw [← List.map_reverse, ← List.map_append]) (by show 2 * 0 + _ ≤ 8; rw [tt_cats]; omega) hd hf
  · obtain ⟨rfl, rfl⟩ := hal rfl
    have h9 := kk v h' hp n' H' locs' ls hI' hl
    rw [List.map_append] at h9
    rw [show (v.map (tt_v ad')).toList = v.toList.map (tt_v ad') from by cases v <;> rfl]
    exact h9
end TTC
/-! THE ENDS -/
section TTE
variable {cl : List vw_C} {p : Program} {l : Launch} {e : Env} {R : Room} {s : State} {m : MethodId} {args : Array Value} {below : List Frame} {meth : Method} {c : Code} {D : va_G} {ca : Nat → ClassId} {nL : Nat} {nz : Option Nat} {ad ad0 : Nat → Nat} {kc ks pc n0 sz : Nat} {L : List (Nat × Value)} {h : tt_H} {cc : ByteArray} {own : String} {ret : Option FieldType} {Ts : List Cond} {al : Bool} {P : Option Value → tt_H → Prop}
theorem tt_end {v : Option Value} {n : Nat} {H : Heap} {locs : List Loc} {Q : State → Prop} (hI : tt_I cl (p, l, e, R, s, m, args, below, meth, c, Q, D, ca, tt_A ad0 n0 sz, nL, nz) ad n h H locs) (hP : P v h) (hg : n0 ≤ n ∧ (al = false → n = n0 ∧ ad = ad0) ∧ ∀ i, i < n0 ∨ n ≤ i → ad i = ad0 i) : ∀ t : State, t.heap = H → s.WarmedH t.vm → tt_Q cl D ca ad0 n0 sz al P args s (.returned (v.map (tt_v ad))) t := fun t ht _ =>
  ⟨⟨v, h, ad, n, rfl, hP, hg.1, hg.2.1, hg.2.2, hI.1, by rw [ht]; exact hI.2.1, hI.2.2.1⟩, hI.2.2.2.1.F ht⟩
end TTE
section TTF
variable {cl : List vw_C} {p : Program} {l : Launch} {e : Env} {R : Room} {s : State} {m : MethodId} {args : Array Value} {below : List Frame} {meth : Method} {c : Code} {D : va_G} {ca : Nat → ClassId} {nL : Nat} {ad : Nat → Nat} {pc n0 sz : Nat} {L : List (Nat × Value)} {h : tt_H} {cc : ByteArray} {own : String} {ret : Option FieldType} {Ts : List Cond} {P : Option Value → tt_H → Prop}
theorem tt_iret (X : tt_X cl (p, l, e, R, s, m, args, below, meth, c, MQ below (tt_Q cl D ca ad n0 sz false P) args s 0 0 (tt_A ad n0 sz), D, ca, tt_A ad n0 sz, nL, some n0) cc own ret Ts) {x : Int32} (hr : ret = some .int) (hd : decode cc pc = .ok (.ireturn, 1)) (hP : P (some (.int x)) h) : tt_T cl (p, l, e, R, s, m, args, below, meth, c, MQ below (tt_Q cl D ca ad n0 sz false P) args s 0 0 (tt_A ad n0 sz), D, ca, tt_A ad n0 sz, nL, some n0) ad 0 0 pc L [.int x] h := by
  intro n H locs ls hI hl
  have hnn : n = n0 := hI.2.2.2.2
  exact W.iret X.1 X.2.1 (by rw [X.2.2.2.2.2.1, hr]) (tt_end (v := some (.int x)) hI hP ⟨by omega, fun _ => ⟨hnn, rfl⟩, fun _ _ => rfl⟩) hI.2.2.2.1.2.2 hd X.2.2.2.2.2.2.1
theorem tt_zret (X : tt_X cl (p, l, e, R, s, m, args, below, meth, c, MQ below (tt_Q cl D ca ad n0 sz false P) args s 0 0 (tt_A ad n0 sz), D, ca, tt_A ad n0 sz, nL, some n0) cc own ret Ts) {x : Int32} (hr : ret = some .boolean) (hx : narrow .boolean (.int x) = .int x) (hd : decode cc pc = .ok (.ireturn, 1)) (hP : P (some (.int x)) h) : tt_T cl (p, l, e, R, s, m, args, below, meth, c, MQ below (tt_Q cl D ca ad n0 sz false P) args s 0 0 (tt_A ad n0 sz), D, ca, tt_A ad n0 sz, nL, some n0) ad 0 0 pc L [.int x] h := by
  intro n H locs ls hI hl
  have hnn : n = n0 := hI.2.2.2.2
  exact W.zret X.1 X.2.1 (by rw [X.2.2.2.2.2.1, hr]) hx (tt_end (v := some (.int x)) hI hP ⟨by omega, fun _ => ⟨hnn, rfl⟩, fun _ _ => rfl⟩) hI.2.2.2.1.2.2 hd X.2.2.2.2.2.2.1
theorem tt_lret (X : tt_X cl (p, l, e, R, s, m, args, below, meth, c, MQ below (tt_Q cl D ca ad n0 sz false P) args s 0 0 (tt_A ad n0 sz), D, ca, tt_A ad n0 sz, nL, some n0) cc own ret Ts) {x : Int64} (hr : ret = some .long) (hd : decode cc pc = .ok (.lreturn, 1)) (hP : P (some (.long x)) h) : tt_T cl (p, l, e, R, s, m, args, below, meth, c, MQ below (tt_Q cl D ca ad n0 sz false P) args s 0 0 (tt_A ad n0 sz), D, ca, tt_A ad n0 sz, nL, some n0) ad 0 0 pc L [.long x] h := by
  intro n H locs ls hI hl
  have hnn : n = n0 := hI.2.2.2.2
  exact W.lret X.1 X.2.1 (by rw [X.2.2.2.2.2.1, hr]) (tt_end (v := some (.long x)) hI hP ⟨by omega, fun _ => ⟨hnn, rfl⟩, fun _ _ => rfl⟩) hI.2.2.2.1.2.2 hd X.2.2.2.2.2.2.1
theorem tt_vret (X : tt_X cl (p, l, e, R, s, m, args, below, meth, c, MQ below (tt_Q cl D ca ad n0 sz false P) args s 0 0 (tt_A ad n0 sz), D, ca, tt_A ad n0 sz, nL, some n0) cc own ret Ts) (hr : ret = none) (hd : decode cc pc = .ok (.return_, 1)) (hP : P none h) : tt_T cl (p, l, e, R, s, m, args, below, meth, c, MQ below (tt_Q cl D ca ad n0 sz false P) args s 0 0 (tt_A ad n0 sz), D, ca, tt_A ad n0 sz, nL, some n0) ad 0 0 pc L [] h := by
  intro n H locs ls hI hl
  have hnn : n = n0 := hI.2.2.2.2
  exact W.vret X.1 X.2.1 (by rw [X.2.2.2.2.2.1, hr]) (tt_end (v := none) hI hP ⟨by omega, fun _ => ⟨hnn, rfl⟩, fun _ _ => rfl⟩) hI.2.2.2.1.2.2 hd X.2.2.2.2.2.2.1
theorem tt_aret (X : tt_X cl (p, l, e, R, s, m, args, below, meth, c, MQ below (tt_Q cl D ca ad n0 sz false P) args s 0 0 (tt_A ad n0 sz), D, ca, tt_A ad n0 sz, nL, some n0) cc own ret Ts) {C : String} {v : Value} (hv : v = .null ∨ ∃ a, v = .ref a) (hr : ret = some (.object C)) (hd : decode cc pc = .ok (.areturn, 1)) (hP : P (some v) h) : tt_T cl (p, l, e, R, s, m, args, below, meth, c, MQ below (tt_Q cl D ca ad n0 sz false P) args s 0 0 (tt_A ad n0 sz), D, ca, tt_A ad n0 sz, nL, some n0) ad 0 0 pc L [v] h := by
  intro n H locs ls hI hl
  have hnn : n = n0 := hI.2.2.2.2
  refine W.aret (v := tt_v ad v) X.1 X.2.1 (by rw [X.2.2.2.2.2.1, hr]) (Or.inl ⟨C, rfl⟩) ?_ (tt_end (v := some v) hI hP ⟨by omega, fun _ => ⟨hnn, rfl⟩, fun _ _ => rfl⟩) hI.2.2.2.1.2.2 hd X.2.2.2.2.2.2.1
  rcases hv with rfl | ⟨a, rfl⟩
  · exact Or.inl rfl
  · exact Or.inr ⟨ad a, rfl⟩
end TTF
end
section
/-! THE SHALLOW PROGRAM'S PRIMITIVES: what an instruction gives over the toy heap, or none (what the machine itself would throw at) -/
def gg_obj (h : tt_H) (b ci : Nat) : Option (List Value) := match h b with
  | some (.inr (c, fs)) => if c = ci then some fs else none
  | _ => none
def gg_vi (v : Option Value) : Option Int32 := match v with
  | some (.int x) => some x
  | _ => none
def gg_vr (v : Option Value) : Option Nat := match v with
  | some (.ref x) => some x
  | _ => none
/-- a field that holds an int; one that holds a reference -/
def gg_fi (h : tt_H) (b ci k : Nat) : Option Int32 := (gg_obj h b ci).bind fun fs => gg_vi fs[k]?
def gg_fr (h : tt_H) (b ci k : Nat) : Option Nat := (gg_obj h b ci).bind fun fs => gg_vr fs[k]?
def gg_put (h : tt_H) (b ci k : Nat) (v : Value) : Option tt_H := (gg_obj h b ci).bind fun fs => if k < fs.length then some (va_up h b (some (.inr (ci, fs.set k v)))) else none
def gg_ia (h : tt_H) (b : Nat) : Option (Nat × (Nat → Int32)) := match h b with
  | some (.inl (0, (n, .inl f))) => some (n, f)
  | _ => none
def gg_za (h : tt_H) (b : Nat) : Option (Nat × (Nat → Int32)) := match h b with
  | some (.inl (2, (n, .inl f))) => some (n, f)
  | _ => none
def gg_ja (h : tt_H) (b : Nat) : Option (Nat × (Nat → Int64)) := match h b with
  | some (.inl (1, (n, .inr (.inl f)))) => some (n, f)
  | _ => none
def gg_qa (t : Nat) (h : tt_H) (b : Nat) : Option (Nat × (Nat → Option Nat)) := match h b with
  | some (.inl (t', (n, .inr (.inr (.inr (.inr f)))))) => if t' = t then some (n, f) else none
  | _ => none
def gg_ix {α : Type} (i : Int32) (n : Nat) (x : α) : Option α := if i < 0 ∨ n ≤ i.toNatClampNeg then none else some x
def gg_il (h : tt_H) (b : Nat) (i : Int32) : Option Int32 := (gg_ia h b).bind fun a => gg_ix i a.1 (a.2 i.toNatClampNeg)
def gg_zl (h : tt_H) (b : Nat) (i : Int32) : Option Int32 := (gg_za h b).bind fun a => gg_ix i a.1 (a.2 i.toNatClampNeg)
def gg_jl (h : tt_H) (b : Nat) (i : Int32) : Option Int64 := (gg_ja h b).bind fun a => gg_ix i a.1 (a.2 i.toNatClampNeg)
def gg_ql (t : Nat) (h : tt_H) (b : Nat) (i : Int32) : Option Nat := (gg_qa t h b).bind fun a => (gg_ix i a.1 (a.2 i.toNatClampNeg)).bind id
def gg_is (h : tt_H) (b : Nat) (i x : Int32) : Option tt_H := (gg_ia h b).bind fun a => gg_ix i a.1 (va_up h b (some (tt_ia a.1 (upd a.2 i.toNatClampNeg x))))
def gg_zs (h : tt_H) (b : Nat) (i x : Int32) : Option tt_H := (gg_za h b).bind fun a => gg_ix i a.1 (va_up h b (some (tt_za a.1 (upd a.2 i.toNatClampNeg (vp_nar .boolean x)))))
def gg_js (h : tt_H) (b : Nat) (i : Int32) (x : Int64) : Option tt_H := (gg_ja h b).bind fun a => gg_ix i a.1 (va_up h b (some (tt_ja a.1 (vp_updL a.2 i.toNatClampNeg x))))
def gg_len (h : tt_H) (b : Nat) : Option Int32 := match h b with
  | some (.inl (0, (n, .inl _))) => some (Int32.ofNat n)
  | some (.inl (1, (n, .inr (.inl _)))) => some (Int32.ofNat n)
  | _ => none
def gg_nz (y : Int32) : Option Unit := if y = 0 then none else some ()
def gg_cp (h : tt_H) (a : Nat) (sp : Int32) (b : Nat) (dp n : Int32) : Option tt_H := (gg_ia h a).bind fun x => (gg_ia h b).bind fun y => if sp < 0 ∨ dp < 0 ∨ n < 0 ∨ x.1 < sp.toNatClampNeg + n.toNatClampNeg ∨ y.1 < dp.toNatClampNeg + n.toNatClampNeg then none else some (va_up h b (some (tt_ia y.1 (va_cpy x.2 y.2 sp.toNatClampNeg dp.toNatClampNeg n.toNatClampNeg))))
/-- a reference that may be null -/
def gg_opt {α : Type} (r : Option Nat) (a : α) (f : Nat → α) : α := match r with
  | none => a
  | some b => f b
theorem gg_bind {α β : Type} {o : Option α} {f : α → Option β} {r : β} (h : o.bind f = some r) : ∃ a, o = some a ∧ f a = some r := Option.bind_eq_some_iff.mp h
theorem gg_obj_ok {h : tt_H} {b ci : Nat} {fs : List Value} (e : gg_obj h b ci = some fs) : h b = some (.inr (ci, fs)) := by
  unfold gg_obj at e
  split at e
  · rename_i c fs' he
    by_cases hc : c = ci
    · rw [if_pos hc] at e; cases e; rw [he, hc]
    · rw [if_neg hc] at e; cases e
  · cases e
theorem gg_ix_ok {α : Type} {i : Int32} {n : Nat} {x y : α} (e : gg_ix i n x = some y) : vp_in i n ∧ x = y := by
  unfold gg_ix at e
  by_cases hc : i < 0 ∨ n ≤ i.toNatClampNeg
  · rw [if_pos hc] at e; cases e
  · rw [if_neg hc] at e; cases e; exact ⟨hc, rfl⟩
theorem gg_ia_ok {h : tt_H} {b : Nat} {a : Nat × (Nat → Int32)} (e : gg_ia h b = some a) : h b = some (tt_ia a.1 a.2) := by
  unfold gg_ia at e
  split at e
  · rename_i n f he; cases e; exact he
  · cases e
theorem gg_za_ok {h : tt_H} {b : Nat} {a : Nat × (Nat → Int32)} (e : gg_za h b = some a) : h b = some (tt_za a.1 a.2) := by
  unfold gg_za at e
  split at e
  · rename_i n f he; cases e; exact he
  · cases e
theorem gg_ja_ok {h : tt_H} {b : Nat} {a : Nat × (Nat → Int64)} (e : gg_ja h b = some a) : h b = some (tt_ja a.1 a.2) := by
  unfold gg_ja at e
  split at e
  · rename_i n f he; cases e; exact he
  · cases e
theorem gg_qa_ok {t : Nat} {h : tt_H} {b : Nat} {a : Nat × (Nat → Option Nat)} (e : gg_qa t h b = some a) : h b = some (tt_qa t a.1 a.2) := by
  unfold gg_qa at e
  split at e
  · rename_i t' n f he
    by_cases hc : t' = t
    · rw [if_pos hc] at e; cases e; rw [he, hc]
    · rw [if_neg hc] at e; cases e
  · cases e
theorem tt_va_rf (ad : Nat → Nat) (r : Option Nat) : tt_v ad (va_rf r) = va_rf (r.map ad) := by cases r <;> rfl
section GGR
variable {cl : List vw_C} {K : tt_K} {ad : Nat → Nat} {kc ks pc : Nat} {L : List (Nat × Value)} {st : List Value} {h : tt_H} {cc : ByteArray} {own : String} {ret : Option FieldType} {Ts : List Cond}
theorem zr_fi (X : tt_X cl K cc own ret Ts) {b ci k : Nat} {v : Int32} (e : gg_fi h b ci k = some v) {C ref : String} {F : u_T} {N index : Nat} (hc : cl[ci]? = some (C, F, N)) (hin : ∀ w ∈ u_ws C F N, w ∈ Ts) (hk : k < N) (hlink : Cond.fieldLink own index ref (F k).2.1 (F k).2.2.1 ∈ Ts) (hown : (F k).1 = ref) (hd : decode cc pc = .ok (.getfield index, 3)) (kk : tt_T cl K ad kc ks (pc + 3) L (.int v :: st) h) : tt_T cl K ad kc ks pc L (.ref b :: st) h := by
  obtain ⟨fs, e1, e2⟩ := gg_bind e
  refine tt_getf X (gg_obj_ok e1) hc hin k hk hlink hown (v := .int v) ?_ hd kk
  unfold gg_vi at e2
  split at e2
  · rename_i x hx; cases e2; exact hx
  · cases e2
theorem zr_fr (X : tt_X cl K cc own ret Ts) {b ci k : Nat} {v : Nat} (e : gg_fr h b ci k = some v) {C ref : String} {F : u_T} {N index : Nat} (hc : cl[ci]? = some (C, F, N)) (hin : ∀ w ∈ u_ws C F N, w ∈ Ts) (hk : k < N) (hlink : Cond.fieldLink own index ref (F k).2.1 (F k).2.2.1 ∈ Ts) (hown : (F k).1 = ref) (hd : decode cc pc = .ok (.getfield index, 3)) (kk : tt_T cl K ad kc ks (pc + 3) L (.ref v :: st) h) : tt_T cl K ad kc ks pc L (.ref b :: st) h := by
  obtain ⟨fs, e1, e2⟩ := gg_bind e
  refine tt_getf X (gg_obj_ok e1) hc hin k hk hlink hown (v := .ref v) ?_ hd kk
  unfold gg_vr at e2
  split at e2
  · rename_i x hx; cases e2; exact hx
  · cases e2
theorem zr_put (X : tt_X cl K cc own ret Ts) {b ci k : Nat} {v : Value} {h1 : tt_H} (e : gg_put h b ci k v = some h1) {C ref : String} {F : u_T} {N index : Nat} (hc : cl[ci]? = some (C, F, N)) (hin : ∀ w ∈ u_ws C F N, w ∈ Ts) (ty0 : Nat → FieldType) (hty : ∀ k, k < N → parseFieldDescriptor (F k).2.2.1 = some (ty0 k)) (hnm : ∀ a, a < N → ∀ b, b < N → a ≠ b → (F a).2.1 ≠ (F b).2.1) (hk : k < N) (hlink : Cond.fieldLink own index ref (F k).2.1 (F k).2.2.1 ∈ Ts) (hown : (F k).1 = ref) (hfin : (F k).2.2.2 = false) (hn : ∀ ad, narrow (ty0 k) (tt_v ad v) = tt_v ad v) (hfit : ∀ ad, fits (ty0 k) (tt_v ad v) = true) (hd : decode cc pc = .ok (.putfield index, 3)) (kk : tt_T cl K ad kc ks (pc + 3) L st h1) : tt_T cl K ad kc ks pc L (v :: .ref b :: st) h := by
  obtain ⟨fs, e1, e2⟩ := gg_bind e
  by_cases hl : k < fs.length
  · rw [if_pos hl] at e2
    cases e2
    exact tt_putf X (gg_obj_ok e1) hc hin ty0 hty hnm k hk hlink hown hfin hn hfit hl hd kk
  · rw [if_neg hl] at e2; cases e2
theorem zr_il (X : tt_X cl K cc own ret Ts) {b : Nat} {i v : Int32} (e : gg_il h b i = some v) (hd : decode cc pc = .ok (.iaload, 1)) (kk : tt_T cl K ad kc ks (pc + 1) L (.int v :: st) h) : tt_T cl K ad kc ks pc L (.int i :: .ref b :: st) h := by
  obtain ⟨a, e1, e2⟩ := gg_bind e
  obtain ⟨e3, rfl⟩ := gg_ix_ok e2
  exact tt_iald X (gg_ia_ok e1) e3 hd kk
theorem zr_zl (X : tt_X cl K cc own ret Ts) {b : Nat} {i v : Int32} (e : gg_zl h b i = some v) (hd : decode cc pc = .ok (.baload, 1)) (kk : tt_T cl K ad kc ks (pc + 1) L (.int v :: st) h) : tt_T cl K ad kc ks pc L (.int i :: .ref b :: st) h := by
  obtain ⟨a, e1, e2⟩ := gg_bind e
  obtain ⟨e3, rfl⟩ := gg_ix_ok e2
  exact tt_zald X (gg_za_ok e1) e3 hd kk
theorem zr_jl (X : tt_X cl K cc own ret Ts) {b : Nat} {i : Int32} {v : Int64} (e : gg_jl h b i = some v) (hd : decode cc pc = .ok (.laload, 1)) (kk : tt_T cl K ad kc ks (pc + 1) L (.long v :: st) h) : tt_T cl K ad kc ks pc L (.int i :: .ref b :: st) h := by
  obtain ⟨a, e1, e2⟩ := gg_bind e
  obtain ⟨e3, rfl⟩ := gg_ix_ok e2
  exact tt_lald X (gg_ja_ok e1) e3 hd kk
theorem zr_ql (X : tt_X cl K cc own ret Ts) {t b : Nat} {C : String} {i : Int32} {v : Nat} (e : gg_ql t h b i = some v) (ht : tt_tyl[t]? = some (.object C)) (hd : decode cc pc = .ok (.aaload, 1)) (kk : tt_T cl K ad kc ks (pc + 1) L (.ref v :: st) h) : tt_T cl K ad kc ks pc L (.int i :: .ref b :: st) h := by
  obtain ⟨a, e1, e2⟩ := gg_bind e
  obtain ⟨o, e3, e4⟩ := gg_bind e2
  obtain ⟨e5, e6⟩ := gg_ix_ok e3
  exact tt_aldq X (gg_qa_ok e1) ht e5 (by rw [e6]; exact e4) hd kk
theorem zr_is (X : tt_X cl K cc own ret Ts) {b : Nat} {i x : Int32} {h1 : tt_H} (e : gg_is h b i x = some h1) (hd : decode cc pc = .ok (.iastore, 1)) (kk : tt_T cl K ad kc ks (pc + 1) L st h1) : tt_T cl K ad kc ks pc L (.int x :: .int i :: .ref b :: st) h := by
  obtain ⟨a, e1, e2⟩ := gg_bind e
  obtain ⟨e3, rfl⟩ := gg_ix_ok e2
  exact tt_iast X (gg_ia_ok e1) e3 hd kk
theorem zr_zs (X : tt_X cl K cc own ret Ts) {b : Nat} {i x : Int32} {h1 : tt_H} (e : gg_zs h b i x = some h1) (hd : decode cc pc = .ok (.bastore, 1)) (kk : tt_T cl K ad kc ks (pc + 1) L st h1) : tt_T cl K ad kc ks pc L (.int x :: .int i :: .ref b :: st) h := by
  obtain ⟨a, e1, e2⟩ := gg_bind e
  obtain ⟨e3, rfl⟩ := gg_ix_ok e2
  exact tt_zast X (gg_za_ok e1) e3 hd kk
theorem zr_js (X : tt_X cl K cc own ret Ts) {b : Nat} {i : Int32} {x : Int64} {h1 : tt_H} (e : gg_js h b i x = some h1) (hd : decode cc pc = .ok (.lastore, 1)) (kk : tt_T cl K ad kc ks (pc + 1) L st h1) : tt_T cl K ad kc ks pc L (.long x :: .int i :: .ref b :: st) h := by
  obtain ⟨a, e1, e2⟩ := gg_bind e
  obtain ⟨e3, rfl⟩ := gg_ix_ok e2
  exact tt_last X (gg_ja_ok e1) e3 hd kk
theorem zr_len (X : tt_X cl K cc own ret Ts) {b : Nat} {v : Int32} (e : gg_len h b = some v) (hd : decode cc pc = .ok (.arraylength, 1)) (kk : tt_T cl K ad kc ks (pc + 1) L (.int v :: st) h) : tt_T cl K ad kc ks pc L (.ref b :: st) h := by
  unfold gg_len at e
  split at e
  · rename_i n f he; exact tt_alen X (t := 0) he (ty := .int) rfl (Option.some.inj e) hd kk
  · rename_i n f he; exact tt_alen X (t := 1) he (ty := .long) rfl (Option.some.inj e) hd kk
  · cases e
theorem zr_nz {y : Int32} {u : Unit} (e : gg_nz y = some u) : ¬ y = 0 := fun hy => by
  unfold gg_nz at e
  rw [if_pos hy] at e; cases e
/-- a reference that may be null: loads and stores -/
theorem zr_aload_n (X : tt_X cl K cc own ret Ts) {k : Fin 4} (r : Option Nat) (hd : decode cc pc = .ok (.aload_n k, 1)) (hl : L.lookup (k : Nat) = some (va_rf r)) (kk : tt_T cl K ad kc ks (pc + 1) L (va_rf r :: st) h) : tt_T cl K ad kc ks pc L st h := by
  cases r with
  | none => exact tt_aload_nN X hd hl kk
  | some a => exact tt_aload_n X hd hl kk
theorem zr_aload (X : tt_X cl K cc own ret Ts) {i : Nat} (r : Option Nat) (hd : decode cc pc = .ok (.aload i, 2)) (hl : L.lookup i = some (va_rf r)) (kk : tt_T cl K ad kc ks (pc + 2) L (va_rf r :: st) h) : tt_T cl K ad kc ks pc L st h := by
  cases r with
  | none => exact tt_aloadN X hd hl kk
  | some a => exact tt_aload X hd hl kk
theorem zr_astore_n (X : tt_X cl K cc own ret Ts) {k : Fin 4} (r : Option Nat) (hd : decode cc pc = .ok (.astore_n k, 1)) (hn : (k : Nat) < tt_nL K) (kk : tt_T cl K ad kc ks (pc + 1) (tt_put (k : Nat) (va_rf r) L) st h) : tt_T cl K ad kc ks pc L (va_rf r :: st) h := by
  cases r with
  | none => exact tt_astore_nN X hd hn kk
  | some a => exact tt_astore_n X hd hn kk
theorem zr_astore (X : tt_X cl K cc own ret Ts) {i : Nat} (r : Option Nat) (hd : decode cc pc = .ok (.astore i, 2)) (hn : i < tt_nL K) (kk : tt_T cl K ad kc ks (pc + 2) (tt_put i (va_rf r) L) st h) : tt_T cl K ad kc ks pc L (va_rf r :: st) h := by
  cases r with
  | none => exact tt_astoreN X hd hn kk
  | some a => exact tt_astore X hd hn kk
end GGR
/-- a method's answer, and the heap it leaves -/
def tt_ret (v : Option Value) (h : tt_H) : Option Value → tt_H → Prop := fun v' h' => v' = v ∧ h' = h
section GGC
variable {cl : List vw_C} {p : Program} {l : Launch} {e : Env} {R : Room} {s : State} {m : MethodId} {args : Array Value} {below : List Frame} {meth : Method} {c : Code} {D : va_G} {ca : Nat → ClassId} {A : Nat → Prop} {nL : Nat} {nz : Option Nat} {Q : State → Prop} {ad : Nat → Nat} {kc ks pc : Nat} {L : List (Nat × Value)} {st : List Value} {h : tt_H} {cc : ByteArray} {own : String} {ret : Option FieldType} {Ts : List Cond}
variable {y : MethodName} {bytes : ByteArray} {maxL k index : Nat} {rt : Option FieldType} {ws : List Cond} {rm : Room} {As : List Value}
theorem zr_callV (X : tt_X cl (p, l, e, R, s, m, args, below, meth, c, Q, D, ca, A, nL, nz) cc own ret Ts) {b ci : Nat} {fs : List Value} (hb : gg_obj h b ci = some fs) {C : String} {F : u_T} {N : Nat} (hc : cl[ci]? = some (C, F, N)) {v : Option Value} {h1 : tt_H} (hM : tt_M cl l y ws rm 0 0 false (.ref b :: As) h (tt_ret v h1)) (cw : (∀ w ∈ Ts, w.before args s = true) → CallW R s args own C index y bytes maxL rt ws rm 0 0 k) (hn : As.length = k) {st0 : List Value} (hst : st0 = As.reverse ++ .ref b :: st) (hW : (st.map fun v => v.category).sum ≤ 8) (hd : decode cc pc = .ok (.invokevirtual index, 3)) (hf : kc ≤ R.cells ∧ ks ≤ R.slots)
    (kk : tt_T cl (p, l, e, R, s, m, args, below, meth, c, Q, D, ca, A, nL, nz) ad kc ks (pc + 3) L (v.toList ++ st) h1) : tt_T cl (p, l, e, R, s, m, args, below, meth, c, Q, D, ca, A, nL, nz) ad kc ks pc L st0 h :=
  tt_callV X (gg_obj_ok hb) hc hM cw hn hst hW hd hf (fun v' h' hv => by obtain ⟨rfl, rfl⟩ := hv; exact kk)
theorem zr_callS (X : tt_X cl (p, l, e, R, s, m, args, below, meth, c, Q, D, ca, A, nL, nz) cc own ret Ts) {v : Option Value} {h1 : tt_H} (hM : tt_M cl l y ws rm 0 0 false As h (tt_ret v h1)) (cw : (∀ w ∈ Ts, w.before args s = true) → CallB R s args own index y bytes maxL rt ws rm 0 0 k ∧ (Cond.static y).before args s = true) (hn : As.length = k) {st0 : List Value} (hst : st0 = As.reverse ++ st) (hW : (st.map fun v => v.category).sum ≤ 8) (hd : decode cc pc = .ok (.invokestatic index, 3)) (hf : kc ≤ R.cells ∧ ks ≤ R.slots)
    (kk : tt_T cl (p, l, e, R, s, m, args, below, meth, c, Q, D, ca, A, nL, nz) ad kc ks (pc + 3) L (v.toList ++ st) h1) : tt_T cl (p, l, e, R, s, m, args, below, meth, c, Q, D, ca, A, nL, nz) ad kc ks pc L st0 h :=
  tt_callS X hM cw hn hst hW hd hf (fun v' h' hv => by obtain ⟨rfl, rfl⟩ := hv; exact kk)
/-- System.arraycopy between int arrays -/
theorem zr_cp (X : tt_X cl (p, l, e, R, s, m, args, below, meth, c, Q, D, ca, A, nL, nz) cc own ret Ts) {a b : Nat} {sp dp n : Int32} {h1 : tt_H} (hq : gg_cp h a sp b dp n = some h1) (hlink : Cond.methodLink own index arraycopyName ∈ Ts) (hnat : Cond.native arraycopyName ∈ Ts) (hstat : Cond.static arraycopyName ∈ Ts) (hini : Cond.initialized "java/lang/System" ∈ Ts) (hfr : 1 ≤ R.frames) (hloc : (st.map fun v => v.category).sum + (nativeFrameWords "java/lang/System" "arraycopy" 5 + 11) ≤ R.locals) (hd : decode cc pc = .ok (.invokestatic index, 3))
    (kk : tt_T cl (p, l, e, R, s, m, args, below, meth, c, Q, D, ca, A, nL, nz) ad kc ks (pc + 3) L st h1) : tt_T cl (p, l, e, R, s, m, args, below, meth, c, Q, D, ca, A, nL, nz) ad kc ks pc L (.int n :: .int dp :: .ref b :: .int sp :: .ref a :: st) h := by
  obtain ⟨x, e1, hq⟩ := gg_bind hq
  obtain ⟨z, e2, hq⟩ := gg_bind hq
  by_cases hcnd : sp < 0 ∨ dp < 0 ∨ n < 0 ∨ x.1 < sp.toNatClampNeg + n.toNatClampNeg ∨ z.1 < dp.toNatClampNeg + n.toNatClampNeg
  · rw [if_pos hcnd] at hq; cases hq
  · rw [if_neg hcnd] at hq
    cases hq
    simp only [not_or, Nat.not_lt] at hcnd
    obtain ⟨k1, k2, k3, k4, k5⟩ := hcnd
    intro n0 H locs ls hI hl
    have ha := tt_w_get (ca := ca) (ad := ad) hI.1 (gg_ia_ok e1)
    have hb := tt_w_get (ca := ca) (ad := ad) hI.1 (gg_ia_ok e2)
    refine va_copyi X.1 X.2.1 (X.2.2.1.trans hl.1.symm) X.2.2.2.1 (X.2.2.2.2.1 _ hlink) (X.2.2.2.2.1 _ hnat) (X.2.2.2.2.1 _ hstat) (X.2.2.2.2.1 _ hini) X.2.2.2.2.2.2.2.1 hI.2.1 hI.2.2.1 hI.2.2.2.1 a b 0 0 ha hb rfl rfl rfl k1 k2 k3 k4 k5 (fun _ _ => rfl) hfr (by rw [tt_cats]; exact hloc) hd (fun H1 locs1 hP hD hS => ?_)
    have hw := tt_w_set (ca := ca) (ad := ad) (e := tt_ia z.1 (va_cpy x.2 z.2 sp.toNatClampNeg dp.toNatClampNeg n.toNatClampNeg)) hI.1 (gg_ia_ok e2)
    exact kk n0 H1 locs1 ls ⟨tt_wf_set hI.1 (gg_ia_ok e2), hw ▸ hP, hw ▸ hD, hS, hI.2.2.2.2⟩ hl
end GGC
/-! the heap's places stay the same through writes -/
theorem gg_wf_put {n : Nat} {h h1 : tt_H} {b ci k : Nat} {v : Value} (hw : tt_wf n h) (e : gg_put h b ci k v = some h1) : tt_wf n h1 := by
  obtain ⟨fs, e1, e2⟩ := gg_bind e
  by_cases hl : k < fs.length
  · rw [if_pos hl] at e2
    cases e2
    exact tt_wf_set hw (gg_obj_ok e1)
  · rw [if_neg hl] at e2; cases e2
theorem gg_wf_is {n : Nat} {h h1 : tt_H} {b : Nat} {i x : Int32} (hw : tt_wf n h) (e : gg_is h b i x = some h1) : tt_wf n h1 := by
  obtain ⟨a, e1, e2⟩ := gg_bind e
  obtain ⟨e3, rfl⟩ := gg_ix_ok e2
  exact tt_wf_set hw (gg_ia_ok e1)
theorem gg_wf_zs {n : Nat} {h h1 : tt_H} {b : Nat} {i x : Int32} (hw : tt_wf n h) (e : gg_zs h b i x = some h1) : tt_wf n h1 := by
  obtain ⟨a, e1, e2⟩ := gg_bind e
  obtain ⟨e3, rfl⟩ := gg_ix_ok e2
  exact tt_wf_set hw (gg_za_ok e1)
theorem gg_wf_js {n : Nat} {h h1 : tt_H} {b : Nat} {i : Int32} {x : Int64} (hw : tt_wf n h) (e : gg_js h b i x = some h1) : tt_wf n h1 := by
  obtain ⟨a, e1, e2⟩ := gg_bind e
  obtain ⟨e3, rfl⟩ := gg_ix_ok e2
  exact tt_wf_set hw (gg_ja_ok e1)
section GGM
variable {cl : List vw_C} {p : Program} {l : Launch} {e : Env} {R : Room} {s : State} {m : MethodId} {args : Array Value} {below : List Frame} {meth : Method} {c : Code} {D : va_G} {ca : Nat → ClassId} {A : Nat → Prop} {nL : Nat} {nz : Option Nat} {Q : State → Prop} {ad : Nat → Nat} {kc ks pc : Nat} {L : List (Nat × Value)} {st : List Value} {h : tt_H} {cc : ByteArray} {own : String} {ret : Option FieldType} {Ts : List Cond} {index : Nat}
theorem zr_mmax (X : tt_X cl (p, l, e, R, s, m, args, below, meth, c, Q, D, ca, A, nL, nz) cc own ret Ts) {x y : Int32} (hlink : Cond.methodLink own index Lib.Math.max.name ∈ Ts) (hstat : Cond.static Lib.Math.max.name ∈ Ts) (hini : Cond.initialized "java/lang/Math" ∈ Ts) (hcode : Cond.code Lib.Math.max.name Lib.Math.max.code 2 (some .int) ∈ Ts) (hfr : 1 ≤ R.frames) (hloc : (st.map fun v => v.category).sum + 13 ≤ R.locals) (hc : kc ≤ R.cells) (hs : ks ≤ R.slots) (hd : decode cc pc = .ok (.invokestatic index, 3))
    (kk : tt_T cl (p, l, e, R, s, m, args, below, meth, c, Q, D, ca, A, nL, nz) ad kc ks (pc + 3) L (.int (if x < y then y else x) :: st) h) : tt_T cl (p, l, e, R, s, m, args, below, meth, c, Q, D, ca, A, nL, nz) ad kc ks pc L (.int y :: .int x :: st) h := fun n H locs ls hI hl =>
  va_mmax X.1 X.2.1 (X.2.2.1.trans hl.1.symm) X.2.2.2.1 (X.2.2.2.2.1 _ hlink) (X.2.2.2.2.1 _ hstat) (X.2.2.2.2.1 _ hini) (X.2.2.2.2.1 _ hcode) hfr (by rw [tt_cats]; exact hloc) hc hs hd (kk n H locs ls hI hl)
theorem zr_mmin (X : tt_X cl (p, l, e, R, s, m, args, below, meth, c, Q, D, ca, A, nL, nz) cc own ret Ts) {x y : Int32} (hlink : Cond.methodLink own index Lib.Math.min.name ∈ Ts) (hstat : Cond.static Lib.Math.min.name ∈ Ts) (hini : Cond.initialized "java/lang/Math" ∈ Ts) (hcode : Cond.code Lib.Math.min.name Lib.Math.min.code 2 (some .int) ∈ Ts) (hfr : 1 ≤ R.frames) (hloc : (st.map fun v => v.category).sum + 13 ≤ R.locals) (hc : kc ≤ R.cells) (hs : ks ≤ R.slots) (hd : decode cc pc = .ok (.invokestatic index, 3))
    (kk : tt_T cl (p, l, e, R, s, m, args, below, meth, c, Q, D, ca, A, nL, nz) ad kc ks (pc + 3) L (.int (if y < x then y else x) :: st) h) : tt_T cl (p, l, e, R, s, m, args, below, meth, c, Q, D, ca, A, nL, nz) ad kc ks pc L (.int y :: .int x :: st) h := fun n H locs ls hI hl =>
  va_mmin X.1 X.2.1 (X.2.2.1.trans hl.1.symm) X.2.2.2.1 (X.2.2.2.2.1 _ hlink) (X.2.2.2.2.1 _ hstat) (X.2.2.2.2.1 _ hini) (X.2.2.2.2.1 _ hcode) hfr (by rw [tt_cats]; exact hloc) hc hs hd (kk n H locs ls hI hl)
theorem zr_lmax (X : tt_X cl (p, l, e, R, s, m, args, below, meth, c, Q, D, ca, A, nL, nz) cc own ret Ts) {x y : Int64} (hlink : Cond.methodLink own index Lib.MathLoose.max_long.x ∈ Ts) (hstat : Cond.static Lib.MathLoose.max_long.x ∈ Ts) (hini : Cond.initialized "java/lang/Math" ∈ Ts) (hcode : Cond.code Lib.MathLoose.max_long.x Lib.MathLoose.max_long.code 4 (some .long) ∈ Ts) (hfr : 1 ≤ R.frames) (hloc : (st.map fun v => v.category).sum + 15 ≤ R.locals) (hc : kc ≤ R.cells) (hs : ks ≤ R.slots) (hd : decode cc pc = .ok (.invokestatic index, 3))
    (kk : tt_T cl (p, l, e, R, s, m, args, below, meth, c, Q, D, ca, A, nL, nz) ad kc ks (pc + 3) L (.long (if y < x then x else y) :: st) h) : tt_T cl (p, l, e, R, s, m, args, below, meth, c, Q, D, ca, A, nL, nz) ad kc ks pc L (.long y :: .long x :: st) h := fun n H locs ls hI hl =>
  va_mmax_long X.1 X.2.1 (X.2.2.1.trans hl.1.symm) X.2.2.2.1 (X.2.2.2.2.1 _ hlink) (X.2.2.2.2.1 _ hstat) (X.2.2.2.2.1 _ hini) (X.2.2.2.2.1 _ hcode) hfr (by rw [tt_cats]; exact hloc) hc hs hd (kk n H locs ls hI hl)
theorem zr_lmin (X : tt_X cl (p, l, e, R, s, m, args, below, meth, c, Q, D, ca, A, nL, nz) cc own ret Ts) {x y : Int64} (hlink : Cond.methodLink own index Lib.MathLoose.min_long.x ∈ Ts) (hstat : Cond.static Lib.MathLoose.min_long.x ∈ Ts) (hini : Cond.initialized "java/lang/Math" ∈ Ts) (hcode : Cond.code Lib.MathLoose.min_long.x Lib.MathLoose.min_long.code 4 (some .long) ∈ Ts) (hfr : 1 ≤ R.frames) (hloc : (st.map fun v => v.category).sum + 15 ≤ R.locals) (hc : kc ≤ R.cells) (hs : ks ≤ R.slots) (hd : decode cc pc = .ok (.invokestatic index, 3))
    (kk : tt_T cl (p, l, e, R, s, m, args, below, meth, c, Q, D, ca, A, nL, nz) ad kc ks (pc + 3) L (.long (if y < x then y else x) :: st) h) : tt_T cl (p, l, e, R, s, m, args, below, meth, c, Q, D, ca, A, nL, nz) ad kc ks pc L (.long y :: .long x :: st) h := fun n H locs ls hI hl =>
  va_mmin_long X.1 X.2.1 (X.2.2.1.trans hl.1.symm) X.2.2.2.1 (X.2.2.2.2.1 _ hlink) (X.2.2.2.2.1 _ hstat) (X.2.2.2.2.1 _ hini) (X.2.2.2.2.1 _ hcode) hfr (by rw [tt_cats]; exact hloc) hc hs hd (kk n H locs ls hI hl)
/-- switches -/
theorem zr_lookup {K : tt_K} (X : tt_X cl K cc own ret Ts) {dflt : Int} {ps : Array (Int × Int)} {len : Nat} {x : Int32} {off : Int} {tgt : Nat} (hd : decode cc pc = .ok (.lookupswitch dflt ps, len)) (hp : (ps.toList.zip (ps.toList.drop 1)).all (fun (a, next) => a.1 < next.1) = true) (ho : Op.lookupswitch.offset ps.toList dflt x.toInt = off) (ht : (pc : Int) + off = (tgt : Int)) (kk : tt_T cl K ad kc ks tgt L st h) : tt_T cl K ad kc ks pc L (.int x :: st) h := by
  obtain ⟨p, l, e, R, s, m, args, below, meth, c, Q, D, ca, A, nL, nz⟩ := K
  exact fun n H locs ls hI hl => lv_lookup X.1 X.2.1 hd hp ho ht (kk n H locs ls hI hl)
end GGM
end
section
-- ===== PART A: goes FIRST, ahead of the names: the tables' words, and 'selects' of the private methods out of them =====
/-- a private method of a class that the tables say can be made, by its rows of tables_1 -/
def lw_okq (q : MethodName × Nat) : Prop := (q.1.cls ≠ "java/lang/invoke/MethodHandle" ∧ q.1.cls ≠ "java/lang/invoke/VarHandle") ∧ Cond.instantiable q.1.cls q.2 ∈ tables_1 ∧ Cond.privateMethod q.1 ∈ tables_1 ∧ Cond.instanceMethod q.1 ∈ tables_1
theorem lw_p0 : lw_okq (⟨"AddedCries", "sheetOf", "(I)LAddedCries$Sheet;"⟩, 13) := ⟨⟨by decide +kernel, by decide +kernel⟩, List.mem_of_getElem? (i := 15) (by decide +kernel), List.mem_of_getElem? (i := 183) (by decide +kernel), List.mem_of_getElem? (i := 184) (by decide +kernel)⟩
theorem lw_p1 : lw_okq (⟨"AddedCries", "fails", "(I)I"⟩, 13) := ⟨⟨by decide +kernel, by decide +kernel⟩, List.mem_of_getElem? (i := 15) (by decide +kernel), List.mem_of_getElem? (i := 201) (by decide +kernel), List.mem_of_getElem? (i := 202) (by decide +kernel)⟩
theorem lw_p2 : lw_okq (⟨"AddedCries", "takeText", "(LAddedCries$Sheet;II)V"⟩, 13) := ⟨⟨by decide +kernel, by decide +kernel⟩, List.mem_of_getElem? (i := 15) (by decide +kernel), List.mem_of_getElem? (i := 220) (by decide +kernel), List.mem_of_getElem? (i := 221) (by decide +kernel)⟩
theorem lw_p3 : lw_okq (⟨"AddedCries", "beginDay", "()V"⟩, 13) := ⟨⟨by decide +kernel, by decide +kernel⟩, List.mem_of_getElem? (i := 15) (by decide +kernel), List.mem_of_getElem? (i := 224) (by decide +kernel), List.mem_of_getElem? (i := 225) (by decide +kernel)⟩
theorem lw_p4 : lw_okq (⟨"AddedCries", "lastCry", "()LAddedCries$Cry;"⟩, 13) := ⟨⟨by decide +kernel, by decide +kernel⟩, List.mem_of_getElem? (i := 15) (by decide +kernel), List.mem_of_getElem? (i := 228) (by decide +kernel), List.mem_of_getElem? (i := 229) (by decide +kernel)⟩
theorem lw_p5 : lw_okq (⟨"AddedCries", "cryOf", "(I)LAddedCries$Cry;"⟩, 13) := ⟨⟨by decide +kernel, by decide +kernel⟩, List.mem_of_getElem? (i := 15) (by decide +kernel), List.mem_of_getElem? (i := 232) (by decide +kernel), List.mem_of_getElem? (i := 233) (by decide +kernel)⟩
theorem lw_p6 : lw_okq (⟨"AddedCries$Sayings", "keepEnds", "(LAddedCries$Cry;[II)V"⟩, 2) := ⟨⟨by decide +kernel, by decide +kernel⟩, List.mem_of_getElem? (i := 57) (by decide +kernel), List.mem_of_getElem? (i := 315) (by decide +kernel), List.mem_of_getElem? (i := 316) (by decide +kernel)⟩
theorem lw_p7 : lw_okq (⟨"AddedCries$Sayings", "endsSaid", "(II)Z"⟩, 2) := ⟨⟨by decide +kernel, by decide +kernel⟩, List.mem_of_getElem? (i := 57) (by decide +kernel), List.mem_of_getElem? (i := 322) (by decide +kernel), List.mem_of_getElem? (i := 323) (by decide +kernel)⟩
theorem lw_p8 : lw_okq (⟨"AddedCries$Sayings", "findOne", "(LAddedCries$Cry;[IIZIII)Z"⟩, 2) := ⟨⟨by decide +kernel, by decide +kernel⟩, List.mem_of_getElem? (i := 57) (by decide +kernel), List.mem_of_getElem? (i := 326) (by decide +kernel), List.mem_of_getElem? (i := 327) (by decide +kernel)⟩
theorem lw_p9 : lw_okq (⟨"AddedCries$Sayings", "keep", "(III)V"⟩, 2) := ⟨⟨by decide +kernel, by decide +kernel⟩, List.mem_of_getElem? (i := 57) (by decide +kernel), List.mem_of_getElem? (i := 330) (by decide +kernel), List.mem_of_getElem? (i := 331) (by decide +kernel)⟩
theorem lw_p10 : lw_okq (⟨"AddedCries$Sayings", "findTwo", "(LAddedCries$Cry;[IIZ)Z"⟩, 2) := ⟨⟨by decide +kernel, by decide +kernel⟩, List.mem_of_getElem? (i := 57) (by decide +kernel), List.mem_of_getElem? (i := 334) (by decide +kernel), List.mem_of_getElem? (i := 335) (by decide +kernel)⟩
theorem lw_p11 : lw_okq (⟨"AddedCries$Weave", "makeAt", "(LAddedCries$Cry;ILAddedCries$Cry;I)V"⟩, 2) := ⟨⟨by decide +kernel, by decide +kernel⟩, List.mem_of_getElem? (i := 71) (by decide +kernel), List.mem_of_getElem? (i := 390) (by decide +kernel), List.mem_of_getElem? (i := 391) (by decide +kernel)⟩
theorem lw_p12 : lw_okq (⟨"AddedCries$Weave", "keep", "(IIJJ)V"⟩, 2) := ⟨⟨by decide +kernel, by decide +kernel⟩, List.mem_of_getElem? (i := 71) (by decide +kernel), List.mem_of_getElem? (i := 395) (by decide +kernel), List.mem_of_getElem? (i := 396) (by decide +kernel)⟩
theorem lw_p13 : lw_okq (⟨"AddedCries$Weave", "firstWord", "(LAddedCries$Cry;ILAddedCries$Cry;I)I"⟩, 2) := ⟨⟨by decide +kernel, by decide +kernel⟩, List.mem_of_getElem? (i := 71) (by decide +kernel), List.mem_of_getElem? (i := 430) (by decide +kernel), List.mem_of_getElem? (i := 431) (by decide +kernel)⟩
theorem lw_p14 : lw_okq (⟨"AddedCries$Braid", "lengthAt", "(IIIII)J"⟩, 2) := ⟨⟨by decide +kernel, by decide +kernel⟩, List.mem_of_getElem? (i := 94) (by decide +kernel), List.mem_of_getElem? (i := 445) (by decide +kernel), List.mem_of_getElem? (i := 446) (by decide +kernel)⟩
theorem lw_p15 : lw_okq (⟨"AddedCries$Braid", "by", "(IIIIII)J"⟩, 2) := ⟨⟨by decide +kernel, by decide +kernel⟩, List.mem_of_getElem? (i := 94) (by decide +kernel), List.mem_of_getElem? (i := 449) (by decide +kernel), List.mem_of_getElem? (i := 450) (by decide +kernel)⟩
def lw_privs_1 : List (MethodName × Nat) := [(⟨"AddedCries", "sheetOf", "(I)LAddedCries$Sheet;"⟩, 13), (⟨"AddedCries", "fails", "(I)I"⟩, 13), (⟨"AddedCries", "takeText", "(LAddedCries$Sheet;II)V"⟩, 13), (⟨"AddedCries", "beginDay", "()V"⟩, 13), (⟨"AddedCries", "lastCry", "()LAddedCries$Cry;"⟩, 13), (⟨"AddedCries", "cryOf", "(I)LAddedCries$Cry;"⟩, 13), (⟨"AddedCries$Sayings", "keepEnds", "(LAddedCries$Cry;[II)V"⟩, 2), (⟨"AddedCries$Sayings", "endsSaid", "(II)Z"⟩, 2), (⟨"AddedCries$Sayings", "findOne", "(LAddedCries$Cry;[IIZIII)Z"⟩, 2), (⟨"AddedCries$Sayings", "keep", "(III)V"⟩, 2), (⟨"AddedCries$Sayings", "findTwo", "(LAddedCries$Cry;[IIZ)Z"⟩, 2), (⟨"AddedCries$Weave", "makeAt", "(LAddedCries$Cry;ILAddedCries$Cry;I)V"⟩, 2), (⟨"AddedCries$Weave", "keep", "(IIJJ)V"⟩, 2), (⟨"AddedCries$Weave", "firstWord", "(LAddedCries$Cry;ILAddedCries$Cry;I)I"⟩, 2), (⟨"AddedCries$Braid", "lengthAt", "(IIIII)J"⟩, 2), (⟨"AddedCries$Braid", "by", "(IIIIII)J"⟩, 2)]
theorem lw_r1 : ∀ q ∈ lw_privs_1, lw_okq q := List.forall_mem_cons.mpr ⟨lw_p0, List.forall_mem_cons.mpr ⟨lw_p1, List.forall_mem_cons.mpr ⟨lw_p2, List.forall_mem_cons.mpr ⟨lw_p3, List.forall_mem_cons.mpr ⟨lw_p4, List.forall_mem_cons.mpr ⟨lw_p5, List.forall_mem_cons.mpr ⟨lw_p6, List.forall_mem_cons.mpr ⟨lw_p7, List.forall_mem_cons.mpr ⟨lw_p8, List.forall_mem_cons.mpr ⟨lw_p9, List.forall_mem_cons.mpr ⟨lw_p10, List.forall_mem_cons.mpr ⟨lw_p11, List.forall_mem_cons.mpr ⟨lw_p12, List.forall_mem_cons.mpr ⟨lw_p13, List.forall_mem_cons.mpr ⟨lw_p14, List.forall_mem_cons.mpr ⟨lw_p15, fun _ h => absurd h List.not_mem_nil⟩⟩⟩⟩⟩⟩⟩⟩⟩⟩⟩⟩⟩⟩⟩⟩
theorem lw_p16 : lw_okq (⟨"AddedCries$Between", "goOn", "(LAddedCries$Cry;LAddedCries$Cry;)V"⟩, 2) := ⟨⟨by decide +kernel, by decide +kernel⟩, List.mem_of_getElem? (i := 109) (by decide +kernel), List.mem_of_getElem? (i := 477) (by decide +kernel), List.mem_of_getElem? (i := 478) (by decide +kernel)⟩
theorem lw_p17 : lw_okq (⟨"AddedCries$Between", "goOnFrom", "(LAddedCries$Cry;ILAddedCries$Cry;IJ)V"⟩, 2) := ⟨⟨by decide +kernel, by decide +kernel⟩, List.mem_of_getElem? (i := 109) (by decide +kernel), List.mem_of_getElem? (i := 483) (by decide +kernel), List.mem_of_getElem? (i := 484) (by decide +kernel)⟩
theorem lw_p18 : lw_okq (⟨"AddedCries", "fewestBreaths", "(LAddedCries$Cry;I)I"⟩, 13) := ⟨⟨by decide +kernel, by decide +kernel⟩, List.mem_of_getElem? (i := 15) (by decide +kernel), List.mem_of_getElem? (i := 502) (by decide +kernel), List.mem_of_getElem? (i := 503) (by decide +kernel)⟩
theorem lw_p19 : lw_okq (⟨"AddedCries", "isDenial", "(I)Z"⟩, 13) := ⟨⟨by decide +kernel, by decide +kernel⟩, List.mem_of_getElem? (i := 15) (by decide +kernel), List.mem_of_getElem? (i := 507) (by decide +kernel), List.mem_of_getElem? (i := 508) (by decide +kernel)⟩
theorem lw_p20 : lw_okq (⟨"AddedCries$Sheet", "cut", "(I)I"⟩, 3) := ⟨⟨by decide +kernel, by decide +kernel⟩, List.mem_of_getElem? (i := 123) (by decide +kernel), List.mem_of_getElem? (i := 555) (by decide +kernel), List.mem_of_getElem? (i := 556) (by decide +kernel)⟩
theorem lw_p21 : lw_okq (⟨"AddedCries", "doubtTells", "(I)I"⟩, 13) := ⟨⟨by decide +kernel, by decide +kernel⟩, List.mem_of_getElem? (i := 15) (by decide +kernel), List.mem_of_getElem? (i := 578) (by decide +kernel), List.mem_of_getElem? (i := 579) (by decide +kernel)⟩
theorem lw_p22 : lw_okq (⟨"AddedCries", "leave", "(I)V"⟩, 13) := ⟨⟨by decide +kernel, by decide +kernel⟩, List.mem_of_getElem? (i := 15) (by decide +kernel), List.mem_of_getElem? (i := 582) (by decide +kernel), List.mem_of_getElem? (i := 583) (by decide +kernel)⟩
theorem lw_p23 : lw_okq (⟨"AddedCries", "denialTells", "(I)I"⟩, 13) := ⟨⟨by decide +kernel, by decide +kernel⟩, List.mem_of_getElem? (i := 15) (by decide +kernel), List.mem_of_getElem? (i := 586) (by decide +kernel), List.mem_of_getElem? (i := 587) (by decide +kernel)⟩
theorem lw_p24 : lw_okq (⟨"AddedCries", "wordTells", "(I)I"⟩, 13) := ⟨⟨by decide +kernel, by decide +kernel⟩, List.mem_of_getElem? (i := 15) (by decide +kernel), List.mem_of_getElem? (i := 590) (by decide +kernel), List.mem_of_getElem? (i := 591) (by decide +kernel)⟩
theorem lw_p25 : lw_okq (⟨"AddedCries", "doubtSings", "()I"⟩, 13) := ⟨⟨by decide +kernel, by decide +kernel⟩, List.mem_of_getElem? (i := 15) (by decide +kernel), List.mem_of_getElem? (i := 602) (by decide +kernel), List.mem_of_getElem? (i := 603) (by decide +kernel)⟩
theorem lw_p26 : lw_okq (⟨"AddedCries", "wordSings", "(I)I"⟩, 13) := ⟨⟨by decide +kernel, by decide +kernel⟩, List.mem_of_getElem? (i := 15) (by decide +kernel), List.mem_of_getElem? (i := 606) (by decide +kernel), List.mem_of_getElem? (i := 607) (by decide +kernel)⟩
theorem lw_p27 : lw_okq (⟨"AddedCriesModel", "against", "(IIII)I"⟩, 26) := ⟨⟨by decide +kernel, by decide +kernel⟩, List.mem_of_getElem? (i := 626) (by decide +kernel), List.mem_of_getElem? (i := 724) (by decide +kernel), List.mem_of_getElem? (i := 725) (by decide +kernel)⟩
theorem lw_p28 : lw_okq (⟨"AddedCriesModel", "fails", "(I)I"⟩, 26) := ⟨⟨by decide +kernel, by decide +kernel⟩, List.mem_of_getElem? (i := 626) (by decide +kernel), List.mem_of_getElem? (i := 728) (by decide +kernel), List.mem_of_getElem? (i := 729) (by decide +kernel)⟩
theorem lw_p29 : lw_okq (⟨"AddedCriesModel", "readCries", "(I)Z"⟩, 26) := ⟨⟨by decide +kernel, by decide +kernel⟩, List.mem_of_getElem? (i := 626) (by decide +kernel), List.mem_of_getElem? (i := 732) (by decide +kernel), List.mem_of_getElem? (i := 733) (by decide +kernel)⟩
theorem lw_p30 : lw_okq (⟨"AddedCriesModel", "isDay", "(I)Z"⟩, 26) := ⟨⟨by decide +kernel, by decide +kernel⟩, List.mem_of_getElem? (i := 626) (by decide +kernel), List.mem_of_getElem? (i := 747) (by decide +kernel), List.mem_of_getElem? (i := 748) (by decide +kernel)⟩
theorem lw_p31 : lw_okq (⟨"AddedCriesModel", "wordAt", "(II)I"⟩, 26) := ⟨⟨by decide +kernel, by decide +kernel⟩, List.mem_of_getElem? (i := 626) (by decide +kernel), List.mem_of_getElem? (i := 751) (by decide +kernel), List.mem_of_getElem? (i := 752) (by decide +kernel)⟩
def lw_privs_2 : List (MethodName × Nat) := [(⟨"AddedCries$Between", "goOn", "(LAddedCries$Cry;LAddedCries$Cry;)V"⟩, 2), (⟨"AddedCries$Between", "goOnFrom", "(LAddedCries$Cry;ILAddedCries$Cry;IJ)V"⟩, 2), (⟨"AddedCries", "fewestBreaths", "(LAddedCries$Cry;I)I"⟩, 13), (⟨"AddedCries", "isDenial", "(I)Z"⟩, 13), (⟨"AddedCries$Sheet", "cut", "(I)I"⟩, 3), (⟨"AddedCries", "doubtTells", "(I)I"⟩, 13), (⟨"AddedCries", "leave", "(I)V"⟩, 13), (⟨"AddedCries", "denialTells", "(I)I"⟩, 13), (⟨"AddedCries", "wordTells", "(I)I"⟩, 13), (⟨"AddedCries", "doubtSings", "()I"⟩, 13), (⟨"AddedCries", "wordSings", "(I)I"⟩, 13), (⟨"AddedCriesModel", "against", "(IIII)I"⟩, 26), (⟨"AddedCriesModel", "fails", "(I)I"⟩, 26), (⟨"AddedCriesModel", "readCries", "(I)Z"⟩, 26), (⟨"AddedCriesModel", "isDay", "(I)Z"⟩, 26), (⟨"AddedCriesModel", "wordAt", "(II)I"⟩, 26)]
theorem lw_r2 : ∀ q ∈ lw_privs_2, lw_okq q := List.forall_mem_cons.mpr ⟨lw_p16, List.forall_mem_cons.mpr ⟨lw_p17, List.forall_mem_cons.mpr ⟨lw_p18, List.forall_mem_cons.mpr ⟨lw_p19, List.forall_mem_cons.mpr ⟨lw_p20, List.forall_mem_cons.mpr ⟨lw_p21, List.forall_mem_cons.mpr ⟨lw_p22, List.forall_mem_cons.mpr ⟨lw_p23, List.forall_mem_cons.mpr ⟨lw_p24, List.forall_mem_cons.mpr ⟨lw_p25, List.forall_mem_cons.mpr ⟨lw_p26, List.forall_mem_cons.mpr ⟨lw_p27, List.forall_mem_cons.mpr ⟨lw_p28, List.forall_mem_cons.mpr ⟨lw_p29, List.forall_mem_cons.mpr ⟨lw_p30, List.forall_mem_cons.mpr ⟨lw_p31, fun _ h => absurd h List.not_mem_nil⟩⟩⟩⟩⟩⟩⟩⟩⟩⟩⟩⟩⟩⟩⟩⟩
theorem lw_p32 : lw_okq (⟨"AddedCriesModel", "isWithin", "(II)Z"⟩, 26) := ⟨⟨by decide +kernel, by decide +kernel⟩, List.mem_of_getElem? (i := 626) (by decide +kernel), List.mem_of_getElem? (i := 763) (by decide +kernel), List.mem_of_getElem? (i := 764) (by decide +kernel)⟩
theorem lw_p33 : lw_okq (⟨"AddedCriesModel", "saidWith", "(III)I"⟩, 26) := ⟨⟨by decide +kernel, by decide +kernel⟩, List.mem_of_getElem? (i := 626) (by decide +kernel), List.mem_of_getElem? (i := 775) (by decide +kernel), List.mem_of_getElem? (i := 776) (by decide +kernel)⟩
theorem lw_p34 : lw_okq (⟨"AddedCriesModel", "saidBy", "(I)I"⟩, 26) := ⟨⟨by decide +kernel, by decide +kernel⟩, List.mem_of_getElem? (i := 626) (by decide +kernel), List.mem_of_getElem? (i := 779) (by decide +kernel), List.mem_of_getElem? (i := 780) (by decide +kernel)⟩
theorem lw_p35 : lw_okq (⟨"AddedCriesModel", "findPut", "(IIZ)V"⟩, 26) := ⟨⟨by decide +kernel, by decide +kernel⟩, List.mem_of_getElem? (i := 626) (by decide +kernel), List.mem_of_getElem? (i := 787) (by decide +kernel), List.mem_of_getElem? (i := 788) (by decide +kernel)⟩
theorem lw_p36 : lw_okq (⟨"AddedCriesModel", "isSo", "(IIZII)Z"⟩, 26) := ⟨⟨by decide +kernel, by decide +kernel⟩, List.mem_of_getElem? (i := 626) (by decide +kernel), List.mem_of_getElem? (i := 791) (by decide +kernel), List.mem_of_getElem? (i := 792) (by decide +kernel)⟩
theorem lw_p37 : lw_okq (⟨"AddedCriesModel", "mayStand", "(III)Z"⟩, 26) := ⟨⟨by decide +kernel, by decide +kernel⟩, List.mem_of_getElem? (i := 626) (by decide +kernel), List.mem_of_getElem? (i := 811) (by decide +kernel), List.mem_of_getElem? (i := 812) (by decide +kernel)⟩
theorem lw_p38 : lw_okq (⟨"AddedCriesModel", "layYet", "(II)V"⟩, 26) := ⟨⟨by decide +kernel, by decide +kernel⟩, List.mem_of_getElem? (i := 626) (by decide +kernel), List.mem_of_getElem? (i := 819) (by decide +kernel), List.mem_of_getElem? (i := 820) (by decide +kernel)⟩
theorem lw_p39 : lw_okq (⟨"AddedCriesModel", "layOne", "(IIII)V"⟩, 26) := ⟨⟨by decide +kernel, by decide +kernel⟩, List.mem_of_getElem? (i := 626) (by decide +kernel), List.mem_of_getElem? (i := 823) (by decide +kernel), List.mem_of_getElem? (i := 824) (by decide +kernel)⟩
theorem lw_p40 : lw_okq (⟨"AddedCriesModel", "wordOf", "(III)I"⟩, 26) := ⟨⟨by decide +kernel, by decide +kernel⟩, List.mem_of_getElem? (i := 626) (by decide +kernel), List.mem_of_getElem? (i := 831) (by decide +kernel), List.mem_of_getElem? (i := 832) (by decide +kernel)⟩
theorem lw_p41 : lw_okq (⟨"AddedCriesModel", "threeYet", "(IIIIII)I"⟩, 26) := ⟨⟨by decide +kernel, by decide +kernel⟩, List.mem_of_getElem? (i := 626) (by decide +kernel), List.mem_of_getElem? (i := 839) (by decide +kernel), List.mem_of_getElem? (i := 840) (by decide +kernel)⟩
theorem lw_p42 : lw_okq (⟨"AddedCriesModel", "between", "(IIII)J"⟩, 26) := ⟨⟨by decide +kernel, by decide +kernel⟩, List.mem_of_getElem? (i := 626) (by decide +kernel), List.mem_of_getElem? (i := 847) (by decide +kernel), List.mem_of_getElem? (i := 848) (by decide +kernel)⟩
theorem lw_p43 : lw_okq (⟨"AddedCriesModel", "lengthen", "(III)V"⟩, 26) := ⟨⟨by decide +kernel, by decide +kernel⟩, List.mem_of_getElem? (i := 626) (by decide +kernel), List.mem_of_getElem? (i := 851) (by decide +kernel), List.mem_of_getElem? (i := 852) (by decide +kernel)⟩
theorem lw_p44 : lw_okq (⟨"AddedCriesModel", "behind", "(III)I"⟩, 26) := ⟨⟨by decide +kernel, by decide +kernel⟩, List.mem_of_getElem? (i := 626) (by decide +kernel), List.mem_of_getElem? (i := 855) (by decide +kernel), List.mem_of_getElem? (i := 856) (by decide +kernel)⟩
theorem lw_p45 : lw_okq (⟨"AddedCriesModel", "alikeFrom", "(IIII)I"⟩, 26) := ⟨⟨by decide +kernel, by decide +kernel⟩, List.mem_of_getElem? (i := 626) (by decide +kernel), List.mem_of_getElem? (i := 871) (by decide +kernel), List.mem_of_getElem? (i := 872) (by decide +kernel)⟩
theorem lw_p46 : lw_okq (⟨"AddedCriesModel", "isIn", "(III)Z"⟩, 26) := ⟨⟨by decide +kernel, by decide +kernel⟩, List.mem_of_getElem? (i := 626) (by decide +kernel), List.mem_of_getElem? (i := 879) (by decide +kernel), List.mem_of_getElem? (i := 880) (by decide +kernel)⟩
theorem lw_p47 : lw_okq (⟨"AddedCriesModel", "lost", "(I)J"⟩, 26) := ⟨⟨by decide +kernel, by decide +kernel⟩, List.mem_of_getElem? (i := 626) (by decide +kernel), List.mem_of_getElem? (i := 899) (by decide +kernel), List.mem_of_getElem? (i := 900) (by decide +kernel)⟩
def lw_privs_3 : List (MethodName × Nat) := [(⟨"AddedCriesModel", "isWithin", "(II)Z"⟩, 26), (⟨"AddedCriesModel", "saidWith", "(III)I"⟩, 26), (⟨"AddedCriesModel", "saidBy", "(I)I"⟩, 26), (⟨"AddedCriesModel", "findPut", "(IIZ)V"⟩, 26), (⟨"AddedCriesModel", "isSo", "(IIZII)Z"⟩, 26), (⟨"AddedCriesModel", "mayStand", "(III)Z"⟩, 26), (⟨"AddedCriesModel", "layYet", "(II)V"⟩, 26), (⟨"AddedCriesModel", "layOne", "(IIII)V"⟩, 26), (⟨"AddedCriesModel", "wordOf", "(III)I"⟩, 26), (⟨"AddedCriesModel", "threeYet", "(IIIIII)I"⟩, 26), (⟨"AddedCriesModel", "between", "(IIII)J"⟩, 26), (⟨"AddedCriesModel", "lengthen", "(III)V"⟩, 26), (⟨"AddedCriesModel", "behind", "(III)I"⟩, 26), (⟨"AddedCriesModel", "alikeFrom", "(IIII)I"⟩, 26), (⟨"AddedCriesModel", "isIn", "(III)Z"⟩, 26), (⟨"AddedCriesModel", "lost", "(I)J"⟩, 26)]
theorem lw_r3 : ∀ q ∈ lw_privs_3, lw_okq q := List.forall_mem_cons.mpr ⟨lw_p32, List.forall_mem_cons.mpr ⟨lw_p33, List.forall_mem_cons.mpr ⟨lw_p34, List.forall_mem_cons.mpr ⟨lw_p35, List.forall_mem_cons.mpr ⟨lw_p36, List.forall_mem_cons.mpr ⟨lw_p37, List.forall_mem_cons.mpr ⟨lw_p38, List.forall_mem_cons.mpr ⟨lw_p39, List.forall_mem_cons.mpr ⟨lw_p40, List.forall_mem_cons.mpr ⟨lw_p41, List.forall_mem_cons.mpr ⟨lw_p42, List.forall_mem_cons.mpr ⟨lw_p43, List.forall_mem_cons.mpr ⟨lw_p44, List.forall_mem_cons.mpr ⟨lw_p45, List.forall_mem_cons.mpr ⟨lw_p46, List.forall_mem_cons.mpr ⟨lw_p47, fun _ h => absurd h List.not_mem_nil⟩⟩⟩⟩⟩⟩⟩⟩⟩⟩⟩⟩⟩⟩⟩⟩
theorem lw_p48 : lw_okq (⟨"AddedCriesModel", "inCries", "(I)I"⟩, 26) := ⟨⟨by decide +kernel, by decide +kernel⟩, List.mem_of_getElem? (i := 626) (by decide +kernel), List.mem_of_getElem? (i := 911) (by decide +kernel), List.mem_of_getElem? (i := 912) (by decide +kernel)⟩
theorem lw_p49 : lw_okq (⟨"AddedCriesModel", "begins", "(I)V"⟩, 26) := ⟨⟨by decide +kernel, by decide +kernel⟩, List.mem_of_getElem? (i := 626) (by decide +kernel), List.mem_of_getElem? (i := 915) (by decide +kernel), List.mem_of_getElem? (i := 916) (by decide +kernel)⟩
def lw_privs_4 : List (MethodName × Nat) := [(⟨"AddedCriesModel", "inCries", "(I)I"⟩, 26), (⟨"AddedCriesModel", "begins", "(I)V"⟩, 26)]
theorem lw_r4 : ∀ q ∈ lw_privs_4, lw_okq q := List.forall_mem_cons.mpr ⟨lw_p48, List.forall_mem_cons.mpr ⟨lw_p49, fun _ h => absurd h List.not_mem_nil⟩⟩
def lw_privs : List (MethodName × Nat) := lw_privs_1 ++ (lw_privs_2 ++ (lw_privs_3 ++ (lw_privs_4)))
def lw_tbl : List Cond := k2_sels lw_privs ++ tables_1
theorem lw_privs_ok : ∀ q ∈ lw_privs, lw_okq q := by
  show ∀ q ∈ lw_privs_1 ++ (lw_privs_2 ++ (lw_privs_3 ++ (lw_privs_4))), lw_okq q
  exact List.forall_mem_append.mpr ⟨lw_r1, List.forall_mem_append.mpr ⟨lw_r2, List.forall_mem_append.mpr ⟨lw_r3, lw_r4⟩⟩⟩
-- ===== end of PART A; then your names; then what follows =====
end
section
/-! ===== BEGIN words of one list among another's, by their places ===== -/
theorem goodIn_r {big : List Cond} (ws : List Cond) (ps : List Nat) (hp : ws = ps.filterMap (fun i => big[i]?)) (h : ws.all goodWord = true) : GoodIn big ws := by
  intro w hw
  have h1 := List.all_eq_true.mp h w hw
  rw [hp] at hw
  obtain ⟨i, -, hi⟩ := List.mem_filterMap.mp hw
  have hm : w ∈ big := by first | exact List.mem_of_getElem? hi | exact List.getElem?_mem hi
  exact ⟨hm, good_of_word h1⟩
theorem goodIn_app {big a b : List Cond} (ha : GoodIn big a) (hb : GoodIn big b) : GoodIn big (a ++ b) := fun w h => (List.mem_append.mp h).elim (ha w) (hb w)
theorem goodIn_ca {big a b : List Cond} {c : Cond} (ha : GoodIn big (c :: a)) (hb : GoodIn big b) : GoodIn big (c :: (a ++ b)) := fun w h => (List.mem_cons.mp h).elim (fun e => ha w (List.mem_cons.mpr (Or.inl e))) (fun h => (List.mem_append.mp h).elim (fun h => ha w (List.mem_cons.mpr (Or.inr h))) (hb w))
theorem goodIn_sub {big ws : List Cond} (hm : ∀ w ∈ ws, w ∈ big) (h : ws.all goodWord = true) : GoodIn big ws := fun w hw => ⟨hm w hw, good_of_word (List.all_eq_true.mp h w hw)⟩
/-! ===== END ===== -/

/-! ===== BEGIN printed: names, fields, word lists, decode rows ===== -/
def RX0 : String := "AddedCries$Between"
def TX0 : u_T := fun k => match k with
  | 0 => ("AddedCries$Between", "now", "LAddedCries$Grid;", false)
  | _ => ("AddedCries$Between", "then", "LAddedCries$Grid;", false)
def tyX0 : Nat → FieldType := fun k => match k with
  | 0 => .object "AddedCries$Grid"
  | _ => .object "AddedCries$Grid"
abbrev wsX00 : List Cond := u_ws RX0 TX0 2
theorem nmX0 : ∀ a, a < 2 → ∀ b, b < 2 → a ≠ b → (TX0 a).2.1 ≠ (TX0 b).2.1 := by decide +kernel
theorem tyX0_ok : ∀ k, k < 2 → parseFieldDescriptor (TX0 k).2.2.1 = some (tyX0 k) := by decide +kernel
abbrev cX0_init : ByteArray := prog_2_method_1_code
def yX0_init : MethodName := ⟨RX0, "<init>", "()V"⟩
abbrev cX0_count : ByteArray := prog_2_method_2_code
def yX0_count : MethodName := ⟨RX0, "count", "(LAddedCries$Cry;LAddedCries$Cry;I)J"⟩
abbrev cX0_goOn : ByteArray := prog_2_method_3_code
def yX0_goOn : MethodName := ⟨RX0, "goOn", "(LAddedCries$Cry;LAddedCries$Cry;)V"⟩
abbrev cX0_goOnFrom : ByteArray := prog_2_method_4_code
def yX0_goOnFrom : MethodName := ⟨RX0, "goOnFrom", "(LAddedCries$Cry;ILAddedCries$Cry;IJ)V"⟩
def RX1 : String := "AddedCries$Braid"
def TX1 : u_T := fun k => match k with
  | 0 => ("AddedCries$Braid", "here", "LAddedCries$Grid;", false)
  | _ => ("AddedCries$Braid", "next", "LAddedCries$Grid;", false)
def tyX1 : Nat → FieldType := fun k => match k with
  | 0 => .object "AddedCries$Grid"
  | _ => .object "AddedCries$Grid"
abbrev wsX10 : List Cond := u_ws RX1 TX1 2
theorem nmX1 : ∀ a, a < 2 → ∀ b, b < 2 → a ≠ b → (TX1 a).2.1 ≠ (TX1 b).2.1 := by decide +kernel
theorem tyX1_ok : ∀ k, k < 2 → parseFieldDescriptor (TX1 k).2.2.1 = some (tyX1 k) := by decide +kernel
abbrev cX1_init : ByteArray := prog_3_method_1_code
def yX1_init : MethodName := ⟨RX1, "<init>", "()V"⟩
abbrev cX1_length : ByteArray := prog_3_method_2_code
def yX1_length : MethodName := ⟨RX1, "length", "(LAddedCries$Cry;LAddedCries$Cry;LAddedCries$Cry;)I"⟩
abbrev cX1_lengthAt : ByteArray := prog_3_method_3_code
def yX1_lengthAt : MethodName := ⟨RX1, "lengthAt", "(IIIII)J"⟩
abbrev cX1_by : ByteArray := prog_3_method_4_code
def yX1_by : MethodName := ⟨RX1, "by", "(IIIIII)J"⟩
abbrev cX1_shorter : ByteArray := prog_3_method_5_code
def yX1_shorter : MethodName := ⟨RX1, "shorter", "(JJ)J"⟩
def RX2 : String := "AddedCries$Cry"
def TX2 : u_T := fun k => match k with
  | 0 => ("AddedCries$Cry", "words", "[I", true)
  | _ => ("AddedCries$Cry", "size", "I", false)
def tyX2 : Nat → FieldType := fun k => match k with
  | 0 => .array .int
  | _ => .int
abbrev wsX20 : List Cond := u_ws RX2 TX2 2
theorem nmX2 : ∀ a, a < 2 → ∀ b, b < 2 → a ≠ b → (TX2 a).2.1 ≠ (TX2 b).2.1 := by decide +kernel
theorem tyX2_ok : ∀ k, k < 2 → parseFieldDescriptor (TX2 k).2.2.1 = some (tyX2 k) := by decide +kernel
abbrev cX2_init : ByteArray := prog_4_method_1_code
def yX2_init : MethodName := ⟨RX2, "<init>", "()V"⟩
abbrev cX2_size : ByteArray := prog_4_method_2_code
def yX2_size : MethodName := ⟨RX2, "size", "()I"⟩
abbrev cX2_isFull : ByteArray := prog_4_method_3_code
def yX2_isFull : MethodName := ⟨RX2, "isFull", "()Z"⟩
abbrev cX2_has : ByteArray := prog_4_method_4_code
def yX2_has : MethodName := ⟨RX2, "has", "(I)Z"⟩
abbrev cX2_at : ByteArray := prog_4_method_5_code
def yX2_at : MethodName := ⟨RX2, "at", "(I)I"⟩
abbrev cX2_hasWord : ByteArray := prog_4_method_6_code
def yX2_hasWord : MethodName := ⟨RX2, "hasWord", "(I)Z"⟩
abbrev cX2_clear : ByteArray := prog_4_method_7_code
def yX2_clear : MethodName := ⟨RX2, "clear", "()V"⟩
abbrev cX2_insert : ByteArray := prog_4_method_8_code
def yX2_insert : MethodName := ⟨RX2, "insert", "(II)V"⟩
def RX3 : String := "AddedCries$Fit"
def TX3 : u_T := fun k => match k with
  | 0 => ("AddedCries$Fit", "firsts", "[I", true)
  | 1 => ("AddedCries$Fit", "lasts", "[I", true)
  | _ => ("AddedCries$Fit", "choices", "[J", true)
def tyX3 : Nat → FieldType := fun k => match k with
  | 0 => .array .int
  | 1 => .array .int
  | _ => .array .long
abbrev wsX30 : List Cond := u_ws RX3 TX3 3
theorem nmX3 : ∀ a, a < 3 → ∀ b, b < 3 → a ≠ b → (TX3 a).2.1 ≠ (TX3 b).2.1 := by decide +kernel
theorem tyX3_ok : ∀ k, k < 3 → parseFieldDescriptor (TX3 k).2.2.1 = some (tyX3 k) := by decide +kernel
abbrev cX3_init : ByteArray := prog_5_method_1_code
def yX3_init : MethodName := ⟨RX3, "<init>", "()V"⟩
abbrev cX3_make : ByteArray := prog_5_method_2_code
def yX3_make : MethodName := ⟨RX3, "make", "(LAddedCries$Cry;LAddedCries$Cry;)Z"⟩
abbrev cX3_first : ByteArray := prog_5_method_3_code
def yX3_first : MethodName := ⟨RX3, "first", "(I)I"⟩
abbrev cX3_last : ByteArray := prog_5_method_4_code
def yX3_last : MethodName := ⟨RX3, "last", "(I)I"⟩
abbrev cX3_canStand : ByteArray := prog_5_method_5_code
def yX3_canStand : MethodName := ⟨RX3, "canStand", "(LAddedCries$Cry;LAddedCries$Cry;I)Z"⟩
abbrev cX3_choices : ByteArray := prog_5_method_6_code
def yX3_choices : MethodName := ⟨RX3, "choices", "(LAddedCries$Cry;LAddedCries$Cry;)J"⟩
def RX4 : String := "AddedCries$Grid"
def TX4 : u_T := fun k => match k with
  | _ => ("AddedCries$Grid", "cells", "[J", true)
def tyX4 : Nat → FieldType := fun k => match k with
  | _ => .array .long
abbrev wsX40 : List Cond := u_ws RX4 TX4 1
theorem nmX4 : ∀ a, a < 1 → ∀ b, b < 1 → a ≠ b → (TX4 a).2.1 ≠ (TX4 b).2.1 := by decide +kernel
theorem tyX4_ok : ∀ k, k < 1 → parseFieldDescriptor (TX4 k).2.2.1 = some (tyX4 k) := by decide +kernel
abbrev cX4_init : ByteArray := prog_6_method_1_code
def yX4_init : MethodName := ⟨RX4, "<init>", "()V"⟩
abbrev cX4_isInside : ByteArray := prog_6_method_2_code
def yX4_isInside : MethodName := ⟨RX4, "isInside", "(II)Z"⟩
abbrev cX4_at : ByteArray := prog_6_method_3_code
def yX4_at : MethodName := ⟨RX4, "at", "(II)J"⟩
abbrev cX4_write : ByteArray := prog_6_method_4_code
def yX4_write : MethodName := ⟨RX4, "write", "(IIJ)V"⟩
abbrev cX4_more : ByteArray := prog_6_method_5_code
def yX4_more : MethodName := ⟨RX4, "more", "(IIJ)V"⟩
abbrev cX4_clear : ByteArray := prog_6_method_6_code
def yX4_clear : MethodName := ⟨RX4, "clear", "()V"⟩
def RX5 : String := "AddedCries$Sayings"
def TX5 : u_T := fun k => match k with
  | 0 => ("AddedCries$Sayings", "ends", "[Z", true)
  | _ => ("AddedCries$Sayings", "found", "[I", true)
def tyX5 : Nat → FieldType := fun k => match k with
  | 0 => .array .boolean
  | _ => .array .int
abbrev wsX50 : List Cond := u_ws RX5 TX5 2
theorem nmX5 : ∀ a, a < 2 → ∀ b, b < 2 → a ≠ b → (TX5 a).2.1 ≠ (TX5 b).2.1 := by decide +kernel
theorem tyX5_ok : ∀ k, k < 2 → parseFieldDescriptor (TX5 k).2.2.1 = some (tyX5 k) := by decide +kernel
abbrev cX5_init : ByteArray := prog_7_method_1_code
def yX5_init : MethodName := ⟨RX5, "<init>", "()V"⟩
abbrev cX5_isSaid : ByteArray := prog_7_method_2_code
def yX5_isSaid : MethodName := ⟨RX5, "isSaid", "(LAddedCries$Cry;[II)Z"⟩
abbrev cX5_fewest : ByteArray := prog_7_method_3_code
def yX5_fewest : MethodName := ⟨RX5, "fewest", "(LAddedCries$Cry;[IIZ)I"⟩
abbrev cX5_found : ByteArray := prog_7_method_4_code
def yX5_found : MethodName := ⟨RX5, "found", "(I)I"⟩
abbrev cX5_after : ByteArray := prog_7_method_5_code
def yX5_after : MethodName := ⟨RX5, "after", "(II[II)I"⟩
abbrev cX5_keepEnds : ByteArray := prog_7_method_6_code
def yX5_keepEnds : MethodName := ⟨RX5, "keepEnds", "(LAddedCries$Cry;[II)V"⟩
abbrev cX5_endsSaid : ByteArray := prog_7_method_7_code
def yX5_endsSaid : MethodName := ⟨RX5, "endsSaid", "(II)Z"⟩
abbrev cX5_findOne : ByteArray := prog_7_method_8_code
def yX5_findOne : MethodName := ⟨RX5, "findOne", "(LAddedCries$Cry;[IIZIII)Z"⟩
abbrev cX5_findTwo : ByteArray := prog_7_method_9_code
def yX5_findTwo : MethodName := ⟨RX5, "findTwo", "(LAddedCries$Cry;[IIZ)Z"⟩
abbrev cX5_keep : ByteArray := prog_7_method_10_code
def yX5_keep : MethodName := ⟨RX5, "keep", "(III)V"⟩
def RX6 : String := "AddedCries$Sheet"
def TX6 : u_T := fun k => match k with
  | 0 => ("AddedCries$Sheet", "cells", "[I", true)
  | 1 => ("AddedCries$Sheet", "size", "I", false)
  | _ => ("AddedCries$Sheet", "sort", "I", false)
def tyX6 : Nat → FieldType := fun k => match k with
  | 0 => .array .int
  | 1 => .int
  | _ => .int
abbrev wsX60 : List Cond := u_ws RX6 TX6 3
theorem nmX6 : ∀ a, a < 3 → ∀ b, b < 3 → a ≠ b → (TX6 a).2.1 ≠ (TX6 b).2.1 := by decide +kernel
theorem tyX6_ok : ∀ k, k < 3 → parseFieldDescriptor (TX6 k).2.2.1 = some (tyX6 k) := by decide +kernel
abbrev cX6_init : ByteArray := prog_8_method_1_code
def yX6_init : MethodName := ⟨RX6, "<init>", "()V"⟩
abbrev cX6_isNothing : ByteArray := prog_8_method_2_code
def yX6_isNothing : MethodName := ⟨RX6, "isNothing", "()Z"⟩
abbrev cX6_sort : ByteArray := prog_8_method_3_code
def yX6_sort : MethodName := ⟨RX6, "sort", "()I"⟩
abbrev cX6_renew : ByteArray := prog_8_method_4_code
def yX6_renew : MethodName := ⟨RX6, "renew", "(II)V"⟩
abbrev cX6_drop : ByteArray := prog_8_method_5_code
def yX6_drop : MethodName := ⟨RX6, "drop", "()V"⟩
abbrev cX6_hasCells : ByteArray := prog_8_method_6_code
def yX6_hasCells : MethodName := ⟨RX6, "hasCells", "(II)Z"⟩
abbrev cX6_at : ByteArray := prog_8_method_7_code
def yX6_at : MethodName := ⟨RX6, "at", "(I)I"⟩
abbrev cX6_write : ByteArray := prog_8_method_8_code
def yX6_write : MethodName := ⟨RX6, "write", "(II)V"⟩
abbrev cX6_giveTo : ByteArray := prog_8_method_9_code
def yX6_giveTo : MethodName := ⟨RX6, "giveTo", "(ILAddedCries$Sheet;II)V"⟩
abbrev cX6_cut : ByteArray := prog_8_method_10_code
def yX6_cut : MethodName := ⟨RX6, "cut", "(I)I"⟩
def RX7 : String := "AddedCries$Weave"
def TX7 : u_T := fun k => match k with
  | 0 => ("AddedCries$Weave", "lengths", "LAddedCries$Grid;", true)
  | _ => ("AddedCries$Weave", "counts", "LAddedCries$Grid;", true)
def tyX7 : Nat → FieldType := fun k => match k with
  | 0 => .object "AddedCries$Grid"
  | _ => .object "AddedCries$Grid"
abbrev wsX70 : List Cond := u_ws RX7 TX7 2
theorem nmX7 : ∀ a, a < 2 → ∀ b, b < 2 → a ≠ b → (TX7 a).2.1 ≠ (TX7 b).2.1 := by decide +kernel
theorem tyX7_ok : ∀ k, k < 2 → parseFieldDescriptor (TX7 k).2.2.1 = some (tyX7 k) := by decide +kernel
abbrev cX7_init : ByteArray := prog_9_method_1_code
def yX7_init : MethodName := ⟨RX7, "<init>", "()V"⟩
abbrev cX7_make : ByteArray := prog_9_method_2_code
def yX7_make : MethodName := ⟨RX7, "make", "(LAddedCries$Cry;LAddedCries$Cry;)V"⟩
abbrev cX7_length : ByteArray := prog_9_method_3_code
def yX7_length : MethodName := ⟨RX7, "length", "()I"⟩
abbrev cX7_howMany : ByteArray := prog_9_method_4_code
def yX7_howMany : MethodName := ⟨RX7, "howMany", "()J"⟩
abbrev cX7_wordOfFirst : ByteArray := prog_9_method_5_code
def yX7_wordOfFirst : MethodName := ⟨RX7, "wordOfFirst", "(LAddedCries$Cry;LAddedCries$Cry;I)I"⟩
abbrev cX7_makeAt : ByteArray := prog_9_method_6_code
def yX7_makeAt : MethodName := ⟨RX7, "makeAt", "(LAddedCries$Cry;ILAddedCries$Cry;I)V"⟩
abbrev cX7_keep : ByteArray := prog_9_method_7_code
def yX7_keep : MethodName := ⟨RX7, "keep", "(IIJJ)V"⟩
abbrev cX7_firstWord : ByteArray := prog_9_method_8_code
def yX7_firstWord : MethodName := ⟨RX7, "firstWord", "(LAddedCries$Cry;ILAddedCries$Cry;I)I"⟩
def RX8 : String := "AddedCries"
def TX8 : u_T := fun k => match k with
  | 0 => ("AddedCries", "kinds", "[I", true)
  | 1 => ("AddedCries", "days", "[LAddedCries$Cry;", true)
  | 2 => ("AddedCries", "sheets", "[LAddedCries$Sheet;", true)
  | 3 => ("AddedCries", "wordless", "LAddedCries$Cry;", true)
  | 4 => ("AddedCries", "fit", "LAddedCries$Fit;", true)
  | 5 => ("AddedCries", "sayings", "LAddedCries$Sayings;", true)
  | 6 => ("AddedCries", "weave", "LAddedCries$Weave;", true)
  | 7 => ("AddedCries", "braid", "LAddedCries$Braid;", true)
  | 8 => ("AddedCries", "between", "LAddedCries$Between;", true)
  | 9 => ("AddedCries", "fewestParts", "[I", true)
  | 10 => ("AddedCries", "dayCount", "I", false)
  | 11 => ("AddedCries", "traced", "I", false)
  | _ => ("AddedCries", "latestFault", "I", false)
def tyX8 : Nat → FieldType := fun k => match k with
  | 0 => .array .int
  | 1 => .array (.object "AddedCries$Cry")
  | 2 => .array (.object "AddedCries$Sheet")
  | 3 => .object "AddedCries$Cry"
  | 4 => .object "AddedCries$Fit"
  | 5 => .object "AddedCries$Sayings"
  | 6 => .object "AddedCries$Weave"
  | 7 => .object "AddedCries$Braid"
  | 8 => .object "AddedCries$Between"
  | 9 => .array .int
  | 10 => .int
  | 11 => .int
  | _ => .int
abbrev wsX80 : List Cond := u_ws RX8 TX8 13
theorem nmX8 : ∀ a, a < 13 → ∀ b, b < 13 → a ≠ b → (TX8 a).2.1 ≠ (TX8 b).2.1 := by decide +kernel
theorem tyX8_ok : ∀ k, k < 13 → parseFieldDescriptor (TX8 k).2.2.1 = some (tyX8 k) := by decide +kernel
abbrev cX8_init : ByteArray := prog_1_method_1_code
def yX8_init : MethodName := ⟨RX8, "<init>", "()V"⟩
abbrev cX8_cries : ByteArray := prog_1_method_2_code
def yX8_cries : MethodName := ⟨RX8, "cries", "(IIII)I"⟩
abbrev cX8_kind : ByteArray := prog_1_method_3_code
def yX8_kind : MethodName := ⟨RX8, "kind", "(II)I"⟩
abbrev cX8_ofDay : ByteArray := prog_1_method_4_code
def yX8_ofDay : MethodName := ⟨RX8, "ofDay", "(II)I"⟩
abbrev cX8_add : ByteArray := prog_1_method_5_code
def yX8_add : MethodName := ⟨RX8, "add", "(II)I"⟩
abbrev cX8_within : ByteArray := prog_1_method_6_code
def yX8_within : MethodName := ⟨RX8, "within", "(II)I"⟩
abbrev cX8_leftOut : ByteArray := prog_1_method_7_code
def yX8_leftOut : MethodName := ⟨RX8, "leftOut", "()I"⟩
abbrev cX8_said : ByteArray := prog_1_method_8_code
def yX8_said : MethodName := ⟨RX8, "said", "(I)I"⟩
abbrev cX8_putIn : ByteArray := prog_1_method_9_code
def yX8_putIn : MethodName := ⟨RX8, "putIn", "(IIZI)I"⟩
abbrev cX8_ways : ByteArray := prog_1_method_10_code
def yX8_ways : MethodName := ⟨RX8, "ways", "(II)J"⟩
abbrev cX8_place : ByteArray := prog_1_method_11_code
def yX8_place : MethodName := ⟨RX8, "place", "(IIII)I"⟩
abbrev cX8_mayBe : ByteArray := prog_1_method_12_code
def yX8_mayBe : MethodName := ⟨RX8, "mayBe", "(I)I"⟩
abbrev cX8_both : ByteArray := prog_1_method_13_code
def yX8_both : MethodName := ⟨RX8, "both", "(III)I"⟩
abbrev cX8_shortest : ByteArray := prog_1_method_14_code
def yX8_shortest : MethodName := ⟨RX8, "shortest", "(III)J"⟩
abbrev cX8_three : ByteArray := prog_1_method_15_code
def yX8_three : MethodName := ⟨RX8, "three", "(III)I"⟩
abbrev cX8_lostDay : ByteArray := prog_1_method_16_code
def yX8_lostDay : MethodName := ⟨RX8, "lostDay", "(III)J"⟩
abbrev cX8_roots : ByteArray := prog_1_method_17_code
def yX8_roots : MethodName := ⟨RX8, "roots", "(II)J"⟩
abbrev cX8_breaths : ByteArray := prog_1_method_18_code
def yX8_breaths : MethodName := ⟨RX8, "breaths", "(II)I"⟩
abbrev cX8_once : ByteArray := prog_1_method_19_code
def yX8_once : MethodName := ⟨RX8, "once", "(III)I"⟩
abbrev cX8_twice : ByteArray := prog_1_method_20_code
def yX8_twice : MethodName := ⟨RX8, "twice", "(I)I"⟩
abbrev cX8_sheet : ByteArray := prog_1_method_21_code
def yX8_sheet : MethodName := ⟨RX8, "sheet", "(III)I"⟩
abbrev cX8_lose : ByteArray := prog_1_method_22_code
def yX8_lose : MethodName := ⟨RX8, "lose", "(I)I"⟩
abbrev cX8_put : ByteArray := prog_1_method_23_code
def yX8_put : MethodName := ⟨RX8, "put", "(III)I"⟩
abbrev cX8_cell : ByteArray := prog_1_method_24_code
def yX8_cell : MethodName := ⟨RX8, "cell", "(III)J"⟩
abbrev cX8_copy : ByteArray := prog_1_method_25_code
def yX8_copy : MethodName := ⟨RX8, "copy", "(IIIII)I"⟩
abbrev cX8_tell : ByteArray := prog_1_method_26_code
def yX8_tell : MethodName := ⟨RX8, "tell", "(I)I"⟩
abbrev cX8_sing : ByteArray := prog_1_method_27_code
def yX8_sing : MethodName := ⟨RX8, "sing", "(I)I"⟩
abbrev cX8_as : ByteArray := prog_1_method_28_code
def yX8_as : MethodName := ⟨RX8, "as", "(II)I"⟩
abbrev cX8_trace : ByteArray := prog_1_method_29_code
def yX8_trace : MethodName := ⟨RX8, "trace", "()I"⟩
abbrev cX8_fault : ByteArray := prog_1_method_30_code
def yX8_fault : MethodName := ⟨RX8, "fault", "()I"⟩
abbrev cX8_many : ByteArray := prog_1_method_31_code
def yX8_many : MethodName := ⟨RX8, "many", "()I"⟩
abbrev cX8_isWord : ByteArray := prog_1_method_32_code
def yX8_isWord : MethodName := ⟨RX8, "isWord", "(I)Z"⟩
abbrev cX8_isKind : ByteArray := prog_1_method_33_code
def yX8_isKind : MethodName := ⟨RX8, "isKind", "(I)Z"⟩
abbrev cX8_isSort : ByteArray := prog_1_method_34_code
def yX8_isSort : MethodName := ⟨RX8, "isSort", "(I)Z"⟩
abbrev cX8_isFirstOrSecond : ByteArray := prog_1_method_35_code
def yX8_isFirstOrSecond : MethodName := ⟨RX8, "isFirstOrSecond", "(I)Z"⟩
abbrev cX8_cryOf : ByteArray := prog_1_method_36_code
def yX8_cryOf : MethodName := ⟨RX8, "cryOf", "(I)LAddedCries$Cry;"⟩
abbrev cX8_lastCry : ByteArray := prog_1_method_37_code
def yX8_lastCry : MethodName := ⟨RX8, "lastCry", "()LAddedCries$Cry;"⟩
abbrev cX8_sheetOf : ByteArray := prog_1_method_38_code
def yX8_sheetOf : MethodName := ⟨RX8, "sheetOf", "(I)LAddedCries$Sheet;"⟩
abbrev cX8_fails : ByteArray := prog_1_method_39_code
def yX8_fails : MethodName := ⟨RX8, "fails", "(I)I"⟩
abbrev cX8_readingFault : ByteArray := prog_1_method_40_code
def yX8_readingFault : MethodName := ⟨RX8, "readingFault", "(LAddedCries$Sheet;I)I"⟩
abbrev cX8_isLetter : ByteArray := prog_1_method_41_code
def yX8_isLetter : MethodName := ⟨RX8, "isLetter", "(I)Z"⟩
abbrev cX8_firstFaultOf : ByteArray := prog_1_method_42_code
def yX8_firstFaultOf : MethodName := ⟨RX8, "firstFaultOf", "(LAddedCries$Sheet;II)I"⟩
abbrev cX8_takeText : ByteArray := prog_1_method_43_code
def yX8_takeText : MethodName := ⟨RX8, "takeText", "(LAddedCries$Sheet;II)V"⟩
abbrev cX8_beginDay : ByteArray := prog_1_method_44_code
def yX8_beginDay : MethodName := ⟨RX8, "beginDay", "()V"⟩
abbrev cX8_fewestBreaths : ByteArray := prog_1_method_45_code
def yX8_fewestBreaths : MethodName := ⟨RX8, "fewestBreaths", "(LAddedCries$Cry;I)I"⟩
abbrev cX8_isDenial : ByteArray := prog_1_method_46_code
def yX8_isDenial : MethodName := ⟨RX8, "isDenial", "(I)Z"⟩
abbrev cX8_longestPartAt : ByteArray := prog_1_method_47_code
def yX8_longestPartAt : MethodName := ⟨RX8, "longestPartAt", "(LAddedCries$Cry;ILAddedCries$Cry;)I"⟩
abbrev cX8_likeOnEnd : ByteArray := prog_1_method_48_code
def yX8_likeOnEnd : MethodName := ⟨RX8, "likeOnEnd", "(LAddedCries$Cry;ILAddedCries$Cry;I)I"⟩
abbrev cX8_leave : ByteArray := prog_1_method_49_code
def yX8_leave : MethodName := ⟨RX8, "leave", "(I)V"⟩
abbrev cX8_wordTells : ByteArray := prog_1_method_50_code
def yX8_wordTells : MethodName := ⟨RX8, "wordTells", "(I)I"⟩
abbrev cX8_denialTells : ByteArray := prog_1_method_51_code
def yX8_denialTells : MethodName := ⟨RX8, "denialTells", "(I)I"⟩
abbrev cX8_doubtTells : ByteArray := prog_1_method_52_code
def yX8_doubtTells : MethodName := ⟨RX8, "doubtTells", "(I)I"⟩
abbrev cX8_wordSings : ByteArray := prog_1_method_53_code
def yX8_wordSings : MethodName := ⟨RX8, "wordSings", "(I)I"⟩
abbrev cX8_doubtSings : ByteArray := prog_1_method_54_code
def yX8_doubtSings : MethodName := ⟨RX8, "doubtSings", "()I"⟩
def RX9 : String := "AddedCriesModel"
def TX9 : u_T := fun k => match k with
  | 0 => ("AddedCriesModel", "fault", "I", false)
  | 1 => ("AddedCriesModel", "trace", "I", false)
  | 2 => ("AddedCriesModel", "sorts", "[I", true)
  | 3 => ("AddedCriesModel", "sheetLong", "[I", true)
  | 4 => ("AddedCriesModel", "cells", "[I", true)
  | 5 => ("AddedCriesModel", "kinds", "[I", true)
  | 6 => ("AddedCriesModel", "days", "I", false)
  | 7 => ("AddedCriesModel", "length", "[I", true)
  | 8 => ("AddedCriesModel", "words", "[I", true)
  | 9 => ("AddedCriesModel", "at", "I", false)
  | 10 => ("AddedCriesModel", "readDays", "I", false)
  | 11 => ("AddedCriesModel", "readLength", "[I", true)
  | 12 => ("AddedCriesModel", "readWords", "[I", true)
  | 13 => ("AddedCriesModel", "left", "[I", true)
  | 14 => ("AddedCriesModel", "right", "[I", true)
  | 15 => ("AddedCriesModel", "row", "[I", true)
  | 16 => ("AddedCriesModel", "putMany", "I", false)
  | 17 => ("AddedCriesModel", "putOne", "I", false)
  | 18 => ("AddedCriesModel", "putTwo", "I", false)
  | 19 => ("AddedCriesModel", "ways", "[J", true)
  | 20 => ("AddedCriesModel", "yet", "[I", true)
  | 21 => ("AddedCriesModel", "many", "[J", true)
  | 22 => ("AddedCriesModel", "three", "[I", true)
  | 23 => ("AddedCriesModel", "rows", "[J", true)
  | 24 => ("AddedCriesModel", "longer", "[J", true)
  | _ => ("AddedCriesModel", "breath", "[I", true)
def tyX9 : Nat → FieldType := fun k => match k with
  | 0 => .int
  | 1 => .int
  | 2 => .array .int
  | 3 => .array .int
  | 4 => .array .int
  | 5 => .array .int
  | 6 => .int
  | 7 => .array .int
  | 8 => .array .int
  | 9 => .int
  | 10 => .int
  | 11 => .array .int
  | 12 => .array .int
  | 13 => .array .int
  | 14 => .array .int
  | 15 => .array .int
  | 16 => .int
  | 17 => .int
  | 18 => .int
  | 19 => .array .long
  | 20 => .array .int
  | 21 => .array .long
  | 22 => .array .int
  | 23 => .array .long
  | 24 => .array .long
  | _ => .array .int
abbrev wsX90 : List Cond := u_ws RX9 TX9 26
theorem nmX9 : ∀ a, a < 26 → ∀ b, b < 26 → a ≠ b → (TX9 a).2.1 ≠ (TX9 b).2.1 := by decide +kernel
theorem tyX9_ok : ∀ k, k < 26 → parseFieldDescriptor (TX9 k).2.2.1 = some (tyX9 k) := by decide +kernel
abbrev cX9_init : ByteArray := prog_11_method_1_code
def yX9_init : MethodName := ⟨RX9, "<init>", "()V"⟩
abbrev cX9_fails : ByteArray := prog_11_method_3_code
def yX9_fails : MethodName := ⟨RX9, "fails", "(I)I"⟩
abbrev cX9_lost : ByteArray := prog_11_method_4_code
def yX9_lost : MethodName := ⟨RX9, "lost", "(I)J"⟩
abbrev cX9_inside : ByteArray := prog_11_method_5_code
def yX9_inside : MethodName := ⟨RX9, "inside", "(III)Z"⟩
abbrev cX9_isSheet : ByteArray := prog_11_method_6_code
def yX9_isSheet : MethodName := ⟨RX9, "isSheet", "(I)Z"⟩
abbrev cX9_isSort : ByteArray := prog_11_method_7_code
def yX9_isSort : MethodName := ⟨RX9, "isSort", "(I)Z"⟩
abbrev cX9_against : ByteArray := prog_11_method_8_code
def yX9_against : MethodName := ⟨RX9, "against", "(IIII)I"⟩
abbrev cX9_isDay : ByteArray := prog_11_method_9_code
def yX9_isDay : MethodName := ⟨RX9, "isDay", "(I)Z"⟩
abbrev cX9_isWord : ByteArray := prog_11_method_10_code
def yX9_isWord : MethodName := ⟨RX9, "isWord", "(I)Z"⟩
abbrev cX9_wordAt : ByteArray := prog_11_method_11_code
def yX9_wordAt : MethodName := ⟨RX9, "wordAt", "(II)I"⟩
abbrev cX9_cries : ByteArray := prog_11_method_12_code
def yX9_cries : MethodName := ⟨RX9, "cries", "(IIII)I"⟩
abbrev cX9_readCries : ByteArray := prog_11_method_13_code
def yX9_readCries : MethodName := ⟨RX9, "readCries", "(I)Z"⟩
abbrev cX9_kind : ByteArray := prog_11_method_14_code
def yX9_kind : MethodName := ⟨RX9, "kind", "(II)I"⟩
abbrev cX9_ofDay : ByteArray := prog_11_method_15_code
def yX9_ofDay : MethodName := ⟨RX9, "ofDay", "(II)I"⟩
abbrev cX9_add : ByteArray := prog_11_method_16_code
def yX9_add : MethodName := ⟨RX9, "add", "(II)I"⟩
abbrev cX9_isWithin : ByteArray := prog_11_method_17_code
def yX9_isWithin : MethodName := ⟨RX9, "isWithin", "(II)Z"⟩
abbrev cX9_within : ByteArray := prog_11_method_18_code
def yX9_within : MethodName := ⟨RX9, "within", "(II)I"⟩
abbrev cX9_leftOut : ByteArray := prog_11_method_19_code
def yX9_leftOut : MethodName := ⟨RX9, "leftOut", "()I"⟩
abbrev cX9_saidBy : ByteArray := prog_11_method_20_code
def yX9_saidBy : MethodName := ⟨RX9, "saidBy", "(I)I"⟩
abbrev cX9_said : ByteArray := prog_11_method_21_code
def yX9_said : MethodName := ⟨RX9, "said", "(I)I"⟩
abbrev cX9_saidWith : ByteArray := prog_11_method_22_code
def yX9_saidWith : MethodName := ⟨RX9, "saidWith", "(III)I"⟩
abbrev cX9_isSo : ByteArray := prog_11_method_23_code
def yX9_isSo : MethodName := ⟨RX9, "isSo", "(IIZII)Z"⟩
abbrev cX9_findPut : ByteArray := prog_11_method_24_code
def yX9_findPut : MethodName := ⟨RX9, "findPut", "(IIZ)V"⟩
abbrev cX9_putIn : ByteArray := prog_11_method_25_code
def yX9_putIn : MethodName := ⟨RX9, "putIn", "(IIZI)I"⟩
abbrev cX9_spot : ByteArray := prog_11_method_26_code
def yX9_spot : MethodName := ⟨RX9, "spot", "(II)I"⟩
abbrev cX9_ways : ByteArray := prog_11_method_27_code
def yX9_ways : MethodName := ⟨RX9, "ways", "(II)J"⟩
abbrev cX9_place : ByteArray := prog_11_method_28_code
def yX9_place : MethodName := ⟨RX9, "place", "(IIII)I"⟩
abbrev cX9_mayStand : ByteArray := prog_11_method_29_code
def yX9_mayStand : MethodName := ⟨RX9, "mayStand", "(III)Z"⟩
abbrev cX9_mayBe : ByteArray := prog_11_method_30_code
def yX9_mayBe : MethodName := ⟨RX9, "mayBe", "(I)I"⟩
abbrev cX9_layYet : ByteArray := prog_11_method_31_code
def yX9_layYet : MethodName := ⟨RX9, "layYet", "(II)V"⟩
abbrev cX9_layOne : ByteArray := prog_11_method_32_code
def yX9_layOne : MethodName := ⟨RX9, "layOne", "(IIII)V"⟩
abbrev cX9_both : ByteArray := prog_11_method_33_code
def yX9_both : MethodName := ⟨RX9, "both", "(III)I"⟩
abbrev cX9_wordOf : ByteArray := prog_11_method_34_code
def yX9_wordOf : MethodName := ⟨RX9, "wordOf", "(III)I"⟩
abbrev cX9_shortest : ByteArray := prog_11_method_35_code
def yX9_shortest : MethodName := ⟨RX9, "shortest", "(III)J"⟩
abbrev cX9_threeYet : ByteArray := prog_11_method_36_code
def yX9_threeYet : MethodName := ⟨RX9, "threeYet", "(IIIIII)I"⟩
abbrev cX9_three : ByteArray := prog_11_method_37_code
def yX9_three : MethodName := ⟨RX9, "three", "(III)I"⟩
abbrev cX9_behind : ByteArray := prog_11_method_38_code
def yX9_behind : MethodName := ⟨RX9, "behind", "(III)I"⟩
abbrev cX9_lengthen : ByteArray := prog_11_method_39_code
def yX9_lengthen : MethodName := ⟨RX9, "lengthen", "(III)V"⟩
abbrev cX9_between : ByteArray := prog_11_method_40_code
def yX9_between : MethodName := ⟨RX9, "between", "(IIII)J"⟩
abbrev cX9_lostDay : ByteArray := prog_11_method_41_code
def yX9_lostDay : MethodName := ⟨RX9, "lostDay", "(III)J"⟩
abbrev cX9_roots : ByteArray := prog_11_method_42_code
def yX9_roots : MethodName := ⟨RX9, "roots", "(II)J"⟩
abbrev cX9_breaths : ByteArray := prog_11_method_43_code
def yX9_breaths : MethodName := ⟨RX9, "breaths", "(II)I"⟩
abbrev cX9_alikeFrom : ByteArray := prog_11_method_44_code
def yX9_alikeFrom : MethodName := ⟨RX9, "alikeFrom", "(IIII)I"⟩
abbrev cX9_once : ByteArray := prog_11_method_45_code
def yX9_once : MethodName := ⟨RX9, "once", "(III)I"⟩
abbrev cX9_isIn : ByteArray := prog_11_method_46_code
def yX9_isIn : MethodName := ⟨RX9, "isIn", "(III)Z"⟩
abbrev cX9_twice : ByteArray := prog_11_method_47_code
def yX9_twice : MethodName := ⟨RX9, "twice", "(I)I"⟩
abbrev cX9_sheet : ByteArray := prog_11_method_48_code
def yX9_sheet : MethodName := ⟨RX9, "sheet", "(III)I"⟩
abbrev cX9_lose : ByteArray := prog_11_method_49_code
def yX9_lose : MethodName := ⟨RX9, "lose", "(I)I"⟩
abbrev cX9_put : ByteArray := prog_11_method_50_code
def yX9_put : MethodName := ⟨RX9, "put", "(III)I"⟩
abbrev cX9_cell : ByteArray := prog_11_method_51_code
def yX9_cell : MethodName := ⟨RX9, "cell", "(III)J"⟩
abbrev cX9_copy : ByteArray := prog_11_method_52_code
def yX9_copy : MethodName := ⟨RX9, "copy", "(IIIII)I"⟩
abbrev cX9_begins : ByteArray := prog_11_method_53_code
def yX9_begins : MethodName := ⟨RX9, "begins", "(I)V"⟩
abbrev cX9_inCries : ByteArray := prog_11_method_54_code
def yX9_inCries : MethodName := ⟨RX9, "inCries", "(I)I"⟩
abbrev cX9_tell : ByteArray := prog_11_method_55_code
def yX9_tell : MethodName := ⟨RX9, "tell", "(I)I"⟩
abbrev cX9_sing : ByteArray := prog_11_method_56_code
def yX9_sing : MethodName := ⟨RX9, "sing", "(I)I"⟩
abbrev cX9_as : ByteArray := prog_11_method_57_code
def yX9_as : MethodName := ⟨RX9, "as", "(II)I"⟩
abbrev cX9_trace : ByteArray := prog_11_method_58_code
def yX9_trace : MethodName := ⟨RX9, "trace", "()I"⟩
abbrev cX9_fault : ByteArray := prog_11_method_59_code
def yX9_fault : MethodName := ⟨RX9, "fault", "()I"⟩
abbrev cX9_many : ByteArray := prog_11_method_60_code
def yX9_many : MethodName := ⟨RX9, "many", "()I"⟩
def RJ9 : String := "java/lang/Math"
def TJ9 : u_T := fun k => match k with
  | _ => ("", "", "", false)
def tyJ9 : Nat → FieldType := fun k => match k with
  | _ => .int
abbrev wsJ90 : List Cond := u_ws RJ9 TJ9 0
theorem nmJ9 : ∀ a, a < 0 → ∀ b, b < 0 → a ≠ b → (TJ9 a).2.1 ≠ (TJ9 b).2.1 := by decide +kernel
theorem tyJ9_ok : ∀ k, k < 0 → parseFieldDescriptor (TJ9 k).2.2.1 = some (tyJ9 k) := by decide +kernel
abbrev cJ9_max_7cf53 : ByteArray := prog_12_method_65_code
def yJ9_max_7cf53 : MethodName := ⟨RJ9, "max", "(II)I"⟩
abbrev cJ9_max_f86c9 : ByteArray := prog_12_method_66_code
def yJ9_max_f86c9 : MethodName := ⟨RJ9, "max", "(JJ)J"⟩
abbrev cJ9_min_7cf53 : ByteArray := prog_12_method_69_code
def yJ9_min_7cf53 : MethodName := ⟨RJ9, "min", "(II)I"⟩
abbrev cJ9_min_f86c9 : ByteArray := prog_12_method_70_code
def yJ9_min_f86c9 : MethodName := ⟨RJ9, "min", "(JJ)J"⟩
def RJ10 : String := "java/lang/System"
def TJ10 : u_T := fun k => match k with
  | _ => ("", "", "", false)
def tyJ10 : Nat → FieldType := fun k => match k with
  | _ => .int
abbrev wsJ100 : List Cond := u_ws RJ10 TJ10 0
theorem nmJ10 : ∀ a, a < 0 → ∀ b, b < 0 → a ≠ b → (TJ10 a).2.1 ≠ (TJ10 b).2.1 := by decide +kernel
theorem tyJ10_ok : ∀ k, k < 0 → parseFieldDescriptor (TJ10 k).2.2.1 = some (tyJ10 k) := by decide +kernel
def RJ7 : String := "java/util/Arrays"
def TJ7 : u_T := fun k => match k with
  | _ => ("", "", "", false)
def tyJ7 : Nat → FieldType := fun k => match k with
  | _ => .int
abbrev wsJ70 : List Cond := u_ws RJ7 TJ7 0
theorem nmJ7 : ∀ a, a < 0 → ∀ b, b < 0 → a ≠ b → (TJ7 a).2.1 ≠ (TJ7 b).2.1 := by decide +kernel
theorem tyJ7_ok : ∀ k, k < 0 → parseFieldDescriptor (TJ7 k).2.2.1 = some (tyJ7 k) := by decide +kernel
abbrev cJ7_fill_d0a16 : ByteArray := prog_14_method_101_code
def yJ7_fill_d0a16 : MethodName := ⟨RJ7, "fill", "([JJ)V"⟩
abbrev cJ7_fill_53178 : ByteArray := prog_14_method_103_code
def yJ7_fill_53178 : MethodName := ⟨RJ7, "fill", "([II)V"⟩
def RL : String := "AddedCriesLaw"
abbrev cL_law : ByteArray := code
def yL_law : MethodName := ⟨RL, "law", "([I)Z"⟩
def wsX4_init : List Cond := .code yX4_init cX4_init 1 none :: ([.methodLink RX4 3 objectInit, .instanceMethod objectInit, .code objectInit ⟨#[0xb1]⟩ 1 none, .arrayClass .long, .fieldLink RX4 9 "AddedCries$Grid" "cells" "[J"] ++ wsX40)
def wsX0_init : List Cond := .code yX0_init cX0_init 1 none :: ([.methodLink RX0 1 objectInit, .instanceMethod objectInit, .code objectInit ⟨#[0xb1]⟩ 1 none, .classLink RX0 7 RX4, .instantiable RX4 1, .initialized RX4, .fieldLink RX0 10 "AddedCries$Between" "now" "LAddedCries$Grid;", .fieldLink RX0 16 "AddedCries$Between" "then" "LAddedCries$Grid;", .instanceMethod yX4_init, .code yX4_init cX4_init 1 none, .methodLink RX4 3 objectInit, .arrayClass .long, .fieldLink RX4 9 "AddedCries$Grid" "cells" "[J"] ++ wsX40 ++ wsX00)
def wsJ7_fill_d0a16 : List Cond := .code yJ7_fill_d0a16 cJ7_fill_d0a16 5 none :: ([])
def wsX4_clear : List Cond := .code yX4_clear cX4_clear 1 none :: ([.fieldLink RX4 9 "AddedCries$Grid" "cells" "[J", .methodLink RX4 27 yJ7_fill_d0a16, .static yJ7_fill_d0a16, .initialized RJ7, .code yJ7_fill_d0a16 cJ7_fill_d0a16 5 none] ++ wsX40)
def wsX4_isInside : List Cond := .code yX4_isInside cX4_isInside 2 (some .boolean) :: ([])
def wsX4_write : List Cond := .code yX4_write cX4_write 5 none :: ([.fieldLink RX4 9 "AddedCries$Grid" "cells" "[J", .methodLink RX4 15 yX4_isInside, .static yX4_isInside, .initialized RX4, .code yX4_isInside cX4_isInside 2 (some .boolean)] ++ wsX40)
def wsX2_size : List Cond := .code yX2_size cX2_size 1 (some .int) :: ([.fieldLink RX2 15 "AddedCries$Cry" "size" "I"] ++ wsX20)
def wsX4_at : List Cond := .code yX4_at cX4_at 3 (some .long) :: ([.fieldLink RX4 9 "AddedCries$Grid" "cells" "[J", .methodLink RX4 15 yX4_isInside, .static yX4_isInside, .initialized RX4, .code yX4_isInside cX4_isInside 2 (some .boolean)] ++ wsX40)
def wsX2_has : List Cond := .code yX2_has cX2_has 2 (some .boolean) :: ([.fieldLink RX2 15 "AddedCries$Cry" "size" "I"] ++ wsX20)
def wsX2_at : List Cond := .code yX2_at cX2_at 2 (some .int) :: ([.fieldLink RX2 9 "AddedCries$Cry" "words" "[I", .methodLink RX2 19 yX2_has, .instanceMethod yX2_has, .selects RX2 yX2_has yX2_has, .initialized RX2, .code yX2_has cX2_has 2 (some .boolean), .fieldLink RX2 15 "AddedCries$Cry" "size" "I"] ++ wsX20)
def wsX4_more : List Cond := .code yX4_more cX4_more 5 none :: ([.methodLink RX4 19 yX4_at, .instanceMethod yX4_at, .selects RX4 yX4_at yX4_at, .initialized RX4, .code yX4_at cX4_at 3 (some .long), .fieldLink RX4 9 "AddedCries$Grid" "cells" "[J", .methodLink RX4 15 yX4_isInside, .static yX4_isInside, .code yX4_isInside cX4_isInside 2 (some .boolean), .methodLink RX4 23 yX4_write, .instanceMethod yX4_write, .selects RX4 yX4_write yX4_write, .code yX4_write cX4_write 5 none] ++ wsX40)
def wsX0_goOnFrom_r1 : List Cond := [Cond.fieldLink RX0 16 "AddedCries$Between" "then" "LAddedCries$Grid;", Cond.methodLink RX0 30 yX2_size, Cond.instanceMethod yX2_size, Cond.selects RX2 yX2_size yX2_size, Cond.initialized RX2, Cond.code yX2_size cX2_size 1 (some .int), Cond.fieldLink RX2 15 "AddedCries$Cry" "size" "I", Cond.methodLink RX0 44 yX2_at, Cond.instanceMethod yX2_at, Cond.selects RX2 yX2_at yX2_at, Cond.code yX2_at cX2_at 2 (some .int), Cond.fieldLink RX2 9 "AddedCries$Cry" "words" "[I", Cond.methodLink RX2 19 yX2_has, Cond.instanceMethod yX2_has, Cond.selects RX2 yX2_has yX2_has, Cond.code yX2_has cX2_has 2 (some .boolean), Cond.methodLink RX0 47 yX4_more, Cond.instanceMethod yX4_more, Cond.selects RX4 yX4_more yX4_more, Cond.initialized RX4, Cond.code yX4_more cX4_more 5 none, Cond.methodLink RX4 19 yX4_at, Cond.instanceMethod yX4_at, Cond.selects RX4 yX4_at yX4_at]
def wsX0_goOnFrom_r2 : List Cond := [Cond.code yX4_at cX4_at 3 (some .long), Cond.fieldLink RX4 9 "AddedCries$Grid" "cells" "[J", Cond.methodLink RX4 15 yX4_isInside, Cond.static yX4_isInside, Cond.code yX4_isInside cX4_isInside 2 (some .boolean), Cond.methodLink RX4 23 yX4_write, Cond.instanceMethod yX4_write, Cond.selects RX4 yX4_write yX4_write, Cond.code yX4_write cX4_write 5 none]
def wsX0_goOnFrom : List Cond := .code yX0_goOnFrom cX0_goOnFrom 11 none :: ((wsX0_goOnFrom_r1 ++ wsX0_goOnFrom_r2) ++ wsX00 ++ wsX20 ++ wsX40)
def wsX0_goOn_r1 : List Cond := [Cond.fieldLink RX0 16 "AddedCries$Between" "then" "LAddedCries$Grid;", Cond.fieldLink RX0 10 "AddedCries$Between" "now" "LAddedCries$Grid;", Cond.methodLink RX0 19 yX4_clear, Cond.instanceMethod yX4_clear, Cond.selects RX4 yX4_clear yX4_clear, Cond.initialized RX4, Cond.code yX4_clear cX4_clear 1 none, Cond.fieldLink RX4 9 "AddedCries$Grid" "cells" "[J", Cond.methodLink RX4 27 yJ7_fill_d0a16, Cond.static yJ7_fill_d0a16, Cond.initialized RJ7, Cond.code yJ7_fill_d0a16 cJ7_fill_d0a16 5 none, Cond.methodLink RX0 30 yX2_size, Cond.instanceMethod yX2_size, Cond.selects RX2 yX2_size yX2_size, Cond.initialized RX2, Cond.code yX2_size cX2_size 1 (some .int), Cond.fieldLink RX2 15 "AddedCries$Cry" "size" "I", Cond.methodLink RX0 36 yX4_at, Cond.instanceMethod yX4_at, Cond.selects RX4 yX4_at yX4_at, Cond.code yX4_at cX4_at 3 (some .long), Cond.methodLink RX4 15 yX4_isInside, Cond.static yX4_isInside]
def wsX0_goOn_r2 : List Cond := [Cond.code yX4_isInside cX4_isInside 2 (some .boolean), Cond.methodLink RX0 40 yX0_goOnFrom, Cond.instanceMethod yX0_goOnFrom, Cond.selects RX0 yX0_goOnFrom yX0_goOnFrom, Cond.initialized RX0, Cond.code yX0_goOnFrom cX0_goOnFrom 11 none, Cond.methodLink RX0 44 yX2_at, Cond.instanceMethod yX2_at, Cond.selects RX2 yX2_at yX2_at, Cond.code yX2_at cX2_at 2 (some .int), Cond.fieldLink RX2 9 "AddedCries$Cry" "words" "[I", Cond.methodLink RX2 19 yX2_has, Cond.instanceMethod yX2_has, Cond.selects RX2 yX2_has yX2_has, Cond.code yX2_has cX2_has 2 (some .boolean), Cond.methodLink RX0 47 yX4_more, Cond.instanceMethod yX4_more, Cond.selects RX4 yX4_more yX4_more, Cond.code yX4_more cX4_more 5 none, Cond.methodLink RX4 19 yX4_at, Cond.methodLink RX4 23 yX4_write, Cond.instanceMethod yX4_write, Cond.selects RX4 yX4_write yX4_write, Cond.code yX4_write cX4_write 5 none]
def wsX0_goOn : List Cond := .code yX0_goOn cX0_goOn 7 none :: ((wsX0_goOn_r1 ++ wsX0_goOn_r2) ++ wsX00 ++ wsX40 ++ wsX20)
def wsX0_count_r1 : List Cond := [Cond.fieldLink RX0 10 "AddedCries$Between" "now" "LAddedCries$Grid;", Cond.methodLink RX0 19 yX4_clear, Cond.instanceMethod yX4_clear, Cond.selects RX4 yX4_clear yX4_clear, Cond.initialized RX4, Cond.code yX4_clear cX4_clear 1 none, Cond.fieldLink RX4 9 "AddedCries$Grid" "cells" "[J", Cond.methodLink RX4 27 yJ7_fill_d0a16, Cond.static yJ7_fill_d0a16, Cond.initialized RJ7, Cond.code yJ7_fill_d0a16 cJ7_fill_d0a16 5 none, Cond.methodLink RX0 22 yX4_write, Cond.instanceMethod yX4_write, Cond.selects RX4 yX4_write yX4_write, Cond.code yX4_write cX4_write 5 none, Cond.methodLink RX4 15 yX4_isInside, Cond.static yX4_isInside, Cond.code yX4_isInside cX4_isInside 2 (some .boolean), Cond.methodLink RX0 26 yX0_goOn, Cond.instanceMethod yX0_goOn, Cond.selects RX0 yX0_goOn yX0_goOn, Cond.initialized RX0, Cond.code yX0_goOn cX0_goOn 7 none, Cond.fieldLink RX0 16 "AddedCries$Between" "then" "LAddedCries$Grid;"]
def wsX0_count_r2 : List Cond := [Cond.methodLink RX0 30 yX2_size, Cond.instanceMethod yX2_size, Cond.selects RX2 yX2_size yX2_size, Cond.initialized RX2, Cond.code yX2_size cX2_size 1 (some .int), Cond.fieldLink RX2 15 "AddedCries$Cry" "size" "I", Cond.methodLink RX0 36 yX4_at, Cond.instanceMethod yX4_at, Cond.selects RX4 yX4_at yX4_at, Cond.code yX4_at cX4_at 3 (some .long), Cond.methodLink RX0 40 yX0_goOnFrom, Cond.instanceMethod yX0_goOnFrom, Cond.selects RX0 yX0_goOnFrom yX0_goOnFrom, Cond.code yX0_goOnFrom cX0_goOnFrom 11 none, Cond.methodLink RX0 44 yX2_at, Cond.instanceMethod yX2_at, Cond.selects RX2 yX2_at yX2_at, Cond.code yX2_at cX2_at 2 (some .int), Cond.fieldLink RX2 9 "AddedCries$Cry" "words" "[I", Cond.methodLink RX2 19 yX2_has, Cond.instanceMethod yX2_has, Cond.selects RX2 yX2_has yX2_has, Cond.code yX2_has cX2_has 2 (some .boolean), Cond.methodLink RX0 47 yX4_more]
def wsX0_count_r3 : List Cond := [Cond.instanceMethod yX4_more, Cond.selects RX4 yX4_more yX4_more, Cond.code yX4_more cX4_more 5 none, Cond.methodLink RX4 19 yX4_at, Cond.methodLink RX4 23 yX4_write]
def wsX0_count : List Cond := .code yX0_count cX0_count 7 (some .long) :: ((wsX0_count_r1 ++ (wsX0_count_r2 ++ wsX0_count_r3)) ++ wsX00 ++ wsX40 ++ wsX20)
def wsX1_init : List Cond := .code yX1_init cX1_init 1 none :: ([.methodLink RX1 3 objectInit, .instanceMethod objectInit, .code objectInit ⟨#[0xb1]⟩ 1 none, .classLink RX1 9 RX4, .instantiable RX4 1, .initialized RX4, .fieldLink RX1 12 "AddedCries$Braid" "here" "LAddedCries$Grid;", .fieldLink RX1 18 "AddedCries$Braid" "next" "LAddedCries$Grid;", .instanceMethod yX4_init, .code yX4_init cX4_init 1 none, .methodLink RX4 3 objectInit, .arrayClass .long, .fieldLink RX4 9 "AddedCries$Grid" "cells" "[J"] ++ wsX40 ++ wsX10)
def wsX1_by : List Cond := .code yX1_by cX1_by 9 (some .long) :: ([.constantLong RX1 50 (-9), .fieldLink RX1 18 "AddedCries$Braid" "next" "LAddedCries$Grid;", .fieldLink RX1 12 "AddedCries$Braid" "here" "LAddedCries$Grid;", .methodLink RX1 39 yX4_at, .instanceMethod yX4_at, .selects RX4 yX4_at yX4_at, .initialized RX4, .code yX4_at cX4_at 3 (some .long), .fieldLink RX4 9 "AddedCries$Grid" "cells" "[J", .methodLink RX4 15 yX4_isInside, .static yX4_isInside, .code yX4_isInside cX4_isInside 2 (some .boolean)] ++ wsX10 ++ wsX40)
def wsX1_shorter : List Cond := .code yX1_shorter cX1_shorter 4 (some .long) :: ([.constantLong RX1 50 (-9), .methodLink RX1 52 Lib.MathLoose.max_long.x, .static Lib.MathLoose.max_long.x, .initialized "java/lang/Math", .code Lib.MathLoose.max_long.x Lib.MathLoose.max_long.code 4 (some .long), .methodLink RX1 57 Lib.MathLoose.min_long.x, .static Lib.MathLoose.min_long.x, .code Lib.MathLoose.min_long.x Lib.MathLoose.min_long.code 4 (some .long)])
def wsX1_lengthAt_r1 : List Cond := [Cond.constantLong RX1 50 (-9), Cond.methodLink RX1 42 yX1_by, Cond.instanceMethod yX1_by, Cond.selects RX1 yX1_by yX1_by, Cond.initialized RX1, Cond.code yX1_by cX1_by 9 (some .long), Cond.fieldLink RX1 18 "AddedCries$Braid" "next" "LAddedCries$Grid;", Cond.fieldLink RX1 12 "AddedCries$Braid" "here" "LAddedCries$Grid;", Cond.methodLink RX1 39 yX4_at, Cond.instanceMethod yX4_at, Cond.selects RX4 yX4_at yX4_at, Cond.initialized RX4, Cond.code yX4_at cX4_at 3 (some .long), Cond.fieldLink RX4 9 "AddedCries$Grid" "cells" "[J", Cond.methodLink RX4 15 yX4_isInside, Cond.static yX4_isInside, Cond.code yX4_isInside cX4_isInside 2 (some .boolean), Cond.methodLink RX1 46 yX1_shorter, Cond.static yX1_shorter, Cond.code yX1_shorter cX1_shorter 4 (some .long), Cond.methodLink RX1 52 Lib.MathLoose.max_long.x, Cond.static Lib.MathLoose.max_long.x, Cond.initialized "java/lang/Math", Cond.code Lib.MathLoose.max_long.x Lib.MathLoose.max_long.code 4 (some .long)]
def wsX1_lengthAt_r2 : List Cond := [Cond.methodLink RX1 57 Lib.MathLoose.min_long.x, Cond.static Lib.MathLoose.min_long.x, Cond.code Lib.MathLoose.min_long.x Lib.MathLoose.min_long.code 4 (some .long)]
def wsX1_lengthAt : List Cond := .code yX1_lengthAt cX1_lengthAt 8 (some .long) :: ((wsX1_lengthAt_r1 ++ wsX1_lengthAt_r2) ++ wsX10 ++ wsX40)
def wsX1_length_r1 : List Cond := [Cond.fieldLink RX1 18 "AddedCries$Braid" "next" "LAddedCries$Grid;", Cond.fieldLink RX1 12 "AddedCries$Braid" "here" "LAddedCries$Grid;", Cond.methodLink RX1 21 yX2_size, Cond.instanceMethod yX2_size, Cond.selects RX2 yX2_size yX2_size, Cond.initialized RX2, Cond.code yX2_size cX2_size 1 (some .int), Cond.fieldLink RX2 15 "AddedCries$Cry" "size" "I", Cond.methodLink RX1 27 yX2_at, Cond.instanceMethod yX2_at, Cond.selects RX2 yX2_at yX2_at, Cond.code yX2_at cX2_at 2 (some .int), Cond.fieldLink RX2 9 "AddedCries$Cry" "words" "[I", Cond.methodLink RX2 19 yX2_has, Cond.instanceMethod yX2_has, Cond.selects RX2 yX2_has yX2_has, Cond.code yX2_has cX2_has 2 (some .boolean), Cond.methodLink RX1 31 yX1_lengthAt, Cond.instanceMethod yX1_lengthAt, Cond.selects RX1 yX1_lengthAt yX1_lengthAt, Cond.initialized RX1, Cond.code yX1_lengthAt cX1_lengthAt 8 (some .long), Cond.constantLong RX1 50 (-9), Cond.methodLink RX1 42 yX1_by]
def wsX1_length_r2 : List Cond := [Cond.instanceMethod yX1_by, Cond.selects RX1 yX1_by yX1_by, Cond.code yX1_by cX1_by 9 (some .long), Cond.methodLink RX1 39 yX4_at, Cond.instanceMethod yX4_at, Cond.selects RX4 yX4_at yX4_at, Cond.initialized RX4, Cond.code yX4_at cX4_at 3 (some .long), Cond.fieldLink RX4 9 "AddedCries$Grid" "cells" "[J", Cond.methodLink RX4 15 yX4_isInside, Cond.static yX4_isInside, Cond.code yX4_isInside cX4_isInside 2 (some .boolean), Cond.methodLink RX1 46 yX1_shorter, Cond.static yX1_shorter, Cond.code yX1_shorter cX1_shorter 4 (some .long), Cond.methodLink RX1 52 Lib.MathLoose.max_long.x, Cond.static Lib.MathLoose.max_long.x, Cond.initialized "java/lang/Math", Cond.code Lib.MathLoose.max_long.x Lib.MathLoose.max_long.code 4 (some .long), Cond.methodLink RX1 57 Lib.MathLoose.min_long.x, Cond.static Lib.MathLoose.min_long.x, Cond.code Lib.MathLoose.min_long.x Lib.MathLoose.min_long.code 4 (some .long), Cond.methodLink RX1 35 yX4_write, Cond.instanceMethod yX4_write]
def wsX1_length_r3 : List Cond := [Cond.selects RX4 yX4_write yX4_write, Cond.code yX4_write cX4_write 5 none]
def wsX1_length : List Cond := .code yX1_length cX1_length 8 (some .int) :: ((wsX1_length_r1 ++ (wsX1_length_r2 ++ wsX1_length_r3)) ++ wsX10 ++ wsX20 ++ wsX40)
def wsX2_init : List Cond := .code yX2_init cX2_init 1 none :: ([.methodLink RX2 3 objectInit, .instanceMethod objectInit, .code objectInit ⟨#[0xb1]⟩ 1 none, .arrayClass .int, .fieldLink RX2 9 "AddedCries$Cry" "words" "[I", .fieldLink RX2 15 "AddedCries$Cry" "size" "I"] ++ wsX20)
def wsX2_isFull : List Cond := .code yX2_isFull cX2_isFull 1 (some .boolean) :: ([.fieldLink RX2 15 "AddedCries$Cry" "size" "I"] ++ wsX20)
def wsX2_hasWord : List Cond := .code yX2_hasWord cX2_hasWord 3 (some .boolean) :: ([.fieldLink RX2 15 "AddedCries$Cry" "size" "I", .fieldLink RX2 9 "AddedCries$Cry" "words" "[I"] ++ wsX20)
def wsX2_clear : List Cond := .code yX2_clear cX2_clear 1 none :: ([.fieldLink RX2 15 "AddedCries$Cry" "size" "I"] ++ wsX20)
def wsX2_insert : List Cond := .code yX2_insert cX2_insert 4 none :: ([.fieldLink RX2 15 "AddedCries$Cry" "size" "I", .fieldLink RX2 9 "AddedCries$Cry" "words" "[I", .methodLink RX2 23 yX2_isFull, .instanceMethod yX2_isFull, .selects RX2 yX2_isFull yX2_isFull, .initialized RX2, .code yX2_isFull cX2_isFull 1 (some .boolean)] ++ wsX20)
def wsX3_init : List Cond := .code yX3_init cX3_init 1 none :: ([.methodLink RX3 3 objectInit, .instanceMethod objectInit, .code objectInit ⟨#[0xb1]⟩ 1 none, .arrayClass .int, .fieldLink RX3 9 "AddedCries$Fit" "firsts" "[I", .fieldLink RX3 15 "AddedCries$Fit" "lasts" "[I", .arrayClass .long, .fieldLink RX3 18 "AddedCries$Fit" "choices" "[J"] ++ wsX30)
def wsX3_make : List Cond := .code yX3_make cX3_make 5 (some .boolean) :: ([.fieldLink RX3 9 "AddedCries$Fit" "firsts" "[I", .fieldLink RX3 15 "AddedCries$Fit" "lasts" "[I", .methodLink RX3 22 yX2_size, .instanceMethod yX2_size, .selects RX2 yX2_size yX2_size, .initialized RX2, .code yX2_size cX2_size 1 (some .int), .fieldLink RX2 15 "AddedCries$Cry" "size" "I", .methodLink RX3 28 yX2_has, .instanceMethod yX2_has, .selects RX2 yX2_has yX2_has, .code yX2_has cX2_has 2 (some .boolean), .methodLink RX3 32 yX2_at, .instanceMethod yX2_at, .selects RX2 yX2_at yX2_at, .code yX2_at cX2_at 2 (some .int), .fieldLink RX2 9 "AddedCries$Cry" "words" "[I", .methodLink RX2 19 yX2_has] ++ wsX30 ++ wsX20)
def wsX3_first : List Cond := .code yX3_first cX3_first 2 (some .int) :: ([.fieldLink RX3 9 "AddedCries$Fit" "firsts" "[I"] ++ wsX30)
def wsX3_last : List Cond := .code yX3_last cX3_last 2 (some .int) :: ([.fieldLink RX3 15 "AddedCries$Fit" "lasts" "[I"] ++ wsX30)
def wsX3_canStand_r1 : List Cond := [Cond.methodLink RX3 36 yX3_make, Cond.instanceMethod yX3_make, Cond.selects RX3 yX3_make yX3_make, Cond.initialized RX3, Cond.code yX3_make cX3_make 5 (some .boolean), Cond.fieldLink RX3 9 "AddedCries$Fit" "firsts" "[I", Cond.fieldLink RX3 15 "AddedCries$Fit" "lasts" "[I", Cond.methodLink RX3 22 yX2_size, Cond.instanceMethod yX2_size, Cond.selects RX2 yX2_size yX2_size, Cond.initialized RX2, Cond.code yX2_size cX2_size 1 (some .int), Cond.fieldLink RX2 15 "AddedCries$Cry" "size" "I", Cond.methodLink RX3 28 yX2_has, Cond.instanceMethod yX2_has, Cond.selects RX2 yX2_has yX2_has, Cond.code yX2_has cX2_has 2 (some .boolean), Cond.methodLink RX3 32 yX2_at, Cond.instanceMethod yX2_at, Cond.selects RX2 yX2_at yX2_at, Cond.code yX2_at cX2_at 2 (some .int), Cond.fieldLink RX2 9 "AddedCries$Cry" "words" "[I", Cond.methodLink RX2 19 yX2_has, Cond.methodLink RX3 40 yX3_first]
def wsX3_canStand_r2 : List Cond := [Cond.instanceMethod yX3_first, Cond.selects RX3 yX3_first yX3_first, Cond.code yX3_first cX3_first 2 (some .int), Cond.methodLink RX3 43 yX3_last, Cond.instanceMethod yX3_last, Cond.selects RX3 yX3_last yX3_last, Cond.code yX3_last cX3_last 2 (some .int)]
def wsX3_canStand : List Cond := .code yX3_canStand cX3_canStand 5 (some .boolean) :: ((wsX3_canStand_r1 ++ wsX3_canStand_r2) ++ wsX30 ++ wsX20)
def wsX3_choices : List Cond := .code yX3_choices cX3_choices 6 (some .long) :: ([.methodLink RX3 46 Lib.Math.min.name, .static Lib.Math.min.name, .initialized "java/lang/Math", .code Lib.Math.min.name Lib.Math.min.code 2 (some .int), .fieldLink RX3 18 "AddedCries$Fit" "choices" "[J", .methodLink RX3 22 yX2_size, .instanceMethod yX2_size, .selects RX2 yX2_size yX2_size, .initialized RX2, .code yX2_size cX2_size 1 (some .int), .fieldLink RX2 15 "AddedCries$Cry" "size" "I", .methodLink RX3 52 yJ7_fill_d0a16, .static yJ7_fill_d0a16, .initialized RJ7, .code yJ7_fill_d0a16 cJ7_fill_d0a16 5 none, .methodLink RX3 32 yX2_at, .instanceMethod yX2_at, .selects RX2 yX2_at yX2_at, .code yX2_at cX2_at 2 (some .int), .fieldLink RX2 9 "AddedCries$Cry" "words" "[I", .methodLink RX2 19 yX2_has, .instanceMethod yX2_has, .selects RX2 yX2_has yX2_has, .code yX2_has cX2_has 2 (some .boolean)] ++ wsX30 ++ wsX20)
def wsX5_init : List Cond := .code yX5_init cX5_init 1 none :: ([.methodLink RX5 3 objectInit, .instanceMethod objectInit, .code objectInit ⟨#[0xb1]⟩ 1 none, .arrayClass .boolean, .fieldLink RX5 11 "AddedCries$Sayings" "ends" "[Z", .arrayClass .int, .fieldLink RX5 15 "AddedCries$Sayings" "found" "[I"] ++ wsX50)
def wsX5_after : List Cond := .code yX5_after cX5_after 5 (some .int) :: ([])
def wsX5_isSaid : List Cond := .code yX5_isSaid cX5_isSaid 5 (some .boolean) :: ([.methodLink RX5 19 yX2_size, .instanceMethod yX2_size, .selects RX2 yX2_size yX2_size, .initialized RX2, .code yX2_size cX2_size 1 (some .int), .fieldLink RX2 15 "AddedCries$Cry" "size" "I", .methodLink RX5 25 yX2_at, .instanceMethod yX2_at, .selects RX2 yX2_at yX2_at, .code yX2_at cX2_at 2 (some .int), .fieldLink RX2 9 "AddedCries$Cry" "words" "[I", .methodLink RX2 19 yX2_has, .instanceMethod yX2_has, .selects RX2 yX2_has yX2_has, .code yX2_has cX2_has 2 (some .boolean), .methodLink RX5 29 yX5_after, .static yX5_after, .initialized RX5, .code yX5_after cX5_after 5 (some .int)] ++ wsX20)
def wsX5_endsSaid : List Cond := .code yX5_endsSaid cX5_endsSaid 3 (some .boolean) :: ([.fieldLink RX5 11 "AddedCries$Sayings" "ends" "[Z"] ++ wsX50)
def wsX5_keepEnds_r1 : List Cond := [Cond.methodLink RX5 49 Lib.Math.min.name, Cond.static Lib.Math.min.name, Cond.initialized "java/lang/Math", Cond.code Lib.Math.min.name Lib.Math.min.code 2 (some .int), Cond.fieldLink RX5 11 "AddedCries$Sayings" "ends" "[Z", Cond.methodLink RX5 19 yX2_size, Cond.instanceMethod yX2_size, Cond.selects RX2 yX2_size yX2_size, Cond.initialized RX2, Cond.code yX2_size cX2_size 1 (some .int), Cond.fieldLink RX2 15 "AddedCries$Cry" "size" "I", Cond.methodLink RX5 25 yX2_at, Cond.instanceMethod yX2_at, Cond.selects RX2 yX2_at yX2_at, Cond.code yX2_at cX2_at 2 (some .int), Cond.fieldLink RX2 9 "AddedCries$Cry" "words" "[I", Cond.methodLink RX2 19 yX2_has, Cond.instanceMethod yX2_has, Cond.selects RX2 yX2_has yX2_has, Cond.code yX2_has cX2_has 2 (some .boolean), Cond.methodLink RX5 29 yX5_after, Cond.static yX5_after, Cond.initialized RX5, Cond.code yX5_after cX5_after 5 (some .int)]
def wsX5_keepEnds_r2 : List Cond := [Cond.methodLink RX5 37 yX5_endsSaid, Cond.instanceMethod yX5_endsSaid, Cond.selects RX5 yX5_endsSaid yX5_endsSaid, Cond.code yX5_endsSaid cX5_endsSaid 3 (some .boolean)]
def wsX5_keepEnds : List Cond := .code yX5_keepEnds cX5_keepEnds 7 none :: ((wsX5_keepEnds_r1 ++ wsX5_keepEnds_r2) ++ wsX50 ++ wsX20)
def wsX5_keep : List Cond := .code yX5_keep cX5_keep 4 none :: ([.fieldLink RX5 15 "AddedCries$Sayings" "found" "[I"] ++ wsX50)
def wsX5_findOne_r1 : List Cond := [Cond.methodLink RX5 19 yX2_size, Cond.instanceMethod yX2_size, Cond.selects RX2 yX2_size yX2_size, Cond.initialized RX2, Cond.code yX2_size cX2_size 1 (some .int), Cond.fieldLink RX2 15 "AddedCries$Cry" "size" "I", Cond.methodLink RX5 29 yX5_after, Cond.static yX5_after, Cond.initialized RX5, Cond.code yX5_after cX5_after 5 (some .int), Cond.methodLink RX5 37 yX5_endsSaid, Cond.instanceMethod yX5_endsSaid, Cond.selects RX5 yX5_endsSaid yX5_endsSaid, Cond.code yX5_endsSaid cX5_endsSaid 3 (some .boolean), Cond.fieldLink RX5 11 "AddedCries$Sayings" "ends" "[Z", Cond.methodLink RX5 55 yX5_keep, Cond.instanceMethod yX5_keep, Cond.selects RX5 yX5_keep yX5_keep, Cond.code yX5_keep cX5_keep 4 none, Cond.fieldLink RX5 15 "AddedCries$Sayings" "found" "[I", Cond.methodLink RX5 25 yX2_at, Cond.instanceMethod yX2_at, Cond.selects RX2 yX2_at yX2_at, Cond.code yX2_at cX2_at 2 (some .int)]
def wsX5_findOne_r2 : List Cond := [Cond.fieldLink RX2 9 "AddedCries$Cry" "words" "[I", Cond.methodLink RX2 19 yX2_has, Cond.instanceMethod yX2_has, Cond.selects RX2 yX2_has yX2_has, Cond.code yX2_has cX2_has 2 (some .boolean)]
def wsX5_findOne : List Cond := .code yX5_findOne cX5_findOne 11 (some .boolean) :: ((wsX5_findOne_r1 ++ wsX5_findOne_r2) ++ wsX20 ++ wsX50)
def wsX5_findTwo_r1 : List Cond := [Cond.methodLink RX5 19 yX2_size, Cond.instanceMethod yX2_size, Cond.selects RX2 yX2_size yX2_size, Cond.initialized RX2, Cond.code yX2_size cX2_size 1 (some .int), Cond.fieldLink RX2 15 "AddedCries$Cry" "size" "I", Cond.methodLink RX5 29 yX5_after, Cond.static yX5_after, Cond.initialized RX5, Cond.code yX5_after cX5_after 5 (some .int), Cond.methodLink RX5 41 yX5_findOne, Cond.instanceMethod yX5_findOne, Cond.selects RX5 yX5_findOne yX5_findOne, Cond.code yX5_findOne cX5_findOne 11 (some .boolean), Cond.methodLink RX5 37 yX5_endsSaid, Cond.instanceMethod yX5_endsSaid, Cond.selects RX5 yX5_endsSaid yX5_endsSaid, Cond.code yX5_endsSaid cX5_endsSaid 3 (some .boolean), Cond.fieldLink RX5 11 "AddedCries$Sayings" "ends" "[Z", Cond.methodLink RX5 55 yX5_keep, Cond.instanceMethod yX5_keep, Cond.selects RX5 yX5_keep yX5_keep, Cond.code yX5_keep cX5_keep 4 none, Cond.fieldLink RX5 15 "AddedCries$Sayings" "found" "[I"]
def wsX5_findTwo_r2 : List Cond := [Cond.methodLink RX5 25 yX2_at, Cond.instanceMethod yX2_at, Cond.selects RX2 yX2_at yX2_at, Cond.code yX2_at cX2_at 2 (some .int), Cond.fieldLink RX2 9 "AddedCries$Cry" "words" "[I", Cond.methodLink RX2 19 yX2_has, Cond.instanceMethod yX2_has, Cond.selects RX2 yX2_has yX2_has, Cond.code yX2_has cX2_has 2 (some .boolean)]
def wsX5_findTwo : List Cond := .code yX5_findTwo cX5_findTwo 8 (some .boolean) :: ((wsX5_findTwo_r1 ++ wsX5_findTwo_r2) ++ wsX20 ++ wsX50)
def wsX5_fewest_r1 : List Cond := [Cond.methodLink RX5 33 yX5_keepEnds, Cond.instanceMethod yX5_keepEnds, Cond.selects RX5 yX5_keepEnds yX5_keepEnds, Cond.initialized RX5, Cond.code yX5_keepEnds cX5_keepEnds 7 none, Cond.methodLink RX5 49 Lib.Math.min.name, Cond.static Lib.Math.min.name, Cond.initialized "java/lang/Math", Cond.code Lib.Math.min.name Lib.Math.min.code 2 (some .int), Cond.fieldLink RX5 11 "AddedCries$Sayings" "ends" "[Z", Cond.methodLink RX5 19 yX2_size, Cond.instanceMethod yX2_size, Cond.selects RX2 yX2_size yX2_size, Cond.initialized RX2, Cond.code yX2_size cX2_size 1 (some .int), Cond.fieldLink RX2 15 "AddedCries$Cry" "size" "I", Cond.methodLink RX5 25 yX2_at, Cond.instanceMethod yX2_at, Cond.selects RX2 yX2_at yX2_at, Cond.code yX2_at cX2_at 2 (some .int), Cond.fieldLink RX2 9 "AddedCries$Cry" "words" "[I", Cond.methodLink RX2 19 yX2_has, Cond.instanceMethod yX2_has, Cond.selects RX2 yX2_has yX2_has]
def wsX5_fewest_r2 : List Cond := [Cond.code yX2_has cX2_has 2 (some .boolean), Cond.methodLink RX5 29 yX5_after, Cond.static yX5_after, Cond.code yX5_after cX5_after 5 (some .int), Cond.methodLink RX5 37 yX5_endsSaid, Cond.instanceMethod yX5_endsSaid, Cond.selects RX5 yX5_endsSaid yX5_endsSaid, Cond.code yX5_endsSaid cX5_endsSaid 3 (some .boolean), Cond.methodLink RX5 41 yX5_findOne, Cond.instanceMethod yX5_findOne, Cond.selects RX5 yX5_findOne yX5_findOne, Cond.code yX5_findOne cX5_findOne 11 (some .boolean), Cond.methodLink RX5 55 yX5_keep, Cond.instanceMethod yX5_keep, Cond.selects RX5 yX5_keep yX5_keep, Cond.code yX5_keep cX5_keep 4 none, Cond.fieldLink RX5 15 "AddedCries$Sayings" "found" "[I", Cond.methodLink RX5 45 yX5_findTwo, Cond.instanceMethod yX5_findTwo, Cond.selects RX5 yX5_findTwo yX5_findTwo, Cond.code yX5_findTwo cX5_findTwo 8 (some .boolean)]
def wsX5_fewest : List Cond := .code yX5_fewest cX5_fewest 5 (some .int) :: ((wsX5_fewest_r1 ++ wsX5_fewest_r2) ++ wsX50 ++ wsX20)
def wsX5_found : List Cond := .code yX5_found cX5_found 2 (some .int) :: ([.fieldLink RX5 15 "AddedCries$Sayings" "found" "[I"] ++ wsX50)
def wsX6_init : List Cond := .code yX6_init cX6_init 1 none :: ([.methodLink RX6 3 objectInit, .instanceMethod objectInit, .code objectInit ⟨#[0xb1]⟩ 1 none, .arrayClass .int, .fieldLink RX6 9 "AddedCries$Sheet" "cells" "[I", .fieldLink RX6 15 "AddedCries$Sheet" "size" "I", .fieldLink RX6 19 "AddedCries$Sheet" "sort" "I"] ++ wsX60)
def wsX6_isNothing : List Cond := .code yX6_isNothing cX6_isNothing 1 (some .boolean) :: ([.fieldLink RX6 15 "AddedCries$Sheet" "size" "I"] ++ wsX60)
def wsX6_sort : List Cond := .code yX6_sort cX6_sort 1 (some .int) :: ([.fieldLink RX6 19 "AddedCries$Sheet" "sort" "I"] ++ wsX60)
def wsJ7_fill_53178 : List Cond := .code yJ7_fill_53178 cJ7_fill_53178 4 none :: ([])
def wsX6_renew : List Cond := .code yX6_renew cX6_renew 3 none :: ([.fieldLink RX6 9 "AddedCries$Sheet" "cells" "[I", .fieldLink RX6 15 "AddedCries$Sheet" "size" "I", .fieldLink RX6 19 "AddedCries$Sheet" "sort" "I", .methodLink RX6 22 yJ7_fill_53178, .static yJ7_fill_53178, .initialized RJ7, .code yJ7_fill_53178 cJ7_fill_53178 4 none] ++ wsX60)
def wsX6_drop : List Cond := .code yX6_drop cX6_drop 1 none :: ([.fieldLink RX6 15 "AddedCries$Sheet" "size" "I"] ++ wsX60)
def wsX6_hasCells : List Cond := .code yX6_hasCells cX6_hasCells 3 (some .boolean) :: ([.fieldLink RX6 15 "AddedCries$Sheet" "size" "I"] ++ wsX60)
def wsX6_at : List Cond := .code yX6_at cX6_at 2 (some .int) :: ([.fieldLink RX6 9 "AddedCries$Sheet" "cells" "[I", .methodLink RX6 28 yX6_hasCells, .instanceMethod yX6_hasCells, .selects RX6 yX6_hasCells yX6_hasCells, .initialized RX6, .code yX6_hasCells cX6_hasCells 3 (some .boolean), .fieldLink RX6 15 "AddedCries$Sheet" "size" "I"] ++ wsX60)
def wsX6_cut : List Cond := .code yX6_cut cX6_cut 2 (some .int) :: ([.fieldLink RX6 19 "AddedCries$Sheet" "sort" "I"] ++ wsX60)
def wsX6_write : List Cond := .code yX6_write cX6_write 3 none :: ([.fieldLink RX6 9 "AddedCries$Sheet" "cells" "[I", .methodLink RX6 28 yX6_hasCells, .instanceMethod yX6_hasCells, .selects RX6 yX6_hasCells yX6_hasCells, .initialized RX6, .code yX6_hasCells cX6_hasCells 3 (some .boolean), .fieldLink RX6 15 "AddedCries$Sheet" "size" "I", .methodLink RX6 32 yX6_cut, .instanceMethod yX6_cut, .selects RX6 yX6_cut yX6_cut, .code yX6_cut cX6_cut 2 (some .int), .fieldLink RX6 19 "AddedCries$Sheet" "sort" "I"] ++ wsX60)
def wsX6_giveTo : List Cond := .code yX6_giveTo cX6_giveTo 5 none :: ([.fieldLink RX6 9 "AddedCries$Sheet" "cells" "[I", .methodLink RX6 36 arraycopyName, .native arraycopyName, .static arraycopyName, .initialized "java/lang/System", .methodLink RX6 28 yX6_hasCells, .instanceMethod yX6_hasCells, .selects RX6 yX6_hasCells yX6_hasCells, .initialized RX6, .code yX6_hasCells cX6_hasCells 3 (some .boolean), .fieldLink RX6 15 "AddedCries$Sheet" "size" "I"] ++ wsX60)
def wsX7_init : List Cond := .code yX7_init cX7_init 1 none :: ([.methodLink RX7 3 objectInit, .instanceMethod objectInit, .code objectInit ⟨#[0xb1]⟩ 1 none, .classLink RX7 9 RX4, .instantiable RX4 1, .initialized RX4, .fieldLink RX7 12 "AddedCries$Weave" "lengths" "LAddedCries$Grid;", .fieldLink RX7 18 "AddedCries$Weave" "counts" "LAddedCries$Grid;", .instanceMethod yX4_init, .code yX4_init cX4_init 1 none, .methodLink RX4 3 objectInit, .arrayClass .long, .fieldLink RX4 9 "AddedCries$Grid" "cells" "[J"] ++ wsX40 ++ wsX70)
def wsX7_keep : List Cond := .code yX7_keep cX7_keep 7 none :: ([.fieldLink RX7 12 "AddedCries$Weave" "lengths" "LAddedCries$Grid;", .fieldLink RX7 18 "AddedCries$Weave" "counts" "LAddedCries$Grid;", .methodLink RX7 56 yX4_write, .instanceMethod yX4_write, .selects RX4 yX4_write yX4_write, .initialized RX4, .code yX4_write cX4_write 5 none, .fieldLink RX4 9 "AddedCries$Grid" "cells" "[J", .methodLink RX4 15 yX4_isInside, .static yX4_isInside, .code yX4_isInside cX4_isInside 2 (some .boolean)] ++ wsX70 ++ wsX40)
def wsX7_makeAt_r1 : List Cond := [Cond.fieldLink RX7 12 "AddedCries$Weave" "lengths" "LAddedCries$Grid;", Cond.fieldLink RX7 18 "AddedCries$Weave" "counts" "LAddedCries$Grid;", Cond.methodLink RX7 50 Lib.MathLoose.min_long.x, Cond.static Lib.MathLoose.min_long.x, Cond.initialized "java/lang/Math", Cond.code Lib.MathLoose.min_long.x Lib.MathLoose.min_long.code 4 (some .long), Cond.methodLink RX7 42 yX2_has, Cond.instanceMethod yX2_has, Cond.selects RX2 yX2_has yX2_has, Cond.initialized RX2, Cond.code yX2_has cX2_has 2 (some .boolean), Cond.fieldLink RX2 15 "AddedCries$Cry" "size" "I", Cond.methodLink RX7 21 yX2_size, Cond.instanceMethod yX2_size, Cond.selects RX2 yX2_size yX2_size, Cond.code yX2_size cX2_size 1 (some .int), Cond.methodLink RX7 46 yX7_keep, Cond.instanceMethod yX7_keep, Cond.selects RX7 yX7_keep yX7_keep, Cond.initialized RX7, Cond.code yX7_keep cX7_keep 7 none, Cond.methodLink RX7 56 yX4_write, Cond.instanceMethod yX4_write, Cond.selects RX4 yX4_write yX4_write]
def wsX7_makeAt_r2 : List Cond := [Cond.initialized RX4, Cond.code yX4_write cX4_write 5 none, Cond.fieldLink RX4 9 "AddedCries$Grid" "cells" "[J", Cond.methodLink RX4 15 yX4_isInside, Cond.static yX4_isInside, Cond.code yX4_isInside cX4_isInside 2 (some .boolean), Cond.methodLink RX7 39 yX2_at, Cond.instanceMethod yX2_at, Cond.selects RX2 yX2_at yX2_at, Cond.code yX2_at cX2_at 2 (some .int), Cond.fieldLink RX2 9 "AddedCries$Cry" "words" "[I", Cond.methodLink RX2 19 yX2_has, Cond.methodLink RX7 31 yX4_at, Cond.instanceMethod yX4_at, Cond.selects RX4 yX4_at yX4_at, Cond.code yX4_at cX4_at 3 (some .long)]
def wsX7_makeAt : List Cond := .code yX7_makeAt cX7_makeAt 11 none :: ((wsX7_makeAt_r1 ++ wsX7_makeAt_r2) ++ wsX70 ++ wsX20 ++ wsX40)
def wsX7_make_r1 : List Cond := [Cond.methodLink RX7 21 yX2_size, Cond.instanceMethod yX2_size, Cond.selects RX2 yX2_size yX2_size, Cond.initialized RX2, Cond.code yX2_size cX2_size 1 (some .int), Cond.fieldLink RX2 15 "AddedCries$Cry" "size" "I", Cond.methodLink RX7 27 yX7_makeAt, Cond.instanceMethod yX7_makeAt, Cond.selects RX7 yX7_makeAt yX7_makeAt, Cond.initialized RX7, Cond.code yX7_makeAt cX7_makeAt 11 none, Cond.fieldLink RX7 12 "AddedCries$Weave" "lengths" "LAddedCries$Grid;", Cond.fieldLink RX7 18 "AddedCries$Weave" "counts" "LAddedCries$Grid;", Cond.methodLink RX7 50 Lib.MathLoose.min_long.x, Cond.static Lib.MathLoose.min_long.x, Cond.initialized "java/lang/Math", Cond.code Lib.MathLoose.min_long.x Lib.MathLoose.min_long.code 4 (some .long), Cond.methodLink RX7 42 yX2_has, Cond.instanceMethod yX2_has, Cond.selects RX2 yX2_has yX2_has, Cond.code yX2_has cX2_has 2 (some .boolean), Cond.methodLink RX7 46 yX7_keep, Cond.instanceMethod yX7_keep, Cond.selects RX7 yX7_keep yX7_keep]
def wsX7_make_r2 : List Cond := [Cond.code yX7_keep cX7_keep 7 none, Cond.methodLink RX7 56 yX4_write, Cond.instanceMethod yX4_write, Cond.selects RX4 yX4_write yX4_write, Cond.initialized RX4, Cond.code yX4_write cX4_write 5 none, Cond.fieldLink RX4 9 "AddedCries$Grid" "cells" "[J", Cond.methodLink RX4 15 yX4_isInside, Cond.static yX4_isInside, Cond.code yX4_isInside cX4_isInside 2 (some .boolean), Cond.methodLink RX7 39 yX2_at, Cond.instanceMethod yX2_at, Cond.selects RX2 yX2_at yX2_at, Cond.code yX2_at cX2_at 2 (some .int), Cond.fieldLink RX2 9 "AddedCries$Cry" "words" "[I", Cond.methodLink RX2 19 yX2_has, Cond.methodLink RX7 31 yX4_at, Cond.instanceMethod yX4_at, Cond.selects RX4 yX4_at yX4_at, Cond.code yX4_at cX4_at 3 (some .long)]
def wsX7_make : List Cond := .code yX7_make cX7_make 5 none :: ((wsX7_make_r1 ++ wsX7_make_r2) ++ wsX20 ++ wsX70 ++ wsX40)
def wsX7_length : List Cond := .code yX7_length cX7_length 1 (some .int) :: ([.fieldLink RX7 12 "AddedCries$Weave" "lengths" "LAddedCries$Grid;", .methodLink RX7 31 yX4_at, .instanceMethod yX4_at, .selects RX4 yX4_at yX4_at, .initialized RX4, .code yX4_at cX4_at 3 (some .long), .fieldLink RX4 9 "AddedCries$Grid" "cells" "[J", .methodLink RX4 15 yX4_isInside, .static yX4_isInside, .code yX4_isInside cX4_isInside 2 (some .boolean)] ++ wsX70 ++ wsX40)
def wsX7_howMany : List Cond := .code yX7_howMany cX7_howMany 1 (some .long) :: ([.fieldLink RX7 18 "AddedCries$Weave" "counts" "LAddedCries$Grid;", .methodLink RX7 31 yX4_at, .instanceMethod yX4_at, .selects RX4 yX4_at yX4_at, .initialized RX4, .code yX4_at cX4_at 3 (some .long), .fieldLink RX4 9 "AddedCries$Grid" "cells" "[J", .methodLink RX4 15 yX4_isInside, .static yX4_isInside, .code yX4_isInside cX4_isInside 2 (some .boolean)] ++ wsX70 ++ wsX40)
def wsX7_firstWord_r1 : List Cond := [Cond.fieldLink RX7 12 "AddedCries$Weave" "lengths" "LAddedCries$Grid;", Cond.methodLink RX7 60 Lib.Math.min.name, Cond.static Lib.Math.min.name, Cond.initialized "java/lang/Math", Cond.code Lib.Math.min.name Lib.Math.min.code 2 (some .int), Cond.methodLink RX7 42 yX2_has, Cond.instanceMethod yX2_has, Cond.selects RX2 yX2_has yX2_has, Cond.initialized RX2, Cond.code yX2_has cX2_has 2 (some .boolean), Cond.fieldLink RX2 15 "AddedCries$Cry" "size" "I", Cond.methodLink RX7 39 yX2_at, Cond.instanceMethod yX2_at, Cond.selects RX2 yX2_at yX2_at, Cond.code yX2_at cX2_at 2 (some .int), Cond.fieldLink RX2 9 "AddedCries$Cry" "words" "[I", Cond.methodLink RX2 19 yX2_has, Cond.methodLink RX7 31 yX4_at, Cond.instanceMethod yX4_at, Cond.selects RX4 yX4_at yX4_at, Cond.initialized RX4, Cond.code yX4_at cX4_at 3 (some .long), Cond.fieldLink RX4 9 "AddedCries$Grid" "cells" "[J", Cond.methodLink RX4 15 yX4_isInside]
def wsX7_firstWord_r2 : List Cond := [Cond.static yX4_isInside, Cond.code yX4_isInside cX4_isInside 2 (some .boolean)]
def wsX7_firstWord : List Cond := .code yX7_firstWord cX7_firstWord 9 (some .int) :: ((wsX7_firstWord_r1 ++ wsX7_firstWord_r2) ++ wsX70 ++ wsX20 ++ wsX40)
def wsX7_wordOfFirst_r1 : List Cond := [Cond.methodLink RX7 35 yX7_firstWord, Cond.instanceMethod yX7_firstWord, Cond.selects RX7 yX7_firstWord yX7_firstWord, Cond.initialized RX7, Cond.code yX7_firstWord cX7_firstWord 9 (some .int), Cond.fieldLink RX7 12 "AddedCries$Weave" "lengths" "LAddedCries$Grid;", Cond.methodLink RX7 60 Lib.Math.min.name, Cond.static Lib.Math.min.name, Cond.initialized "java/lang/Math", Cond.code Lib.Math.min.name Lib.Math.min.code 2 (some .int), Cond.methodLink RX7 42 yX2_has, Cond.instanceMethod yX2_has, Cond.selects RX2 yX2_has yX2_has, Cond.initialized RX2, Cond.code yX2_has cX2_has 2 (some .boolean), Cond.fieldLink RX2 15 "AddedCries$Cry" "size" "I", Cond.methodLink RX7 39 yX2_at, Cond.instanceMethod yX2_at, Cond.selects RX2 yX2_at yX2_at, Cond.code yX2_at cX2_at 2 (some .int), Cond.fieldLink RX2 9 "AddedCries$Cry" "words" "[I", Cond.methodLink RX2 19 yX2_has, Cond.methodLink RX7 31 yX4_at, Cond.instanceMethod yX4_at]
def wsX7_wordOfFirst_r2 : List Cond := [Cond.selects RX4 yX4_at yX4_at, Cond.initialized RX4, Cond.code yX4_at cX4_at 3 (some .long), Cond.fieldLink RX4 9 "AddedCries$Grid" "cells" "[J", Cond.methodLink RX4 15 yX4_isInside, Cond.static yX4_isInside, Cond.code yX4_isInside cX4_isInside 2 (some .boolean)]
def wsX7_wordOfFirst : List Cond := .code yX7_wordOfFirst cX7_wordOfFirst 8 (some .int) :: ((wsX7_wordOfFirst_r1 ++ wsX7_wordOfFirst_r2) ++ wsX70 ++ wsX20 ++ wsX40)
def wsX8_init_r1 : List Cond := [Cond.methodLink RX8 5 objectInit, Cond.instanceMethod objectInit, Cond.code objectInit ⟨#[0xb1]⟩ 1 none, Cond.arrayClass .int, Cond.fieldLink RX8 11 "AddedCries" "kinds" "[I", Cond.classLink RX8 15 RX2, Cond.fieldLink RX8 17 "AddedCries" "days" "[LAddedCries$Cry;", Cond.classLink RX8 21 RX6, Cond.fieldLink RX8 23 "AddedCries" "sheets" "[LAddedCries$Sheet;", Cond.instantiable RX2 2, Cond.initialized RX2, Cond.fieldLink RX8 28 "AddedCries" "wordless" "LAddedCries$Cry;", Cond.classLink RX8 32 RX3, Cond.instantiable RX3 3, Cond.initialized RX3, Cond.fieldLink RX8 35 "AddedCries" "fit" "LAddedCries$Fit;", Cond.classLink RX8 39 RX5, Cond.instantiable RX5 2, Cond.initialized RX5, Cond.fieldLink RX8 42 "AddedCries" "sayings" "LAddedCries$Sayings;", Cond.classLink RX8 46 RX7, Cond.instantiable RX7 2, Cond.initialized RX7, Cond.fieldLink RX8 49 "AddedCries" "weave" "LAddedCries$Weave;"]
def wsX8_init_r2 : List Cond := [Cond.classLink RX8 53 RX1, Cond.instantiable RX1 2, Cond.initialized RX1, Cond.fieldLink RX8 56 "AddedCries" "braid" "LAddedCries$Braid;", Cond.classLink RX8 60 RX0, Cond.instantiable RX0 2, Cond.initialized RX0, Cond.fieldLink RX8 63 "AddedCries" "between" "LAddedCries$Between;", Cond.fieldLink RX8 67 "AddedCries" "fewestParts" "[I", Cond.fieldLink RX8 70 "AddedCries" "dayCount" "I", Cond.fieldLink RX8 74 "AddedCries" "traced" "I", Cond.fieldLink RX8 77 "AddedCries" "latestFault" "I", Cond.instantiable RX6 3, Cond.initialized RX6, Cond.instanceMethod yX2_init, Cond.code yX2_init cX2_init 1 none, Cond.methodLink RX2 3 objectInit, Cond.fieldLink RX2 9 "AddedCries$Cry" "words" "[I", Cond.fieldLink RX2 15 "AddedCries$Cry" "size" "I", Cond.instanceMethod yX3_init, Cond.code yX3_init cX3_init 1 none, Cond.methodLink RX3 3 objectInit, Cond.fieldLink RX3 9 "AddedCries$Fit" "firsts" "[I", Cond.fieldLink RX3 15 "AddedCries$Fit" "lasts" "[I"]
def wsX8_init_r3 : List Cond := [Cond.arrayClass .long, Cond.fieldLink RX3 18 "AddedCries$Fit" "choices" "[J", Cond.instanceMethod yX5_init, Cond.code yX5_init cX5_init 1 none, Cond.methodLink RX5 3 objectInit, Cond.arrayClass .boolean, Cond.fieldLink RX5 11 "AddedCries$Sayings" "ends" "[Z", Cond.fieldLink RX5 15 "AddedCries$Sayings" "found" "[I", Cond.instanceMethod yX7_init, Cond.code yX7_init cX7_init 1 none, Cond.methodLink RX7 3 objectInit, Cond.classLink RX7 9 RX4, Cond.instantiable RX4 1, Cond.initialized RX4, Cond.fieldLink RX7 12 "AddedCries$Weave" "lengths" "LAddedCries$Grid;", Cond.fieldLink RX7 18 "AddedCries$Weave" "counts" "LAddedCries$Grid;", Cond.instanceMethod yX4_init, Cond.code yX4_init cX4_init 1 none, Cond.methodLink RX4 3 objectInit, Cond.fieldLink RX4 9 "AddedCries$Grid" "cells" "[J", Cond.instanceMethod yX1_init, Cond.code yX1_init cX1_init 1 none, Cond.methodLink RX1 3 objectInit, Cond.classLink RX1 9 RX4]
def wsX8_init_r4 : List Cond := [Cond.fieldLink RX1 12 "AddedCries$Braid" "here" "LAddedCries$Grid;", Cond.fieldLink RX1 18 "AddedCries$Braid" "next" "LAddedCries$Grid;", Cond.instanceMethod yX0_init, Cond.code yX0_init cX0_init 1 none, Cond.methodLink RX0 1 objectInit, Cond.classLink RX0 7 RX4, Cond.fieldLink RX0 10 "AddedCries$Between" "now" "LAddedCries$Grid;", Cond.fieldLink RX0 16 "AddedCries$Between" "then" "LAddedCries$Grid;", Cond.instanceMethod yX6_init, Cond.code yX6_init cX6_init 1 none, Cond.methodLink RX6 3 objectInit, Cond.fieldLink RX6 9 "AddedCries$Sheet" "cells" "[I", Cond.fieldLink RX6 15 "AddedCries$Sheet" "size" "I", Cond.fieldLink RX6 19 "AddedCries$Sheet" "sort" "I"]
def wsX8_init : List Cond := .code yX8_init cX8_init 2 none :: ((wsX8_init_r1 ++ (wsX8_init_r2 ++ (wsX8_init_r3 ++ wsX8_init_r4))) ++ wsX80 ++ wsX20 ++ wsX30 ++ wsX50 ++ wsX70 ++ wsX10 ++ wsX00 ++ wsX60 ++ wsX40)
def wsX8_sheetOf : List Cond := .code yX8_sheetOf cX8_sheetOf 2 (some (.object "AddedCries$Sheet")) :: ([.fieldLink RX8 23 "AddedCries" "sheets" "[LAddedCries$Sheet;"] ++ wsX80)
def wsX8_isSort : List Cond := .code yX8_isSort cX8_isSort 1 (some .boolean) :: ([])
def wsX8_readingFault : List Cond := .code yX8_readingFault cX8_readingFault 2 (some .int) :: ([.methodLink RX8 207 yX6_isNothing, .instanceMethod yX6_isNothing, .selects RX6 yX6_isNothing yX6_isNothing, .initialized RX6, .code yX6_isNothing cX6_isNothing 1 (some .boolean), .fieldLink RX6 15 "AddedCries$Sheet" "size" "I", .methodLink RX8 217 yX6_sort, .instanceMethod yX6_sort, .selects RX6 yX6_sort yX6_sort, .code yX6_sort cX6_sort 1 (some .int), .fieldLink RX6 19 "AddedCries$Sheet" "sort" "I"] ++ wsX60)
def wsX8_fails : List Cond := .code yX8_fails cX8_fails 2 (some .int) :: ([.fieldLink RX8 77 "AddedCries" "latestFault" "I"] ++ wsX80)
def wsX8_isLetter : List Cond := .code yX8_isLetter cX8_isLetter 1 (some .boolean) :: ([])
def wsX8_firstFaultOf : List Cond := .code yX8_firstFaultOf cX8_firstFaultOf 7 (some .int) :: ([.methodLink RX8 216 yX6_at, .instanceMethod yX6_at, .selects RX6 yX6_at yX6_at, .initialized RX6, .code yX6_at cX6_at 2 (some .int), .fieldLink RX6 9 "AddedCries$Sheet" "cells" "[I", .methodLink RX6 28 yX6_hasCells, .instanceMethod yX6_hasCells, .selects RX6 yX6_hasCells yX6_hasCells, .code yX6_hasCells cX6_hasCells 3 (some .boolean), .fieldLink RX6 15 "AddedCries$Sheet" "size" "I", .methodLink RX8 239 yX8_isLetter, .static yX8_isLetter, .initialized RX8, .code yX8_isLetter cX8_isLetter 1 (some .boolean)] ++ wsX60)
def wsX8_cryOf : List Cond := .code yX8_cryOf cX8_cryOf 2 (some (.object "AddedCries$Cry")) :: ([.fieldLink RX8 70 "AddedCries" "dayCount" "I", .fieldLink RX8 17 "AddedCries" "days" "[LAddedCries$Cry;"] ++ wsX80)
def wsX8_lastCry : List Cond := .code yX8_lastCry cX8_lastCry 1 (some (.object "AddedCries$Cry")) :: ([.fieldLink RX8 70 "AddedCries" "dayCount" "I", .methodLink RX8 115 yX8_cryOf, .instanceMethod yX8_cryOf, .selects RX8 yX8_cryOf yX8_cryOf, .initialized RX8, .code yX8_cryOf cX8_cryOf 2 (some (.object "AddedCries$Cry")), .fieldLink RX8 17 "AddedCries" "days" "[LAddedCries$Cry;"] ++ wsX80)
def wsX8_beginDay : List Cond := .code yX8_beginDay cX8_beginDay 2 none :: ([.fieldLink RX8 70 "AddedCries" "dayCount" "I", .methodLink RX8 129 yX8_lastCry, .instanceMethod yX8_lastCry, .selects RX8 yX8_lastCry yX8_lastCry, .initialized RX8, .code yX8_lastCry cX8_lastCry 1 (some (.object "AddedCries$Cry")), .methodLink RX8 115 yX8_cryOf, .instanceMethod yX8_cryOf, .selects RX8 yX8_cryOf yX8_cryOf, .code yX8_cryOf cX8_cryOf 2 (some (.object "AddedCries$Cry")), .fieldLink RX8 17 "AddedCries" "days" "[LAddedCries$Cry;", .methodLink RX8 245 yX2_clear, .instanceMethod yX2_clear, .selects RX2 yX2_clear yX2_clear, .initialized RX2, .code yX2_clear cX2_clear 1 none, .fieldLink RX2 15 "AddedCries$Cry" "size" "I"] ++ wsX80 ++ wsX20)
def wsX8_takeText_r1 : List Cond := [Cond.fieldLink RX8 70 "AddedCries" "dayCount" "I", Cond.methodLink RX8 242 yX8_beginDay, Cond.instanceMethod yX8_beginDay, Cond.selects RX8 yX8_beginDay yX8_beginDay, Cond.initialized RX8, Cond.code yX8_beginDay cX8_beginDay 2 none, Cond.methodLink RX8 129 yX8_lastCry, Cond.instanceMethod yX8_lastCry, Cond.selects RX8 yX8_lastCry yX8_lastCry, Cond.code yX8_lastCry cX8_lastCry 1 (some (.object "AddedCries$Cry")), Cond.methodLink RX8 115 yX8_cryOf, Cond.instanceMethod yX8_cryOf, Cond.selects RX8 yX8_cryOf yX8_cryOf, Cond.code yX8_cryOf cX8_cryOf 2 (some (.object "AddedCries$Cry")), Cond.fieldLink RX8 17 "AddedCries" "days" "[LAddedCries$Cry;", Cond.methodLink RX8 245 yX2_clear, Cond.instanceMethod yX2_clear, Cond.selects RX2 yX2_clear yX2_clear, Cond.initialized RX2, Cond.code yX2_clear cX2_clear 1 none, Cond.fieldLink RX2 15 "AddedCries$Cry" "size" "I", Cond.methodLink RX8 216 yX6_at, Cond.instanceMethod yX6_at, Cond.selects RX6 yX6_at yX6_at]
def wsX8_takeText_r2 : List Cond := [Cond.initialized RX6, Cond.code yX6_at cX6_at 2 (some .int), Cond.fieldLink RX6 9 "AddedCries$Sheet" "cells" "[I", Cond.methodLink RX6 28 yX6_hasCells, Cond.instanceMethod yX6_hasCells, Cond.selects RX6 yX6_hasCells yX6_hasCells, Cond.code yX6_hasCells cX6_hasCells 3 (some .boolean), Cond.fieldLink RX6 15 "AddedCries$Sheet" "size" "I", Cond.methodLink RX8 239 yX8_isLetter, Cond.static yX8_isLetter, Cond.code yX8_isLetter cX8_isLetter 1 (some .boolean), Cond.methodLink RX8 119 yX2_size, Cond.instanceMethod yX2_size, Cond.selects RX2 yX2_size yX2_size, Cond.code yX2_size cX2_size 1 (some .int), Cond.methodLink RX8 137 yX2_insert, Cond.instanceMethod yX2_insert, Cond.selects RX2 yX2_insert yX2_insert, Cond.code yX2_insert cX2_insert 4 none, Cond.fieldLink RX2 9 "AddedCries$Cry" "words" "[I", Cond.methodLink RX2 23 yX2_isFull, Cond.instanceMethod yX2_isFull, Cond.selects RX2 yX2_isFull yX2_isFull, Cond.code yX2_isFull cX2_isFull 1 (some .boolean)]
def wsX8_takeText : List Cond := .code yX8_takeText cX8_takeText 7 none :: ((wsX8_takeText_r1 ++ wsX8_takeText_r2) ++ wsX80 ++ wsX20 ++ wsX60)
def wsX8_cries_r1 : List Cond := [Cond.fieldLink RX8 77 "AddedCries" "latestFault" "I", Cond.fieldLink RX8 70 "AddedCries" "dayCount" "I", Cond.methodLink RX8 81 yX8_sheetOf, Cond.instanceMethod yX8_sheetOf, Cond.selects RX8 yX8_sheetOf yX8_sheetOf, Cond.initialized RX8, Cond.code yX8_sheetOf cX8_sheetOf 2 (some (.object "AddedCries$Sheet")), Cond.fieldLink RX8 23 "AddedCries" "sheets" "[LAddedCries$Sheet;", Cond.methodLink RX8 85 yX8_isSort, Cond.static yX8_isSort, Cond.code yX8_isSort cX8_isSort 1 (some .boolean), Cond.methodLink RX8 89 yX8_readingFault, Cond.static yX8_readingFault, Cond.code yX8_readingFault cX8_readingFault 2 (some .int), Cond.methodLink RX8 207 yX6_isNothing, Cond.instanceMethod yX6_isNothing, Cond.selects RX6 yX6_isNothing yX6_isNothing, Cond.initialized RX6, Cond.code yX6_isNothing cX6_isNothing 1 (some .boolean), Cond.fieldLink RX6 15 "AddedCries$Sheet" "size" "I", Cond.methodLink RX8 217 yX6_sort, Cond.instanceMethod yX6_sort, Cond.selects RX6 yX6_sort yX6_sort, Cond.code yX6_sort cX6_sort 1 (some .int)]
def wsX8_cries_r2 : List Cond := [Cond.fieldLink RX6 19 "AddedCries$Sheet" "sort" "I", Cond.methodLink RX8 93 yX8_fails, Cond.instanceMethod yX8_fails, Cond.selects RX8 yX8_fails yX8_fails, Cond.code yX8_fails cX8_fails 2 (some .int), Cond.methodLink RX8 97 yX6_hasCells, Cond.instanceMethod yX6_hasCells, Cond.selects RX6 yX6_hasCells yX6_hasCells, Cond.code yX6_hasCells cX6_hasCells 3 (some .boolean), Cond.methodLink RX8 101 yX8_firstFaultOf, Cond.static yX8_firstFaultOf, Cond.code yX8_firstFaultOf cX8_firstFaultOf 7 (some .int), Cond.methodLink RX8 216 yX6_at, Cond.instanceMethod yX6_at, Cond.selects RX6 yX6_at yX6_at, Cond.code yX6_at cX6_at 2 (some .int), Cond.fieldLink RX6 9 "AddedCries$Sheet" "cells" "[I", Cond.methodLink RX6 28 yX6_hasCells, Cond.methodLink RX8 239 yX8_isLetter, Cond.static yX8_isLetter, Cond.code yX8_isLetter cX8_isLetter 1 (some .boolean), Cond.methodLink RX8 105 yX8_takeText, Cond.instanceMethod yX8_takeText, Cond.selects RX8 yX8_takeText yX8_takeText]
def wsX8_cries_r3 : List Cond := [Cond.code yX8_takeText cX8_takeText 7 none, Cond.methodLink RX8 242 yX8_beginDay, Cond.instanceMethod yX8_beginDay, Cond.selects RX8 yX8_beginDay yX8_beginDay, Cond.code yX8_beginDay cX8_beginDay 2 none, Cond.methodLink RX8 129 yX8_lastCry, Cond.instanceMethod yX8_lastCry, Cond.selects RX8 yX8_lastCry yX8_lastCry, Cond.code yX8_lastCry cX8_lastCry 1 (some (.object "AddedCries$Cry")), Cond.methodLink RX8 115 yX8_cryOf, Cond.instanceMethod yX8_cryOf, Cond.selects RX8 yX8_cryOf yX8_cryOf, Cond.code yX8_cryOf cX8_cryOf 2 (some (.object "AddedCries$Cry")), Cond.fieldLink RX8 17 "AddedCries" "days" "[LAddedCries$Cry;", Cond.methodLink RX8 245 yX2_clear, Cond.instanceMethod yX2_clear, Cond.selects RX2 yX2_clear yX2_clear, Cond.initialized RX2, Cond.code yX2_clear cX2_clear 1 none, Cond.fieldLink RX2 15 "AddedCries$Cry" "size" "I", Cond.methodLink RX8 119 yX2_size, Cond.instanceMethod yX2_size, Cond.selects RX2 yX2_size yX2_size, Cond.code yX2_size cX2_size 1 (some .int)]
def wsX8_cries_r4 : List Cond := [Cond.methodLink RX8 137 yX2_insert, Cond.instanceMethod yX2_insert, Cond.selects RX2 yX2_insert yX2_insert, Cond.code yX2_insert cX2_insert 4 none, Cond.fieldLink RX2 9 "AddedCries$Cry" "words" "[I", Cond.methodLink RX2 23 yX2_isFull, Cond.instanceMethod yX2_isFull, Cond.selects RX2 yX2_isFull yX2_isFull, Cond.code yX2_isFull cX2_isFull 1 (some .boolean)]
def wsX8_cries : List Cond := .code yX8_cries cX8_cries 8 (some .int) :: ((wsX8_cries_r1 ++ (wsX8_cries_r2 ++ (wsX8_cries_r3 ++ wsX8_cries_r4))) ++ wsX80 ++ wsX60 ++ wsX20)
def wsX8_isWord : List Cond := .code yX8_isWord cX8_isWord 1 (some .boolean) :: ([])
def wsX8_isKind : List Cond := .code yX8_isKind cX8_isKind 1 (some .boolean) :: ([])
def wsX8_kind : List Cond := .code yX8_kind cX8_kind 4 (some .int) :: ([.fieldLink RX8 11 "AddedCries" "kinds" "[I", .methodLink RX8 109 yX8_isWord, .static yX8_isWord, .initialized RX8, .code yX8_isWord cX8_isWord 1 (some .boolean), .methodLink RX8 112 yX8_isKind, .static yX8_isKind, .code yX8_isKind cX8_isKind 1 (some .boolean)] ++ wsX80)
def wsX8_ofDay : List Cond := .code yX8_ofDay cX8_ofDay 4 (some .int) :: ([.methodLink RX8 115 yX8_cryOf, .instanceMethod yX8_cryOf, .selects RX8 yX8_cryOf yX8_cryOf, .initialized RX8, .code yX8_cryOf cX8_cryOf 2 (some (.object "AddedCries$Cry")), .fieldLink RX8 70 "AddedCries" "dayCount" "I", .fieldLink RX8 17 "AddedCries" "days" "[LAddedCries$Cry;", .methodLink RX8 119 yX2_size, .instanceMethod yX2_size, .selects RX2 yX2_size yX2_size, .initialized RX2, .code yX2_size cX2_size 1 (some .int), .fieldLink RX2 15 "AddedCries$Cry" "size" "I", .methodLink RX8 123 yX2_has, .instanceMethod yX2_has, .selects RX2 yX2_has yX2_has, .code yX2_has cX2_has 2 (some .boolean), .methodLink RX8 126 yX2_at, .instanceMethod yX2_at, .selects RX2 yX2_at yX2_at, .code yX2_at cX2_at 2 (some .int), .fieldLink RX2 9 "AddedCries$Cry" "words" "[I", .methodLink RX2 19 yX2_has] ++ wsX80 ++ wsX20)
def wsX8_add_r1 : List Cond := [Cond.methodLink RX8 129 yX8_lastCry, Cond.instanceMethod yX8_lastCry, Cond.selects RX8 yX8_lastCry yX8_lastCry, Cond.initialized RX8, Cond.code yX8_lastCry cX8_lastCry 1 (some (.object "AddedCries$Cry")), Cond.fieldLink RX8 70 "AddedCries" "dayCount" "I", Cond.methodLink RX8 115 yX8_cryOf, Cond.instanceMethod yX8_cryOf, Cond.selects RX8 yX8_cryOf yX8_cryOf, Cond.code yX8_cryOf cX8_cryOf 2 (some (.object "AddedCries$Cry")), Cond.fieldLink RX8 17 "AddedCries" "days" "[LAddedCries$Cry;", Cond.methodLink RX8 109 yX8_isWord, Cond.static yX8_isWord, Cond.code yX8_isWord cX8_isWord 1 (some .boolean), Cond.methodLink RX8 119 yX2_size, Cond.instanceMethod yX2_size, Cond.selects RX2 yX2_size yX2_size, Cond.initialized RX2, Cond.code yX2_size cX2_size 1 (some .int), Cond.fieldLink RX2 15 "AddedCries$Cry" "size" "I", Cond.methodLink RX8 133 yX2_isFull, Cond.instanceMethod yX2_isFull, Cond.selects RX2 yX2_isFull yX2_isFull, Cond.code yX2_isFull cX2_isFull 1 (some .boolean)]
def wsX8_add_r2 : List Cond := [Cond.methodLink RX8 137 yX2_insert, Cond.instanceMethod yX2_insert, Cond.selects RX2 yX2_insert yX2_insert, Cond.code yX2_insert cX2_insert 4 none, Cond.fieldLink RX2 9 "AddedCries$Cry" "words" "[I", Cond.methodLink RX2 23 yX2_isFull]
def wsX8_add : List Cond := .code yX8_add cX8_add 4 (some .int) :: ((wsX8_add_r1 ++ wsX8_add_r2) ++ wsX80 ++ wsX20)
def wsX8_within_r1 : List Cond := [Cond.fieldLink RX8 35 "AddedCries" "fit" "LAddedCries$Fit;", Cond.methodLink RX8 115 yX8_cryOf, Cond.instanceMethod yX8_cryOf, Cond.selects RX8 yX8_cryOf yX8_cryOf, Cond.initialized RX8, Cond.code yX8_cryOf cX8_cryOf 2 (some (.object "AddedCries$Cry")), Cond.fieldLink RX8 70 "AddedCries" "dayCount" "I", Cond.fieldLink RX8 17 "AddedCries" "days" "[LAddedCries$Cry;", Cond.methodLink RX8 141 yX3_make, Cond.instanceMethod yX3_make, Cond.selects RX3 yX3_make yX3_make, Cond.initialized RX3, Cond.code yX3_make cX3_make 5 (some .boolean), Cond.fieldLink RX3 9 "AddedCries$Fit" "firsts" "[I", Cond.fieldLink RX3 15 "AddedCries$Fit" "lasts" "[I", Cond.methodLink RX3 22 yX2_size, Cond.instanceMethod yX2_size, Cond.selects RX2 yX2_size yX2_size, Cond.initialized RX2, Cond.code yX2_size cX2_size 1 (some .int), Cond.fieldLink RX2 15 "AddedCries$Cry" "size" "I", Cond.methodLink RX3 28 yX2_has, Cond.instanceMethod yX2_has, Cond.selects RX2 yX2_has yX2_has]
def wsX8_within_r2 : List Cond := [Cond.code yX2_has cX2_has 2 (some .boolean), Cond.methodLink RX3 32 yX2_at, Cond.instanceMethod yX2_at, Cond.selects RX2 yX2_at yX2_at, Cond.code yX2_at cX2_at 2 (some .int), Cond.fieldLink RX2 9 "AddedCries$Cry" "words" "[I", Cond.methodLink RX2 19 yX2_has]
def wsX8_within : List Cond := .code yX8_within cX8_within 5 (some .int) :: ((wsX8_within_r1 ++ wsX8_within_r2) ++ wsX80 ++ wsX30 ++ wsX20)
def wsX8_leftOut_r1 : List Cond := [Cond.fieldLink RX8 70 "AddedCries" "dayCount" "I", Cond.fieldLink RX8 35 "AddedCries" "fit" "LAddedCries$Fit;", Cond.methodLink RX8 115 yX8_cryOf, Cond.instanceMethod yX8_cryOf, Cond.selects RX8 yX8_cryOf yX8_cryOf, Cond.initialized RX8, Cond.code yX8_cryOf cX8_cryOf 2 (some (.object "AddedCries$Cry")), Cond.fieldLink RX8 17 "AddedCries" "days" "[LAddedCries$Cry;", Cond.methodLink RX8 141 yX3_make, Cond.instanceMethod yX3_make, Cond.selects RX3 yX3_make yX3_make, Cond.initialized RX3, Cond.code yX3_make cX3_make 5 (some .boolean), Cond.fieldLink RX3 9 "AddedCries$Fit" "firsts" "[I", Cond.fieldLink RX3 15 "AddedCries$Fit" "lasts" "[I", Cond.methodLink RX3 22 yX2_size, Cond.instanceMethod yX2_size, Cond.selects RX2 yX2_size yX2_size, Cond.initialized RX2, Cond.code yX2_size cX2_size 1 (some .int), Cond.fieldLink RX2 15 "AddedCries$Cry" "size" "I", Cond.methodLink RX3 28 yX2_has, Cond.instanceMethod yX2_has, Cond.selects RX2 yX2_has yX2_has]
def wsX8_leftOut_r2 : List Cond := [Cond.code yX2_has cX2_has 2 (some .boolean), Cond.methodLink RX3 32 yX2_at, Cond.instanceMethod yX2_at, Cond.selects RX2 yX2_at yX2_at, Cond.code yX2_at cX2_at 2 (some .int), Cond.fieldLink RX2 9 "AddedCries$Cry" "words" "[I", Cond.methodLink RX2 19 yX2_has]
def wsX8_leftOut : List Cond := .code yX8_leftOut cX8_leftOut 4 (some .int) :: ((wsX8_leftOut_r1 ++ wsX8_leftOut_r2) ++ wsX80 ++ wsX30 ++ wsX20)
def wsX8_said_r1 : List Cond := [Cond.fieldLink RX8 11 "AddedCries" "kinds" "[I", Cond.methodLink RX8 115 yX8_cryOf, Cond.instanceMethod yX8_cryOf, Cond.selects RX8 yX8_cryOf yX8_cryOf, Cond.initialized RX8, Cond.code yX8_cryOf cX8_cryOf 2 (some (.object "AddedCries$Cry")), Cond.fieldLink RX8 70 "AddedCries" "dayCount" "I", Cond.fieldLink RX8 17 "AddedCries" "days" "[LAddedCries$Cry;", Cond.methodLink RX8 145 yX5_isSaid, Cond.static yX5_isSaid, Cond.initialized RX5, Cond.code yX5_isSaid cX5_isSaid 5 (some .boolean), Cond.methodLink RX5 19 yX2_size, Cond.instanceMethod yX2_size, Cond.selects RX2 yX2_size yX2_size, Cond.initialized RX2, Cond.code yX2_size cX2_size 1 (some .int), Cond.fieldLink RX2 15 "AddedCries$Cry" "size" "I", Cond.methodLink RX5 25 yX2_at, Cond.instanceMethod yX2_at, Cond.selects RX2 yX2_at yX2_at, Cond.code yX2_at cX2_at 2 (some .int), Cond.fieldLink RX2 9 "AddedCries$Cry" "words" "[I", Cond.methodLink RX2 19 yX2_has]
def wsX8_said_r2 : List Cond := [Cond.instanceMethod yX2_has, Cond.selects RX2 yX2_has yX2_has, Cond.code yX2_has cX2_has 2 (some .boolean), Cond.methodLink RX5 29 yX5_after, Cond.static yX5_after, Cond.code yX5_after cX5_after 5 (some .int)]
def wsX8_said : List Cond := .code yX8_said cX8_said 5 (some .int) :: ((wsX8_said_r1 ++ wsX8_said_r2) ++ wsX80 ++ wsX20)
def wsX8_putIn_r1 : List Cond := [Cond.fieldLink RX8 11 "AddedCries" "kinds" "[I", Cond.fieldLink RX8 42 "AddedCries" "sayings" "LAddedCries$Sayings;", Cond.methodLink RX8 115 yX8_cryOf, Cond.instanceMethod yX8_cryOf, Cond.selects RX8 yX8_cryOf yX8_cryOf, Cond.initialized RX8, Cond.code yX8_cryOf cX8_cryOf 2 (some (.object "AddedCries$Cry")), Cond.fieldLink RX8 70 "AddedCries" "dayCount" "I", Cond.fieldLink RX8 17 "AddedCries" "days" "[LAddedCries$Cry;", Cond.methodLink RX8 109 yX8_isWord, Cond.static yX8_isWord, Cond.code yX8_isWord cX8_isWord 1 (some .boolean), Cond.methodLink RX8 149 yX5_fewest, Cond.instanceMethod yX5_fewest, Cond.selects RX5 yX5_fewest yX5_fewest, Cond.initialized RX5, Cond.code yX5_fewest cX5_fewest 5 (some .int), Cond.methodLink RX5 33 yX5_keepEnds, Cond.instanceMethod yX5_keepEnds, Cond.selects RX5 yX5_keepEnds yX5_keepEnds, Cond.code yX5_keepEnds cX5_keepEnds 7 none, Cond.methodLink RX5 49 Lib.Math.min.name, Cond.static Lib.Math.min.name, Cond.initialized "java/lang/Math"]
def wsX8_putIn_r2 : List Cond := [Cond.code Lib.Math.min.name Lib.Math.min.code 2 (some .int), Cond.fieldLink RX5 11 "AddedCries$Sayings" "ends" "[Z", Cond.methodLink RX5 19 yX2_size, Cond.instanceMethod yX2_size, Cond.selects RX2 yX2_size yX2_size, Cond.initialized RX2, Cond.code yX2_size cX2_size 1 (some .int), Cond.fieldLink RX2 15 "AddedCries$Cry" "size" "I", Cond.methodLink RX5 25 yX2_at, Cond.instanceMethod yX2_at, Cond.selects RX2 yX2_at yX2_at, Cond.code yX2_at cX2_at 2 (some .int), Cond.fieldLink RX2 9 "AddedCries$Cry" "words" "[I", Cond.methodLink RX2 19 yX2_has, Cond.instanceMethod yX2_has, Cond.selects RX2 yX2_has yX2_has, Cond.code yX2_has cX2_has 2 (some .boolean), Cond.methodLink RX5 29 yX5_after, Cond.static yX5_after, Cond.code yX5_after cX5_after 5 (some .int), Cond.methodLink RX5 37 yX5_endsSaid, Cond.instanceMethod yX5_endsSaid, Cond.selects RX5 yX5_endsSaid yX5_endsSaid, Cond.code yX5_endsSaid cX5_endsSaid 3 (some .boolean)]
def wsX8_putIn_r3 : List Cond := [Cond.methodLink RX5 41 yX5_findOne, Cond.instanceMethod yX5_findOne, Cond.selects RX5 yX5_findOne yX5_findOne, Cond.code yX5_findOne cX5_findOne 11 (some .boolean), Cond.methodLink RX5 55 yX5_keep, Cond.instanceMethod yX5_keep, Cond.selects RX5 yX5_keep yX5_keep, Cond.code yX5_keep cX5_keep 4 none, Cond.fieldLink RX5 15 "AddedCries$Sayings" "found" "[I", Cond.methodLink RX5 45 yX5_findTwo, Cond.instanceMethod yX5_findTwo, Cond.selects RX5 yX5_findTwo yX5_findTwo, Cond.code yX5_findTwo cX5_findTwo 8 (some .boolean), Cond.methodLink RX8 153 yX5_found, Cond.instanceMethod yX5_found, Cond.selects RX5 yX5_found yX5_found, Cond.code yX5_found cX5_found 2 (some .int)]
def wsX8_putIn : List Cond := .code yX8_putIn cX8_putIn 7 (some .int) :: ((wsX8_putIn_r1 ++ (wsX8_putIn_r2 ++ wsX8_putIn_r3)) ++ wsX80 ++ wsX50 ++ wsX20)
def wsX8_ways_r1 : List Cond := [Cond.constantLong RX8 156 (-9223372036854775808), Cond.fieldLink RX8 35 "AddedCries" "fit" "LAddedCries$Fit;", Cond.methodLink RX8 115 yX8_cryOf, Cond.instanceMethod yX8_cryOf, Cond.selects RX8 yX8_cryOf yX8_cryOf, Cond.initialized RX8, Cond.code yX8_cryOf cX8_cryOf 2 (some (.object "AddedCries$Cry")), Cond.fieldLink RX8 70 "AddedCries" "dayCount" "I", Cond.fieldLink RX8 17 "AddedCries" "days" "[LAddedCries$Cry;", Cond.methodLink RX8 158 yX3_choices, Cond.instanceMethod yX3_choices, Cond.selects RX3 yX3_choices yX3_choices, Cond.initialized RX3, Cond.code yX3_choices cX3_choices 6 (some .long), Cond.methodLink RX3 46 Lib.Math.min.name, Cond.static Lib.Math.min.name, Cond.initialized "java/lang/Math", Cond.code Lib.Math.min.name Lib.Math.min.code 2 (some .int), Cond.fieldLink RX3 18 "AddedCries$Fit" "choices" "[J", Cond.methodLink RX3 22 yX2_size, Cond.instanceMethod yX2_size, Cond.selects RX2 yX2_size yX2_size, Cond.initialized RX2, Cond.code yX2_size cX2_size 1 (some .int)]
def wsX8_ways_r2 : List Cond := [Cond.fieldLink RX2 15 "AddedCries$Cry" "size" "I", Cond.methodLink RX3 52 yJ7_fill_d0a16, Cond.static yJ7_fill_d0a16, Cond.initialized RJ7, Cond.code yJ7_fill_d0a16 cJ7_fill_d0a16 5 none, Cond.methodLink RX3 32 yX2_at, Cond.instanceMethod yX2_at, Cond.selects RX2 yX2_at yX2_at, Cond.code yX2_at cX2_at 2 (some .int), Cond.fieldLink RX2 9 "AddedCries$Cry" "words" "[I", Cond.methodLink RX2 19 yX2_has, Cond.instanceMethod yX2_has, Cond.selects RX2 yX2_has yX2_has, Cond.code yX2_has cX2_has 2 (some .boolean)]
def wsX8_ways : List Cond := .code yX8_ways cX8_ways 5 (some .long) :: ((wsX8_ways_r1 ++ wsX8_ways_r2) ++ wsX80 ++ wsX30 ++ wsX20)
def wsX8_isFirstOrSecond : List Cond := .code yX8_isFirstOrSecond cX8_isFirstOrSecond 1 (some .boolean) :: ([])
def wsX8_place_r1 : List Cond := [Cond.fieldLink RX8 35 "AddedCries" "fit" "LAddedCries$Fit;", Cond.methodLink RX8 115 yX8_cryOf, Cond.instanceMethod yX8_cryOf, Cond.selects RX8 yX8_cryOf yX8_cryOf, Cond.initialized RX8, Cond.code yX8_cryOf cX8_cryOf 2 (some (.object "AddedCries$Cry")), Cond.fieldLink RX8 70 "AddedCries" "dayCount" "I", Cond.fieldLink RX8 17 "AddedCries" "days" "[LAddedCries$Cry;", Cond.methodLink RX8 123 yX2_has, Cond.instanceMethod yX2_has, Cond.selects RX2 yX2_has yX2_has, Cond.initialized RX2, Cond.code yX2_has cX2_has 2 (some .boolean), Cond.fieldLink RX2 15 "AddedCries$Cry" "size" "I", Cond.methodLink RX8 162 yX8_isFirstOrSecond, Cond.static yX8_isFirstOrSecond, Cond.code yX8_isFirstOrSecond cX8_isFirstOrSecond 1 (some .boolean), Cond.methodLink RX8 141 yX3_make, Cond.instanceMethod yX3_make, Cond.selects RX3 yX3_make yX3_make, Cond.initialized RX3, Cond.code yX3_make cX3_make 5 (some .boolean), Cond.fieldLink RX3 9 "AddedCries$Fit" "firsts" "[I", Cond.fieldLink RX3 15 "AddedCries$Fit" "lasts" "[I"]
def wsX8_place_r2 : List Cond := [Cond.methodLink RX3 22 yX2_size, Cond.instanceMethod yX2_size, Cond.selects RX2 yX2_size yX2_size, Cond.code yX2_size cX2_size 1 (some .int), Cond.methodLink RX3 28 yX2_has, Cond.methodLink RX3 32 yX2_at, Cond.instanceMethod yX2_at, Cond.selects RX2 yX2_at yX2_at, Cond.code yX2_at cX2_at 2 (some .int), Cond.fieldLink RX2 9 "AddedCries$Cry" "words" "[I", Cond.methodLink RX2 19 yX2_has, Cond.methodLink RX8 165 yX3_first, Cond.instanceMethod yX3_first, Cond.selects RX3 yX3_first yX3_first, Cond.code yX3_first cX3_first 2 (some .int), Cond.methodLink RX8 168 yX3_last, Cond.instanceMethod yX3_last, Cond.selects RX3 yX3_last yX3_last, Cond.code yX3_last cX3_last 2 (some .int)]
def wsX8_place : List Cond := .code yX8_place cX8_place 7 (some .int) :: ((wsX8_place_r1 ++ wsX8_place_r2) ++ wsX80 ++ wsX20 ++ wsX30)
def wsX8_mayBe_r1 : List Cond := [Cond.fieldLink RX8 70 "AddedCries" "dayCount" "I", Cond.fieldLink RX8 35 "AddedCries" "fit" "LAddedCries$Fit;", Cond.methodLink RX8 129 yX8_lastCry, Cond.instanceMethod yX8_lastCry, Cond.selects RX8 yX8_lastCry yX8_lastCry, Cond.initialized RX8, Cond.code yX8_lastCry cX8_lastCry 1 (some (.object "AddedCries$Cry")), Cond.methodLink RX8 115 yX8_cryOf, Cond.instanceMethod yX8_cryOf, Cond.selects RX8 yX8_cryOf yX8_cryOf, Cond.code yX8_cryOf cX8_cryOf 2 (some (.object "AddedCries$Cry")), Cond.fieldLink RX8 17 "AddedCries" "days" "[LAddedCries$Cry;", Cond.methodLink RX8 123 yX2_has, Cond.instanceMethod yX2_has, Cond.selects RX2 yX2_has yX2_has, Cond.initialized RX2, Cond.code yX2_has cX2_has 2 (some .boolean), Cond.fieldLink RX2 15 "AddedCries$Cry" "size" "I", Cond.methodLink RX8 171 yX3_canStand, Cond.instanceMethod yX3_canStand, Cond.selects RX3 yX3_canStand yX3_canStand, Cond.initialized RX3, Cond.code yX3_canStand cX3_canStand 5 (some .boolean), Cond.methodLink RX3 36 yX3_make]
def wsX8_mayBe_r2 : List Cond := [Cond.instanceMethod yX3_make, Cond.selects RX3 yX3_make yX3_make, Cond.code yX3_make cX3_make 5 (some .boolean), Cond.fieldLink RX3 9 "AddedCries$Fit" "firsts" "[I", Cond.fieldLink RX3 15 "AddedCries$Fit" "lasts" "[I", Cond.methodLink RX3 22 yX2_size, Cond.instanceMethod yX2_size, Cond.selects RX2 yX2_size yX2_size, Cond.code yX2_size cX2_size 1 (some .int), Cond.methodLink RX3 28 yX2_has, Cond.methodLink RX3 32 yX2_at, Cond.instanceMethod yX2_at, Cond.selects RX2 yX2_at yX2_at, Cond.code yX2_at cX2_at 2 (some .int), Cond.fieldLink RX2 9 "AddedCries$Cry" "words" "[I", Cond.methodLink RX2 19 yX2_has, Cond.methodLink RX3 40 yX3_first, Cond.instanceMethod yX3_first, Cond.selects RX3 yX3_first yX3_first, Cond.code yX3_first cX3_first 2 (some .int), Cond.methodLink RX3 43 yX3_last, Cond.instanceMethod yX3_last, Cond.selects RX3 yX3_last yX3_last, Cond.code yX3_last cX3_last 2 (some .int)]
def wsX8_mayBe : List Cond := .code yX8_mayBe cX8_mayBe 6 (some .int) :: ((wsX8_mayBe_r1 ++ wsX8_mayBe_r2) ++ wsX80 ++ wsX20 ++ wsX30)
def wsX8_both_r1 : List Cond := [Cond.fieldLink RX8 49 "AddedCries" "weave" "LAddedCries$Weave;", Cond.methodLink RX8 115 yX8_cryOf, Cond.instanceMethod yX8_cryOf, Cond.selects RX8 yX8_cryOf yX8_cryOf, Cond.initialized RX8, Cond.code yX8_cryOf cX8_cryOf 2 (some (.object "AddedCries$Cry")), Cond.fieldLink RX8 70 "AddedCries" "dayCount" "I", Cond.fieldLink RX8 17 "AddedCries" "days" "[LAddedCries$Cry;", Cond.methodLink RX8 162 yX8_isFirstOrSecond, Cond.static yX8_isFirstOrSecond, Cond.code yX8_isFirstOrSecond cX8_isFirstOrSecond 1 (some .boolean), Cond.methodLink RX8 175 yX7_make, Cond.instanceMethod yX7_make, Cond.selects RX7 yX7_make yX7_make, Cond.initialized RX7, Cond.code yX7_make cX7_make 5 none, Cond.methodLink RX7 21 yX2_size, Cond.instanceMethod yX2_size, Cond.selects RX2 yX2_size yX2_size, Cond.initialized RX2, Cond.code yX2_size cX2_size 1 (some .int), Cond.fieldLink RX2 15 "AddedCries$Cry" "size" "I", Cond.methodLink RX7 27 yX7_makeAt, Cond.instanceMethod yX7_makeAt]
def wsX8_both_r2 : List Cond := [Cond.selects RX7 yX7_makeAt yX7_makeAt, Cond.code yX7_makeAt cX7_makeAt 11 none, Cond.fieldLink RX7 12 "AddedCries$Weave" "lengths" "LAddedCries$Grid;", Cond.fieldLink RX7 18 "AddedCries$Weave" "counts" "LAddedCries$Grid;", Cond.methodLink RX7 50 Lib.MathLoose.min_long.x, Cond.static Lib.MathLoose.min_long.x, Cond.initialized "java/lang/Math", Cond.code Lib.MathLoose.min_long.x Lib.MathLoose.min_long.code 4 (some .long), Cond.methodLink RX7 42 yX2_has, Cond.instanceMethod yX2_has, Cond.selects RX2 yX2_has yX2_has, Cond.code yX2_has cX2_has 2 (some .boolean), Cond.methodLink RX7 46 yX7_keep, Cond.instanceMethod yX7_keep, Cond.selects RX7 yX7_keep yX7_keep, Cond.code yX7_keep cX7_keep 7 none, Cond.methodLink RX7 56 yX4_write, Cond.instanceMethod yX4_write, Cond.selects RX4 yX4_write yX4_write, Cond.initialized RX4, Cond.code yX4_write cX4_write 5 none, Cond.fieldLink RX4 9 "AddedCries$Grid" "cells" "[J", Cond.methodLink RX4 15 yX4_isInside, Cond.static yX4_isInside]
def wsX8_both_r3 : List Cond := [Cond.code yX4_isInside cX4_isInside 2 (some .boolean), Cond.methodLink RX7 39 yX2_at, Cond.instanceMethod yX2_at, Cond.selects RX2 yX2_at yX2_at, Cond.code yX2_at cX2_at 2 (some .int), Cond.fieldLink RX2 9 "AddedCries$Cry" "words" "[I", Cond.methodLink RX2 19 yX2_has, Cond.methodLink RX7 31 yX4_at, Cond.instanceMethod yX4_at, Cond.selects RX4 yX4_at yX4_at, Cond.code yX4_at cX4_at 3 (some .long), Cond.methodLink RX8 119 yX2_size, Cond.methodLink RX8 178 yX7_length, Cond.instanceMethod yX7_length, Cond.selects RX7 yX7_length yX7_length, Cond.code yX7_length cX7_length 1 (some .int)]
def wsX8_both : List Cond := .code yX8_both cX8_both 6 (some .int) :: ((wsX8_both_r1 ++ (wsX8_both_r2 ++ wsX8_both_r3)) ++ wsX80 ++ wsX20 ++ wsX70 ++ wsX40)
def wsX8_shortest_r1 : List Cond := [Cond.constantLong RX8 156 (-9223372036854775808), Cond.fieldLink RX8 49 "AddedCries" "weave" "LAddedCries$Weave;", Cond.methodLink RX8 115 yX8_cryOf, Cond.instanceMethod yX8_cryOf, Cond.selects RX8 yX8_cryOf yX8_cryOf, Cond.initialized RX8, Cond.code yX8_cryOf cX8_cryOf 2 (some (.object "AddedCries$Cry")), Cond.fieldLink RX8 70 "AddedCries" "dayCount" "I", Cond.fieldLink RX8 17 "AddedCries" "days" "[LAddedCries$Cry;", Cond.methodLink RX8 175 yX7_make, Cond.instanceMethod yX7_make, Cond.selects RX7 yX7_make yX7_make, Cond.initialized RX7, Cond.code yX7_make cX7_make 5 none, Cond.methodLink RX7 21 yX2_size, Cond.instanceMethod yX2_size, Cond.selects RX2 yX2_size yX2_size, Cond.initialized RX2, Cond.code yX2_size cX2_size 1 (some .int), Cond.fieldLink RX2 15 "AddedCries$Cry" "size" "I", Cond.methodLink RX7 27 yX7_makeAt, Cond.instanceMethod yX7_makeAt, Cond.selects RX7 yX7_makeAt yX7_makeAt, Cond.code yX7_makeAt cX7_makeAt 11 none]
def wsX8_shortest_r2 : List Cond := [Cond.fieldLink RX7 12 "AddedCries$Weave" "lengths" "LAddedCries$Grid;", Cond.fieldLink RX7 18 "AddedCries$Weave" "counts" "LAddedCries$Grid;", Cond.methodLink RX7 50 Lib.MathLoose.min_long.x, Cond.static Lib.MathLoose.min_long.x, Cond.initialized "java/lang/Math", Cond.code Lib.MathLoose.min_long.x Lib.MathLoose.min_long.code 4 (some .long), Cond.methodLink RX7 42 yX2_has, Cond.instanceMethod yX2_has, Cond.selects RX2 yX2_has yX2_has, Cond.code yX2_has cX2_has 2 (some .boolean), Cond.methodLink RX7 46 yX7_keep, Cond.instanceMethod yX7_keep, Cond.selects RX7 yX7_keep yX7_keep, Cond.code yX7_keep cX7_keep 7 none, Cond.methodLink RX7 56 yX4_write, Cond.instanceMethod yX4_write, Cond.selects RX4 yX4_write yX4_write, Cond.initialized RX4, Cond.code yX4_write cX4_write 5 none, Cond.fieldLink RX4 9 "AddedCries$Grid" "cells" "[J", Cond.methodLink RX4 15 yX4_isInside, Cond.static yX4_isInside, Cond.code yX4_isInside cX4_isInside 2 (some .boolean), Cond.methodLink RX7 39 yX2_at]
def wsX8_shortest_r3 : List Cond := [Cond.instanceMethod yX2_at, Cond.selects RX2 yX2_at yX2_at, Cond.code yX2_at cX2_at 2 (some .int), Cond.fieldLink RX2 9 "AddedCries$Cry" "words" "[I", Cond.methodLink RX2 19 yX2_has, Cond.methodLink RX7 31 yX4_at, Cond.instanceMethod yX4_at, Cond.selects RX4 yX4_at yX4_at, Cond.code yX4_at cX4_at 3 (some .long), Cond.methodLink RX8 178 yX7_length, Cond.instanceMethod yX7_length, Cond.selects RX7 yX7_length yX7_length, Cond.code yX7_length cX7_length 1 (some .int), Cond.methodLink RX8 181 yX7_howMany, Cond.instanceMethod yX7_howMany, Cond.selects RX7 yX7_howMany yX7_howMany, Cond.code yX7_howMany cX7_howMany 1 (some .long), Cond.methodLink RX8 185 yX7_wordOfFirst, Cond.instanceMethod yX7_wordOfFirst, Cond.selects RX7 yX7_wordOfFirst yX7_wordOfFirst, Cond.code yX7_wordOfFirst cX7_wordOfFirst 8 (some .int), Cond.methodLink RX7 35 yX7_firstWord, Cond.instanceMethod yX7_firstWord, Cond.selects RX7 yX7_firstWord yX7_firstWord]
def wsX8_shortest_r4 : List Cond := [Cond.code yX7_firstWord cX7_firstWord 9 (some .int), Cond.methodLink RX7 60 Lib.Math.min.name, Cond.static Lib.Math.min.name, Cond.code Lib.Math.min.name Lib.Math.min.code 2 (some .int)]
def wsX8_shortest : List Cond := .code yX8_shortest cX8_shortest 6 (some .long) :: ((wsX8_shortest_r1 ++ (wsX8_shortest_r2 ++ (wsX8_shortest_r3 ++ wsX8_shortest_r4))) ++ wsX80 ++ wsX20 ++ wsX70 ++ wsX40)
def wsX8_three_r1 : List Cond := [Cond.fieldLink RX8 56 "AddedCries" "braid" "LAddedCries$Braid;", Cond.methodLink RX8 115 yX8_cryOf, Cond.instanceMethod yX8_cryOf, Cond.selects RX8 yX8_cryOf yX8_cryOf, Cond.initialized RX8, Cond.code yX8_cryOf cX8_cryOf 2 (some (.object "AddedCries$Cry")), Cond.fieldLink RX8 70 "AddedCries" "dayCount" "I", Cond.fieldLink RX8 17 "AddedCries" "days" "[LAddedCries$Cry;", Cond.methodLink RX8 189 yX1_length, Cond.instanceMethod yX1_length, Cond.selects RX1 yX1_length yX1_length, Cond.initialized RX1, Cond.code yX1_length cX1_length 8 (some .int), Cond.fieldLink RX1 18 "AddedCries$Braid" "next" "LAddedCries$Grid;", Cond.fieldLink RX1 12 "AddedCries$Braid" "here" "LAddedCries$Grid;", Cond.methodLink RX1 21 yX2_size, Cond.instanceMethod yX2_size, Cond.selects RX2 yX2_size yX2_size, Cond.initialized RX2, Cond.code yX2_size cX2_size 1 (some .int), Cond.fieldLink RX2 15 "AddedCries$Cry" "size" "I", Cond.methodLink RX1 27 yX2_at, Cond.instanceMethod yX2_at, Cond.selects RX2 yX2_at yX2_at]
def wsX8_three_r2 : List Cond := [Cond.code yX2_at cX2_at 2 (some .int), Cond.fieldLink RX2 9 "AddedCries$Cry" "words" "[I", Cond.methodLink RX2 19 yX2_has, Cond.instanceMethod yX2_has, Cond.selects RX2 yX2_has yX2_has, Cond.code yX2_has cX2_has 2 (some .boolean), Cond.methodLink RX1 31 yX1_lengthAt, Cond.instanceMethod yX1_lengthAt, Cond.selects RX1 yX1_lengthAt yX1_lengthAt, Cond.code yX1_lengthAt cX1_lengthAt 8 (some .long), Cond.constantLong RX1 50 (-9), Cond.methodLink RX1 42 yX1_by, Cond.instanceMethod yX1_by, Cond.selects RX1 yX1_by yX1_by, Cond.code yX1_by cX1_by 9 (some .long), Cond.methodLink RX1 39 yX4_at, Cond.instanceMethod yX4_at, Cond.selects RX4 yX4_at yX4_at, Cond.initialized RX4, Cond.code yX4_at cX4_at 3 (some .long), Cond.fieldLink RX4 9 "AddedCries$Grid" "cells" "[J", Cond.methodLink RX4 15 yX4_isInside, Cond.static yX4_isInside, Cond.code yX4_isInside cX4_isInside 2 (some .boolean)]
def wsX8_three_r3 : List Cond := [Cond.methodLink RX1 46 yX1_shorter, Cond.static yX1_shorter, Cond.code yX1_shorter cX1_shorter 4 (some .long), Cond.methodLink RX1 52 Lib.MathLoose.max_long.x, Cond.static Lib.MathLoose.max_long.x, Cond.initialized "java/lang/Math", Cond.code Lib.MathLoose.max_long.x Lib.MathLoose.max_long.code 4 (some .long), Cond.methodLink RX1 57 Lib.MathLoose.min_long.x, Cond.static Lib.MathLoose.min_long.x, Cond.code Lib.MathLoose.min_long.x Lib.MathLoose.min_long.code 4 (some .long), Cond.methodLink RX1 35 yX4_write, Cond.instanceMethod yX4_write, Cond.selects RX4 yX4_write yX4_write, Cond.code yX4_write cX4_write 5 none]
def wsX8_three : List Cond := .code yX8_three cX8_three 7 (some .int) :: ((wsX8_three_r1 ++ (wsX8_three_r2 ++ wsX8_three_r3)) ++ wsX80 ++ wsX10 ++ wsX20 ++ wsX40)
def wsX8_lostDay_r1 : List Cond := [Cond.constantLong RX8 156 (-9223372036854775808), Cond.fieldLink RX8 63 "AddedCries" "between" "LAddedCries$Between;", Cond.methodLink RX8 115 yX8_cryOf, Cond.instanceMethod yX8_cryOf, Cond.selects RX8 yX8_cryOf yX8_cryOf, Cond.initialized RX8, Cond.code yX8_cryOf cX8_cryOf 2 (some (.object "AddedCries$Cry")), Cond.fieldLink RX8 70 "AddedCries" "dayCount" "I", Cond.fieldLink RX8 17 "AddedCries" "days" "[LAddedCries$Cry;", Cond.methodLink RX8 192 yX0_count, Cond.instanceMethod yX0_count, Cond.selects RX0 yX0_count yX0_count, Cond.initialized RX0, Cond.code yX0_count cX0_count 7 (some .long), Cond.fieldLink RX0 10 "AddedCries$Between" "now" "LAddedCries$Grid;", Cond.methodLink RX0 19 yX4_clear, Cond.instanceMethod yX4_clear, Cond.selects RX4 yX4_clear yX4_clear, Cond.initialized RX4, Cond.code yX4_clear cX4_clear 1 none, Cond.fieldLink RX4 9 "AddedCries$Grid" "cells" "[J", Cond.methodLink RX4 27 yJ7_fill_d0a16, Cond.static yJ7_fill_d0a16, Cond.initialized RJ7]
def wsX8_lostDay_r2 : List Cond := [Cond.code yJ7_fill_d0a16 cJ7_fill_d0a16 5 none, Cond.methodLink RX0 22 yX4_write, Cond.instanceMethod yX4_write, Cond.selects RX4 yX4_write yX4_write, Cond.code yX4_write cX4_write 5 none, Cond.methodLink RX4 15 yX4_isInside, Cond.static yX4_isInside, Cond.code yX4_isInside cX4_isInside 2 (some .boolean), Cond.methodLink RX0 26 yX0_goOn, Cond.instanceMethod yX0_goOn, Cond.selects RX0 yX0_goOn yX0_goOn, Cond.code yX0_goOn cX0_goOn 7 none, Cond.fieldLink RX0 16 "AddedCries$Between" "then" "LAddedCries$Grid;", Cond.methodLink RX0 30 yX2_size, Cond.instanceMethod yX2_size, Cond.selects RX2 yX2_size yX2_size, Cond.initialized RX2, Cond.code yX2_size cX2_size 1 (some .int), Cond.fieldLink RX2 15 "AddedCries$Cry" "size" "I", Cond.methodLink RX0 36 yX4_at, Cond.instanceMethod yX4_at, Cond.selects RX4 yX4_at yX4_at, Cond.code yX4_at cX4_at 3 (some .long), Cond.methodLink RX0 40 yX0_goOnFrom]
def wsX8_lostDay_r3 : List Cond := [Cond.instanceMethod yX0_goOnFrom, Cond.selects RX0 yX0_goOnFrom yX0_goOnFrom, Cond.code yX0_goOnFrom cX0_goOnFrom 11 none, Cond.methodLink RX0 44 yX2_at, Cond.instanceMethod yX2_at, Cond.selects RX2 yX2_at yX2_at, Cond.code yX2_at cX2_at 2 (some .int), Cond.fieldLink RX2 9 "AddedCries$Cry" "words" "[I", Cond.methodLink RX2 19 yX2_has, Cond.instanceMethod yX2_has, Cond.selects RX2 yX2_has yX2_has, Cond.code yX2_has cX2_has 2 (some .boolean), Cond.methodLink RX0 47 yX4_more, Cond.instanceMethod yX4_more, Cond.selects RX4 yX4_more yX4_more, Cond.code yX4_more cX4_more 5 none, Cond.methodLink RX4 19 yX4_at, Cond.methodLink RX4 23 yX4_write]
def wsX8_lostDay : List Cond := .code yX8_lostDay cX8_lostDay 6 (some .long) :: ((wsX8_lostDay_r1 ++ (wsX8_lostDay_r2 ++ wsX8_lostDay_r3)) ++ wsX80 ++ wsX00 ++ wsX40 ++ wsX20)
def wsX8_roots_r1 : List Cond := [Cond.constantLong RX8 156 (-9223372036854775808), Cond.fieldLink RX8 63 "AddedCries" "between" "LAddedCries$Between;", Cond.fieldLink RX8 28 "AddedCries" "wordless" "LAddedCries$Cry;", Cond.methodLink RX8 115 yX8_cryOf, Cond.instanceMethod yX8_cryOf, Cond.selects RX8 yX8_cryOf yX8_cryOf, Cond.initialized RX8, Cond.code yX8_cryOf cX8_cryOf 2 (some (.object "AddedCries$Cry")), Cond.fieldLink RX8 70 "AddedCries" "dayCount" "I", Cond.fieldLink RX8 17 "AddedCries" "days" "[LAddedCries$Cry;", Cond.methodLink RX8 192 yX0_count, Cond.instanceMethod yX0_count, Cond.selects RX0 yX0_count yX0_count, Cond.initialized RX0, Cond.code yX0_count cX0_count 7 (some .long), Cond.fieldLink RX0 10 "AddedCries$Between" "now" "LAddedCries$Grid;", Cond.methodLink RX0 19 yX4_clear, Cond.instanceMethod yX4_clear, Cond.selects RX4 yX4_clear yX4_clear, Cond.initialized RX4, Cond.code yX4_clear cX4_clear 1 none, Cond.fieldLink RX4 9 "AddedCries$Grid" "cells" "[J", Cond.methodLink RX4 27 yJ7_fill_d0a16, Cond.static yJ7_fill_d0a16]
def wsX8_roots_r2 : List Cond := [Cond.initialized RJ7, Cond.code yJ7_fill_d0a16 cJ7_fill_d0a16 5 none, Cond.methodLink RX0 22 yX4_write, Cond.instanceMethod yX4_write, Cond.selects RX4 yX4_write yX4_write, Cond.code yX4_write cX4_write 5 none, Cond.methodLink RX4 15 yX4_isInside, Cond.static yX4_isInside, Cond.code yX4_isInside cX4_isInside 2 (some .boolean), Cond.methodLink RX0 26 yX0_goOn, Cond.instanceMethod yX0_goOn, Cond.selects RX0 yX0_goOn yX0_goOn, Cond.code yX0_goOn cX0_goOn 7 none, Cond.fieldLink RX0 16 "AddedCries$Between" "then" "LAddedCries$Grid;", Cond.methodLink RX0 30 yX2_size, Cond.instanceMethod yX2_size, Cond.selects RX2 yX2_size yX2_size, Cond.initialized RX2, Cond.code yX2_size cX2_size 1 (some .int), Cond.fieldLink RX2 15 "AddedCries$Cry" "size" "I", Cond.methodLink RX0 36 yX4_at, Cond.instanceMethod yX4_at, Cond.selects RX4 yX4_at yX4_at, Cond.code yX4_at cX4_at 3 (some .long)]
def wsX8_roots_r3 : List Cond := [Cond.methodLink RX0 40 yX0_goOnFrom, Cond.instanceMethod yX0_goOnFrom, Cond.selects RX0 yX0_goOnFrom yX0_goOnFrom, Cond.code yX0_goOnFrom cX0_goOnFrom 11 none, Cond.methodLink RX0 44 yX2_at, Cond.instanceMethod yX2_at, Cond.selects RX2 yX2_at yX2_at, Cond.code yX2_at cX2_at 2 (some .int), Cond.fieldLink RX2 9 "AddedCries$Cry" "words" "[I", Cond.methodLink RX2 19 yX2_has, Cond.instanceMethod yX2_has, Cond.selects RX2 yX2_has yX2_has, Cond.code yX2_has cX2_has 2 (some .boolean), Cond.methodLink RX0 47 yX4_more, Cond.instanceMethod yX4_more, Cond.selects RX4 yX4_more yX4_more, Cond.code yX4_more cX4_more 5 none, Cond.methodLink RX4 19 yX4_at, Cond.methodLink RX4 23 yX4_write]
def wsX8_roots : List Cond := .code yX8_roots cX8_roots 4 (some .long) :: ((wsX8_roots_r1 ++ (wsX8_roots_r2 ++ wsX8_roots_r3)) ++ wsX80 ++ wsX00 ++ wsX40 ++ wsX20)
def wsX8_isDenial : List Cond := .code yX8_isDenial cX8_isDenial 2 (some .boolean) :: ([.fieldLink RX8 11 "AddedCries" "kinds" "[I", .methodLink RX8 109 yX8_isWord, .static yX8_isWord, .initialized RX8, .code yX8_isWord cX8_isWord 1 (some .boolean)] ++ wsX80)
def wsX8_fewestBreaths_r1 : List Cond := [Cond.fieldLink RX8 67 "AddedCries" "fewestParts" "[I", Cond.methodLink RX8 248 Lib.Math.min.name, Cond.static Lib.Math.min.name, Cond.initialized "java/lang/Math", Cond.code Lib.Math.min.name Lib.Math.min.code 2 (some .int), Cond.methodLink RX8 257 Lib.Math.max.name, Cond.static Lib.Math.max.name, Cond.code Lib.Math.max.name Lib.Math.max.code 2 (some .int), Cond.methodLink RX8 119 yX2_size, Cond.instanceMethod yX2_size, Cond.selects RX2 yX2_size yX2_size, Cond.initialized RX2, Cond.code yX2_size cX2_size 1 (some .int), Cond.fieldLink RX2 15 "AddedCries$Cry" "size" "I", Cond.methodLink RX8 126 yX2_at, Cond.instanceMethod yX2_at, Cond.selects RX2 yX2_at yX2_at, Cond.code yX2_at cX2_at 2 (some .int), Cond.fieldLink RX2 9 "AddedCries$Cry" "words" "[I", Cond.methodLink RX2 19 yX2_has, Cond.instanceMethod yX2_has, Cond.selects RX2 yX2_has yX2_has, Cond.code yX2_has cX2_has 2 (some .boolean), Cond.methodLink RX8 254 yX8_isDenial]
def wsX8_fewestBreaths_r2 : List Cond := [Cond.instanceMethod yX8_isDenial, Cond.selects RX8 yX8_isDenial yX8_isDenial, Cond.initialized RX8, Cond.code yX8_isDenial cX8_isDenial 2 (some .boolean), Cond.fieldLink RX8 11 "AddedCries" "kinds" "[I", Cond.methodLink RX8 109 yX8_isWord, Cond.static yX8_isWord, Cond.code yX8_isWord cX8_isWord 1 (some .boolean)]
def wsX8_fewestBreaths : List Cond := .code yX8_fewestBreaths cX8_fewestBreaths 7 (some .int) :: ((wsX8_fewestBreaths_r1 ++ wsX8_fewestBreaths_r2) ++ wsX80 ++ wsX20)
def wsX8_breaths_r1 : List Cond := [Cond.methodLink RX8 115 yX8_cryOf, Cond.instanceMethod yX8_cryOf, Cond.selects RX8 yX8_cryOf yX8_cryOf, Cond.initialized RX8, Cond.code yX8_cryOf cX8_cryOf 2 (some (.object "AddedCries$Cry")), Cond.fieldLink RX8 70 "AddedCries" "dayCount" "I", Cond.fieldLink RX8 17 "AddedCries" "days" "[LAddedCries$Cry;", Cond.methodLink RX8 196 yX8_fewestBreaths, Cond.instanceMethod yX8_fewestBreaths, Cond.selects RX8 yX8_fewestBreaths yX8_fewestBreaths, Cond.code yX8_fewestBreaths cX8_fewestBreaths 7 (some .int), Cond.fieldLink RX8 67 "AddedCries" "fewestParts" "[I", Cond.methodLink RX8 248 Lib.Math.min.name, Cond.static Lib.Math.min.name, Cond.initialized "java/lang/Math", Cond.code Lib.Math.min.name Lib.Math.min.code 2 (some .int), Cond.methodLink RX8 257 Lib.Math.max.name, Cond.static Lib.Math.max.name, Cond.code Lib.Math.max.name Lib.Math.max.code 2 (some .int), Cond.methodLink RX8 119 yX2_size, Cond.instanceMethod yX2_size, Cond.selects RX2 yX2_size yX2_size, Cond.initialized RX2, Cond.code yX2_size cX2_size 1 (some .int)]
def wsX8_breaths_r2 : List Cond := [Cond.fieldLink RX2 15 "AddedCries$Cry" "size" "I", Cond.methodLink RX8 126 yX2_at, Cond.instanceMethod yX2_at, Cond.selects RX2 yX2_at yX2_at, Cond.code yX2_at cX2_at 2 (some .int), Cond.fieldLink RX2 9 "AddedCries$Cry" "words" "[I", Cond.methodLink RX2 19 yX2_has, Cond.instanceMethod yX2_has, Cond.selects RX2 yX2_has yX2_has, Cond.code yX2_has cX2_has 2 (some .boolean), Cond.methodLink RX8 254 yX8_isDenial, Cond.instanceMethod yX8_isDenial, Cond.selects RX8 yX8_isDenial yX8_isDenial, Cond.code yX8_isDenial cX8_isDenial 2 (some .boolean), Cond.fieldLink RX8 11 "AddedCries" "kinds" "[I", Cond.methodLink RX8 109 yX8_isWord, Cond.static yX8_isWord, Cond.code yX8_isWord cX8_isWord 1 (some .boolean)]
def wsX8_breaths : List Cond := .code yX8_breaths cX8_breaths 4 (some .int) :: ((wsX8_breaths_r1 ++ wsX8_breaths_r2) ++ wsX80 ++ wsX20)
def wsX8_likeOnEnd : List Cond := .code yX8_likeOnEnd cX8_likeOnEnd 5 (some .int) :: ([.methodLink RX8 123 yX2_has, .instanceMethod yX2_has, .selects RX2 yX2_has yX2_has, .initialized RX2, .code yX2_has cX2_has 2 (some .boolean), .fieldLink RX2 15 "AddedCries$Cry" "size" "I", .methodLink RX8 126 yX2_at, .instanceMethod yX2_at, .selects RX2 yX2_at yX2_at, .code yX2_at cX2_at 2 (some .int), .fieldLink RX2 9 "AddedCries$Cry" "words" "[I", .methodLink RX2 19 yX2_has] ++ wsX20)
def wsX8_longestPartAt : List Cond := .code yX8_longestPartAt cX8_longestPartAt 5 (some .int) :: ([.methodLink RX8 257 Lib.Math.max.name, .static Lib.Math.max.name, .initialized "java/lang/Math", .code Lib.Math.max.name Lib.Math.max.code 2 (some .int), .methodLink RX8 119 yX2_size, .instanceMethod yX2_size, .selects RX2 yX2_size yX2_size, .initialized RX2, .code yX2_size cX2_size 1 (some .int), .fieldLink RX2 15 "AddedCries$Cry" "size" "I", .methodLink RX8 260 yX8_likeOnEnd, .static yX8_likeOnEnd, .initialized RX8, .code yX8_likeOnEnd cX8_likeOnEnd 5 (some .int), .methodLink RX8 123 yX2_has, .instanceMethod yX2_has, .selects RX2 yX2_has yX2_has, .code yX2_has cX2_has 2 (some .boolean), .methodLink RX8 126 yX2_at, .instanceMethod yX2_at, .selects RX2 yX2_at yX2_at, .code yX2_at cX2_at 2 (some .int), .fieldLink RX2 9 "AddedCries$Cry" "words" "[I", .methodLink RX2 19 yX2_has] ++ wsX20)
def wsX8_once_r1 : List Cond := [Cond.methodLink RX8 115 yX8_cryOf, Cond.instanceMethod yX8_cryOf, Cond.selects RX8 yX8_cryOf yX8_cryOf, Cond.initialized RX8, Cond.code yX8_cryOf cX8_cryOf 2 (some (.object "AddedCries$Cry")), Cond.fieldLink RX8 70 "AddedCries" "dayCount" "I", Cond.fieldLink RX8 17 "AddedCries" "days" "[LAddedCries$Cry;", Cond.methodLink RX8 162 yX8_isFirstOrSecond, Cond.static yX8_isFirstOrSecond, Cond.code yX8_isFirstOrSecond cX8_isFirstOrSecond 1 (some .boolean), Cond.methodLink RX8 119 yX2_size, Cond.instanceMethod yX2_size, Cond.selects RX2 yX2_size yX2_size, Cond.initialized RX2, Cond.code yX2_size cX2_size 1 (some .int), Cond.fieldLink RX2 15 "AddedCries$Cry" "size" "I", Cond.methodLink RX8 200 yX8_longestPartAt, Cond.static yX8_longestPartAt, Cond.code yX8_longestPartAt cX8_longestPartAt 5 (some .int), Cond.methodLink RX8 257 Lib.Math.max.name, Cond.static Lib.Math.max.name, Cond.initialized "java/lang/Math", Cond.code Lib.Math.max.name Lib.Math.max.code 2 (some .int), Cond.methodLink RX8 260 yX8_likeOnEnd]
def wsX8_once_r2 : List Cond := [Cond.static yX8_likeOnEnd, Cond.code yX8_likeOnEnd cX8_likeOnEnd 5 (some .int), Cond.methodLink RX8 123 yX2_has, Cond.instanceMethod yX2_has, Cond.selects RX2 yX2_has yX2_has, Cond.code yX2_has cX2_has 2 (some .boolean), Cond.methodLink RX8 126 yX2_at, Cond.instanceMethod yX2_at, Cond.selects RX2 yX2_at yX2_at, Cond.code yX2_at cX2_at 2 (some .int), Cond.fieldLink RX2 9 "AddedCries$Cry" "words" "[I", Cond.methodLink RX2 19 yX2_has]
def wsX8_once : List Cond := .code yX8_once cX8_once 10 (some .int) :: ((wsX8_once_r1 ++ wsX8_once_r2) ++ wsX80 ++ wsX20)
def wsX8_twice : List Cond := .code yX8_twice cX8_twice 7 (some .int) :: ([.methodLink RX8 115 yX8_cryOf, .instanceMethod yX8_cryOf, .selects RX8 yX8_cryOf yX8_cryOf, .initialized RX8, .code yX8_cryOf cX8_cryOf 2 (some (.object "AddedCries$Cry")), .fieldLink RX8 70 "AddedCries" "dayCount" "I", .fieldLink RX8 17 "AddedCries" "days" "[LAddedCries$Cry;", .methodLink RX8 119 yX2_size, .instanceMethod yX2_size, .selects RX2 yX2_size yX2_size, .initialized RX2, .code yX2_size cX2_size 1 (some .int), .fieldLink RX2 15 "AddedCries$Cry" "size" "I", .methodLink RX8 126 yX2_at, .instanceMethod yX2_at, .selects RX2 yX2_at yX2_at, .code yX2_at cX2_at 2 (some .int), .fieldLink RX2 9 "AddedCries$Cry" "words" "[I", .methodLink RX2 19 yX2_has, .instanceMethod yX2_has, .selects RX2 yX2_has yX2_has, .code yX2_has cX2_has 2 (some .boolean)] ++ wsX80 ++ wsX20)
def wsX8_sheet_r1 : List Cond := [Cond.fieldLink RX8 77 "AddedCries" "latestFault" "I", Cond.methodLink RX8 81 yX8_sheetOf, Cond.instanceMethod yX8_sheetOf, Cond.selects RX8 yX8_sheetOf yX8_sheetOf, Cond.initialized RX8, Cond.code yX8_sheetOf cX8_sheetOf 2 (some (.object "AddedCries$Sheet")), Cond.fieldLink RX8 23 "AddedCries" "sheets" "[LAddedCries$Sheet;", Cond.methodLink RX8 85 yX8_isSort, Cond.static yX8_isSort, Cond.code yX8_isSort cX8_isSort 1 (some .boolean), Cond.methodLink RX8 93 yX8_fails, Cond.instanceMethod yX8_fails, Cond.selects RX8 yX8_fails yX8_fails, Cond.code yX8_fails cX8_fails 2 (some .int), Cond.methodLink RX8 204 yX6_renew, Cond.instanceMethod yX6_renew, Cond.selects RX6 yX6_renew yX6_renew, Cond.initialized RX6, Cond.code yX6_renew cX6_renew 3 none, Cond.fieldLink RX6 9 "AddedCries$Sheet" "cells" "[I", Cond.fieldLink RX6 15 "AddedCries$Sheet" "size" "I", Cond.fieldLink RX6 19 "AddedCries$Sheet" "sort" "I", Cond.methodLink RX6 22 yJ7_fill_53178, Cond.static yJ7_fill_53178]
def wsX8_sheet_r2 : List Cond := [Cond.initialized RJ7, Cond.code yJ7_fill_53178 cJ7_fill_53178 4 none]
def wsX8_sheet : List Cond := .code yX8_sheet cX8_sheet 5 (some .int) :: ((wsX8_sheet_r1 ++ wsX8_sheet_r2) ++ wsX80 ++ wsX60)
def wsX8_lose : List Cond := .code yX8_lose cX8_lose 3 (some .int) :: ([.methodLink RX8 81 yX8_sheetOf, .instanceMethod yX8_sheetOf, .selects RX8 yX8_sheetOf yX8_sheetOf, .initialized RX8, .code yX8_sheetOf cX8_sheetOf 2 (some (.object "AddedCries$Sheet")), .fieldLink RX8 23 "AddedCries" "sheets" "[LAddedCries$Sheet;", .methodLink RX8 207 yX6_isNothing, .instanceMethod yX6_isNothing, .selects RX6 yX6_isNothing yX6_isNothing, .initialized RX6, .code yX6_isNothing cX6_isNothing 1 (some .boolean), .fieldLink RX6 15 "AddedCries$Sheet" "size" "I", .methodLink RX8 210 yX6_drop, .instanceMethod yX6_drop, .selects RX6 yX6_drop yX6_drop, .code yX6_drop cX6_drop 1 none] ++ wsX80 ++ wsX60)
def wsX8_put_r1 : List Cond := [Cond.fieldLink RX8 77 "AddedCries" "latestFault" "I", Cond.methodLink RX8 81 yX8_sheetOf, Cond.instanceMethod yX8_sheetOf, Cond.selects RX8 yX8_sheetOf yX8_sheetOf, Cond.initialized RX8, Cond.code yX8_sheetOf cX8_sheetOf 2 (some (.object "AddedCries$Sheet")), Cond.fieldLink RX8 23 "AddedCries" "sheets" "[LAddedCries$Sheet;", Cond.methodLink RX8 207 yX6_isNothing, Cond.instanceMethod yX6_isNothing, Cond.selects RX6 yX6_isNothing yX6_isNothing, Cond.initialized RX6, Cond.code yX6_isNothing cX6_isNothing 1 (some .boolean), Cond.fieldLink RX6 15 "AddedCries$Sheet" "size" "I", Cond.methodLink RX8 93 yX8_fails, Cond.instanceMethod yX8_fails, Cond.selects RX8 yX8_fails yX8_fails, Cond.code yX8_fails cX8_fails 2 (some .int), Cond.methodLink RX8 97 yX6_hasCells, Cond.instanceMethod yX6_hasCells, Cond.selects RX6 yX6_hasCells yX6_hasCells, Cond.code yX6_hasCells cX6_hasCells 3 (some .boolean), Cond.methodLink RX8 213 yX6_write, Cond.instanceMethod yX6_write, Cond.selects RX6 yX6_write yX6_write]
def wsX8_put_r2 : List Cond := [Cond.code yX6_write cX6_write 3 none, Cond.fieldLink RX6 9 "AddedCries$Sheet" "cells" "[I", Cond.methodLink RX6 28 yX6_hasCells, Cond.methodLink RX6 32 yX6_cut, Cond.instanceMethod yX6_cut, Cond.selects RX6 yX6_cut yX6_cut, Cond.code yX6_cut cX6_cut 2 (some .int), Cond.fieldLink RX6 19 "AddedCries$Sheet" "sort" "I"]
def wsX8_put : List Cond := .code yX8_put cX8_put 5 (some .int) :: ((wsX8_put_r1 ++ wsX8_put_r2) ++ wsX80 ++ wsX60)
def wsX8_cell_r1 : List Cond := [Cond.fieldLink RX8 77 "AddedCries" "latestFault" "I", Cond.constantLong RX8 156 (-9223372036854775808), Cond.methodLink RX8 81 yX8_sheetOf, Cond.instanceMethod yX8_sheetOf, Cond.selects RX8 yX8_sheetOf yX8_sheetOf, Cond.initialized RX8, Cond.code yX8_sheetOf cX8_sheetOf 2 (some (.object "AddedCries$Sheet")), Cond.fieldLink RX8 23 "AddedCries" "sheets" "[LAddedCries$Sheet;", Cond.methodLink RX8 85 yX8_isSort, Cond.static yX8_isSort, Cond.code yX8_isSort cX8_isSort 1 (some .boolean), Cond.methodLink RX8 89 yX8_readingFault, Cond.static yX8_readingFault, Cond.code yX8_readingFault cX8_readingFault 2 (some .int), Cond.methodLink RX8 207 yX6_isNothing, Cond.instanceMethod yX6_isNothing, Cond.selects RX6 yX6_isNothing yX6_isNothing, Cond.initialized RX6, Cond.code yX6_isNothing cX6_isNothing 1 (some .boolean), Cond.fieldLink RX6 15 "AddedCries$Sheet" "size" "I", Cond.methodLink RX8 217 yX6_sort, Cond.instanceMethod yX6_sort, Cond.selects RX6 yX6_sort yX6_sort, Cond.code yX6_sort cX6_sort 1 (some .int)]
def wsX8_cell_r2 : List Cond := [Cond.fieldLink RX6 19 "AddedCries$Sheet" "sort" "I", Cond.methodLink RX8 97 yX6_hasCells, Cond.instanceMethod yX6_hasCells, Cond.selects RX6 yX6_hasCells yX6_hasCells, Cond.code yX6_hasCells cX6_hasCells 3 (some .boolean), Cond.methodLink RX8 216 yX6_at, Cond.instanceMethod yX6_at, Cond.selects RX6 yX6_at yX6_at, Cond.code yX6_at cX6_at 2 (some .int), Cond.fieldLink RX6 9 "AddedCries$Sheet" "cells" "[I", Cond.methodLink RX6 28 yX6_hasCells]
def wsX8_cell : List Cond := .code yX8_cell cX8_cell 5 (some .long) :: ((wsX8_cell_r1 ++ wsX8_cell_r2) ++ wsX80 ++ wsX60)
def wsX8_copy_r1 : List Cond := [Cond.fieldLink RX8 77 "AddedCries" "latestFault" "I", Cond.methodLink RX8 81 yX8_sheetOf, Cond.instanceMethod yX8_sheetOf, Cond.selects RX8 yX8_sheetOf yX8_sheetOf, Cond.initialized RX8, Cond.code yX8_sheetOf cX8_sheetOf 2 (some (.object "AddedCries$Sheet")), Cond.fieldLink RX8 23 "AddedCries" "sheets" "[LAddedCries$Sheet;", Cond.methodLink RX8 207 yX6_isNothing, Cond.instanceMethod yX6_isNothing, Cond.selects RX6 yX6_isNothing yX6_isNothing, Cond.initialized RX6, Cond.code yX6_isNothing cX6_isNothing 1 (some .boolean), Cond.fieldLink RX6 15 "AddedCries$Sheet" "size" "I", Cond.methodLink RX8 93 yX8_fails, Cond.instanceMethod yX8_fails, Cond.selects RX8 yX8_fails yX8_fails, Cond.code yX8_fails cX8_fails 2 (some .int), Cond.methodLink RX8 217 yX6_sort, Cond.instanceMethod yX6_sort, Cond.selects RX6 yX6_sort yX6_sort, Cond.code yX6_sort cX6_sort 1 (some .int), Cond.fieldLink RX6 19 "AddedCries$Sheet" "sort" "I", Cond.methodLink RX8 97 yX6_hasCells, Cond.instanceMethod yX6_hasCells]
def wsX8_copy_r2 : List Cond := [Cond.selects RX6 yX6_hasCells yX6_hasCells, Cond.code yX6_hasCells cX6_hasCells 3 (some .boolean), Cond.methodLink RX8 220 yX6_giveTo, Cond.instanceMethod yX6_giveTo, Cond.selects RX6 yX6_giveTo yX6_giveTo, Cond.code yX6_giveTo cX6_giveTo 5 none, Cond.fieldLink RX6 9 "AddedCries$Sheet" "cells" "[I", Cond.methodLink RX6 36 arraycopyName, Cond.native arraycopyName, Cond.static arraycopyName, Cond.initialized "java/lang/System", Cond.methodLink RX6 28 yX6_hasCells]
def wsX8_copy : List Cond := .code yX8_copy cX8_copy 8 (some .int) :: ((wsX8_copy_r1 ++ wsX8_copy_r2) ++ wsX80 ++ wsX60)
def wsX8_leave : List Cond := .code yX8_leave cX8_leave 2 none :: ([.fieldLink RX8 74 "AddedCries" "traced" "I"] ++ wsX80)
def wsX8_wordTells : List Cond := .code yX8_wordTells cX8_wordTells 5 (some .int) :: ([.fieldLink RX8 70 "AddedCries" "dayCount" "I", .methodLink RX8 264 yX8_leave, .instanceMethod yX8_leave, .selects RX8 yX8_leave yX8_leave, .initialized RX8, .code yX8_leave cX8_leave 2 none, .fieldLink RX8 74 "AddedCries" "traced" "I", .methodLink RX8 115 yX8_cryOf, .instanceMethod yX8_cryOf, .selects RX8 yX8_cryOf yX8_cryOf, .code yX8_cryOf cX8_cryOf 2 (some (.object "AddedCries$Cry")), .fieldLink RX8 17 "AddedCries" "days" "[LAddedCries$Cry;", .methodLink RX8 268 yX2_hasWord, .instanceMethod yX2_hasWord, .selects RX2 yX2_hasWord yX2_hasWord, .initialized RX2, .code yX2_hasWord cX2_hasWord 3 (some .boolean), .fieldLink RX2 15 "AddedCries$Cry" "size" "I", .fieldLink RX2 9 "AddedCries$Cry" "words" "[I"] ++ wsX80 ++ wsX20)
def wsX8_denialTells : List Cond := .code yX8_denialTells cX8_denialTells 2 (some .int) :: ([.methodLink RX8 264 yX8_leave, .instanceMethod yX8_leave, .selects RX8 yX8_leave yX8_leave, .initialized RX8, .code yX8_leave cX8_leave 2 none, .fieldLink RX8 74 "AddedCries" "traced" "I", .methodLink RX8 230 yX8_wordTells, .instanceMethod yX8_wordTells, .selects RX8 yX8_wordTells yX8_wordTells, .code yX8_wordTells cX8_wordTells 5 (some .int), .fieldLink RX8 70 "AddedCries" "dayCount" "I", .methodLink RX8 115 yX8_cryOf, .instanceMethod yX8_cryOf, .selects RX8 yX8_cryOf yX8_cryOf, .code yX8_cryOf cX8_cryOf 2 (some (.object "AddedCries$Cry")), .fieldLink RX8 17 "AddedCries" "days" "[LAddedCries$Cry;", .methodLink RX8 268 yX2_hasWord, .instanceMethod yX2_hasWord, .selects RX2 yX2_hasWord yX2_hasWord, .initialized RX2, .code yX2_hasWord cX2_hasWord 3 (some .boolean), .fieldLink RX2 15 "AddedCries$Cry" "size" "I", .fieldLink RX2 9 "AddedCries$Cry" "words" "[I"] ++ wsX80 ++ wsX20)
def wsX8_doubtTells_r1 : List Cond := [Cond.methodLink RX8 264 yX8_leave, Cond.instanceMethod yX8_leave, Cond.selects RX8 yX8_leave yX8_leave, Cond.initialized RX8, Cond.code yX8_leave cX8_leave 2 none, Cond.fieldLink RX8 74 "AddedCries" "traced" "I", Cond.methodLink RX8 227 yX8_denialTells, Cond.instanceMethod yX8_denialTells, Cond.selects RX8 yX8_denialTells yX8_denialTells, Cond.code yX8_denialTells cX8_denialTells 2 (some .int), Cond.methodLink RX8 230 yX8_wordTells, Cond.instanceMethod yX8_wordTells, Cond.selects RX8 yX8_wordTells yX8_wordTells, Cond.code yX8_wordTells cX8_wordTells 5 (some .int), Cond.fieldLink RX8 70 "AddedCries" "dayCount" "I", Cond.methodLink RX8 115 yX8_cryOf, Cond.instanceMethod yX8_cryOf, Cond.selects RX8 yX8_cryOf yX8_cryOf, Cond.code yX8_cryOf cX8_cryOf 2 (some (.object "AddedCries$Cry")), Cond.fieldLink RX8 17 "AddedCries" "days" "[LAddedCries$Cry;", Cond.methodLink RX8 268 yX2_hasWord, Cond.instanceMethod yX2_hasWord, Cond.selects RX2 yX2_hasWord yX2_hasWord, Cond.initialized RX2]
def wsX8_doubtTells_r2 : List Cond := [Cond.code yX2_hasWord cX2_hasWord 3 (some .boolean), Cond.fieldLink RX2 15 "AddedCries$Cry" "size" "I", Cond.fieldLink RX2 9 "AddedCries$Cry" "words" "[I"]
def wsX8_doubtTells : List Cond := .code yX8_doubtTells cX8_doubtTells 3 (some .int) :: ((wsX8_doubtTells_r1 ++ wsX8_doubtTells_r2) ++ wsX80 ++ wsX20)
def wsX8_tell_r1 : List Cond := [Cond.fieldLink RX8 11 "AddedCries" "kinds" "[I", Cond.methodLink RX8 109 yX8_isWord, Cond.static yX8_isWord, Cond.initialized RX8, Cond.code yX8_isWord cX8_isWord 1 (some .boolean), Cond.methodLink RX8 224 yX8_doubtTells, Cond.instanceMethod yX8_doubtTells, Cond.selects RX8 yX8_doubtTells yX8_doubtTells, Cond.code yX8_doubtTells cX8_doubtTells 3 (some .int), Cond.methodLink RX8 264 yX8_leave, Cond.instanceMethod yX8_leave, Cond.selects RX8 yX8_leave yX8_leave, Cond.code yX8_leave cX8_leave 2 none, Cond.fieldLink RX8 74 "AddedCries" "traced" "I", Cond.methodLink RX8 227 yX8_denialTells, Cond.instanceMethod yX8_denialTells, Cond.selects RX8 yX8_denialTells yX8_denialTells, Cond.code yX8_denialTells cX8_denialTells 2 (some .int), Cond.methodLink RX8 230 yX8_wordTells, Cond.instanceMethod yX8_wordTells, Cond.selects RX8 yX8_wordTells yX8_wordTells, Cond.code yX8_wordTells cX8_wordTells 5 (some .int), Cond.fieldLink RX8 70 "AddedCries" "dayCount" "I", Cond.methodLink RX8 115 yX8_cryOf]
def wsX8_tell_r2 : List Cond := [Cond.instanceMethod yX8_cryOf, Cond.selects RX8 yX8_cryOf yX8_cryOf, Cond.code yX8_cryOf cX8_cryOf 2 (some (.object "AddedCries$Cry")), Cond.fieldLink RX8 17 "AddedCries" "days" "[LAddedCries$Cry;", Cond.methodLink RX8 268 yX2_hasWord, Cond.instanceMethod yX2_hasWord, Cond.selects RX2 yX2_hasWord yX2_hasWord, Cond.initialized RX2, Cond.code yX2_hasWord cX2_hasWord 3 (some .boolean), Cond.fieldLink RX2 15 "AddedCries$Cry" "size" "I", Cond.fieldLink RX2 9 "AddedCries$Cry" "words" "[I"]
def wsX8_tell : List Cond := .code yX8_tell cX8_tell 2 (some .int) :: ((wsX8_tell_r1 ++ wsX8_tell_r2) ++ wsX80 ++ wsX20)
def wsX8_doubtSings : List Cond := .code yX8_doubtSings cX8_doubtSings 1 (some .int) :: ([.methodLink RX8 264 yX8_leave, .instanceMethod yX8_leave, .selects RX8 yX8_leave yX8_leave, .initialized RX8, .code yX8_leave cX8_leave 2 none, .fieldLink RX8 74 "AddedCries" "traced" "I"] ++ wsX80)
def wsX8_wordSings : List Cond := .code yX8_wordSings cX8_wordSings 2 (some .int) :: ([.methodLink RX8 264 yX8_leave, .instanceMethod yX8_leave, .selects RX8 yX8_leave yX8_leave, .initialized RX8, .code yX8_leave cX8_leave 2 none, .fieldLink RX8 74 "AddedCries" "traced" "I"] ++ wsX80)
def wsX8_sing : List Cond := .code yX8_sing cX8_sing 2 (some .int) :: ([.fieldLink RX8 11 "AddedCries" "kinds" "[I", .methodLink RX8 109 yX8_isWord, .static yX8_isWord, .initialized RX8, .code yX8_isWord cX8_isWord 1 (some .boolean), .methodLink RX8 233 yX8_doubtSings, .instanceMethod yX8_doubtSings, .selects RX8 yX8_doubtSings yX8_doubtSings, .code yX8_doubtSings cX8_doubtSings 1 (some .int), .methodLink RX8 264 yX8_leave, .instanceMethod yX8_leave, .selects RX8 yX8_leave yX8_leave, .code yX8_leave cX8_leave 2 none, .fieldLink RX8 74 "AddedCries" "traced" "I", .methodLink RX8 236 yX8_wordSings, .instanceMethod yX8_wordSings, .selects RX8 yX8_wordSings yX8_wordSings, .code yX8_wordSings cX8_wordSings 2 (some .int)] ++ wsX80)
def wsX8_as : List Cond := .code yX8_as cX8_as 3 (some .int) :: ([.fieldLink RX8 77 "AddedCries" "latestFault" "I", .fieldLink RX8 11 "AddedCries" "kinds" "[I", .methodLink RX8 109 yX8_isWord, .static yX8_isWord, .initialized RX8, .code yX8_isWord cX8_isWord 1 (some .boolean), .methodLink RX8 112 yX8_isKind, .static yX8_isKind, .code yX8_isKind cX8_isKind 1 (some .boolean), .methodLink RX8 93 yX8_fails, .instanceMethod yX8_fails, .selects RX8 yX8_fails yX8_fails, .code yX8_fails cX8_fails 2 (some .int)] ++ wsX80)
def wsX8_trace : List Cond := .code yX8_trace cX8_trace 1 (some .int) :: ([.fieldLink RX8 74 "AddedCries" "traced" "I"] ++ wsX80)
def wsX8_fault : List Cond := .code yX8_fault cX8_fault 1 (some .int) :: ([.fieldLink RX8 77 "AddedCries" "latestFault" "I"] ++ wsX80)
def wsX8_many : List Cond := .code yX8_many cX8_many 1 (some .int) :: ([.fieldLink RX8 70 "AddedCries" "dayCount" "I"] ++ wsX80)
def wsX9_init : List Cond := .code yX9_init cX9_init 1 none :: ([.methodLink RX9 1 objectInit, .instanceMethod objectInit, .code objectInit ⟨#[0xb1]⟩ 1 none, .arrayClass .int, .fieldLink RX9 9 "AddedCriesModel" "sorts" "[I", .fieldLink RX9 13 "AddedCriesModel" "sheetLong" "[I", .fieldLink RX9 16 "AddedCriesModel" "cells" "[I", .fieldLink RX9 19 "AddedCriesModel" "kinds" "[I", .fieldLink RX9 22 "AddedCriesModel" "length" "[I", .fieldLink RX9 25 "AddedCriesModel" "words" "[I", .fieldLink RX9 28 "AddedCriesModel" "readLength" "[I", .fieldLink RX9 31 "AddedCriesModel" "readWords" "[I", .fieldLink RX9 34 "AddedCriesModel" "left" "[I", .fieldLink RX9 37 "AddedCriesModel" "right" "[I", .fieldLink RX9 40 "AddedCriesModel" "row" "[I", .arrayClass .long, .fieldLink RX9 43 "AddedCriesModel" "ways" "[J", .fieldLink RX9 47 "AddedCriesModel" "yet" "[I", .fieldLink RX9 50 "AddedCriesModel" "many" "[J", .fieldLink RX9 53 "AddedCriesModel" "three" "[I", .fieldLink RX9 56 "AddedCriesModel" "rows" "[J", .fieldLink RX9 59 "AddedCriesModel" "longer" "[J", .fieldLink RX9 62 "AddedCriesModel" "breath" "[I"] ++ wsX90)
def wsX9_fails : List Cond := .code yX9_fails cX9_fails 2 (some .int) :: ([.fieldLink RX9 65 "AddedCriesModel" "fault" "I"] ++ wsX90)
def wsX9_lost : List Cond := .code yX9_lost cX9_lost 2 (some .long) :: ([.fieldLink RX9 65 "AddedCriesModel" "fault" "I", .constantLong RX9 69 (-9223372036854775808)] ++ wsX90)
def wsX9_inside : List Cond := .code yX9_inside cX9_inside 3 (some .boolean) :: ([])
def wsX9_isSheet : List Cond := .code yX9_isSheet cX9_isSheet 1 (some .boolean) :: ([.methodLink RX9 71 yX9_inside, .static yX9_inside, .initialized RX9, .code yX9_inside cX9_inside 3 (some .boolean)])
def wsX9_isSort : List Cond := .code yX9_isSort cX9_isSort 1 (some .boolean) :: ([.methodLink RX9 71 yX9_inside, .static yX9_inside, .initialized RX9, .code yX9_inside cX9_inside 3 (some .boolean)])
def wsX9_against : List Cond := .code yX9_against cX9_against 5 (some .int) :: ([.fieldLink RX9 9 "AddedCriesModel" "sorts" "[I", .fieldLink RX9 13 "AddedCriesModel" "sheetLong" "[I"] ++ wsX90)
def wsX9_isDay : List Cond := .code yX9_isDay cX9_isDay 2 (some .boolean) :: ([.fieldLink RX9 75 "AddedCriesModel" "days" "I"] ++ wsX90)
def wsX9_isWord : List Cond := .code yX9_isWord cX9_isWord 1 (some .boolean) :: ([.methodLink RX9 71 yX9_inside, .static yX9_inside, .initialized RX9, .code yX9_inside cX9_inside 3 (some .boolean)])
def wsX9_wordAt : List Cond := .code yX9_wordAt cX9_wordAt 3 (some .int) :: ([.fieldLink RX9 25 "AddedCriesModel" "words" "[I"] ++ wsX90)
def wsX9_readCries : List Cond := .code yX9_readCries cX9_readCries 3 (some .boolean) :: ([.fieldLink RX9 99 "AddedCriesModel" "readDays" "I", .fieldLink RX9 93 "AddedCriesModel" "at" "I", .fieldLink RX9 16 "AddedCriesModel" "cells" "[I", .fieldLink RX9 31 "AddedCriesModel" "readWords" "[I", .fieldLink RX9 28 "AddedCriesModel" "readLength" "[I", .methodLink RX9 71 yX9_inside, .static yX9_inside, .initialized RX9, .code yX9_inside cX9_inside 3 (some .boolean)] ++ wsX90)
def wsX9_cries_r1 : List Cond := [Cond.fieldLink RX9 65 "AddedCriesModel" "fault" "I", Cond.fieldLink RX9 93 "AddedCriesModel" "at" "I", Cond.fieldLink RX9 99 "AddedCriesModel" "readDays" "I", Cond.fieldLink RX9 75 "AddedCriesModel" "days" "I", Cond.fieldLink RX9 22 "AddedCriesModel" "length" "[I", Cond.fieldLink RX9 28 "AddedCriesModel" "readLength" "[I", Cond.fieldLink RX9 25 "AddedCriesModel" "words" "[I", Cond.fieldLink RX9 31 "AddedCriesModel" "readWords" "[I", Cond.methodLink RX9 78 yX9_isSheet, Cond.static yX9_isSheet, Cond.initialized RX9, Cond.code yX9_isSheet cX9_isSheet 1 (some .boolean), Cond.methodLink RX9 71 yX9_inside, Cond.static yX9_inside, Cond.code yX9_inside cX9_inside 3 (some .boolean), Cond.methodLink RX9 82 yX9_isSort, Cond.static yX9_isSort, Cond.code yX9_isSort cX9_isSort 1 (some .boolean), Cond.methodLink RX9 85 yX9_against, Cond.instanceMethod yX9_against, Cond.selects RX9 yX9_against yX9_against, Cond.code yX9_against cX9_against 5 (some .int), Cond.fieldLink RX9 9 "AddedCriesModel" "sorts" "[I", Cond.fieldLink RX9 13 "AddedCriesModel" "sheetLong" "[I"]
def wsX9_cries_r2 : List Cond := [Cond.methodLink RX9 89 yX9_fails, Cond.instanceMethod yX9_fails, Cond.selects RX9 yX9_fails yX9_fails, Cond.code yX9_fails cX9_fails 2 (some .int), Cond.methodLink RX9 96 yX9_readCries, Cond.instanceMethod yX9_readCries, Cond.selects RX9 yX9_readCries yX9_readCries, Cond.code yX9_readCries cX9_readCries 3 (some .boolean), Cond.fieldLink RX9 16 "AddedCriesModel" "cells" "[I"]
def wsX9_cries : List Cond := .code yX9_cries cX9_cries 9 (some .int) :: ((wsX9_cries_r1 ++ wsX9_cries_r2) ++ wsX90)
def wsX9_kind : List Cond := .code yX9_kind cX9_kind 4 (some .int) :: ([.fieldLink RX9 19 "AddedCriesModel" "kinds" "[I", .methodLink RX9 102 yX9_isWord, .static yX9_isWord, .initialized RX9, .code yX9_isWord cX9_isWord 1 (some .boolean), .methodLink RX9 71 yX9_inside, .static yX9_inside, .code yX9_inside cX9_inside 3 (some .boolean)] ++ wsX90)
def wsX9_ofDay : List Cond := .code yX9_ofDay cX9_ofDay 3 (some .int) :: ([.fieldLink RX9 22 "AddedCriesModel" "length" "[I", .methodLink RX9 105 yX9_isDay, .instanceMethod yX9_isDay, .selects RX9 yX9_isDay yX9_isDay, .initialized RX9, .code yX9_isDay cX9_isDay 2 (some .boolean), .fieldLink RX9 75 "AddedCriesModel" "days" "I", .methodLink RX9 71 yX9_inside, .static yX9_inside, .code yX9_inside cX9_inside 3 (some .boolean), .methodLink RX9 108 yX9_wordAt, .instanceMethod yX9_wordAt, .selects RX9 yX9_wordAt yX9_wordAt, .code yX9_wordAt cX9_wordAt 3 (some .int), .fieldLink RX9 25 "AddedCriesModel" "words" "[I"] ++ wsX90)
def wsX9_add : List Cond := .code yX9_add cX9_add 5 (some .int) :: ([.fieldLink RX9 75 "AddedCriesModel" "days" "I", .fieldLink RX9 22 "AddedCriesModel" "length" "[I", .fieldLink RX9 25 "AddedCriesModel" "words" "[I", .methodLink RX9 102 yX9_isWord, .static yX9_isWord, .initialized RX9, .code yX9_isWord cX9_isWord 1 (some .boolean), .methodLink RX9 71 yX9_inside, .static yX9_inside, .code yX9_inside cX9_inside 3 (some .boolean), .methodLink RX9 108 yX9_wordAt, .instanceMethod yX9_wordAt, .selects RX9 yX9_wordAt yX9_wordAt, .code yX9_wordAt cX9_wordAt 3 (some .int)] ++ wsX90)
def wsX9_isWithin : List Cond := .code yX9_isWithin cX9_isWithin 5 (some .boolean) :: ([.fieldLink RX9 22 "AddedCriesModel" "length" "[I", .fieldLink RX9 34 "AddedCriesModel" "left" "[I", .fieldLink RX9 37 "AddedCriesModel" "right" "[I", .methodLink RX9 108 yX9_wordAt, .instanceMethod yX9_wordAt, .selects RX9 yX9_wordAt yX9_wordAt, .initialized RX9, .code yX9_wordAt cX9_wordAt 3 (some .int), .fieldLink RX9 25 "AddedCriesModel" "words" "[I"] ++ wsX90)
def wsX9_within : List Cond := .code yX9_within cX9_within 3 (some .int) :: ([.methodLink RX9 105 yX9_isDay, .instanceMethod yX9_isDay, .selects RX9 yX9_isDay yX9_isDay, .initialized RX9, .code yX9_isDay cX9_isDay 2 (some .boolean), .fieldLink RX9 75 "AddedCriesModel" "days" "I", .methodLink RX9 112 yX9_isWithin, .instanceMethod yX9_isWithin, .selects RX9 yX9_isWithin yX9_isWithin, .code yX9_isWithin cX9_isWithin 5 (some .boolean), .fieldLink RX9 22 "AddedCriesModel" "length" "[I", .fieldLink RX9 34 "AddedCriesModel" "left" "[I", .fieldLink RX9 37 "AddedCriesModel" "right" "[I", .methodLink RX9 108 yX9_wordAt, .instanceMethod yX9_wordAt, .selects RX9 yX9_wordAt yX9_wordAt, .code yX9_wordAt cX9_wordAt 3 (some .int), .fieldLink RX9 25 "AddedCriesModel" "words" "[I"] ++ wsX90)
def wsX9_leftOut : List Cond := .code yX9_leftOut cX9_leftOut 2 (some .int) :: ([.fieldLink RX9 75 "AddedCriesModel" "days" "I", .methodLink RX9 112 yX9_isWithin, .instanceMethod yX9_isWithin, .selects RX9 yX9_isWithin yX9_isWithin, .initialized RX9, .code yX9_isWithin cX9_isWithin 5 (some .boolean), .fieldLink RX9 22 "AddedCriesModel" "length" "[I", .fieldLink RX9 34 "AddedCriesModel" "left" "[I", .fieldLink RX9 37 "AddedCriesModel" "right" "[I", .methodLink RX9 108 yX9_wordAt, .instanceMethod yX9_wordAt, .selects RX9 yX9_wordAt yX9_wordAt, .code yX9_wordAt cX9_wordAt 3 (some .int), .fieldLink RX9 25 "AddedCriesModel" "words" "[I"] ++ wsX90)
def wsX9_saidBy : List Cond := .code yX9_saidBy cX9_saidBy 7 (some .int) :: ([.fieldLink RX9 40 "AddedCriesModel" "row" "[I", .fieldLink RX9 19 "AddedCriesModel" "kinds" "[I"] ++ wsX90)
def wsX9_saidWith : List Cond := .code yX9_saidWith cX9_saidWith 6 (some .int) :: ([.fieldLink RX9 22 "AddedCriesModel" "length" "[I", .fieldLink RX9 40 "AddedCriesModel" "row" "[I", .methodLink RX9 108 yX9_wordAt, .instanceMethod yX9_wordAt, .selects RX9 yX9_wordAt yX9_wordAt, .initialized RX9, .code yX9_wordAt cX9_wordAt 3 (some .int), .fieldLink RX9 25 "AddedCriesModel" "words" "[I", .methodLink RX9 120 yX9_saidBy, .instanceMethod yX9_saidBy, .selects RX9 yX9_saidBy yX9_saidBy, .code yX9_saidBy cX9_saidBy 7 (some .int), .fieldLink RX9 19 "AddedCriesModel" "kinds" "[I"] ++ wsX90)
def wsX9_said : List Cond := .code yX9_said cX9_said 2 (some .int) :: ([.methodLink RX9 105 yX9_isDay, .instanceMethod yX9_isDay, .selects RX9 yX9_isDay yX9_isDay, .initialized RX9, .code yX9_isDay cX9_isDay 2 (some .boolean), .fieldLink RX9 75 "AddedCriesModel" "days" "I", .methodLink RX9 116 yX9_saidWith, .instanceMethod yX9_saidWith, .selects RX9 yX9_saidWith yX9_saidWith, .code yX9_saidWith cX9_saidWith 6 (some .int), .fieldLink RX9 22 "AddedCriesModel" "length" "[I", .fieldLink RX9 40 "AddedCriesModel" "row" "[I", .methodLink RX9 108 yX9_wordAt, .instanceMethod yX9_wordAt, .selects RX9 yX9_wordAt yX9_wordAt, .code yX9_wordAt cX9_wordAt 3 (some .int), .fieldLink RX9 25 "AddedCriesModel" "words" "[I", .methodLink RX9 120 yX9_saidBy, .instanceMethod yX9_saidBy, .selects RX9 yX9_saidBy yX9_saidBy, .code yX9_saidBy cX9_saidBy 7 (some .int), .fieldLink RX9 19 "AddedCriesModel" "kinds" "[I"] ++ wsX90)
def wsX9_isSo : List Cond := .code yX9_isSo cX9_isSo 6 (some .boolean) :: ([.methodLink RX9 116 yX9_saidWith, .instanceMethod yX9_saidWith, .selects RX9 yX9_saidWith yX9_saidWith, .initialized RX9, .code yX9_saidWith cX9_saidWith 6 (some .int), .fieldLink RX9 22 "AddedCriesModel" "length" "[I", .fieldLink RX9 40 "AddedCriesModel" "row" "[I", .methodLink RX9 108 yX9_wordAt, .instanceMethod yX9_wordAt, .selects RX9 yX9_wordAt yX9_wordAt, .code yX9_wordAt cX9_wordAt 3 (some .int), .fieldLink RX9 25 "AddedCriesModel" "words" "[I", .methodLink RX9 120 yX9_saidBy, .instanceMethod yX9_saidBy, .selects RX9 yX9_saidBy yX9_saidBy, .code yX9_saidBy cX9_saidBy 7 (some .int), .fieldLink RX9 19 "AddedCriesModel" "kinds" "[I"] ++ wsX90)
def wsX9_findPut : List Cond := .code yX9_findPut cX9_findPut 7 none :: ([.fieldLink RX9 127 "AddedCriesModel" "putMany" "I", .fieldLink RX9 130 "AddedCriesModel" "putOne" "I", .fieldLink RX9 133 "AddedCriesModel" "putTwo" "I", .fieldLink RX9 22 "AddedCriesModel" "length" "[I", .methodLink RX9 123 yX9_isSo, .instanceMethod yX9_isSo, .selects RX9 yX9_isSo yX9_isSo, .initialized RX9, .code yX9_isSo cX9_isSo 6 (some .boolean), .methodLink RX9 116 yX9_saidWith, .instanceMethod yX9_saidWith, .selects RX9 yX9_saidWith yX9_saidWith, .code yX9_saidWith cX9_saidWith 6 (some .int), .fieldLink RX9 40 "AddedCriesModel" "row" "[I", .methodLink RX9 108 yX9_wordAt, .instanceMethod yX9_wordAt, .selects RX9 yX9_wordAt yX9_wordAt, .code yX9_wordAt cX9_wordAt 3 (some .int), .fieldLink RX9 25 "AddedCriesModel" "words" "[I", .methodLink RX9 120 yX9_saidBy, .instanceMethod yX9_saidBy, .selects RX9 yX9_saidBy yX9_saidBy, .code yX9_saidBy cX9_saidBy 7 (some .int), .fieldLink RX9 19 "AddedCriesModel" "kinds" "[I"] ++ wsX90)
def wsX9_putIn_r1 : List Cond := [Cond.fieldLink RX9 19 "AddedCriesModel" "kinds" "[I", Cond.fieldLink RX9 127 "AddedCriesModel" "putMany" "I", Cond.fieldLink RX9 130 "AddedCriesModel" "putOne" "I", Cond.fieldLink RX9 133 "AddedCriesModel" "putTwo" "I", Cond.methodLink RX9 105 yX9_isDay, Cond.instanceMethod yX9_isDay, Cond.selects RX9 yX9_isDay yX9_isDay, Cond.initialized RX9, Cond.code yX9_isDay cX9_isDay 2 (some .boolean), Cond.fieldLink RX9 75 "AddedCriesModel" "days" "I", Cond.methodLink RX9 102 yX9_isWord, Cond.static yX9_isWord, Cond.code yX9_isWord cX9_isWord 1 (some .boolean), Cond.methodLink RX9 71 yX9_inside, Cond.static yX9_inside, Cond.code yX9_inside cX9_inside 3 (some .boolean), Cond.methodLink RX9 136 yX9_findPut, Cond.instanceMethod yX9_findPut, Cond.selects RX9 yX9_findPut yX9_findPut, Cond.code yX9_findPut cX9_findPut 7 none, Cond.fieldLink RX9 22 "AddedCriesModel" "length" "[I", Cond.methodLink RX9 123 yX9_isSo, Cond.instanceMethod yX9_isSo, Cond.selects RX9 yX9_isSo yX9_isSo]
def wsX9_putIn_r2 : List Cond := [Cond.code yX9_isSo cX9_isSo 6 (some .boolean), Cond.methodLink RX9 116 yX9_saidWith, Cond.instanceMethod yX9_saidWith, Cond.selects RX9 yX9_saidWith yX9_saidWith, Cond.code yX9_saidWith cX9_saidWith 6 (some .int), Cond.fieldLink RX9 40 "AddedCriesModel" "row" "[I", Cond.methodLink RX9 108 yX9_wordAt, Cond.instanceMethod yX9_wordAt, Cond.selects RX9 yX9_wordAt yX9_wordAt, Cond.code yX9_wordAt cX9_wordAt 3 (some .int), Cond.fieldLink RX9 25 "AddedCriesModel" "words" "[I", Cond.methodLink RX9 120 yX9_saidBy, Cond.instanceMethod yX9_saidBy, Cond.selects RX9 yX9_saidBy yX9_saidBy, Cond.code yX9_saidBy cX9_saidBy 7 (some .int)]
def wsX9_putIn : List Cond := .code yX9_putIn cX9_putIn 5 (some .int) :: ((wsX9_putIn_r1 ++ wsX9_putIn_r2) ++ wsX90)
def wsX9_spot : List Cond := .code yX9_spot cX9_spot 2 (some .int) :: ([])
def wsX9_ways : List Cond := .code yX9_ways cX9_ways 8 (some .long) :: ([.constantLong RX9 69 (-9223372036854775808), .fieldLink RX9 22 "AddedCriesModel" "length" "[I", .fieldLink RX9 43 "AddedCriesModel" "ways" "[J", .methodLink RX9 105 yX9_isDay, .instanceMethod yX9_isDay, .selects RX9 yX9_isDay yX9_isDay, .initialized RX9, .code yX9_isDay cX9_isDay 2 (some .boolean), .fieldLink RX9 75 "AddedCriesModel" "days" "I", .methodLink RX9 140 yX9_spot, .static yX9_spot, .code yX9_spot cX9_spot 2 (some .int), .methodLink RX9 108 yX9_wordAt, .instanceMethod yX9_wordAt, .selects RX9 yX9_wordAt yX9_wordAt, .code yX9_wordAt cX9_wordAt 3 (some .int), .fieldLink RX9 25 "AddedCriesModel" "words" "[I"] ++ wsX90)
def wsX9_place : List Cond := .code yX9_place cX9_place 5 (some .int) :: ([.fieldLink RX9 22 "AddedCriesModel" "length" "[I", .fieldLink RX9 34 "AddedCriesModel" "left" "[I", .fieldLink RX9 37 "AddedCriesModel" "right" "[I", .methodLink RX9 105 yX9_isDay, .instanceMethod yX9_isDay, .selects RX9 yX9_isDay yX9_isDay, .initialized RX9, .code yX9_isDay cX9_isDay 2 (some .boolean), .fieldLink RX9 75 "AddedCriesModel" "days" "I", .methodLink RX9 71 yX9_inside, .static yX9_inside, .code yX9_inside cX9_inside 3 (some .boolean), .methodLink RX9 112 yX9_isWithin, .instanceMethod yX9_isWithin, .selects RX9 yX9_isWithin yX9_isWithin, .code yX9_isWithin cX9_isWithin 5 (some .boolean), .methodLink RX9 108 yX9_wordAt, .instanceMethod yX9_wordAt, .selects RX9 yX9_wordAt yX9_wordAt, .code yX9_wordAt cX9_wordAt 3 (some .int), .fieldLink RX9 25 "AddedCriesModel" "words" "[I"] ++ wsX90)
def wsX9_mayStand : List Cond := .code yX9_mayStand cX9_mayStand 7 (some .boolean) :: ([.fieldLink RX9 22 "AddedCriesModel" "length" "[I", .fieldLink RX9 34 "AddedCriesModel" "left" "[I", .fieldLink RX9 37 "AddedCriesModel" "right" "[I", .methodLink RX9 112 yX9_isWithin, .instanceMethod yX9_isWithin, .selects RX9 yX9_isWithin yX9_isWithin, .initialized RX9, .code yX9_isWithin cX9_isWithin 5 (some .boolean), .methodLink RX9 108 yX9_wordAt, .instanceMethod yX9_wordAt, .selects RX9 yX9_wordAt yX9_wordAt, .code yX9_wordAt cX9_wordAt 3 (some .int), .fieldLink RX9 25 "AddedCriesModel" "words" "[I"] ++ wsX90)
def wsX9_mayBe : List Cond := .code yX9_mayBe cX9_mayBe 4 (some .int) :: ([.fieldLink RX9 75 "AddedCriesModel" "days" "I", .fieldLink RX9 22 "AddedCriesModel" "length" "[I", .methodLink RX9 71 yX9_inside, .static yX9_inside, .initialized RX9, .code yX9_inside cX9_inside 3 (some .boolean), .methodLink RX9 143 yX9_mayStand, .instanceMethod yX9_mayStand, .selects RX9 yX9_mayStand yX9_mayStand, .code yX9_mayStand cX9_mayStand 7 (some .boolean), .fieldLink RX9 34 "AddedCriesModel" "left" "[I", .fieldLink RX9 37 "AddedCriesModel" "right" "[I", .methodLink RX9 112 yX9_isWithin, .instanceMethod yX9_isWithin, .selects RX9 yX9_isWithin yX9_isWithin, .code yX9_isWithin cX9_isWithin 5 (some .boolean), .methodLink RX9 108 yX9_wordAt, .instanceMethod yX9_wordAt, .selects RX9 yX9_wordAt yX9_wordAt, .code yX9_wordAt cX9_wordAt 3 (some .int), .fieldLink RX9 25 "AddedCriesModel" "words" "[I"] ++ wsX90)
def wsX9_layOne : List Cond := .code yX9_layOne cX9_layOne 8 none :: ([.fieldLink RX9 22 "AddedCriesModel" "length" "[I", .fieldLink RX9 47 "AddedCriesModel" "yet" "[I", .fieldLink RX9 50 "AddedCriesModel" "many" "[J", .methodLink RX9 140 yX9_spot, .static yX9_spot, .initialized RX9, .code yX9_spot cX9_spot 2 (some .int), .methodLink RX9 108 yX9_wordAt, .instanceMethod yX9_wordAt, .selects RX9 yX9_wordAt yX9_wordAt, .code yX9_wordAt cX9_wordAt 3 (some .int), .fieldLink RX9 25 "AddedCriesModel" "words" "[I"] ++ wsX90)
def wsX9_layYet : List Cond := .code yX9_layYet cX9_layYet 5 none :: ([.fieldLink RX9 22 "AddedCriesModel" "length" "[I", .methodLink RX9 146 yX9_layOne, .instanceMethod yX9_layOne, .selects RX9 yX9_layOne yX9_layOne, .initialized RX9, .code yX9_layOne cX9_layOne 8 none, .fieldLink RX9 47 "AddedCriesModel" "yet" "[I", .fieldLink RX9 50 "AddedCriesModel" "many" "[J", .methodLink RX9 140 yX9_spot, .static yX9_spot, .code yX9_spot cX9_spot 2 (some .int), .methodLink RX9 108 yX9_wordAt, .instanceMethod yX9_wordAt, .selects RX9 yX9_wordAt yX9_wordAt, .code yX9_wordAt cX9_wordAt 3 (some .int), .fieldLink RX9 25 "AddedCriesModel" "words" "[I"] ++ wsX90)
def wsX9_both_r1 : List Cond := [Cond.fieldLink RX9 47 "AddedCriesModel" "yet" "[I", Cond.fieldLink RX9 22 "AddedCriesModel" "length" "[I", Cond.methodLink RX9 105 yX9_isDay, Cond.instanceMethod yX9_isDay, Cond.selects RX9 yX9_isDay yX9_isDay, Cond.initialized RX9, Cond.code yX9_isDay cX9_isDay 2 (some .boolean), Cond.fieldLink RX9 75 "AddedCriesModel" "days" "I", Cond.methodLink RX9 71 yX9_inside, Cond.static yX9_inside, Cond.code yX9_inside cX9_inside 3 (some .boolean), Cond.methodLink RX9 150 yX9_layYet, Cond.instanceMethod yX9_layYet, Cond.selects RX9 yX9_layYet yX9_layYet, Cond.code yX9_layYet cX9_layYet 5 none, Cond.methodLink RX9 146 yX9_layOne, Cond.instanceMethod yX9_layOne, Cond.selects RX9 yX9_layOne yX9_layOne, Cond.code yX9_layOne cX9_layOne 8 none, Cond.fieldLink RX9 50 "AddedCriesModel" "many" "[J", Cond.methodLink RX9 140 yX9_spot, Cond.static yX9_spot, Cond.code yX9_spot cX9_spot 2 (some .int), Cond.methodLink RX9 108 yX9_wordAt]
def wsX9_both_r2 : List Cond := [Cond.instanceMethod yX9_wordAt, Cond.selects RX9 yX9_wordAt yX9_wordAt, Cond.code yX9_wordAt cX9_wordAt 3 (some .int), Cond.fieldLink RX9 25 "AddedCriesModel" "words" "[I"]
def wsX9_both : List Cond := .code yX9_both cX9_both 4 (some .int) :: ((wsX9_both_r1 ++ wsX9_both_r2) ++ wsX90)
def wsX9_wordOf : List Cond := .code yX9_wordOf cX9_wordOf 12 (some .int) :: ([.fieldLink RX9 22 "AddedCriesModel" "length" "[I", .fieldLink RX9 47 "AddedCriesModel" "yet" "[I", .methodLink RX9 108 yX9_wordAt, .instanceMethod yX9_wordAt, .selects RX9 yX9_wordAt yX9_wordAt, .initialized RX9, .code yX9_wordAt cX9_wordAt 3 (some .int), .fieldLink RX9 25 "AddedCriesModel" "words" "[I", .methodLink RX9 140 yX9_spot, .static yX9_spot, .code yX9_spot cX9_spot 2 (some .int)] ++ wsX90)
def wsX9_shortest_r1 : List Cond := [Cond.constantLong RX9 69 (-9223372036854775808), Cond.fieldLink RX9 47 "AddedCriesModel" "yet" "[I", Cond.fieldLink RX9 50 "AddedCriesModel" "many" "[J", Cond.methodLink RX9 105 yX9_isDay, Cond.instanceMethod yX9_isDay, Cond.selects RX9 yX9_isDay yX9_isDay, Cond.initialized RX9, Cond.code yX9_isDay cX9_isDay 2 (some .boolean), Cond.fieldLink RX9 75 "AddedCriesModel" "days" "I", Cond.methodLink RX9 150 yX9_layYet, Cond.instanceMethod yX9_layYet, Cond.selects RX9 yX9_layYet yX9_layYet, Cond.code yX9_layYet cX9_layYet 5 none, Cond.fieldLink RX9 22 "AddedCriesModel" "length" "[I", Cond.methodLink RX9 146 yX9_layOne, Cond.instanceMethod yX9_layOne, Cond.selects RX9 yX9_layOne yX9_layOne, Cond.code yX9_layOne cX9_layOne 8 none, Cond.methodLink RX9 140 yX9_spot, Cond.static yX9_spot, Cond.code yX9_spot cX9_spot 2 (some .int), Cond.methodLink RX9 108 yX9_wordAt, Cond.instanceMethod yX9_wordAt, Cond.selects RX9 yX9_wordAt yX9_wordAt]
def wsX9_shortest_r2 : List Cond := [Cond.code yX9_wordAt cX9_wordAt 3 (some .int), Cond.fieldLink RX9 25 "AddedCriesModel" "words" "[I", Cond.methodLink RX9 154 yX9_wordOf, Cond.instanceMethod yX9_wordOf, Cond.selects RX9 yX9_wordOf yX9_wordOf, Cond.code yX9_wordOf cX9_wordOf 12 (some .int)]
def wsX9_shortest : List Cond := .code yX9_shortest cX9_shortest 4 (some .long) :: ((wsX9_shortest_r1 ++ wsX9_shortest_r2) ++ wsX90)
def wsX9_threeYet : List Cond := .code yX9_threeYet cX9_threeYet 14 (some .int) :: ([.fieldLink RX9 22 "AddedCriesModel" "length" "[I", .fieldLink RX9 53 "AddedCriesModel" "three" "[I", .methodLink RX9 108 yX9_wordAt, .instanceMethod yX9_wordAt, .selects RX9 yX9_wordAt yX9_wordAt, .initialized RX9, .code yX9_wordAt cX9_wordAt 3 (some .int), .fieldLink RX9 25 "AddedCriesModel" "words" "[I"] ++ wsX90)
def wsX9_three : List Cond := .code yX9_three cX9_three 7 (some .int) :: ([.fieldLink RX9 22 "AddedCriesModel" "length" "[I", .fieldLink RX9 53 "AddedCriesModel" "three" "[I", .methodLink RX9 105 yX9_isDay, .instanceMethod yX9_isDay, .selects RX9 yX9_isDay yX9_isDay, .initialized RX9, .code yX9_isDay cX9_isDay 2 (some .boolean), .fieldLink RX9 75 "AddedCriesModel" "days" "I", .methodLink RX9 157 yX9_threeYet, .instanceMethod yX9_threeYet, .selects RX9 yX9_threeYet yX9_threeYet, .code yX9_threeYet cX9_threeYet 14 (some .int), .methodLink RX9 108 yX9_wordAt, .instanceMethod yX9_wordAt, .selects RX9 yX9_wordAt yX9_wordAt, .code yX9_wordAt cX9_wordAt 3 (some .int), .fieldLink RX9 25 "AddedCriesModel" "words" "[I"] ++ wsX90)
def wsX9_behind : List Cond := .code yX9_behind cX9_behind 5 (some .int) :: ([.fieldLink RX9 22 "AddedCriesModel" "length" "[I", .methodLink RX9 108 yX9_wordAt, .instanceMethod yX9_wordAt, .selects RX9 yX9_wordAt yX9_wordAt, .initialized RX9, .code yX9_wordAt cX9_wordAt 3 (some .int), .fieldLink RX9 25 "AddedCriesModel" "words" "[I"] ++ wsX90)
def wsX9_lengthen : List Cond := .code yX9_lengthen cX9_lengthen 11 none :: ([.fieldLink RX9 22 "AddedCriesModel" "length" "[I", .fieldLink RX9 56 "AddedCriesModel" "rows" "[J", .fieldLink RX9 59 "AddedCriesModel" "longer" "[J", .methodLink RX9 161 yX9_behind, .instanceMethod yX9_behind, .selects RX9 yX9_behind yX9_behind, .initialized RX9, .code yX9_behind cX9_behind 5 (some .int), .methodLink RX9 108 yX9_wordAt, .instanceMethod yX9_wordAt, .selects RX9 yX9_wordAt yX9_wordAt, .code yX9_wordAt cX9_wordAt 3 (some .int), .fieldLink RX9 25 "AddedCriesModel" "words" "[I", .methodLink RX9 140 yX9_spot, .static yX9_spot, .code yX9_spot cX9_spot 2 (some .int)] ++ wsX90)
def wsX9_between : List Cond := .code yX9_between cX9_between 6 (some .long) :: ([.fieldLink RX9 56 "AddedCriesModel" "rows" "[J", .methodLink RX9 164 yX9_lengthen, .instanceMethod yX9_lengthen, .selects RX9 yX9_lengthen yX9_lengthen, .initialized RX9, .code yX9_lengthen cX9_lengthen 11 none, .fieldLink RX9 22 "AddedCriesModel" "length" "[I", .fieldLink RX9 59 "AddedCriesModel" "longer" "[J", .methodLink RX9 161 yX9_behind, .instanceMethod yX9_behind, .selects RX9 yX9_behind yX9_behind, .code yX9_behind cX9_behind 5 (some .int), .methodLink RX9 108 yX9_wordAt, .instanceMethod yX9_wordAt, .selects RX9 yX9_wordAt yX9_wordAt, .code yX9_wordAt cX9_wordAt 3 (some .int), .fieldLink RX9 25 "AddedCriesModel" "words" "[I", .methodLink RX9 140 yX9_spot, .static yX9_spot, .code yX9_spot cX9_spot 2 (some .int)] ++ wsX90)
def wsX9_lostDay_r1 : List Cond := [Cond.constantLong RX9 69 (-9223372036854775808), Cond.fieldLink RX9 22 "AddedCriesModel" "length" "[I", Cond.methodLink RX9 105 yX9_isDay, Cond.instanceMethod yX9_isDay, Cond.selects RX9 yX9_isDay yX9_isDay, Cond.initialized RX9, Cond.code yX9_isDay cX9_isDay 2 (some .boolean), Cond.fieldLink RX9 75 "AddedCriesModel" "days" "I", Cond.methodLink RX9 71 yX9_inside, Cond.static yX9_inside, Cond.code yX9_inside cX9_inside 3 (some .boolean), Cond.methodLink RX9 168 yX9_between, Cond.instanceMethod yX9_between, Cond.selects RX9 yX9_between yX9_between, Cond.code yX9_between cX9_between 6 (some .long), Cond.fieldLink RX9 56 "AddedCriesModel" "rows" "[J", Cond.methodLink RX9 164 yX9_lengthen, Cond.instanceMethod yX9_lengthen, Cond.selects RX9 yX9_lengthen yX9_lengthen, Cond.code yX9_lengthen cX9_lengthen 11 none, Cond.fieldLink RX9 59 "AddedCriesModel" "longer" "[J", Cond.methodLink RX9 161 yX9_behind, Cond.instanceMethod yX9_behind, Cond.selects RX9 yX9_behind yX9_behind]
def wsX9_lostDay_r2 : List Cond := [Cond.code yX9_behind cX9_behind 5 (some .int), Cond.methodLink RX9 108 yX9_wordAt, Cond.instanceMethod yX9_wordAt, Cond.selects RX9 yX9_wordAt yX9_wordAt, Cond.code yX9_wordAt cX9_wordAt 3 (some .int), Cond.fieldLink RX9 25 "AddedCriesModel" "words" "[I", Cond.methodLink RX9 140 yX9_spot, Cond.static yX9_spot, Cond.code yX9_spot cX9_spot 2 (some .int)]
def wsX9_lostDay : List Cond := .code yX9_lostDay cX9_lostDay 4 (some .long) :: ((wsX9_lostDay_r1 ++ wsX9_lostDay_r2) ++ wsX90)
def wsX9_roots_r1 : List Cond := [Cond.constantLong RX9 69 (-9223372036854775808), Cond.methodLink RX9 105 yX9_isDay, Cond.instanceMethod yX9_isDay, Cond.selects RX9 yX9_isDay yX9_isDay, Cond.initialized RX9, Cond.code yX9_isDay cX9_isDay 2 (some .boolean), Cond.fieldLink RX9 75 "AddedCriesModel" "days" "I", Cond.methodLink RX9 71 yX9_inside, Cond.static yX9_inside, Cond.code yX9_inside cX9_inside 3 (some .boolean), Cond.methodLink RX9 168 yX9_between, Cond.instanceMethod yX9_between, Cond.selects RX9 yX9_between yX9_between, Cond.code yX9_between cX9_between 6 (some .long), Cond.fieldLink RX9 56 "AddedCriesModel" "rows" "[J", Cond.methodLink RX9 164 yX9_lengthen, Cond.instanceMethod yX9_lengthen, Cond.selects RX9 yX9_lengthen yX9_lengthen, Cond.code yX9_lengthen cX9_lengthen 11 none, Cond.fieldLink RX9 22 "AddedCriesModel" "length" "[I", Cond.fieldLink RX9 59 "AddedCriesModel" "longer" "[J", Cond.methodLink RX9 161 yX9_behind, Cond.instanceMethod yX9_behind, Cond.selects RX9 yX9_behind yX9_behind]
def wsX9_roots_r2 : List Cond := [Cond.code yX9_behind cX9_behind 5 (some .int), Cond.methodLink RX9 108 yX9_wordAt, Cond.instanceMethod yX9_wordAt, Cond.selects RX9 yX9_wordAt yX9_wordAt, Cond.code yX9_wordAt cX9_wordAt 3 (some .int), Cond.fieldLink RX9 25 "AddedCriesModel" "words" "[I", Cond.methodLink RX9 140 yX9_spot, Cond.static yX9_spot, Cond.code yX9_spot cX9_spot 2 (some .int)]
def wsX9_roots : List Cond := .code yX9_roots cX9_roots 3 (some .long) :: ((wsX9_roots_r1 ++ wsX9_roots_r2) ++ wsX90)
def wsX9_breaths : List Cond := .code yX9_breaths cX9_breaths 8 (some .int) :: ([.fieldLink RX9 22 "AddedCriesModel" "length" "[I", .fieldLink RX9 62 "AddedCriesModel" "breath" "[I", .fieldLink RX9 19 "AddedCriesModel" "kinds" "[I", .methodLink RX9 105 yX9_isDay, .instanceMethod yX9_isDay, .selects RX9 yX9_isDay yX9_isDay, .initialized RX9, .code yX9_isDay cX9_isDay 2 (some .boolean), .fieldLink RX9 75 "AddedCriesModel" "days" "I", .methodLink RX9 71 yX9_inside, .static yX9_inside, .code yX9_inside cX9_inside 3 (some .boolean), .methodLink RX9 108 yX9_wordAt, .instanceMethod yX9_wordAt, .selects RX9 yX9_wordAt yX9_wordAt, .code yX9_wordAt cX9_wordAt 3 (some .int), .fieldLink RX9 25 "AddedCriesModel" "words" "[I"] ++ wsX90)
def wsX9_alikeFrom : List Cond := .code yX9_alikeFrom cX9_alikeFrom 6 (some .int) :: ([.fieldLink RX9 22 "AddedCriesModel" "length" "[I", .methodLink RX9 108 yX9_wordAt, .instanceMethod yX9_wordAt, .selects RX9 yX9_wordAt yX9_wordAt, .initialized RX9, .code yX9_wordAt cX9_wordAt 3 (some .int), .fieldLink RX9 25 "AddedCriesModel" "words" "[I"] ++ wsX90)
def wsX9_once : List Cond := .code yX9_once cX9_once 9 (some .int) :: ([.fieldLink RX9 22 "AddedCriesModel" "length" "[I", .methodLink RX9 105 yX9_isDay, .instanceMethod yX9_isDay, .selects RX9 yX9_isDay yX9_isDay, .initialized RX9, .code yX9_isDay cX9_isDay 2 (some .boolean), .fieldLink RX9 75 "AddedCriesModel" "days" "I", .methodLink RX9 71 yX9_inside, .static yX9_inside, .code yX9_inside cX9_inside 3 (some .boolean), .methodLink RX9 172 yX9_alikeFrom, .instanceMethod yX9_alikeFrom, .selects RX9 yX9_alikeFrom yX9_alikeFrom, .code yX9_alikeFrom cX9_alikeFrom 6 (some .int), .methodLink RX9 108 yX9_wordAt, .instanceMethod yX9_wordAt, .selects RX9 yX9_wordAt yX9_wordAt, .code yX9_wordAt cX9_wordAt 3 (some .int), .fieldLink RX9 25 "AddedCriesModel" "words" "[I"] ++ wsX90)
def wsX9_isIn : List Cond := .code yX9_isIn cX9_isIn 5 (some .boolean) :: ([.methodLink RX9 108 yX9_wordAt, .instanceMethod yX9_wordAt, .selects RX9 yX9_wordAt yX9_wordAt, .initialized RX9, .code yX9_wordAt cX9_wordAt 3 (some .int), .fieldLink RX9 25 "AddedCriesModel" "words" "[I"] ++ wsX90)
def wsX9_twice : List Cond := .code yX9_twice cX9_twice 4 (some .int) :: ([.fieldLink RX9 22 "AddedCriesModel" "length" "[I", .methodLink RX9 105 yX9_isDay, .instanceMethod yX9_isDay, .selects RX9 yX9_isDay yX9_isDay, .initialized RX9, .code yX9_isDay cX9_isDay 2 (some .boolean), .fieldLink RX9 75 "AddedCriesModel" "days" "I", .methodLink RX9 108 yX9_wordAt, .instanceMethod yX9_wordAt, .selects RX9 yX9_wordAt yX9_wordAt, .code yX9_wordAt cX9_wordAt 3 (some .int), .fieldLink RX9 25 "AddedCriesModel" "words" "[I", .methodLink RX9 175 yX9_isIn, .instanceMethod yX9_isIn, .selects RX9 yX9_isIn yX9_isIn, .code yX9_isIn cX9_isIn 5 (some .boolean)] ++ wsX90)
def wsX9_sheet : List Cond := .code yX9_sheet cX9_sheet 5 (some .int) :: ([.fieldLink RX9 65 "AddedCriesModel" "fault" "I", .fieldLink RX9 9 "AddedCriesModel" "sorts" "[I", .fieldLink RX9 13 "AddedCriesModel" "sheetLong" "[I", .fieldLink RX9 16 "AddedCriesModel" "cells" "[I", .methodLink RX9 78 yX9_isSheet, .static yX9_isSheet, .initialized RX9, .code yX9_isSheet cX9_isSheet 1 (some .boolean), .methodLink RX9 71 yX9_inside, .static yX9_inside, .code yX9_inside cX9_inside 3 (some .boolean), .methodLink RX9 82 yX9_isSort, .static yX9_isSort, .code yX9_isSort cX9_isSort 1 (some .boolean), .methodLink RX9 89 yX9_fails, .instanceMethod yX9_fails, .selects RX9 yX9_fails yX9_fails, .code yX9_fails cX9_fails 2 (some .int)] ++ wsX90)
def wsX9_lose : List Cond := .code yX9_lose cX9_lose 3 (some .int) :: ([.fieldLink RX9 9 "AddedCriesModel" "sorts" "[I", .methodLink RX9 78 yX9_isSheet, .static yX9_isSheet, .initialized RX9, .code yX9_isSheet cX9_isSheet 1 (some .boolean), .methodLink RX9 71 yX9_inside, .static yX9_inside, .code yX9_inside cX9_inside 3 (some .boolean)] ++ wsX90)
def wsX9_put : List Cond := .code yX9_put cX9_put 4 (some .int) :: ([.fieldLink RX9 65 "AddedCriesModel" "fault" "I", .fieldLink RX9 9 "AddedCriesModel" "sorts" "[I", .fieldLink RX9 13 "AddedCriesModel" "sheetLong" "[I", .fieldLink RX9 16 "AddedCriesModel" "cells" "[I", .methodLink RX9 78 yX9_isSheet, .static yX9_isSheet, .initialized RX9, .code yX9_isSheet cX9_isSheet 1 (some .boolean), .methodLink RX9 71 yX9_inside, .static yX9_inside, .code yX9_inside cX9_inside 3 (some .boolean), .methodLink RX9 89 yX9_fails, .instanceMethod yX9_fails, .selects RX9 yX9_fails yX9_fails, .code yX9_fails cX9_fails 2 (some .int)] ++ wsX90)
def wsX9_cell : List Cond := .code yX9_cell cX9_cell 4 (some .long) :: ([.fieldLink RX9 65 "AddedCriesModel" "fault" "I", .constantLong RX9 69 (-9223372036854775808), .fieldLink RX9 9 "AddedCriesModel" "sorts" "[I", .fieldLink RX9 13 "AddedCriesModel" "sheetLong" "[I", .fieldLink RX9 16 "AddedCriesModel" "cells" "[I", .methodLink RX9 78 yX9_isSheet, .static yX9_isSheet, .initialized RX9, .code yX9_isSheet cX9_isSheet 1 (some .boolean), .methodLink RX9 71 yX9_inside, .static yX9_inside, .code yX9_inside cX9_inside 3 (some .boolean), .methodLink RX9 82 yX9_isSort, .static yX9_isSort, .code yX9_isSort cX9_isSort 1 (some .boolean), .methodLink RX9 178 yX9_lost, .instanceMethod yX9_lost, .selects RX9 yX9_lost yX9_lost, .code yX9_lost cX9_lost 2 (some .long)] ++ wsX90)
def wsX9_copy : List Cond := .code yX9_copy cX9_copy 10 (some .int) :: ([.fieldLink RX9 65 "AddedCriesModel" "fault" "I", .fieldLink RX9 9 "AddedCriesModel" "sorts" "[I", .fieldLink RX9 13 "AddedCriesModel" "sheetLong" "[I", .fieldLink RX9 16 "AddedCriesModel" "cells" "[I", .methodLink RX9 78 yX9_isSheet, .static yX9_isSheet, .initialized RX9, .code yX9_isSheet cX9_isSheet 1 (some .boolean), .methodLink RX9 71 yX9_inside, .static yX9_inside, .code yX9_inside cX9_inside 3 (some .boolean), .methodLink RX9 89 yX9_fails, .instanceMethod yX9_fails, .selects RX9 yX9_fails yX9_fails, .code yX9_fails cX9_fails 2 (some .int)] ++ wsX90)
def wsX9_begins : List Cond := .code yX9_begins cX9_begins 2 none :: ([.fieldLink RX9 182 "AddedCriesModel" "trace" "I"] ++ wsX90)
def wsX9_inCries : List Cond := .code yX9_inCries cX9_inCries 4 (some .int) :: ([.fieldLink RX9 75 "AddedCriesModel" "days" "I", .fieldLink RX9 22 "AddedCriesModel" "length" "[I", .methodLink RX9 175 yX9_isIn, .instanceMethod yX9_isIn, .selects RX9 yX9_isIn yX9_isIn, .initialized RX9, .code yX9_isIn cX9_isIn 5 (some .boolean), .methodLink RX9 108 yX9_wordAt, .instanceMethod yX9_wordAt, .selects RX9 yX9_wordAt yX9_wordAt, .code yX9_wordAt cX9_wordAt 3 (some .int), .fieldLink RX9 25 "AddedCriesModel" "words" "[I"] ++ wsX90)
def wsX9_tell_r1 : List Cond := [Cond.fieldLink RX9 19 "AddedCriesModel" "kinds" "[I", Cond.methodLink RX9 102 yX9_isWord, Cond.static yX9_isWord, Cond.initialized RX9, Cond.code yX9_isWord cX9_isWord 1 (some .boolean), Cond.methodLink RX9 71 yX9_inside, Cond.static yX9_inside, Cond.code yX9_inside cX9_inside 3 (some .boolean), Cond.methodLink RX9 185 yX9_inCries, Cond.instanceMethod yX9_inCries, Cond.selects RX9 yX9_inCries yX9_inCries, Cond.code yX9_inCries cX9_inCries 4 (some .int), Cond.fieldLink RX9 75 "AddedCriesModel" "days" "I", Cond.fieldLink RX9 22 "AddedCriesModel" "length" "[I", Cond.methodLink RX9 175 yX9_isIn, Cond.instanceMethod yX9_isIn, Cond.selects RX9 yX9_isIn yX9_isIn, Cond.code yX9_isIn cX9_isIn 5 (some .boolean), Cond.methodLink RX9 108 yX9_wordAt, Cond.instanceMethod yX9_wordAt, Cond.selects RX9 yX9_wordAt yX9_wordAt, Cond.code yX9_wordAt cX9_wordAt 3 (some .int), Cond.fieldLink RX9 25 "AddedCriesModel" "words" "[I", Cond.methodLink RX9 188 yX9_begins]
def wsX9_tell_r2 : List Cond := [Cond.instanceMethod yX9_begins, Cond.selects RX9 yX9_begins yX9_begins, Cond.code yX9_begins cX9_begins 2 none, Cond.fieldLink RX9 182 "AddedCriesModel" "trace" "I"]
def wsX9_tell : List Cond := .code yX9_tell cX9_tell 3 (some .int) :: ((wsX9_tell_r1 ++ wsX9_tell_r2) ++ wsX90)
def wsX9_sing : List Cond := .code yX9_sing cX9_sing 2 (some .int) :: ([.fieldLink RX9 19 "AddedCriesModel" "kinds" "[I", .methodLink RX9 102 yX9_isWord, .static yX9_isWord, .initialized RX9, .code yX9_isWord cX9_isWord 1 (some .boolean), .methodLink RX9 71 yX9_inside, .static yX9_inside, .code yX9_inside cX9_inside 3 (some .boolean), .methodLink RX9 188 yX9_begins, .instanceMethod yX9_begins, .selects RX9 yX9_begins yX9_begins, .code yX9_begins cX9_begins 2 none, .fieldLink RX9 182 "AddedCriesModel" "trace" "I"] ++ wsX90)
def wsX9_as : List Cond := .code yX9_as cX9_as 3 (some .int) :: ([.fieldLink RX9 65 "AddedCriesModel" "fault" "I", .fieldLink RX9 19 "AddedCriesModel" "kinds" "[I", .methodLink RX9 102 yX9_isWord, .static yX9_isWord, .initialized RX9, .code yX9_isWord cX9_isWord 1 (some .boolean), .methodLink RX9 71 yX9_inside, .static yX9_inside, .code yX9_inside cX9_inside 3 (some .boolean), .methodLink RX9 89 yX9_fails, .instanceMethod yX9_fails, .selects RX9 yX9_fails yX9_fails, .code yX9_fails cX9_fails 2 (some .int)] ++ wsX90)
def wsX9_trace : List Cond := .code yX9_trace cX9_trace 1 (some .int) :: ([.fieldLink RX9 182 "AddedCriesModel" "trace" "I"] ++ wsX90)
def wsX9_fault : List Cond := .code yX9_fault cX9_fault 1 (some .int) :: ([.fieldLink RX9 65 "AddedCriesModel" "fault" "I"] ++ wsX90)
def wsX9_many : List Cond := .code yX9_many cX9_many 1 (some .int) :: ([.fieldLink RX9 75 "AddedCriesModel" "days" "I"] ++ wsX90)
def wsJ9_max_7cf53 : List Cond := .code yJ9_max_7cf53 cJ9_max_7cf53 2 (some .int) :: ([])
def wsJ9_max_f86c9 : List Cond := .code yJ9_max_f86c9 cJ9_max_f86c9 4 (some .long) :: ([])
def wsJ9_min_7cf53 : List Cond := .code yJ9_min_7cf53 cJ9_min_7cf53 2 (some .int) :: ([])
def wsJ9_min_f86c9 : List Cond := .code yJ9_min_f86c9 cJ9_min_f86c9 4 (some .long) :: ([])
end
section
set_option maxRecDepth 20000 in
theorem ggX0_init_X4_init : GoodIn wsX0_init wsX4_init := goodIn_r _ [10, 11, 2, 3, 12, 13, 14] (by decide +kernel) (by decide +kernel)
set_option maxRecDepth 20000 in
theorem gX0_init_X4_init_n9 : GoodIn wsX0_init (wsX4_init) := ggX0_init_X4_init
theorem dX0_init_0 : decode cX0_init 0 = .ok (.aload_n 0, 1) := by decide +kernel
theorem dX0_init_1 : decode cX0_init 1 = .ok (.invokespecial 1, 3) := by decide +kernel
theorem dX0_init_4 : decode cX0_init 4 = .ok (.aload_n 0, 1) := by decide +kernel
theorem dX0_init_5 : decode cX0_init 5 = .ok (.new 7, 3) := by decide +kernel
theorem dX0_init_8 : decode cX0_init 8 = .ok (.dup, 1) := by decide +kernel
theorem dX0_init_9 : decode cX0_init 9 = .ok (.invokespecial 9, 3) := by decide +kernel
theorem dX0_init_12 : decode cX0_init 12 = .ok (.putfield 10, 3) := by decide +kernel
theorem dX0_init_15 : decode cX0_init 15 = .ok (.aload_n 0, 1) := by decide +kernel
theorem dX0_init_16 : decode cX0_init 16 = .ok (.new 7, 3) := by decide +kernel
theorem dX0_init_19 : decode cX0_init 19 = .ok (.dup, 1) := by decide +kernel
theorem dX0_init_20 : decode cX0_init 20 = .ok (.invokespecial 9, 3) := by decide +kernel
theorem dX0_init_23 : decode cX0_init 23 = .ok (.putfield 16, 3) := by decide +kernel
theorem dX0_init_26 : decode cX0_init 26 = .ok (.return_, 1) := by decide +kernel
set_option maxRecDepth 20000 in
theorem ggX0_count_X4_clear : GoodIn wsX0_count wsX4_clear := goodIn_r _ [6, 7, 8, 9, 10, 11, 56] (by decide +kernel) (by decide +kernel)
set_option maxRecDepth 20000 in
theorem gX0_count_X4_clear : GoodIn wsX0_count (wsV RX0 19 RX4 yX4_clear wsX4_clear) := goodIn_app (goodIn_of _ (by decide +kernel)) ggX0_count_X4_clear
set_option maxRecDepth 20000 in
theorem ggX0_count_X4_write : GoodIn wsX0_count wsX4_write := goodIn_r _ [15, 7, 16, 17, 5, 18, 56] (by decide +kernel) (by decide +kernel)
set_option maxRecDepth 20000 in
theorem gX0_count_X4_write : GoodIn wsX0_count (wsV RX0 22 RX4 yX4_write wsX4_write) := goodIn_app (goodIn_of _ (by decide +kernel)) ggX0_count_X4_write
set_option maxRecDepth 20000 in
theorem ggX0_count_X0_goOn : GoodIn wsX0_count wsX0_goOn := goodIn_r _ [23, 24, 1, 2, 3, 4, 5, 6, 7, 8, 9, 10, 11, 25, 26, 27, 28, 29, 30, 31, 32, 33, 34, 16, 17, 18, 35, 36, 37, 22, 38, 39, 40, 41, 42, 43, 44, 45, 46, 47, 48, 49, 50, 51, 52, 53, 13, 14, 15, 54, 55, 56, 57, 58] (by decide +kernel) (by decide +kernel)
set_option maxRecDepth 20000 in
theorem gX0_count_X0_goOn : GoodIn wsX0_count (wsV RX0 26 RX0 yX0_goOn wsX0_goOn) := goodIn_app (goodIn_of _ (by decide +kernel)) ggX0_count_X0_goOn
set_option maxRecDepth 20000 in
theorem ggX0_count_X2_size : GoodIn wsX0_count wsX2_size := goodIn_r _ [29, 30, 57, 58] (by decide +kernel) (by decide +kernel)
set_option maxRecDepth 20000 in
theorem gX0_count_X2_size : GoodIn wsX0_count (wsV RX0 30 RX2 yX2_size wsX2_size) := goodIn_app (goodIn_of _ (by decide +kernel)) ggX0_count_X2_size
set_option maxRecDepth 20000 in
theorem ggX0_count_X4_at : GoodIn wsX0_count wsX4_at := goodIn_r _ [34, 7, 16, 17, 5, 18, 56] (by decide +kernel) (by decide +kernel)
set_option maxRecDepth 20000 in
theorem gX0_count_X4_at : GoodIn wsX0_count (wsV RX0 36 RX4 yX4_at wsX4_at) := goodIn_app (goodIn_of _ (by decide +kernel)) ggX0_count_X4_at
theorem dX0_count_0 : decode cX0_count 0 = .ok (.aload_n 0, 1) := by decide +kernel
theorem dX0_count_1 : decode cX0_count 1 = .ok (.getfield 10, 3) := by decide +kernel
theorem dX0_count_4 : decode cX0_count 4 = .ok (.invokevirtual 19, 3) := by decide +kernel
theorem dX0_count_7 : decode cX0_count 7 = .ok (.aload_n 0, 1) := by decide +kernel
theorem dX0_count_8 : decode cX0_count 8 = .ok (.getfield 10, 3) := by decide +kernel
theorem dX0_count_11 : decode cX0_count 11 = .ok (.iconst 0, 1) := by decide +kernel
theorem dX0_count_12 : decode cX0_count 12 = .ok (.iconst 0, 1) := by decide +kernel
theorem dX0_count_13 : decode cX0_count 13 = .ok (.lconst 1, 1) := by decide +kernel
theorem dX0_count_14 : decode cX0_count 14 = .ok (.invokevirtual 22, 3) := by decide +kernel
theorem dX0_count_17 : decode cX0_count 17 = .ok (.iconst 0, 1) := by decide +kernel
theorem dX0_count_18 : decode cX0_count 18 = .ok (.istore 4, 2) := by decide +kernel
theorem dX0_count_20 : decode cX0_count 20 = .ok (.iload 4, 2) := by decide +kernel
theorem dX0_count_22 : decode cX0_count 22 = .ok (.iload_n 3, 1) := by decide +kernel
theorem dX0_count_23 : decode cX0_count 23 = .ok (.if_icmp .ge 15, 3) := by decide +kernel
theorem dX0_count_26 : decode cX0_count 26 = .ok (.aload_n 0, 1) := by decide +kernel
theorem dX0_count_27 : decode cX0_count 27 = .ok (.aload_n 1, 1) := by decide +kernel
theorem dX0_count_28 : decode cX0_count 28 = .ok (.aload_n 2, 1) := by decide +kernel
theorem dX0_count_29 : decode cX0_count 29 = .ok (.invokevirtual 26, 3) := by decide +kernel
theorem dX0_count_32 : decode cX0_count 32 = .ok (.iinc 4 1, 3) := by decide +kernel
theorem dX0_count_35 : decode cX0_count 35 = .ok (.goto (-15), 3) := by decide +kernel
theorem dX0_count_38 : decode cX0_count 38 = .ok (.lconst 0, 1) := by decide +kernel
theorem dX0_count_39 : decode cX0_count 39 = .ok (.lstore 4, 2) := by decide +kernel
theorem dX0_count_41 : decode cX0_count 41 = .ok (.iconst 0, 1) := by decide +kernel
theorem dX0_count_42 : decode cX0_count 42 = .ok (.istore 6, 2) := by decide +kernel
theorem dX0_count_44 : decode cX0_count 44 = .ok (.iload 6, 2) := by decide +kernel
theorem dX0_count_46 : decode cX0_count 46 = .ok (.aload_n 2, 1) := by decide +kernel
theorem dX0_count_47 : decode cX0_count 47 = .ok (.invokevirtual 30, 3) := by decide +kernel
theorem dX0_count_50 : decode cX0_count 50 = .ok (.if_icmp .gt 27, 3) := by decide +kernel
theorem dX0_count_53 : decode cX0_count 53 = .ok (.lload 4, 2) := by decide +kernel
theorem dX0_count_55 : decode cX0_count 55 = .ok (.aload_n 0, 1) := by decide +kernel
theorem dX0_count_56 : decode cX0_count 56 = .ok (.getfield 10, 3) := by decide +kernel
theorem dX0_count_59 : decode cX0_count 59 = .ok (.aload_n 1, 1) := by decide +kernel
theorem dX0_count_60 : decode cX0_count 60 = .ok (.invokevirtual 30, 3) := by decide +kernel
theorem dX0_count_63 : decode cX0_count 63 = .ok (.iload 6, 2) := by decide +kernel
theorem dX0_count_65 : decode cX0_count 65 = .ok (.invokevirtual 36, 3) := by decide +kernel
theorem dX0_count_68 : decode cX0_count 68 = .ok (.ladd, 1) := by decide +kernel
theorem dX0_count_69 : decode cX0_count 69 = .ok (.lstore 4, 2) := by decide +kernel
theorem dX0_count_71 : decode cX0_count 71 = .ok (.iinc 6 1, 3) := by decide +kernel
theorem dX0_count_74 : decode cX0_count 74 = .ok (.goto (-30), 3) := by decide +kernel
theorem dX0_count_77 : decode cX0_count 77 = .ok (.lload 4, 2) := by decide +kernel
theorem dX0_count_79 : decode cX0_count 79 = .ok (.lreturn, 1) := by decide +kernel
set_option maxRecDepth 20000 in
theorem ggX0_goOn_X4_clear : GoodIn wsX0_goOn wsX4_clear := goodIn_r _ [7, 8, 9, 10, 11, 12, 51] (by decide +kernel) (by decide +kernel)
set_option maxRecDepth 20000 in
theorem gX0_goOn_X4_clear : GoodIn wsX0_goOn (wsV RX0 19 RX4 yX4_clear wsX4_clear) := goodIn_app (goodIn_of _ (by decide +kernel)) ggX0_goOn_X4_clear
set_option maxRecDepth 20000 in
theorem ggX0_goOn_X2_size : GoodIn wsX0_goOn wsX2_size := goodIn_r _ [17, 18, 52, 53] (by decide +kernel) (by decide +kernel)
set_option maxRecDepth 20000 in
theorem gX0_goOn_X2_size : GoodIn wsX0_goOn (wsV RX0 30 RX2 yX2_size wsX2_size) := goodIn_app (goodIn_of _ (by decide +kernel)) ggX0_goOn_X2_size
set_option maxRecDepth 20000 in
theorem ggX0_goOn_X4_at : GoodIn wsX0_goOn wsX4_at := goodIn_r _ [22, 8, 23, 24, 6, 25, 51] (by decide +kernel) (by decide +kernel)
set_option maxRecDepth 20000 in
theorem gX0_goOn_X4_at : GoodIn wsX0_goOn (wsV RX0 36 RX4 yX4_at wsX4_at) := goodIn_app (goodIn_of _ (by decide +kernel)) ggX0_goOn_X4_at
set_option maxRecDepth 20000 in
theorem ggX0_goOn_X0_goOnFrom : GoodIn wsX0_goOn wsX0_goOnFrom := goodIn_r _ [30, 1, 13, 14, 15, 16, 17, 18, 31, 32, 33, 34, 35, 36, 37, 38, 39, 40, 41, 42, 6, 43, 44, 20, 21, 22, 8, 23, 24, 25, 45, 46, 47, 48, 49, 50, 52, 53, 51] (by decide +kernel) (by decide +kernel)
set_option maxRecDepth 20000 in
theorem gX0_goOn_X0_goOnFrom : GoodIn wsX0_goOn (wsV RX0 40 RX0 yX0_goOnFrom wsX0_goOnFrom) := goodIn_app (goodIn_of _ (by decide +kernel)) ggX0_goOn_X0_goOnFrom
theorem dX0_goOn_0 : decode cX0_goOn 0 = .ok (.aload_n 0, 1) := by decide +kernel
theorem dX0_goOn_1 : decode cX0_goOn 1 = .ok (.getfield 16, 3) := by decide +kernel
theorem dX0_goOn_4 : decode cX0_goOn 4 = .ok (.invokevirtual 19, 3) := by decide +kernel
theorem dX0_goOn_7 : decode cX0_goOn 7 = .ok (.iconst 0, 1) := by decide +kernel
theorem dX0_goOn_8 : decode cX0_goOn 8 = .ok (.istore_n 3, 1) := by decide +kernel
theorem dX0_goOn_9 : decode cX0_goOn 9 = .ok (.iload_n 3, 1) := by decide +kernel
theorem dX0_goOn_10 : decode cX0_goOn 10 = .ok (.aload_n 1, 1) := by decide +kernel
theorem dX0_goOn_11 : decode cX0_goOn 11 = .ok (.invokevirtual 30, 3) := by decide +kernel
theorem dX0_goOn_14 : decode cX0_goOn 14 = .ok (.if_icmp .gt 57, 3) := by decide +kernel
theorem dX0_goOn_17 : decode cX0_goOn 17 = .ok (.iconst 0, 1) := by decide +kernel
theorem dX0_goOn_18 : decode cX0_goOn 18 = .ok (.istore 4, 2) := by decide +kernel
theorem dX0_goOn_20 : decode cX0_goOn 20 = .ok (.iload 4, 2) := by decide +kernel
theorem dX0_goOn_22 : decode cX0_goOn 22 = .ok (.aload_n 2, 1) := by decide +kernel
theorem dX0_goOn_23 : decode cX0_goOn 23 = .ok (.invokevirtual 30, 3) := by decide +kernel
theorem dX0_goOn_26 : decode cX0_goOn 26 = .ok (.if_icmp .ge 39, 3) := by decide +kernel
theorem dX0_goOn_29 : decode cX0_goOn 29 = .ok (.aload_n 0, 1) := by decide +kernel
theorem dX0_goOn_30 : decode cX0_goOn 30 = .ok (.getfield 10, 3) := by decide +kernel
theorem dX0_goOn_33 : decode cX0_goOn 33 = .ok (.iload_n 3, 1) := by decide +kernel
theorem dX0_goOn_34 : decode cX0_goOn 34 = .ok (.iload 4, 2) := by decide +kernel
theorem dX0_goOn_36 : decode cX0_goOn 36 = .ok (.invokevirtual 36, 3) := by decide +kernel
theorem dX0_goOn_39 : decode cX0_goOn 39 = .ok (.lstore 5, 2) := by decide +kernel
theorem dX0_goOn_41 : decode cX0_goOn 41 = .ok (.lload 5, 2) := by decide +kernel
theorem dX0_goOn_43 : decode cX0_goOn 43 = .ok (.lconst 0, 1) := by decide +kernel
theorem dX0_goOn_44 : decode cX0_goOn 44 = .ok (.lcmp, 1) := by decide +kernel
theorem dX0_goOn_45 : decode cX0_goOn 45 = .ok (.ifCond .eq 14, 3) := by decide +kernel
theorem dX0_goOn_48 : decode cX0_goOn 48 = .ok (.aload_n 0, 1) := by decide +kernel
theorem dX0_goOn_49 : decode cX0_goOn 49 = .ok (.aload_n 1, 1) := by decide +kernel
theorem dX0_goOn_50 : decode cX0_goOn 50 = .ok (.iload_n 3, 1) := by decide +kernel
theorem dX0_goOn_51 : decode cX0_goOn 51 = .ok (.aload_n 2, 1) := by decide +kernel
theorem dX0_goOn_52 : decode cX0_goOn 52 = .ok (.iload 4, 2) := by decide +kernel
theorem dX0_goOn_54 : decode cX0_goOn 54 = .ok (.lload 5, 2) := by decide +kernel
theorem dX0_goOn_56 : decode cX0_goOn 56 = .ok (.invokevirtual 40, 3) := by decide +kernel
theorem dX0_goOn_59 : decode cX0_goOn 59 = .ok (.iinc 4 1, 3) := by decide +kernel
theorem dX0_goOn_62 : decode cX0_goOn 62 = .ok (.goto (-42), 3) := by decide +kernel
theorem dX0_goOn_65 : decode cX0_goOn 65 = .ok (.iinc 3 1, 3) := by decide +kernel
theorem dX0_goOn_68 : decode cX0_goOn 68 = .ok (.goto (-59), 3) := by decide +kernel
theorem dX0_goOn_71 : decode cX0_goOn 71 = .ok (.aload_n 0, 1) := by decide +kernel
theorem dX0_goOn_72 : decode cX0_goOn 72 = .ok (.getfield 10, 3) := by decide +kernel
theorem dX0_goOn_75 : decode cX0_goOn 75 = .ok (.astore_n 3, 1) := by decide +kernel
theorem dX0_goOn_76 : decode cX0_goOn 76 = .ok (.aload_n 0, 1) := by decide +kernel
theorem dX0_goOn_77 : decode cX0_goOn 77 = .ok (.aload_n 0, 1) := by decide +kernel
theorem dX0_goOn_78 : decode cX0_goOn 78 = .ok (.getfield 16, 3) := by decide +kernel
theorem dX0_goOn_81 : decode cX0_goOn 81 = .ok (.putfield 10, 3) := by decide +kernel
theorem dX0_goOn_84 : decode cX0_goOn 84 = .ok (.aload_n 0, 1) := by decide +kernel
theorem dX0_goOn_85 : decode cX0_goOn 85 = .ok (.aload_n 3, 1) := by decide +kernel
theorem dX0_goOn_86 : decode cX0_goOn 86 = .ok (.putfield 16, 3) := by decide +kernel
theorem dX0_goOn_89 : decode cX0_goOn 89 = .ok (.return_, 1) := by decide +kernel
set_option maxRecDepth 20000 in
theorem ggX0_goOnFrom_X2_size : GoodIn wsX0_goOnFrom wsX2_size := goodIn_r _ [6, 7, 36, 37] (by decide +kernel) (by decide +kernel)
set_option maxRecDepth 20000 in
theorem gX0_goOnFrom_X2_size : GoodIn wsX0_goOnFrom (wsV RX0 30 RX2 yX2_size wsX2_size) := goodIn_app (goodIn_of _ (by decide +kernel)) ggX0_goOnFrom_X2_size
set_option maxRecDepth 20000 in
theorem ggX0_goOnFrom_X2_at : GoodIn wsX0_goOnFrom wsX2_at := goodIn_r _ [11, 12, 13, 14, 15, 5, 16, 7, 36, 37] (by decide +kernel) (by decide +kernel)
set_option maxRecDepth 20000 in
theorem gX0_goOnFrom_X2_at : GoodIn wsX0_goOnFrom (wsV RX0 44 RX2 yX2_at wsX2_at) := goodIn_app (goodIn_of _ (by decide +kernel)) ggX0_goOnFrom_X2_at
set_option maxRecDepth 20000 in
theorem ggX0_goOnFrom_X4_more : GoodIn wsX0_goOnFrom wsX4_more := goodIn_r _ [21, 22, 23, 24, 20, 25, 26, 27, 28, 29, 30, 31, 32, 33, 38] (by decide +kernel) (by decide +kernel)
set_option maxRecDepth 20000 in
theorem gX0_goOnFrom_X4_more : GoodIn wsX0_goOnFrom (wsV RX0 47 RX4 yX4_more wsX4_more) := goodIn_app (goodIn_of _ (by decide +kernel)) ggX0_goOnFrom_X4_more
theorem dX0_goOnFrom_0 : decode cX0_goOnFrom 0 = .ok (.iconst 0, 1) := by decide +kernel
theorem dX0_goOnFrom_1 : decode cX0_goOnFrom 1 = .ok (.istore 7, 2) := by decide +kernel
theorem dX0_goOnFrom_3 : decode cX0_goOnFrom 3 = .ok (.iload 4, 2) := by decide +kernel
theorem dX0_goOnFrom_5 : decode cX0_goOnFrom 5 = .ok (.istore 8, 2) := by decide +kernel
theorem dX0_goOnFrom_7 : decode cX0_goOnFrom 7 = .ok (.iload 8, 2) := by decide +kernel
theorem dX0_goOnFrom_9 : decode cX0_goOnFrom 9 = .ok (.aload_n 3, 1) := by decide +kernel
theorem dX0_goOnFrom_10 : decode cX0_goOnFrom 10 = .ok (.invokevirtual 30, 3) := by decide +kernel
theorem dX0_goOnFrom_13 : decode cX0_goOnFrom 13 = .ok (.if_icmp .ge 68, 3) := by decide +kernel
theorem dX0_goOnFrom_16 : decode cX0_goOnFrom 16 = .ok (.aload_n 3, 1) := by decide +kernel
theorem dX0_goOnFrom_17 : decode cX0_goOnFrom 17 = .ok (.iload 8, 2) := by decide +kernel
theorem dX0_goOnFrom_19 : decode cX0_goOnFrom 19 = .ok (.invokevirtual 44, 3) := by decide +kernel
theorem dX0_goOnFrom_22 : decode cX0_goOnFrom 22 = .ok (.istore 9, 2) := by decide +kernel
theorem dX0_goOnFrom_24 : decode cX0_goOnFrom 24 = .ok (.iconst 1, 1) := by decide +kernel
theorem dX0_goOnFrom_25 : decode cX0_goOnFrom 25 = .ok (.iload 9, 2) := by decide +kernel
theorem dX0_goOnFrom_27 : decode cX0_goOnFrom 27 = .ok (.ishl, 1) := by decide +kernel
theorem dX0_goOnFrom_28 : decode cX0_goOnFrom 28 = .ok (.istore 10, 2) := by decide +kernel
theorem dX0_goOnFrom_30 : decode cX0_goOnFrom 30 = .ok (.iload 7, 2) := by decide +kernel
theorem dX0_goOnFrom_32 : decode cX0_goOnFrom 32 = .ok (.iload 10, 2) := by decide +kernel
theorem dX0_goOnFrom_34 : decode cX0_goOnFrom 34 = .ok (.iand, 1) := by decide +kernel
theorem dX0_goOnFrom_35 : decode cX0_goOnFrom 35 = .ok (.ifCond .ne 40, 3) := by decide +kernel
theorem dX0_goOnFrom_38 : decode cX0_goOnFrom 38 = .ok (.iload 7, 2) := by decide +kernel
theorem dX0_goOnFrom_40 : decode cX0_goOnFrom 40 = .ok (.iload 10, 2) := by decide +kernel
theorem dX0_goOnFrom_42 : decode cX0_goOnFrom 42 = .ok (.ior, 1) := by decide +kernel
theorem dX0_goOnFrom_43 : decode cX0_goOnFrom 43 = .ok (.istore 7, 2) := by decide +kernel
theorem dX0_goOnFrom_45 : decode cX0_goOnFrom 45 = .ok (.aload_n 0, 1) := by decide +kernel
theorem dX0_goOnFrom_46 : decode cX0_goOnFrom 46 = .ok (.getfield 16, 3) := by decide +kernel
theorem dX0_goOnFrom_49 : decode cX0_goOnFrom 49 = .ok (.aload_n 1, 1) := by decide +kernel
theorem dX0_goOnFrom_50 : decode cX0_goOnFrom 50 = .ok (.iload_n 2, 1) := by decide +kernel
theorem dX0_goOnFrom_51 : decode cX0_goOnFrom 51 = .ok (.invokevirtual 44, 3) := by decide +kernel
theorem dX0_goOnFrom_54 : decode cX0_goOnFrom 54 = .ok (.iload 9, 2) := by decide +kernel
theorem dX0_goOnFrom_56 : decode cX0_goOnFrom 56 = .ok (.if_icmp .ne 9, 3) := by decide +kernel
theorem dX0_goOnFrom_59 : decode cX0_goOnFrom 59 = .ok (.iload_n 2, 1) := by decide +kernel
theorem dX0_goOnFrom_60 : decode cX0_goOnFrom 60 = .ok (.iconst 1, 1) := by decide +kernel
theorem dX0_goOnFrom_61 : decode cX0_goOnFrom 61 = .ok (.iadd, 1) := by decide +kernel
theorem dX0_goOnFrom_62 : decode cX0_goOnFrom 62 = .ok (.goto 4, 3) := by decide +kernel
theorem dX0_goOnFrom_65 : decode cX0_goOnFrom 65 = .ok (.iload_n 2, 1) := by decide +kernel
theorem dX0_goOnFrom_66 : decode cX0_goOnFrom 66 = .ok (.iload 8, 2) := by decide +kernel
theorem dX0_goOnFrom_68 : decode cX0_goOnFrom 68 = .ok (.iconst 1, 1) := by decide +kernel
theorem dX0_goOnFrom_69 : decode cX0_goOnFrom 69 = .ok (.iadd, 1) := by decide +kernel
theorem dX0_goOnFrom_70 : decode cX0_goOnFrom 70 = .ok (.lload 5, 2) := by decide +kernel
theorem dX0_goOnFrom_72 : decode cX0_goOnFrom 72 = .ok (.invokevirtual 47, 3) := by decide +kernel
theorem dX0_goOnFrom_75 : decode cX0_goOnFrom 75 = .ok (.iinc 8 1, 3) := by decide +kernel
theorem dX0_goOnFrom_78 : decode cX0_goOnFrom 78 = .ok (.goto (-71), 3) := by decide +kernel
theorem dX0_goOnFrom_81 : decode cX0_goOnFrom 81 = .ok (.return_, 1) := by decide +kernel
set_option maxRecDepth 20000 in
theorem ggX1_init_X4_init : GoodIn wsX1_init wsX4_init := goodIn_r _ [10, 11, 2, 3, 12, 13, 14] (by decide +kernel) (by decide +kernel)
set_option maxRecDepth 20000 in
theorem gX1_init_X4_init_n11 : GoodIn wsX1_init (wsX4_init) := ggX1_init_X4_init
theorem dX1_init_0 : decode cX1_init 0 = .ok (.aload_n 0, 1) := by decide +kernel
theorem dX1_init_1 : decode cX1_init 1 = .ok (.invokespecial 3, 3) := by decide +kernel
theorem dX1_init_4 : decode cX1_init 4 = .ok (.aload_n 0, 1) := by decide +kernel
theorem dX1_init_5 : decode cX1_init 5 = .ok (.new 9, 3) := by decide +kernel
theorem dX1_init_8 : decode cX1_init 8 = .ok (.dup, 1) := by decide +kernel
theorem dX1_init_9 : decode cX1_init 9 = .ok (.invokespecial 11, 3) := by decide +kernel
theorem dX1_init_12 : decode cX1_init 12 = .ok (.putfield 12, 3) := by decide +kernel
theorem dX1_init_15 : decode cX1_init 15 = .ok (.aload_n 0, 1) := by decide +kernel
theorem dX1_init_16 : decode cX1_init 16 = .ok (.new 9, 3) := by decide +kernel
theorem dX1_init_19 : decode cX1_init 19 = .ok (.dup, 1) := by decide +kernel
theorem dX1_init_20 : decode cX1_init 20 = .ok (.invokespecial 11, 3) := by decide +kernel
theorem dX1_init_23 : decode cX1_init 23 = .ok (.putfield 18, 3) := by decide +kernel
theorem dX1_init_26 : decode cX1_init 26 = .ok (.return_, 1) := by decide +kernel
set_option maxRecDepth 20000 in
theorem ggX1_length_X2_size : GoodIn wsX1_length wsX2_size := goodIn_r _ [7, 8, 53, 54] (by decide +kernel) (by decide +kernel)
set_option maxRecDepth 20000 in
theorem gX1_length_X2_size : GoodIn wsX1_length (wsV RX1 21 RX2 yX2_size wsX2_size) := goodIn_app (goodIn_of _ (by decide +kernel)) ggX1_length_X2_size
set_option maxRecDepth 20000 in
theorem ggX1_length_X2_at : GoodIn wsX1_length wsX2_at := goodIn_r _ [12, 13, 14, 15, 16, 6, 17, 8, 53, 54] (by decide +kernel) (by decide +kernel)
set_option maxRecDepth 20000 in
theorem gX1_length_X2_at : GoodIn wsX1_length (wsV RX1 27 RX2 yX2_at wsX2_at) := goodIn_app (goodIn_of _ (by decide +kernel)) ggX1_length_X2_at
set_option maxRecDepth 20000 in
theorem ggX1_length_X1_lengthAt : GoodIn wsX1_length wsX1_lengthAt := goodIn_r _ [22, 23, 24, 25, 26, 21, 27, 1, 2, 28, 29, 30, 31, 32, 33, 34, 35, 36, 37, 38, 39, 40, 41, 42, 43, 44, 45, 46, 51, 52, 55] (by decide +kernel) (by decide +kernel)
set_option maxRecDepth 20000 in
theorem gX1_length_X1_lengthAt : GoodIn wsX1_length (wsV RX1 31 RX1 yX1_lengthAt wsX1_lengthAt) := goodIn_app (goodIn_of _ (by decide +kernel)) ggX1_length_X1_lengthAt
set_option maxRecDepth 20000 in
theorem ggX1_length_X4_write : GoodIn wsX1_length wsX4_write := goodIn_r _ [50, 33, 34, 35, 31, 36, 55] (by decide +kernel) (by decide +kernel)
set_option maxRecDepth 20000 in
theorem gX1_length_X4_write : GoodIn wsX1_length (wsV RX1 35 RX4 yX4_write wsX4_write) := goodIn_app (goodIn_of _ (by decide +kernel)) ggX1_length_X4_write
set_option maxRecDepth 20000 in
theorem ggX1_length_X4_at : GoodIn wsX1_length wsX4_at := goodIn_r _ [32, 33, 34, 35, 31, 36, 55] (by decide +kernel) (by decide +kernel)
set_option maxRecDepth 20000 in
theorem gX1_length_X4_at : GoodIn wsX1_length (wsV RX1 39 RX4 yX4_at wsX4_at) := goodIn_app (goodIn_of _ (by decide +kernel)) ggX1_length_X4_at
theorem dX1_length_0 : decode cX1_length 0 = .ok (.aload_n 1, 1) := by decide +kernel
theorem dX1_length_1 : decode cX1_length 1 = .ok (.invokevirtual 21, 3) := by decide +kernel
theorem dX1_length_4 : decode cX1_length 4 = .ok (.istore 4, 2) := by decide +kernel
theorem dX1_length_6 : decode cX1_length 6 = .ok (.iload 4, 2) := by decide +kernel
theorem dX1_length_8 : decode cX1_length 8 = .ok (.ifCond .lt 100, 3) := by decide +kernel
theorem dX1_length_11 : decode cX1_length 11 = .ok (.aload_n 0, 1) := by decide +kernel
theorem dX1_length_12 : decode cX1_length 12 = .ok (.getfield 18, 3) := by decide +kernel
theorem dX1_length_15 : decode cX1_length 15 = .ok (.astore 5, 2) := by decide +kernel
theorem dX1_length_17 : decode cX1_length 17 = .ok (.aload_n 0, 1) := by decide +kernel
theorem dX1_length_18 : decode cX1_length 18 = .ok (.aload_n 0, 1) := by decide +kernel
theorem dX1_length_19 : decode cX1_length 19 = .ok (.getfield 12, 3) := by decide +kernel
theorem dX1_length_22 : decode cX1_length 22 = .ok (.putfield 18, 3) := by decide +kernel
theorem dX1_length_25 : decode cX1_length 25 = .ok (.aload_n 0, 1) := by decide +kernel
theorem dX1_length_26 : decode cX1_length 26 = .ok (.aload 5, 2) := by decide +kernel
theorem dX1_length_28 : decode cX1_length 28 = .ok (.putfield 12, 3) := by decide +kernel
theorem dX1_length_31 : decode cX1_length 31 = .ok (.aload_n 2, 1) := by decide +kernel
theorem dX1_length_32 : decode cX1_length 32 = .ok (.invokevirtual 21, 3) := by decide +kernel
theorem dX1_length_35 : decode cX1_length 35 = .ok (.istore 6, 2) := by decide +kernel
theorem dX1_length_37 : decode cX1_length 37 = .ok (.iload 6, 2) := by decide +kernel
theorem dX1_length_39 : decode cX1_length 39 = .ok (.ifCond .lt 63, 3) := by decide +kernel
theorem dX1_length_42 : decode cX1_length 42 = .ok (.aload_n 3, 1) := by decide +kernel
theorem dX1_length_43 : decode cX1_length 43 = .ok (.invokevirtual 21, 3) := by decide +kernel
theorem dX1_length_46 : decode cX1_length 46 = .ok (.istore 7, 2) := by decide +kernel
theorem dX1_length_48 : decode cX1_length 48 = .ok (.iload 7, 2) := by decide +kernel
theorem dX1_length_50 : decode cX1_length 50 = .ok (.ifCond .lt 46, 3) := by decide +kernel
theorem dX1_length_53 : decode cX1_length 53 = .ok (.aload_n 0, 1) := by decide +kernel
theorem dX1_length_54 : decode cX1_length 54 = .ok (.getfield 12, 3) := by decide +kernel
theorem dX1_length_57 : decode cX1_length 57 = .ok (.iload 6, 2) := by decide +kernel
theorem dX1_length_59 : decode cX1_length 59 = .ok (.iload 7, 2) := by decide +kernel
theorem dX1_length_61 : decode cX1_length 61 = .ok (.aload_n 0, 1) := by decide +kernel
theorem dX1_length_62 : decode cX1_length 62 = .ok (.aload_n 1, 1) := by decide +kernel
theorem dX1_length_63 : decode cX1_length 63 = .ok (.iload 4, 2) := by decide +kernel
theorem dX1_length_65 : decode cX1_length 65 = .ok (.invokevirtual 27, 3) := by decide +kernel
theorem dX1_length_68 : decode cX1_length 68 = .ok (.aload_n 2, 1) := by decide +kernel
theorem dX1_length_69 : decode cX1_length 69 = .ok (.iload 6, 2) := by decide +kernel
theorem dX1_length_71 : decode cX1_length 71 = .ok (.invokevirtual 27, 3) := by decide +kernel
theorem dX1_length_74 : decode cX1_length 74 = .ok (.iload 6, 2) := by decide +kernel
theorem dX1_length_76 : decode cX1_length 76 = .ok (.aload_n 3, 1) := by decide +kernel
theorem dX1_length_77 : decode cX1_length 77 = .ok (.iload 7, 2) := by decide +kernel
theorem dX1_length_79 : decode cX1_length 79 = .ok (.invokevirtual 27, 3) := by decide +kernel
theorem dX1_length_82 : decode cX1_length 82 = .ok (.iload 7, 2) := by decide +kernel
theorem dX1_length_84 : decode cX1_length 84 = .ok (.invokevirtual 31, 3) := by decide +kernel
theorem dX1_length_87 : decode cX1_length 87 = .ok (.invokevirtual 35, 3) := by decide +kernel
theorem dX1_length_90 : decode cX1_length 90 = .ok (.iinc 7 (-1), 3) := by decide +kernel
theorem dX1_length_93 : decode cX1_length 93 = .ok (.goto (-45), 3) := by decide +kernel
theorem dX1_length_96 : decode cX1_length 96 = .ok (.iinc 6 (-1), 3) := by decide +kernel
theorem dX1_length_99 : decode cX1_length 99 = .ok (.goto (-62), 3) := by decide +kernel
theorem dX1_length_102 : decode cX1_length 102 = .ok (.iinc 4 (-1), 3) := by decide +kernel
theorem dX1_length_105 : decode cX1_length 105 = .ok (.goto (-99), 3) := by decide +kernel
theorem dX1_length_108 : decode cX1_length 108 = .ok (.aload_n 0, 1) := by decide +kernel
theorem dX1_length_109 : decode cX1_length 109 = .ok (.getfield 12, 3) := by decide +kernel
theorem dX1_length_112 : decode cX1_length 112 = .ok (.iconst 0, 1) := by decide +kernel
theorem dX1_length_113 : decode cX1_length 113 = .ok (.iconst 0, 1) := by decide +kernel
theorem dX1_length_114 : decode cX1_length 114 = .ok (.invokevirtual 39, 3) := by decide +kernel
theorem dX1_length_117 : decode cX1_length 117 = .ok (.l2i, 1) := by decide +kernel
theorem dX1_length_118 : decode cX1_length 118 = .ok (.ireturn, 1) := by decide +kernel
set_option maxRecDepth 20000 in
theorem ggX1_lengthAt_X1_by : GoodIn wsX1_lengthAt wsX1_by := goodIn_r _ [6, 1, 7, 8, 9, 10, 11, 12, 13, 14, 15, 16, 17, 28, 29, 30] (by decide +kernel) (by decide +kernel)
set_option maxRecDepth 20000 in
theorem gX1_lengthAt_X1_by : GoodIn wsX1_lengthAt (wsV RX1 42 RX1 yX1_by wsX1_by) := goodIn_app (goodIn_of _ (by decide +kernel)) ggX1_lengthAt_X1_by
set_option maxRecDepth 20000 in
theorem ggX1_lengthAt_X1_shorter : GoodIn wsX1_lengthAt wsX1_shorter := goodIn_r _ [20, 1, 21, 22, 23, 24, 25, 26, 27] (by decide +kernel) (by decide +kernel)
set_option maxRecDepth 20000 in
theorem gX1_lengthAt_X1_shorter : GoodIn wsX1_lengthAt (va_wsS RX1 46 yX1_shorter wsX1_shorter) := goodIn_app (goodIn_of _ (by decide +kernel)) ggX1_lengthAt_X1_shorter
theorem dX1_lengthAt_0 : decode cX1_lengthAt 0 = .ok (.aload_n 0, 1) := by decide +kernel
theorem dX1_lengthAt_1 : decode cX1_lengthAt 1 = .ok (.iload_n 1, 1) := by decide +kernel
theorem dX1_lengthAt_2 : decode cX1_lengthAt 2 = .ok (.iload_n 1, 1) := by decide +kernel
theorem dX1_lengthAt_3 : decode cX1_lengthAt 3 = .ok (.iload_n 2, 1) := by decide +kernel
theorem dX1_lengthAt_4 : decode cX1_lengthAt 4 = .ok (.iload_n 3, 1) := by decide +kernel
theorem dX1_lengthAt_5 : decode cX1_lengthAt 5 = .ok (.iload 4, 2) := by decide +kernel
theorem dX1_lengthAt_7 : decode cX1_lengthAt 7 = .ok (.iload 5, 2) := by decide +kernel
theorem dX1_lengthAt_9 : decode cX1_lengthAt 9 = .ok (.invokevirtual 42, 3) := by decide +kernel
theorem dX1_lengthAt_12 : decode cX1_lengthAt 12 = .ok (.aload_n 0, 1) := by decide +kernel
theorem dX1_lengthAt_13 : decode cX1_lengthAt 13 = .ok (.iload_n 2, 1) := by decide +kernel
theorem dX1_lengthAt_14 : decode cX1_lengthAt 14 = .ok (.iload_n 1, 1) := by decide +kernel
theorem dX1_lengthAt_15 : decode cX1_lengthAt 15 = .ok (.iload_n 2, 1) := by decide +kernel
theorem dX1_lengthAt_16 : decode cX1_lengthAt 16 = .ok (.iload_n 3, 1) := by decide +kernel
theorem dX1_lengthAt_17 : decode cX1_lengthAt 17 = .ok (.iload 4, 2) := by decide +kernel
theorem dX1_lengthAt_19 : decode cX1_lengthAt 19 = .ok (.iload 5, 2) := by decide +kernel
theorem dX1_lengthAt_21 : decode cX1_lengthAt 21 = .ok (.invokevirtual 42, 3) := by decide +kernel
theorem dX1_lengthAt_24 : decode cX1_lengthAt 24 = .ok (.invokestatic 46, 3) := by decide +kernel
theorem dX1_lengthAt_27 : decode cX1_lengthAt 27 = .ok (.lstore 6, 2) := by decide +kernel
theorem dX1_lengthAt_29 : decode cX1_lengthAt 29 = .ok (.lload 6, 2) := by decide +kernel
theorem dX1_lengthAt_31 : decode cX1_lengthAt 31 = .ok (.aload_n 0, 1) := by decide +kernel
theorem dX1_lengthAt_32 : decode cX1_lengthAt 32 = .ok (.iload 4, 2) := by decide +kernel
theorem dX1_lengthAt_34 : decode cX1_lengthAt 34 = .ok (.iload_n 1, 1) := by decide +kernel
theorem dX1_lengthAt_35 : decode cX1_lengthAt 35 = .ok (.iload_n 2, 1) := by decide +kernel
theorem dX1_lengthAt_36 : decode cX1_lengthAt 36 = .ok (.iload_n 3, 1) := by decide +kernel
theorem dX1_lengthAt_37 : decode cX1_lengthAt 37 = .ok (.iload 4, 2) := by decide +kernel
theorem dX1_lengthAt_39 : decode cX1_lengthAt 39 = .ok (.iload 5, 2) := by decide +kernel
theorem dX1_lengthAt_41 : decode cX1_lengthAt 41 = .ok (.invokevirtual 42, 3) := by decide +kernel
theorem dX1_lengthAt_44 : decode cX1_lengthAt 44 = .ok (.invokestatic 46, 3) := by decide +kernel
theorem dX1_lengthAt_47 : decode cX1_lengthAt 47 = .ok (.lstore 6, 2) := by decide +kernel
theorem dX1_lengthAt_49 : decode cX1_lengthAt 49 = .ok (.lload 6, 2) := by decide +kernel
theorem dX1_lengthAt_51 : decode cX1_lengthAt 51 = .ok (.ldc2_w 50, 3) := by decide +kernel
theorem dX1_lengthAt_54 : decode cX1_lengthAt 54 = .ok (.lcmp, 1) := by decide +kernel
theorem dX1_lengthAt_55 : decode cX1_lengthAt 55 = .ok (.ifCond .ne 7, 3) := by decide +kernel
theorem dX1_lengthAt_58 : decode cX1_lengthAt 58 = .ok (.lconst 0, 1) := by decide +kernel
theorem dX1_lengthAt_59 : decode cX1_lengthAt 59 = .ok (.goto 5, 3) := by decide +kernel
theorem dX1_lengthAt_62 : decode cX1_lengthAt 62 = .ok (.lload 6, 2) := by decide +kernel
theorem dX1_lengthAt_64 : decode cX1_lengthAt 64 = .ok (.lreturn, 1) := by decide +kernel
set_option maxRecDepth 20000 in
theorem ggX1_by_X4_at : GoodIn wsX1_by wsX4_at := goodIn_r _ [8, 9, 10, 11, 7, 12, 15] (by decide +kernel) (by decide +kernel)
set_option maxRecDepth 20000 in
theorem gX1_by_X4_at : GoodIn wsX1_by (wsV RX1 39 RX4 yX4_at wsX4_at) := goodIn_app (goodIn_of _ (by decide +kernel)) ggX1_by_X4_at
theorem dX1_by_0 : decode cX1_by 0 = .ok (.iload_n 1, 1) := by decide +kernel
theorem dX1_by_1 : decode cX1_by 1 = .ok (.bipush (-9), 2) := by decide +kernel
theorem dX1_by_3 : decode cX1_by 3 = .ok (.if_icmp .ne 7, 3) := by decide +kernel
theorem dX1_by_6 : decode cX1_by 6 = .ok (.ldc2_w 50, 3) := by decide +kernel
theorem dX1_by_9 : decode cX1_by 9 = .ok (.lreturn, 1) := by decide +kernel
theorem dX1_by_10 : decode cX1_by 10 = .ok (.iload_n 3, 1) := by decide +kernel
theorem dX1_by_11 : decode cX1_by 11 = .ok (.iload_n 1, 1) := by decide +kernel
theorem dX1_by_12 : decode cX1_by 12 = .ok (.if_icmp .ne 10, 3) := by decide +kernel
theorem dX1_by_15 : decode cX1_by 15 = .ok (.iload 4, 2) := by decide +kernel
theorem dX1_by_17 : decode cX1_by 17 = .ok (.iconst 1, 1) := by decide +kernel
theorem dX1_by_18 : decode cX1_by 18 = .ok (.iadd, 1) := by decide +kernel
theorem dX1_by_19 : decode cX1_by 19 = .ok (.goto 5, 3) := by decide +kernel
theorem dX1_by_22 : decode cX1_by 22 = .ok (.iload 4, 2) := by decide +kernel
theorem dX1_by_24 : decode cX1_by 24 = .ok (.istore 7, 2) := by decide +kernel
theorem dX1_by_26 : decode cX1_by 26 = .ok (.iload 5, 2) := by decide +kernel
theorem dX1_by_28 : decode cX1_by 28 = .ok (.iload_n 1, 1) := by decide +kernel
theorem dX1_by_29 : decode cX1_by 29 = .ok (.if_icmp .ne 10, 3) := by decide +kernel
theorem dX1_by_32 : decode cX1_by 32 = .ok (.iload 6, 2) := by decide +kernel
theorem dX1_by_34 : decode cX1_by 34 = .ok (.iconst 1, 1) := by decide +kernel
theorem dX1_by_35 : decode cX1_by 35 = .ok (.iadd, 1) := by decide +kernel
theorem dX1_by_36 : decode cX1_by 36 = .ok (.goto 5, 3) := by decide +kernel
theorem dX1_by_39 : decode cX1_by 39 = .ok (.iload 6, 2) := by decide +kernel
theorem dX1_by_41 : decode cX1_by 41 = .ok (.istore 8, 2) := by decide +kernel
theorem dX1_by_43 : decode cX1_by 43 = .ok (.lconst 1, 1) := by decide +kernel
theorem dX1_by_44 : decode cX1_by 44 = .ok (.iload_n 2, 1) := by decide +kernel
theorem dX1_by_45 : decode cX1_by 45 = .ok (.iload_n 1, 1) := by decide +kernel
theorem dX1_by_46 : decode cX1_by 46 = .ok (.if_icmp .ne 17, 3) := by decide +kernel
theorem dX1_by_49 : decode cX1_by 49 = .ok (.aload_n 0, 1) := by decide +kernel
theorem dX1_by_50 : decode cX1_by 50 = .ok (.getfield 18, 3) := by decide +kernel
theorem dX1_by_53 : decode cX1_by 53 = .ok (.iload 7, 2) := by decide +kernel
theorem dX1_by_55 : decode cX1_by 55 = .ok (.iload 8, 2) := by decide +kernel
theorem dX1_by_57 : decode cX1_by 57 = .ok (.invokevirtual 39, 3) := by decide +kernel
theorem dX1_by_60 : decode cX1_by 60 = .ok (.goto 14, 3) := by decide +kernel
theorem dX1_by_63 : decode cX1_by 63 = .ok (.aload_n 0, 1) := by decide +kernel
theorem dX1_by_64 : decode cX1_by 64 = .ok (.getfield 12, 3) := by decide +kernel
theorem dX1_by_67 : decode cX1_by 67 = .ok (.iload 7, 2) := by decide +kernel
theorem dX1_by_69 : decode cX1_by 69 = .ok (.iload 8, 2) := by decide +kernel
theorem dX1_by_71 : decode cX1_by 71 = .ok (.invokevirtual 39, 3) := by decide +kernel
theorem dX1_by_74 : decode cX1_by 74 = .ok (.ladd, 1) := by decide +kernel
theorem dX1_by_75 : decode cX1_by 75 = .ok (.lreturn, 1) := by decide +kernel
theorem dX1_shorter_0 : decode cX1_shorter 0 = .ok (.lload_n 0, 1) := by decide +kernel
theorem dX1_shorter_1 : decode cX1_shorter 1 = .ok (.ldc2_w 50, 3) := by decide +kernel
theorem dX1_shorter_4 : decode cX1_shorter 4 = .ok (.lcmp, 1) := by decide +kernel
theorem dX1_shorter_5 : decode cX1_shorter 5 = .ok (.ifCond .eq 11, 3) := by decide +kernel
theorem dX1_shorter_8 : decode cX1_shorter 8 = .ok (.lload_n 2, 1) := by decide +kernel
theorem dX1_shorter_9 : decode cX1_shorter 9 = .ok (.ldc2_w 50, 3) := by decide +kernel
theorem dX1_shorter_12 : decode cX1_shorter 12 = .ok (.lcmp, 1) := by decide +kernel
theorem dX1_shorter_13 : decode cX1_shorter 13 = .ok (.ifCond .ne 9, 3) := by decide +kernel
theorem dX1_shorter_16 : decode cX1_shorter 16 = .ok (.lload_n 0, 1) := by decide +kernel
theorem dX1_shorter_17 : decode cX1_shorter 17 = .ok (.lload_n 2, 1) := by decide +kernel
theorem dX1_shorter_18 : decode cX1_shorter 18 = .ok (.invokestatic 52, 3) := by decide +kernel
theorem dX1_shorter_21 : decode cX1_shorter 21 = .ok (.lreturn, 1) := by decide +kernel
theorem dX1_shorter_22 : decode cX1_shorter 22 = .ok (.lload_n 0, 1) := by decide +kernel
theorem dX1_shorter_23 : decode cX1_shorter 23 = .ok (.lload_n 2, 1) := by decide +kernel
theorem dX1_shorter_24 : decode cX1_shorter 24 = .ok (.invokestatic 57, 3) := by decide +kernel
theorem dX1_shorter_27 : decode cX1_shorter 27 = .ok (.lreturn, 1) := by decide +kernel
theorem dX2_init_0 : decode cX2_init 0 = .ok (.aload_n 0, 1) := by decide +kernel
theorem dX2_init_1 : decode cX2_init 1 = .ok (.invokespecial 3, 3) := by decide +kernel
theorem dX2_init_4 : decode cX2_init 4 = .ok (.aload_n 0, 1) := by decide +kernel
theorem dX2_init_5 : decode cX2_init 5 = .ok (.bipush 12, 2) := by decide +kernel
theorem dX2_init_7 : decode cX2_init 7 = .ok (.newarray .int, 2) := by decide +kernel
theorem dX2_init_9 : decode cX2_init 9 = .ok (.putfield 9, 3) := by decide +kernel
theorem dX2_init_12 : decode cX2_init 12 = .ok (.aload_n 0, 1) := by decide +kernel
theorem dX2_init_13 : decode cX2_init 13 = .ok (.iconst 0, 1) := by decide +kernel
theorem dX2_init_14 : decode cX2_init 14 = .ok (.putfield 15, 3) := by decide +kernel
theorem dX2_init_17 : decode cX2_init 17 = .ok (.return_, 1) := by decide +kernel
theorem dX2_size_0 : decode cX2_size 0 = .ok (.aload_n 0, 1) := by decide +kernel
theorem dX2_size_1 : decode cX2_size 1 = .ok (.getfield 15, 3) := by decide +kernel
theorem dX2_size_4 : decode cX2_size 4 = .ok (.ireturn, 1) := by decide +kernel
theorem dX2_isFull_0 : decode cX2_isFull 0 = .ok (.aload_n 0, 1) := by decide +kernel
theorem dX2_isFull_1 : decode cX2_isFull 1 = .ok (.getfield 15, 3) := by decide +kernel
theorem dX2_isFull_4 : decode cX2_isFull 4 = .ok (.bipush 12, 2) := by decide +kernel
theorem dX2_isFull_6 : decode cX2_isFull 6 = .ok (.if_icmp .lt 7, 3) := by decide +kernel
theorem dX2_isFull_9 : decode cX2_isFull 9 = .ok (.iconst 1, 1) := by decide +kernel
theorem dX2_isFull_10 : decode cX2_isFull 10 = .ok (.goto 4, 3) := by decide +kernel
theorem dX2_isFull_13 : decode cX2_isFull 13 = .ok (.iconst 0, 1) := by decide +kernel
theorem dX2_isFull_14 : decode cX2_isFull 14 = .ok (.ireturn, 1) := by decide +kernel
theorem dX2_has_0 : decode cX2_has 0 = .ok (.iload_n 1, 1) := by decide +kernel
theorem dX2_has_1 : decode cX2_has 1 = .ok (.ifCond .lt 15, 3) := by decide +kernel
theorem dX2_has_4 : decode cX2_has 4 = .ok (.iload_n 1, 1) := by decide +kernel
theorem dX2_has_5 : decode cX2_has 5 = .ok (.aload_n 0, 1) := by decide +kernel
theorem dX2_has_6 : decode cX2_has 6 = .ok (.getfield 15, 3) := by decide +kernel
theorem dX2_has_9 : decode cX2_has 9 = .ok (.if_icmp .ge 7, 3) := by decide +kernel
theorem dX2_has_12 : decode cX2_has 12 = .ok (.iconst 1, 1) := by decide +kernel
theorem dX2_has_13 : decode cX2_has 13 = .ok (.goto 4, 3) := by decide +kernel
theorem dX2_has_16 : decode cX2_has 16 = .ok (.iconst 0, 1) := by decide +kernel
theorem dX2_has_17 : decode cX2_has 17 = .ok (.ireturn, 1) := by decide +kernel
set_option maxRecDepth 20000 in
theorem ggX2_at_X2_has : GoodIn wsX2_at wsX2_has := goodIn_r _ [6, 7, 8, 9] (by decide +kernel) (by decide +kernel)
set_option maxRecDepth 20000 in
theorem gX2_at_X2_has : GoodIn wsX2_at (wsV RX2 19 RX2 yX2_has wsX2_has) := goodIn_app (goodIn_of _ (by decide +kernel)) ggX2_at_X2_has
theorem dX2_at_0 : decode cX2_at 0 = .ok (.aload_n 0, 1) := by decide +kernel
theorem dX2_at_1 : decode cX2_at 1 = .ok (.iload_n 1, 1) := by decide +kernel
theorem dX2_at_2 : decode cX2_at 2 = .ok (.invokevirtual 19, 3) := by decide +kernel
theorem dX2_at_5 : decode cX2_at 5 = .ok (.ifCond .eq 12, 3) := by decide +kernel
theorem dX2_at_8 : decode cX2_at 8 = .ok (.aload_n 0, 1) := by decide +kernel
theorem dX2_at_9 : decode cX2_at 9 = .ok (.getfield 9, 3) := by decide +kernel
theorem dX2_at_12 : decode cX2_at 12 = .ok (.iload_n 1, 1) := by decide +kernel
theorem dX2_at_13 : decode cX2_at 13 = .ok (.iaload, 1) := by decide +kernel
theorem dX2_at_14 : decode cX2_at 14 = .ok (.goto 5, 3) := by decide +kernel
theorem dX2_at_17 : decode cX2_at 17 = .ok (.bipush (-9), 2) := by decide +kernel
theorem dX2_at_19 : decode cX2_at 19 = .ok (.ireturn, 1) := by decide +kernel
theorem dX2_hasWord_0 : decode cX2_hasWord 0 = .ok (.iconst 0, 1) := by decide +kernel
theorem dX2_hasWord_1 : decode cX2_hasWord 1 = .ok (.istore_n 2, 1) := by decide +kernel
theorem dX2_hasWord_2 : decode cX2_hasWord 2 = .ok (.iload_n 2, 1) := by decide +kernel
theorem dX2_hasWord_3 : decode cX2_hasWord 3 = .ok (.aload_n 0, 1) := by decide +kernel
theorem dX2_hasWord_4 : decode cX2_hasWord 4 = .ok (.getfield 15, 3) := by decide +kernel
theorem dX2_hasWord_7 : decode cX2_hasWord 7 = .ok (.if_icmp .ge 21, 3) := by decide +kernel
theorem dX2_hasWord_10 : decode cX2_hasWord 10 = .ok (.aload_n 0, 1) := by decide +kernel
theorem dX2_hasWord_11 : decode cX2_hasWord 11 = .ok (.getfield 9, 3) := by decide +kernel
theorem dX2_hasWord_14 : decode cX2_hasWord 14 = .ok (.iload_n 2, 1) := by decide +kernel
theorem dX2_hasWord_15 : decode cX2_hasWord 15 = .ok (.iaload, 1) := by decide +kernel
theorem dX2_hasWord_16 : decode cX2_hasWord 16 = .ok (.iload_n 1, 1) := by decide +kernel
theorem dX2_hasWord_17 : decode cX2_hasWord 17 = .ok (.if_icmp .ne 5, 3) := by decide +kernel
theorem dX2_hasWord_20 : decode cX2_hasWord 20 = .ok (.iconst 1, 1) := by decide +kernel
theorem dX2_hasWord_21 : decode cX2_hasWord 21 = .ok (.ireturn, 1) := by decide +kernel
theorem dX2_hasWord_22 : decode cX2_hasWord 22 = .ok (.iinc 2 1, 3) := by decide +kernel
theorem dX2_hasWord_25 : decode cX2_hasWord 25 = .ok (.goto (-23), 3) := by decide +kernel
theorem dX2_hasWord_28 : decode cX2_hasWord 28 = .ok (.iconst 0, 1) := by decide +kernel
theorem dX2_hasWord_29 : decode cX2_hasWord 29 = .ok (.ireturn, 1) := by decide +kernel
theorem dX2_clear_0 : decode cX2_clear 0 = .ok (.aload_n 0, 1) := by decide +kernel
theorem dX2_clear_1 : decode cX2_clear 1 = .ok (.iconst 0, 1) := by decide +kernel
theorem dX2_clear_2 : decode cX2_clear 2 = .ok (.putfield 15, 3) := by decide +kernel
theorem dX2_clear_5 : decode cX2_clear 5 = .ok (.return_, 1) := by decide +kernel
set_option maxRecDepth 20000 in
theorem ggX2_insert_X2_isFull : GoodIn wsX2_insert wsX2_isFull := goodIn_r _ [7, 1, 8, 9] (by decide +kernel) (by decide +kernel)
set_option maxRecDepth 20000 in
theorem gX2_insert_X2_isFull : GoodIn wsX2_insert (wsV RX2 23 RX2 yX2_isFull wsX2_isFull) := goodIn_app (goodIn_of _ (by decide +kernel)) ggX2_insert_X2_isFull
theorem dX2_insert_0 : decode cX2_insert 0 = .ok (.aload_n 0, 1) := by decide +kernel
theorem dX2_insert_1 : decode cX2_insert 1 = .ok (.invokevirtual 23, 3) := by decide +kernel
theorem dX2_insert_4 : decode cX2_insert 4 = .ok (.ifCond .ne 15, 3) := by decide +kernel
theorem dX2_insert_7 : decode cX2_insert 7 = .ok (.iload_n 1, 1) := by decide +kernel
theorem dX2_insert_8 : decode cX2_insert 8 = .ok (.ifCond .lt 11, 3) := by decide +kernel
theorem dX2_insert_11 : decode cX2_insert 11 = .ok (.iload_n 1, 1) := by decide +kernel
theorem dX2_insert_12 : decode cX2_insert 12 = .ok (.aload_n 0, 1) := by decide +kernel
theorem dX2_insert_13 : decode cX2_insert 13 = .ok (.getfield 15, 3) := by decide +kernel
theorem dX2_insert_16 : decode cX2_insert 16 = .ok (.if_icmp .le 4, 3) := by decide +kernel
theorem dX2_insert_19 : decode cX2_insert 19 = .ok (.return_, 1) := by decide +kernel
theorem dX2_insert_20 : decode cX2_insert 20 = .ok (.aload_n 0, 1) := by decide +kernel
theorem dX2_insert_21 : decode cX2_insert 21 = .ok (.getfield 15, 3) := by decide +kernel
theorem dX2_insert_24 : decode cX2_insert 24 = .ok (.istore_n 3, 1) := by decide +kernel
theorem dX2_insert_25 : decode cX2_insert 25 = .ok (.iload_n 3, 1) := by decide +kernel
theorem dX2_insert_26 : decode cX2_insert 26 = .ok (.iload_n 1, 1) := by decide +kernel
theorem dX2_insert_27 : decode cX2_insert 27 = .ok (.if_icmp .le 23, 3) := by decide +kernel
theorem dX2_insert_30 : decode cX2_insert 30 = .ok (.aload_n 0, 1) := by decide +kernel
theorem dX2_insert_31 : decode cX2_insert 31 = .ok (.getfield 9, 3) := by decide +kernel
theorem dX2_insert_34 : decode cX2_insert 34 = .ok (.iload_n 3, 1) := by decide +kernel
theorem dX2_insert_35 : decode cX2_insert 35 = .ok (.aload_n 0, 1) := by decide +kernel
theorem dX2_insert_36 : decode cX2_insert 36 = .ok (.getfield 9, 3) := by decide +kernel
theorem dX2_insert_39 : decode cX2_insert 39 = .ok (.iload_n 3, 1) := by decide +kernel
theorem dX2_insert_40 : decode cX2_insert 40 = .ok (.iconst 1, 1) := by decide +kernel
theorem dX2_insert_41 : decode cX2_insert 41 = .ok (.isub, 1) := by decide +kernel
theorem dX2_insert_42 : decode cX2_insert 42 = .ok (.iaload, 1) := by decide +kernel
theorem dX2_insert_43 : decode cX2_insert 43 = .ok (.iastore, 1) := by decide +kernel
theorem dX2_insert_44 : decode cX2_insert 44 = .ok (.iinc 3 (-1), 3) := by decide +kernel
theorem dX2_insert_47 : decode cX2_insert 47 = .ok (.goto (-22), 3) := by decide +kernel
theorem dX2_insert_50 : decode cX2_insert 50 = .ok (.aload_n 0, 1) := by decide +kernel
theorem dX2_insert_51 : decode cX2_insert 51 = .ok (.getfield 9, 3) := by decide +kernel
theorem dX2_insert_54 : decode cX2_insert 54 = .ok (.iload_n 1, 1) := by decide +kernel
theorem dX2_insert_55 : decode cX2_insert 55 = .ok (.iload_n 2, 1) := by decide +kernel
theorem dX2_insert_56 : decode cX2_insert 56 = .ok (.iastore, 1) := by decide +kernel
theorem dX2_insert_57 : decode cX2_insert 57 = .ok (.aload_n 0, 1) := by decide +kernel
theorem dX2_insert_58 : decode cX2_insert 58 = .ok (.dup, 1) := by decide +kernel
theorem dX2_insert_59 : decode cX2_insert 59 = .ok (.getfield 15, 3) := by decide +kernel
theorem dX2_insert_62 : decode cX2_insert 62 = .ok (.iconst 1, 1) := by decide +kernel
theorem dX2_insert_63 : decode cX2_insert 63 = .ok (.iadd, 1) := by decide +kernel
theorem dX2_insert_64 : decode cX2_insert 64 = .ok (.putfield 15, 3) := by decide +kernel
theorem dX2_insert_67 : decode cX2_insert 67 = .ok (.return_, 1) := by decide +kernel
theorem dX3_init_0 : decode cX3_init 0 = .ok (.aload_n 0, 1) := by decide +kernel
theorem dX3_init_1 : decode cX3_init 1 = .ok (.invokespecial 3, 3) := by decide +kernel
theorem dX3_init_4 : decode cX3_init 4 = .ok (.aload_n 0, 1) := by decide +kernel
theorem dX3_init_5 : decode cX3_init 5 = .ok (.bipush 12, 2) := by decide +kernel
theorem dX3_init_7 : decode cX3_init 7 = .ok (.newarray .int, 2) := by decide +kernel
theorem dX3_init_9 : decode cX3_init 9 = .ok (.putfield 9, 3) := by decide +kernel
theorem dX3_init_12 : decode cX3_init 12 = .ok (.aload_n 0, 1) := by decide +kernel
theorem dX3_init_13 : decode cX3_init 13 = .ok (.bipush 12, 2) := by decide +kernel
theorem dX3_init_15 : decode cX3_init 15 = .ok (.newarray .int, 2) := by decide +kernel
theorem dX3_init_17 : decode cX3_init 17 = .ok (.putfield 15, 3) := by decide +kernel
theorem dX3_init_20 : decode cX3_init 20 = .ok (.aload_n 0, 1) := by decide +kernel
theorem dX3_init_21 : decode cX3_init 21 = .ok (.bipush 13, 2) := by decide +kernel
theorem dX3_init_23 : decode cX3_init 23 = .ok (.newarray .long, 2) := by decide +kernel
theorem dX3_init_25 : decode cX3_init 25 = .ok (.putfield 18, 3) := by decide +kernel
theorem dX3_init_28 : decode cX3_init 28 = .ok (.return_, 1) := by decide +kernel
set_option maxRecDepth 20000 in
theorem ggX3_make_X2_size : GoodIn wsX3_make wsX2_size := goodIn_r _ [7, 8, 22, 23] (by decide +kernel) (by decide +kernel)
set_option maxRecDepth 20000 in
theorem gX3_make_X2_size : GoodIn wsX3_make (wsV RX3 22 RX2 yX2_size wsX2_size) := goodIn_app (goodIn_of _ (by decide +kernel)) ggX3_make_X2_size
set_option maxRecDepth 20000 in
theorem ggX3_make_X2_has : GoodIn wsX3_make wsX2_has := goodIn_r _ [12, 8, 22, 23] (by decide +kernel) (by decide +kernel)
set_option maxRecDepth 20000 in
theorem gX3_make_X2_has : GoodIn wsX3_make (wsV RX3 28 RX2 yX2_has wsX2_has) := goodIn_app (goodIn_of _ (by decide +kernel)) ggX3_make_X2_has
set_option maxRecDepth 20000 in
theorem ggX3_make_X2_at : GoodIn wsX3_make wsX2_at := goodIn_r _ [16, 17, 18, 10, 11, 6, 12, 8, 22, 23] (by decide +kernel) (by decide +kernel)
set_option maxRecDepth 20000 in
theorem gX3_make_X2_at : GoodIn wsX3_make (wsV RX3 32 RX2 yX2_at wsX2_at) := goodIn_app (goodIn_of _ (by decide +kernel)) ggX3_make_X2_at
theorem dX3_make_0 : decode cX3_make 0 = .ok (.iconst 0, 1) := by decide +kernel
theorem dX3_make_1 : decode cX3_make 1 = .ok (.istore_n 3, 1) := by decide +kernel
theorem dX3_make_2 : decode cX3_make 2 = .ok (.iconst 0, 1) := by decide +kernel
theorem dX3_make_3 : decode cX3_make 3 = .ok (.istore 4, 2) := by decide +kernel
theorem dX3_make_5 : decode cX3_make 5 = .ok (.iload 4, 2) := by decide +kernel
theorem dX3_make_7 : decode cX3_make 7 = .ok (.aload_n 2, 1) := by decide +kernel
theorem dX3_make_8 : decode cX3_make 8 = .ok (.invokevirtual 22, 3) := by decide +kernel
theorem dX3_make_11 : decode cX3_make 11 = .ok (.if_icmp .ge 42, 3) := by decide +kernel
theorem dX3_make_14 : decode cX3_make 14 = .ok (.aload_n 1, 1) := by decide +kernel
theorem dX3_make_15 : decode cX3_make 15 = .ok (.iload_n 3, 1) := by decide +kernel
theorem dX3_make_16 : decode cX3_make 16 = .ok (.invokevirtual 28, 3) := by decide +kernel
theorem dX3_make_19 : decode cX3_make 19 = .ok (.ifCond .eq 28, 3) := by decide +kernel
theorem dX3_make_22 : decode cX3_make 22 = .ok (.aload_n 1, 1) := by decide +kernel
theorem dX3_make_23 : decode cX3_make 23 = .ok (.iload_n 3, 1) := by decide +kernel
theorem dX3_make_24 : decode cX3_make 24 = .ok (.invokevirtual 32, 3) := by decide +kernel
theorem dX3_make_27 : decode cX3_make 27 = .ok (.aload_n 2, 1) := by decide +kernel
theorem dX3_make_28 : decode cX3_make 28 = .ok (.iload 4, 2) := by decide +kernel
theorem dX3_make_30 : decode cX3_make 30 = .ok (.invokevirtual 32, 3) := by decide +kernel
theorem dX3_make_33 : decode cX3_make 33 = .ok (.if_icmp .ne 14, 3) := by decide +kernel
theorem dX3_make_36 : decode cX3_make 36 = .ok (.aload_n 0, 1) := by decide +kernel
theorem dX3_make_37 : decode cX3_make 37 = .ok (.getfield 9, 3) := by decide +kernel
theorem dX3_make_40 : decode cX3_make 40 = .ok (.iload_n 3, 1) := by decide +kernel
theorem dX3_make_41 : decode cX3_make 41 = .ok (.iload 4, 2) := by decide +kernel
theorem dX3_make_43 : decode cX3_make 43 = .ok (.iastore, 1) := by decide +kernel
theorem dX3_make_44 : decode cX3_make 44 = .ok (.iinc 3 1, 3) := by decide +kernel
theorem dX3_make_47 : decode cX3_make 47 = .ok (.iinc 4 1, 3) := by decide +kernel
theorem dX3_make_50 : decode cX3_make 50 = .ok (.goto (-45), 3) := by decide +kernel
theorem dX3_make_53 : decode cX3_make 53 = .ok (.iload_n 3, 1) := by decide +kernel
theorem dX3_make_54 : decode cX3_make 54 = .ok (.aload_n 1, 1) := by decide +kernel
theorem dX3_make_55 : decode cX3_make 55 = .ok (.invokevirtual 22, 3) := by decide +kernel
theorem dX3_make_58 : decode cX3_make 58 = .ok (.if_icmp .ge 5, 3) := by decide +kernel
theorem dX3_make_61 : decode cX3_make 61 = .ok (.iconst 0, 1) := by decide +kernel
theorem dX3_make_62 : decode cX3_make 62 = .ok (.ireturn, 1) := by decide +kernel
theorem dX3_make_63 : decode cX3_make 63 = .ok (.aload_n 1, 1) := by decide +kernel
theorem dX3_make_64 : decode cX3_make 64 = .ok (.invokevirtual 22, 3) := by decide +kernel
theorem dX3_make_67 : decode cX3_make 67 = .ok (.iconst 1, 1) := by decide +kernel
theorem dX3_make_68 : decode cX3_make 68 = .ok (.isub, 1) := by decide +kernel
theorem dX3_make_69 : decode cX3_make 69 = .ok (.istore_n 3, 1) := by decide +kernel
theorem dX3_make_70 : decode cX3_make 70 = .ok (.aload_n 2, 1) := by decide +kernel
theorem dX3_make_71 : decode cX3_make 71 = .ok (.invokevirtual 22, 3) := by decide +kernel
theorem dX3_make_74 : decode cX3_make 74 = .ok (.iconst 1, 1) := by decide +kernel
theorem dX3_make_75 : decode cX3_make 75 = .ok (.isub, 1) := by decide +kernel
theorem dX3_make_76 : decode cX3_make 76 = .ok (.istore 4, 2) := by decide +kernel
theorem dX3_make_78 : decode cX3_make 78 = .ok (.iload 4, 2) := by decide +kernel
theorem dX3_make_80 : decode cX3_make 80 = .ok (.ifCond .lt 42, 3) := by decide +kernel
theorem dX3_make_83 : decode cX3_make 83 = .ok (.aload_n 1, 1) := by decide +kernel
theorem dX3_make_84 : decode cX3_make 84 = .ok (.iload_n 3, 1) := by decide +kernel
theorem dX3_make_85 : decode cX3_make 85 = .ok (.invokevirtual 28, 3) := by decide +kernel
theorem dX3_make_88 : decode cX3_make 88 = .ok (.ifCond .eq 28, 3) := by decide +kernel
theorem dX3_make_91 : decode cX3_make 91 = .ok (.aload_n 1, 1) := by decide +kernel
theorem dX3_make_92 : decode cX3_make 92 = .ok (.iload_n 3, 1) := by decide +kernel
theorem dX3_make_93 : decode cX3_make 93 = .ok (.invokevirtual 32, 3) := by decide +kernel
theorem dX3_make_96 : decode cX3_make 96 = .ok (.aload_n 2, 1) := by decide +kernel
theorem dX3_make_97 : decode cX3_make 97 = .ok (.iload 4, 2) := by decide +kernel
theorem dX3_make_99 : decode cX3_make 99 = .ok (.invokevirtual 32, 3) := by decide +kernel
theorem dX3_make_102 : decode cX3_make 102 = .ok (.if_icmp .ne 14, 3) := by decide +kernel
theorem dX3_make_105 : decode cX3_make 105 = .ok (.aload_n 0, 1) := by decide +kernel
theorem dX3_make_106 : decode cX3_make 106 = .ok (.getfield 15, 3) := by decide +kernel
theorem dX3_make_109 : decode cX3_make 109 = .ok (.iload_n 3, 1) := by decide +kernel
theorem dX3_make_110 : decode cX3_make 110 = .ok (.iload 4, 2) := by decide +kernel
theorem dX3_make_112 : decode cX3_make 112 = .ok (.iastore, 1) := by decide +kernel
theorem dX3_make_113 : decode cX3_make 113 = .ok (.iinc 3 (-1), 3) := by decide +kernel
theorem dX3_make_116 : decode cX3_make 116 = .ok (.iinc 4 (-1), 3) := by decide +kernel
theorem dX3_make_119 : decode cX3_make 119 = .ok (.goto (-41), 3) := by decide +kernel
theorem dX3_make_122 : decode cX3_make 122 = .ok (.iconst 1, 1) := by decide +kernel
theorem dX3_make_123 : decode cX3_make 123 = .ok (.ireturn, 1) := by decide +kernel
theorem dX3_first_0 : decode cX3_first 0 = .ok (.iload_n 1, 1) := by decide +kernel
theorem dX3_first_1 : decode cX3_first 1 = .ok (.ifCond .lt 18, 3) := by decide +kernel
theorem dX3_first_4 : decode cX3_first 4 = .ok (.iload_n 1, 1) := by decide +kernel
theorem dX3_first_5 : decode cX3_first 5 = .ok (.bipush 12, 2) := by decide +kernel
theorem dX3_first_7 : decode cX3_first 7 = .ok (.if_icmp .ge 12, 3) := by decide +kernel
theorem dX3_first_10 : decode cX3_first 10 = .ok (.aload_n 0, 1) := by decide +kernel
theorem dX3_first_11 : decode cX3_first 11 = .ok (.getfield 9, 3) := by decide +kernel
theorem dX3_first_14 : decode cX3_first 14 = .ok (.iload_n 1, 1) := by decide +kernel
theorem dX3_first_15 : decode cX3_first 15 = .ok (.iaload, 1) := by decide +kernel
theorem dX3_first_16 : decode cX3_first 16 = .ok (.goto 5, 3) := by decide +kernel
theorem dX3_first_19 : decode cX3_first 19 = .ok (.bipush (-9), 2) := by decide +kernel
theorem dX3_first_21 : decode cX3_first 21 = .ok (.ireturn, 1) := by decide +kernel
theorem dX3_last_0 : decode cX3_last 0 = .ok (.iload_n 1, 1) := by decide +kernel
theorem dX3_last_1 : decode cX3_last 1 = .ok (.ifCond .lt 18, 3) := by decide +kernel
theorem dX3_last_4 : decode cX3_last 4 = .ok (.iload_n 1, 1) := by decide +kernel
theorem dX3_last_5 : decode cX3_last 5 = .ok (.bipush 12, 2) := by decide +kernel
theorem dX3_last_7 : decode cX3_last 7 = .ok (.if_icmp .ge 12, 3) := by decide +kernel
theorem dX3_last_10 : decode cX3_last 10 = .ok (.aload_n 0, 1) := by decide +kernel
theorem dX3_last_11 : decode cX3_last 11 = .ok (.getfield 15, 3) := by decide +kernel
theorem dX3_last_14 : decode cX3_last 14 = .ok (.iload_n 1, 1) := by decide +kernel
theorem dX3_last_15 : decode cX3_last 15 = .ok (.iaload, 1) := by decide +kernel
theorem dX3_last_16 : decode cX3_last 16 = .ok (.goto 5, 3) := by decide +kernel
theorem dX3_last_19 : decode cX3_last 19 = .ok (.bipush (-9), 2) := by decide +kernel
theorem dX3_last_21 : decode cX3_last 21 = .ok (.ireturn, 1) := by decide +kernel
set_option maxRecDepth 20000 in
theorem ggX3_canStand_X3_make : GoodIn wsX3_canStand wsX3_make := goodIn_r _ [5, 6, 7, 8, 9, 10, 11, 12, 13, 14, 15, 16, 17, 18, 19, 20, 21, 22, 23, 32, 33, 34, 35, 36] (by decide +kernel) (by decide +kernel)
set_option maxRecDepth 20000 in
theorem gX3_canStand_X3_make : GoodIn wsX3_canStand (wsV RX3 36 RX3 yX3_make wsX3_make) := goodIn_app (goodIn_of _ (by decide +kernel)) ggX3_canStand_X3_make
set_option maxRecDepth 20000 in
theorem ggX3_canStand_X2_size : GoodIn wsX3_canStand wsX2_size := goodIn_r _ [12, 13, 35, 36] (by decide +kernel) (by decide +kernel)
set_option maxRecDepth 20000 in
theorem gX3_canStand_X2_size : GoodIn wsX3_canStand (wsV RX3 22 RX2 yX2_size wsX2_size) := goodIn_app (goodIn_of _ (by decide +kernel)) ggX3_canStand_X2_size
set_option maxRecDepth 20000 in
theorem ggX3_canStand_X2_at : GoodIn wsX3_canStand wsX2_at := goodIn_r _ [21, 22, 23, 15, 16, 11, 17, 13, 35, 36] (by decide +kernel) (by decide +kernel)
set_option maxRecDepth 20000 in
theorem gX3_canStand_X2_at : GoodIn wsX3_canStand (wsV RX3 32 RX2 yX2_at wsX2_at) := goodIn_app (goodIn_of _ (by decide +kernel)) ggX3_canStand_X2_at
set_option maxRecDepth 20000 in
theorem ggX3_canStand_X3_first : GoodIn wsX3_canStand wsX3_first := goodIn_r _ [27, 6, 32, 33, 34] (by decide +kernel) (by decide +kernel)
set_option maxRecDepth 20000 in
theorem gX3_canStand_X3_first : GoodIn wsX3_canStand (wsV RX3 40 RX3 yX3_first wsX3_first) := goodIn_app (goodIn_of _ (by decide +kernel)) ggX3_canStand_X3_first
set_option maxRecDepth 20000 in
theorem ggX3_canStand_X3_last : GoodIn wsX3_canStand wsX3_last := goodIn_r _ [31, 7, 32, 33, 34] (by decide +kernel) (by decide +kernel)
set_option maxRecDepth 20000 in
theorem gX3_canStand_X3_last : GoodIn wsX3_canStand (wsV RX3 43 RX3 yX3_last wsX3_last) := goodIn_app (goodIn_of _ (by decide +kernel)) ggX3_canStand_X3_last
theorem dX3_canStand_0 : decode cX3_canStand 0 = .ok (.aload_n 0, 1) := by decide +kernel
theorem dX3_canStand_1 : decode cX3_canStand 1 = .ok (.aload_n 1, 1) := by decide +kernel
theorem dX3_canStand_2 : decode cX3_canStand 2 = .ok (.aload_n 2, 1) := by decide +kernel
theorem dX3_canStand_3 : decode cX3_canStand 3 = .ok (.invokevirtual 36, 3) := by decide +kernel
theorem dX3_canStand_6 : decode cX3_canStand 6 = .ok (.ifCond .ne 5, 3) := by decide +kernel
theorem dX3_canStand_9 : decode cX3_canStand 9 = .ok (.iconst 0, 1) := by decide +kernel
theorem dX3_canStand_10 : decode cX3_canStand 10 = .ok (.ireturn, 1) := by decide +kernel
theorem dX3_canStand_11 : decode cX3_canStand 11 = .ok (.iconst 0, 1) := by decide +kernel
theorem dX3_canStand_12 : decode cX3_canStand 12 = .ok (.istore 4, 2) := by decide +kernel
theorem dX3_canStand_14 : decode cX3_canStand 14 = .ok (.iload 4, 2) := by decide +kernel
theorem dX3_canStand_16 : decode cX3_canStand 16 = .ok (.aload_n 1, 1) := by decide +kernel
theorem dX3_canStand_17 : decode cX3_canStand 17 = .ok (.invokevirtual 22, 3) := by decide +kernel
theorem dX3_canStand_20 : decode cX3_canStand 20 = .ok (.if_icmp .ge 45, 3) := by decide +kernel
theorem dX3_canStand_23 : decode cX3_canStand 23 = .ok (.aload_n 1, 1) := by decide +kernel
theorem dX3_canStand_24 : decode cX3_canStand 24 = .ok (.iload 4, 2) := by decide +kernel
theorem dX3_canStand_26 : decode cX3_canStand 26 = .ok (.invokevirtual 32, 3) := by decide +kernel
theorem dX3_canStand_29 : decode cX3_canStand 29 = .ok (.aload_n 2, 1) := by decide +kernel
theorem dX3_canStand_30 : decode cX3_canStand 30 = .ok (.iload_n 3, 1) := by decide +kernel
theorem dX3_canStand_31 : decode cX3_canStand 31 = .ok (.invokevirtual 32, 3) := by decide +kernel
theorem dX3_canStand_34 : decode cX3_canStand 34 = .ok (.if_icmp .ne 25, 3) := by decide +kernel
theorem dX3_canStand_37 : decode cX3_canStand 37 = .ok (.aload_n 0, 1) := by decide +kernel
theorem dX3_canStand_38 : decode cX3_canStand 38 = .ok (.iload 4, 2) := by decide +kernel
theorem dX3_canStand_40 : decode cX3_canStand 40 = .ok (.invokevirtual 40, 3) := by decide +kernel
theorem dX3_canStand_43 : decode cX3_canStand 43 = .ok (.iload_n 3, 1) := by decide +kernel
theorem dX3_canStand_44 : decode cX3_canStand 44 = .ok (.if_icmp .gt 15, 3) := by decide +kernel
theorem dX3_canStand_47 : decode cX3_canStand 47 = .ok (.iload_n 3, 1) := by decide +kernel
theorem dX3_canStand_48 : decode cX3_canStand 48 = .ok (.aload_n 0, 1) := by decide +kernel
theorem dX3_canStand_49 : decode cX3_canStand 49 = .ok (.iload 4, 2) := by decide +kernel
theorem dX3_canStand_51 : decode cX3_canStand 51 = .ok (.invokevirtual 43, 3) := by decide +kernel
theorem dX3_canStand_54 : decode cX3_canStand 54 = .ok (.if_icmp .gt 5, 3) := by decide +kernel
theorem dX3_canStand_57 : decode cX3_canStand 57 = .ok (.iconst 1, 1) := by decide +kernel
theorem dX3_canStand_58 : decode cX3_canStand 58 = .ok (.ireturn, 1) := by decide +kernel
theorem dX3_canStand_59 : decode cX3_canStand 59 = .ok (.iinc 4 1, 3) := by decide +kernel
theorem dX3_canStand_62 : decode cX3_canStand 62 = .ok (.goto (-48), 3) := by decide +kernel
theorem dX3_canStand_65 : decode cX3_canStand 65 = .ok (.iconst 0, 1) := by decide +kernel
theorem dX3_canStand_66 : decode cX3_canStand 66 = .ok (.ireturn, 1) := by decide +kernel
set_option maxRecDepth 20000 in
theorem ggX3_choices_X2_size : GoodIn wsX3_choices wsX2_size := goodIn_r _ [10, 11, 28, 29] (by decide +kernel) (by decide +kernel)
set_option maxRecDepth 20000 in
theorem gX3_choices_X2_size : GoodIn wsX3_choices (wsV RX3 22 RX2 yX2_size wsX2_size) := goodIn_app (goodIn_of _ (by decide +kernel)) ggX3_choices_X2_size
set_option maxRecDepth 20000 in
theorem ggX3_choices_J7_fill_d0a16 : GoodIn wsX3_choices wsJ7_fill_d0a16 := goodIn_r _ [15] (by decide +kernel) (by decide +kernel)
set_option maxRecDepth 20000 in
theorem gX3_choices_J7_fill_d0a16 : GoodIn wsX3_choices (va_wsS RX3 52 yJ7_fill_d0a16 wsJ7_fill_d0a16) := goodIn_app (goodIn_of _ (by decide +kernel)) ggX3_choices_J7_fill_d0a16
set_option maxRecDepth 20000 in
theorem ggX3_choices_X2_at : GoodIn wsX3_choices wsX2_at := goodIn_r _ [19, 20, 21, 22, 23, 9, 24, 11, 28, 29] (by decide +kernel) (by decide +kernel)
set_option maxRecDepth 20000 in
theorem gX3_choices_X2_at : GoodIn wsX3_choices (wsV RX3 32 RX2 yX2_at wsX2_at) := goodIn_app (goodIn_of _ (by decide +kernel)) ggX3_choices_X2_at
theorem dX3_choices_0 : decode cX3_choices 0 = .ok (.aload_n 1, 1) := by decide +kernel
theorem dX3_choices_1 : decode cX3_choices 1 = .ok (.invokevirtual 22, 3) := by decide +kernel
theorem dX3_choices_4 : decode cX3_choices 4 = .ok (.bipush 12, 2) := by decide +kernel
theorem dX3_choices_6 : decode cX3_choices 6 = .ok (.invokestatic 46, 3) := by decide +kernel
theorem dX3_choices_9 : decode cX3_choices 9 = .ok (.istore_n 3, 1) := by decide +kernel
theorem dX3_choices_10 : decode cX3_choices 10 = .ok (.aload_n 0, 1) := by decide +kernel
theorem dX3_choices_11 : decode cX3_choices 11 = .ok (.getfield 18, 3) := by decide +kernel
theorem dX3_choices_14 : decode cX3_choices 14 = .ok (.lconst 0, 1) := by decide +kernel
theorem dX3_choices_15 : decode cX3_choices 15 = .ok (.invokestatic 52, 3) := by decide +kernel
theorem dX3_choices_18 : decode cX3_choices 18 = .ok (.aload_n 0, 1) := by decide +kernel
theorem dX3_choices_19 : decode cX3_choices 19 = .ok (.getfield 18, 3) := by decide +kernel
theorem dX3_choices_22 : decode cX3_choices 22 = .ok (.iconst 0, 1) := by decide +kernel
theorem dX3_choices_23 : decode cX3_choices 23 = .ok (.lconst 1, 1) := by decide +kernel
theorem dX3_choices_24 : decode cX3_choices 24 = .ok (.lastore, 1) := by decide +kernel
theorem dX3_choices_25 : decode cX3_choices 25 = .ok (.iconst 0, 1) := by decide +kernel
theorem dX3_choices_26 : decode cX3_choices 26 = .ok (.istore 4, 2) := by decide +kernel
theorem dX3_choices_28 : decode cX3_choices 28 = .ok (.iload 4, 2) := by decide +kernel
theorem dX3_choices_30 : decode cX3_choices 30 = .ok (.aload_n 2, 1) := by decide +kernel
theorem dX3_choices_31 : decode cX3_choices 31 = .ok (.invokevirtual 22, 3) := by decide +kernel
theorem dX3_choices_34 : decode cX3_choices 34 = .ok (.if_icmp .ge 59, 3) := by decide +kernel
theorem dX3_choices_37 : decode cX3_choices 37 = .ok (.iload_n 3, 1) := by decide +kernel
theorem dX3_choices_38 : decode cX3_choices 38 = .ok (.istore 5, 2) := by decide +kernel
theorem dX3_choices_40 : decode cX3_choices 40 = .ok (.iload 5, 2) := by decide +kernel
theorem dX3_choices_42 : decode cX3_choices 42 = .ok (.ifCond .le 45, 3) := by decide +kernel
theorem dX3_choices_45 : decode cX3_choices 45 = .ok (.aload_n 1, 1) := by decide +kernel
theorem dX3_choices_46 : decode cX3_choices 46 = .ok (.iload 5, 2) := by decide +kernel
theorem dX3_choices_48 : decode cX3_choices 48 = .ok (.iconst 1, 1) := by decide +kernel
theorem dX3_choices_49 : decode cX3_choices 49 = .ok (.isub, 1) := by decide +kernel
theorem dX3_choices_50 : decode cX3_choices 50 = .ok (.invokevirtual 32, 3) := by decide +kernel
theorem dX3_choices_53 : decode cX3_choices 53 = .ok (.aload_n 2, 1) := by decide +kernel
theorem dX3_choices_54 : decode cX3_choices 54 = .ok (.iload 4, 2) := by decide +kernel
theorem dX3_choices_56 : decode cX3_choices 56 = .ok (.invokevirtual 32, 3) := by decide +kernel
theorem dX3_choices_59 : decode cX3_choices 59 = .ok (.if_icmp .ne 22, 3) := by decide +kernel
theorem dX3_choices_62 : decode cX3_choices 62 = .ok (.aload_n 0, 1) := by decide +kernel
theorem dX3_choices_63 : decode cX3_choices 63 = .ok (.getfield 18, 3) := by decide +kernel
theorem dX3_choices_66 : decode cX3_choices 66 = .ok (.iload 5, 2) := by decide +kernel
theorem dX3_choices_68 : decode cX3_choices 68 = .ok (.dup2, 1) := by decide +kernel
theorem dX3_choices_69 : decode cX3_choices 69 = .ok (.laload, 1) := by decide +kernel
theorem dX3_choices_70 : decode cX3_choices 70 = .ok (.aload_n 0, 1) := by decide +kernel
theorem dX3_choices_71 : decode cX3_choices 71 = .ok (.getfield 18, 3) := by decide +kernel
theorem dX3_choices_74 : decode cX3_choices 74 = .ok (.iload 5, 2) := by decide +kernel
theorem dX3_choices_76 : decode cX3_choices 76 = .ok (.iconst 1, 1) := by decide +kernel
theorem dX3_choices_77 : decode cX3_choices 77 = .ok (.isub, 1) := by decide +kernel
theorem dX3_choices_78 : decode cX3_choices 78 = .ok (.laload, 1) := by decide +kernel
theorem dX3_choices_79 : decode cX3_choices 79 = .ok (.ladd, 1) := by decide +kernel
theorem dX3_choices_80 : decode cX3_choices 80 = .ok (.lastore, 1) := by decide +kernel
theorem dX3_choices_81 : decode cX3_choices 81 = .ok (.iinc 5 (-1), 3) := by decide +kernel
theorem dX3_choices_84 : decode cX3_choices 84 = .ok (.goto (-44), 3) := by decide +kernel
theorem dX3_choices_87 : decode cX3_choices 87 = .ok (.iinc 4 1, 3) := by decide +kernel
theorem dX3_choices_90 : decode cX3_choices 90 = .ok (.goto (-62), 3) := by decide +kernel
theorem dX3_choices_93 : decode cX3_choices 93 = .ok (.aload_n 0, 1) := by decide +kernel
theorem dX3_choices_94 : decode cX3_choices 94 = .ok (.getfield 18, 3) := by decide +kernel
theorem dX3_choices_97 : decode cX3_choices 97 = .ok (.iload_n 3, 1) := by decide +kernel
theorem dX3_choices_98 : decode cX3_choices 98 = .ok (.laload, 1) := by decide +kernel
theorem dX3_choices_99 : decode cX3_choices 99 = .ok (.lreturn, 1) := by decide +kernel
theorem dX4_init_0 : decode cX4_init 0 = .ok (.aload_n 0, 1) := by decide +kernel
theorem dX4_init_1 : decode cX4_init 1 = .ok (.invokespecial 3, 3) := by decide +kernel
theorem dX4_init_4 : decode cX4_init 4 = .ok (.aload_n 0, 1) := by decide +kernel
theorem dX4_init_5 : decode cX4_init 5 = .ok (.sipush 169, 3) := by decide +kernel
theorem dX4_init_8 : decode cX4_init 8 = .ok (.newarray .long, 2) := by decide +kernel
theorem dX4_init_10 : decode cX4_init 10 = .ok (.putfield 9, 3) := by decide +kernel
theorem dX4_init_13 : decode cX4_init 13 = .ok (.return_, 1) := by decide +kernel
theorem dX4_isInside_0 : decode cX4_isInside 0 = .ok (.iload_n 0, 1) := by decide +kernel
theorem dX4_isInside_1 : decode cX4_isInside 1 = .ok (.ifCond .lt 23, 3) := by decide +kernel
theorem dX4_isInside_4 : decode cX4_isInside 4 = .ok (.iload_n 0, 1) := by decide +kernel
theorem dX4_isInside_5 : decode cX4_isInside 5 = .ok (.bipush 13, 2) := by decide +kernel
theorem dX4_isInside_7 : decode cX4_isInside 7 = .ok (.if_icmp .ge 17, 3) := by decide +kernel
theorem dX4_isInside_10 : decode cX4_isInside 10 = .ok (.iload_n 1, 1) := by decide +kernel
theorem dX4_isInside_11 : decode cX4_isInside 11 = .ok (.ifCond .lt 13, 3) := by decide +kernel
theorem dX4_isInside_14 : decode cX4_isInside 14 = .ok (.iload_n 1, 1) := by decide +kernel
theorem dX4_isInside_15 : decode cX4_isInside 15 = .ok (.bipush 13, 2) := by decide +kernel
theorem dX4_isInside_17 : decode cX4_isInside 17 = .ok (.if_icmp .ge 7, 3) := by decide +kernel
theorem dX4_isInside_20 : decode cX4_isInside 20 = .ok (.iconst 1, 1) := by decide +kernel
theorem dX4_isInside_21 : decode cX4_isInside 21 = .ok (.goto 4, 3) := by decide +kernel
theorem dX4_isInside_24 : decode cX4_isInside 24 = .ok (.iconst 0, 1) := by decide +kernel
theorem dX4_isInside_25 : decode cX4_isInside 25 = .ok (.ireturn, 1) := by decide +kernel
set_option maxRecDepth 20000 in
theorem ggX4_at_X4_isInside : GoodIn wsX4_at wsX4_isInside := goodIn_r _ [5] (by decide +kernel) (by decide +kernel)
set_option maxRecDepth 20000 in
theorem gX4_at_X4_isInside : GoodIn wsX4_at (va_wsS RX4 15 yX4_isInside wsX4_isInside) := goodIn_app (goodIn_of _ (by decide +kernel)) ggX4_at_X4_isInside
theorem dX4_at_0 : decode cX4_at 0 = .ok (.iload_n 1, 1) := by decide +kernel
theorem dX4_at_1 : decode cX4_at 1 = .ok (.iload_n 2, 1) := by decide +kernel
theorem dX4_at_2 : decode cX4_at 2 = .ok (.invokestatic 15, 3) := by decide +kernel
theorem dX4_at_5 : decode cX4_at 5 = .ok (.ifCond .eq 17, 3) := by decide +kernel
theorem dX4_at_8 : decode cX4_at 8 = .ok (.aload_n 0, 1) := by decide +kernel
theorem dX4_at_9 : decode cX4_at 9 = .ok (.getfield 9, 3) := by decide +kernel
theorem dX4_at_12 : decode cX4_at 12 = .ok (.iload_n 1, 1) := by decide +kernel
theorem dX4_at_13 : decode cX4_at 13 = .ok (.bipush 13, 2) := by decide +kernel
theorem dX4_at_15 : decode cX4_at 15 = .ok (.imul, 1) := by decide +kernel
theorem dX4_at_16 : decode cX4_at 16 = .ok (.iload_n 2, 1) := by decide +kernel
theorem dX4_at_17 : decode cX4_at 17 = .ok (.iadd, 1) := by decide +kernel
theorem dX4_at_18 : decode cX4_at 18 = .ok (.laload, 1) := by decide +kernel
theorem dX4_at_19 : decode cX4_at 19 = .ok (.goto 4, 3) := by decide +kernel
theorem dX4_at_22 : decode cX4_at 22 = .ok (.lconst 0, 1) := by decide +kernel
theorem dX4_at_23 : decode cX4_at 23 = .ok (.lreturn, 1) := by decide +kernel
set_option maxRecDepth 20000 in
theorem ggX4_write_X4_isInside : GoodIn wsX4_write wsX4_isInside := goodIn_r _ [5] (by decide +kernel) (by decide +kernel)
set_option maxRecDepth 20000 in
theorem gX4_write_X4_isInside : GoodIn wsX4_write (va_wsS RX4 15 yX4_isInside wsX4_isInside) := goodIn_app (goodIn_of _ (by decide +kernel)) ggX4_write_X4_isInside
theorem dX4_write_0 : decode cX4_write 0 = .ok (.iload_n 1, 1) := by decide +kernel
theorem dX4_write_1 : decode cX4_write 1 = .ok (.iload_n 2, 1) := by decide +kernel
theorem dX4_write_2 : decode cX4_write 2 = .ok (.invokestatic 15, 3) := by decide +kernel
theorem dX4_write_5 : decode cX4_write 5 = .ok (.ifCond .eq 15, 3) := by decide +kernel
theorem dX4_write_8 : decode cX4_write 8 = .ok (.aload_n 0, 1) := by decide +kernel
theorem dX4_write_9 : decode cX4_write 9 = .ok (.getfield 9, 3) := by decide +kernel
theorem dX4_write_12 : decode cX4_write 12 = .ok (.iload_n 1, 1) := by decide +kernel
theorem dX4_write_13 : decode cX4_write 13 = .ok (.bipush 13, 2) := by decide +kernel
theorem dX4_write_15 : decode cX4_write 15 = .ok (.imul, 1) := by decide +kernel
theorem dX4_write_16 : decode cX4_write 16 = .ok (.iload_n 2, 1) := by decide +kernel
theorem dX4_write_17 : decode cX4_write 17 = .ok (.iadd, 1) := by decide +kernel
theorem dX4_write_18 : decode cX4_write 18 = .ok (.lload_n 3, 1) := by decide +kernel
theorem dX4_write_19 : decode cX4_write 19 = .ok (.lastore, 1) := by decide +kernel
theorem dX4_write_20 : decode cX4_write 20 = .ok (.return_, 1) := by decide +kernel
set_option maxRecDepth 20000 in
theorem ggX4_more_X4_at : GoodIn wsX4_more wsX4_at := goodIn_r _ [5, 6, 7, 8, 4, 9, 14] (by decide +kernel) (by decide +kernel)
set_option maxRecDepth 20000 in
theorem gX4_more_X4_at : GoodIn wsX4_more (wsV RX4 19 RX4 yX4_at wsX4_at) := goodIn_app (goodIn_of _ (by decide +kernel)) ggX4_more_X4_at
set_option maxRecDepth 20000 in
theorem ggX4_more_X4_write : GoodIn wsX4_more wsX4_write := goodIn_r _ [13, 6, 7, 8, 4, 9, 14] (by decide +kernel) (by decide +kernel)
set_option maxRecDepth 20000 in
theorem gX4_more_X4_write : GoodIn wsX4_more (wsV RX4 23 RX4 yX4_write wsX4_write) := goodIn_app (goodIn_of _ (by decide +kernel)) ggX4_more_X4_write
theorem dX4_more_0 : decode cX4_more 0 = .ok (.aload_n 0, 1) := by decide +kernel
theorem dX4_more_1 : decode cX4_more 1 = .ok (.iload_n 1, 1) := by decide +kernel
theorem dX4_more_2 : decode cX4_more 2 = .ok (.iload_n 2, 1) := by decide +kernel
theorem dX4_more_3 : decode cX4_more 3 = .ok (.aload_n 0, 1) := by decide +kernel
theorem dX4_more_4 : decode cX4_more 4 = .ok (.iload_n 1, 1) := by decide +kernel
theorem dX4_more_5 : decode cX4_more 5 = .ok (.iload_n 2, 1) := by decide +kernel
theorem dX4_more_6 : decode cX4_more 6 = .ok (.invokevirtual 19, 3) := by decide +kernel
theorem dX4_more_9 : decode cX4_more 9 = .ok (.lload_n 3, 1) := by decide +kernel
theorem dX4_more_10 : decode cX4_more 10 = .ok (.ladd, 1) := by decide +kernel
theorem dX4_more_11 : decode cX4_more 11 = .ok (.invokevirtual 23, 3) := by decide +kernel
theorem dX4_more_14 : decode cX4_more 14 = .ok (.return_, 1) := by decide +kernel
set_option maxRecDepth 20000 in
theorem ggX4_clear_J7_fill_d0a16 : GoodIn wsX4_clear wsJ7_fill_d0a16 := goodIn_r _ [5] (by decide +kernel) (by decide +kernel)
set_option maxRecDepth 20000 in
theorem gX4_clear_J7_fill_d0a16 : GoodIn wsX4_clear (va_wsS RX4 27 yJ7_fill_d0a16 wsJ7_fill_d0a16) := goodIn_app (goodIn_of _ (by decide +kernel)) ggX4_clear_J7_fill_d0a16
theorem dX4_clear_0 : decode cX4_clear 0 = .ok (.aload_n 0, 1) := by decide +kernel
theorem dX4_clear_1 : decode cX4_clear 1 = .ok (.getfield 9, 3) := by decide +kernel
theorem dX4_clear_4 : decode cX4_clear 4 = .ok (.lconst 0, 1) := by decide +kernel
theorem dX4_clear_5 : decode cX4_clear 5 = .ok (.invokestatic 27, 3) := by decide +kernel
theorem dX4_clear_8 : decode cX4_clear 8 = .ok (.return_, 1) := by decide +kernel
theorem dX5_init_0 : decode cX5_init 0 = .ok (.aload_n 0, 1) := by decide +kernel
theorem dX5_init_1 : decode cX5_init 1 = .ok (.invokespecial 3, 3) := by decide +kernel
theorem dX5_init_4 : decode cX5_init 4 = .ok (.aload_n 0, 1) := by decide +kernel
theorem dX5_init_5 : decode cX5_init 5 = .ok (.bipush 104, 2) := by decide +kernel
theorem dX5_init_7 : decode cX5_init 7 = .ok (.newarray .boolean, 2) := by decide +kernel
theorem dX5_init_9 : decode cX5_init 9 = .ok (.putfield 11, 3) := by decide +kernel
theorem dX5_init_12 : decode cX5_init 12 = .ok (.aload_n 0, 1) := by decide +kernel
theorem dX5_init_13 : decode cX5_init 13 = .ok (.iconst 2, 1) := by decide +kernel
theorem dX5_init_14 : decode cX5_init 14 = .ok (.newarray .int, 2) := by decide +kernel
theorem dX5_init_16 : decode cX5_init 16 = .ok (.putfield 15, 3) := by decide +kernel
theorem dX5_init_19 : decode cX5_init 19 = .ok (.return_, 1) := by decide +kernel
set_option maxRecDepth 20000 in
theorem ggX5_isSaid_X2_size : GoodIn wsX5_isSaid wsX2_size := goodIn_r _ [5, 6, 20, 21] (by decide +kernel) (by decide +kernel)
set_option maxRecDepth 20000 in
theorem gX5_isSaid_X2_size : GoodIn wsX5_isSaid (wsV RX5 19 RX2 yX2_size wsX2_size) := goodIn_app (goodIn_of _ (by decide +kernel)) ggX5_isSaid_X2_size
set_option maxRecDepth 20000 in
theorem ggX5_isSaid_X2_at : GoodIn wsX5_isSaid wsX2_at := goodIn_r _ [10, 11, 12, 13, 14, 4, 15, 6, 20, 21] (by decide +kernel) (by decide +kernel)
set_option maxRecDepth 20000 in
theorem gX5_isSaid_X2_at : GoodIn wsX5_isSaid (wsV RX5 25 RX2 yX2_at wsX2_at) := goodIn_app (goodIn_of _ (by decide +kernel)) ggX5_isSaid_X2_at
set_option maxRecDepth 20000 in
theorem ggX5_isSaid_X5_after : GoodIn wsX5_isSaid wsX5_after := goodIn_r _ [19] (by decide +kernel) (by decide +kernel)
set_option maxRecDepth 20000 in
theorem gX5_isSaid_X5_after : GoodIn wsX5_isSaid (va_wsS RX5 29 yX5_after wsX5_after) := goodIn_app (goodIn_of _ (by decide +kernel)) ggX5_isSaid_X5_after
theorem dX5_isSaid_0 : decode cX5_isSaid 0 = .ok (.iconst 0, 1) := by decide +kernel
theorem dX5_isSaid_1 : decode cX5_isSaid 1 = .ok (.istore_n 3, 1) := by decide +kernel
theorem dX5_isSaid_2 : decode cX5_isSaid 2 = .ok (.iconst 0, 1) := by decide +kernel
theorem dX5_isSaid_3 : decode cX5_isSaid 3 = .ok (.istore 4, 2) := by decide +kernel
theorem dX5_isSaid_5 : decode cX5_isSaid 5 = .ok (.iload 4, 2) := by decide +kernel
theorem dX5_isSaid_7 : decode cX5_isSaid 7 = .ok (.aload_n 0, 1) := by decide +kernel
theorem dX5_isSaid_8 : decode cX5_isSaid 8 = .ok (.invokevirtual 19, 3) := by decide +kernel
theorem dX5_isSaid_11 : decode cX5_isSaid 11 = .ok (.if_icmp .ge 22, 3) := by decide +kernel
theorem dX5_isSaid_14 : decode cX5_isSaid 14 = .ok (.iload_n 3, 1) := by decide +kernel
theorem dX5_isSaid_15 : decode cX5_isSaid 15 = .ok (.aload_n 0, 1) := by decide +kernel
theorem dX5_isSaid_16 : decode cX5_isSaid 16 = .ok (.iload 4, 2) := by decide +kernel
theorem dX5_isSaid_18 : decode cX5_isSaid 18 = .ok (.invokevirtual 25, 3) := by decide +kernel
theorem dX5_isSaid_21 : decode cX5_isSaid 21 = .ok (.aload_n 1, 1) := by decide +kernel
theorem dX5_isSaid_22 : decode cX5_isSaid 22 = .ok (.iload_n 2, 1) := by decide +kernel
theorem dX5_isSaid_23 : decode cX5_isSaid 23 = .ok (.invokestatic 29, 3) := by decide +kernel
theorem dX5_isSaid_26 : decode cX5_isSaid 26 = .ok (.istore_n 3, 1) := by decide +kernel
theorem dX5_isSaid_27 : decode cX5_isSaid 27 = .ok (.iinc 4 1, 3) := by decide +kernel
theorem dX5_isSaid_30 : decode cX5_isSaid 30 = .ok (.goto (-25), 3) := by decide +kernel
theorem dX5_isSaid_33 : decode cX5_isSaid 33 = .ok (.iload_n 3, 1) := by decide +kernel
theorem dX5_isSaid_34 : decode cX5_isSaid 34 = .ok (.iconst 1, 1) := by decide +kernel
theorem dX5_isSaid_35 : decode cX5_isSaid 35 = .ok (.iand, 1) := by decide +kernel
theorem dX5_isSaid_36 : decode cX5_isSaid 36 = .ok (.ifCond .eq 7, 3) := by decide +kernel
theorem dX5_isSaid_39 : decode cX5_isSaid 39 = .ok (.iconst 1, 1) := by decide +kernel
theorem dX5_isSaid_40 : decode cX5_isSaid 40 = .ok (.goto 4, 3) := by decide +kernel
theorem dX5_isSaid_43 : decode cX5_isSaid 43 = .ok (.iconst 0, 1) := by decide +kernel
theorem dX5_isSaid_44 : decode cX5_isSaid 44 = .ok (.ireturn, 1) := by decide +kernel
set_option maxRecDepth 20000 in
theorem ggX5_fewest_X5_keepEnds : GoodIn wsX5_fewest wsX5_keepEnds := goodIn_r _ [5, 6, 7, 8, 9, 10, 11, 12, 13, 14, 15, 16, 17, 18, 19, 20, 21, 22, 23, 24, 25, 26, 27, 4, 28, 29, 30, 31, 32, 46, 47, 48, 49] (by decide +kernel) (by decide +kernel)
set_option maxRecDepth 20000 in
theorem gX5_fewest_X5_keepEnds : GoodIn wsX5_fewest (wsV RX5 33 RX5 yX5_keepEnds wsX5_keepEnds) := goodIn_app (goodIn_of _ (by decide +kernel)) ggX5_fewest_X5_keepEnds
set_option maxRecDepth 20000 in
theorem ggX5_fewest_X5_endsSaid : GoodIn wsX5_fewest wsX5_endsSaid := goodIn_r _ [32, 10, 46, 47] (by decide +kernel) (by decide +kernel)
set_option maxRecDepth 20000 in
theorem gX5_fewest_X5_endsSaid : GoodIn wsX5_fewest (wsV RX5 37 RX5 yX5_endsSaid wsX5_endsSaid) := goodIn_app (goodIn_of _ (by decide +kernel)) ggX5_fewest_X5_endsSaid
set_option maxRecDepth 20000 in
theorem ggX5_fewest_X5_findOne : GoodIn wsX5_fewest wsX5_findOne := goodIn_r _ [36, 11, 12, 13, 14, 15, 16, 26, 27, 4, 28, 29, 30, 31, 32, 10, 37, 38, 39, 40, 41, 17, 18, 19, 20, 21, 22, 23, 24, 25, 48, 49, 46, 47] (by decide +kernel) (by decide +kernel)
set_option maxRecDepth 20000 in
theorem gX5_fewest_X5_findOne : GoodIn wsX5_fewest (wsV RX5 41 RX5 yX5_findOne wsX5_findOne) := goodIn_app (goodIn_of _ (by decide +kernel)) ggX5_fewest_X5_findOne
set_option maxRecDepth 20000 in
theorem ggX5_fewest_X5_findTwo : GoodIn wsX5_fewest wsX5_findTwo := goodIn_r _ [45, 11, 12, 13, 14, 15, 16, 26, 27, 4, 28, 33, 34, 35, 36, 29, 30, 31, 32, 10, 37, 38, 39, 40, 41, 17, 18, 19, 20, 21, 22, 23, 24, 25, 48, 49, 46, 47] (by decide +kernel) (by decide +kernel)
set_option maxRecDepth 20000 in
theorem gX5_fewest_X5_findTwo : GoodIn wsX5_fewest (wsV RX5 45 RX5 yX5_findTwo wsX5_findTwo) := goodIn_app (goodIn_of _ (by decide +kernel)) ggX5_fewest_X5_findTwo
theorem dX5_fewest_0 : decode cX5_fewest 0 = .ok (.aload_n 0, 1) := by decide +kernel
theorem dX5_fewest_1 : decode cX5_fewest 1 = .ok (.aload_n 1, 1) := by decide +kernel
theorem dX5_fewest_2 : decode cX5_fewest 2 = .ok (.aload_n 2, 1) := by decide +kernel
theorem dX5_fewest_3 : decode cX5_fewest 3 = .ok (.iload_n 3, 1) := by decide +kernel
theorem dX5_fewest_4 : decode cX5_fewest 4 = .ok (.invokevirtual 33, 3) := by decide +kernel
theorem dX5_fewest_7 : decode cX5_fewest 7 = .ok (.aload_n 0, 1) := by decide +kernel
theorem dX5_fewest_8 : decode cX5_fewest 8 = .ok (.iconst 0, 1) := by decide +kernel
theorem dX5_fewest_9 : decode cX5_fewest 9 = .ok (.iconst 0, 1) := by decide +kernel
theorem dX5_fewest_10 : decode cX5_fewest 10 = .ok (.invokevirtual 37, 3) := by decide +kernel
theorem dX5_fewest_13 : decode cX5_fewest 13 = .ok (.iload 4, 2) := by decide +kernel
theorem dX5_fewest_15 : decode cX5_fewest 15 = .ok (.if_icmp .ne 5, 3) := by decide +kernel
theorem dX5_fewest_18 : decode cX5_fewest 18 = .ok (.iconst 0, 1) := by decide +kernel
theorem dX5_fewest_19 : decode cX5_fewest 19 = .ok (.ireturn, 1) := by decide +kernel
theorem dX5_fewest_20 : decode cX5_fewest 20 = .ok (.aload_n 0, 1) := by decide +kernel
theorem dX5_fewest_21 : decode cX5_fewest 21 = .ok (.aload_n 1, 1) := by decide +kernel
theorem dX5_fewest_22 : decode cX5_fewest 22 = .ok (.aload_n 2, 1) := by decide +kernel
theorem dX5_fewest_23 : decode cX5_fewest 23 = .ok (.iload_n 3, 1) := by decide +kernel
theorem dX5_fewest_24 : decode cX5_fewest 24 = .ok (.iload 4, 2) := by decide +kernel
theorem dX5_fewest_26 : decode cX5_fewest 26 = .ok (.iconst 0, 1) := by decide +kernel
theorem dX5_fewest_27 : decode cX5_fewest 27 = .ok (.iconst 0, 1) := by decide +kernel
theorem dX5_fewest_28 : decode cX5_fewest 28 = .ok (.iconst 0, 1) := by decide +kernel
theorem dX5_fewest_29 : decode cX5_fewest 29 = .ok (.invokevirtual 41, 3) := by decide +kernel
theorem dX5_fewest_32 : decode cX5_fewest 32 = .ok (.ifCond .eq 5, 3) := by decide +kernel
theorem dX5_fewest_35 : decode cX5_fewest 35 = .ok (.iconst 1, 1) := by decide +kernel
theorem dX5_fewest_36 : decode cX5_fewest 36 = .ok (.ireturn, 1) := by decide +kernel
theorem dX5_fewest_37 : decode cX5_fewest 37 = .ok (.aload_n 0, 1) := by decide +kernel
theorem dX5_fewest_38 : decode cX5_fewest 38 = .ok (.aload_n 1, 1) := by decide +kernel
theorem dX5_fewest_39 : decode cX5_fewest 39 = .ok (.aload_n 2, 1) := by decide +kernel
theorem dX5_fewest_40 : decode cX5_fewest 40 = .ok (.iload_n 3, 1) := by decide +kernel
theorem dX5_fewest_41 : decode cX5_fewest 41 = .ok (.iload 4, 2) := by decide +kernel
theorem dX5_fewest_43 : decode cX5_fewest 43 = .ok (.invokevirtual 45, 3) := by decide +kernel
theorem dX5_fewest_46 : decode cX5_fewest 46 = .ok (.ifCond .eq 7, 3) := by decide +kernel
theorem dX5_fewest_49 : decode cX5_fewest 49 = .ok (.iconst 2, 1) := by decide +kernel
theorem dX5_fewest_50 : decode cX5_fewest 50 = .ok (.goto 5, 3) := by decide +kernel
theorem dX5_fewest_53 : decode cX5_fewest 53 = .ok (.bipush (-9), 2) := by decide +kernel
theorem dX5_fewest_55 : decode cX5_fewest 55 = .ok (.ireturn, 1) := by decide +kernel
theorem dX5_found_0 : decode cX5_found 0 = .ok (.iload_n 1, 1) := by decide +kernel
theorem dX5_found_1 : decode cX5_found 1 = .ok (.ifCond .lt 17, 3) := by decide +kernel
theorem dX5_found_4 : decode cX5_found 4 = .ok (.iload_n 1, 1) := by decide +kernel
theorem dX5_found_5 : decode cX5_found 5 = .ok (.iconst 2, 1) := by decide +kernel
theorem dX5_found_6 : decode cX5_found 6 = .ok (.if_icmp .ge 12, 3) := by decide +kernel
theorem dX5_found_9 : decode cX5_found 9 = .ok (.aload_n 0, 1) := by decide +kernel
theorem dX5_found_10 : decode cX5_found 10 = .ok (.getfield 15, 3) := by decide +kernel
theorem dX5_found_13 : decode cX5_found 13 = .ok (.iload_n 1, 1) := by decide +kernel
theorem dX5_found_14 : decode cX5_found 14 = .ok (.iaload, 1) := by decide +kernel
theorem dX5_found_15 : decode cX5_found 15 = .ok (.goto 5, 3) := by decide +kernel
theorem dX5_found_18 : decode cX5_found 18 = .ok (.bipush (-9), 2) := by decide +kernel
theorem dX5_found_20 : decode cX5_found 20 = .ok (.ireturn, 1) := by decide +kernel
theorem dX5_after_0 : decode cX5_after 0 = .ok (.iload_n 1, 1) := by decide +kernel
theorem dX5_after_1 : decode cX5_after 1 = .ok (.ifCond .lt 9, 3) := by decide +kernel
theorem dX5_after_4 : decode cX5_after 4 = .ok (.iload_n 1, 1) := by decide +kernel
theorem dX5_after_5 : decode cX5_after 5 = .ok (.aload_n 2, 1) := by decide +kernel
theorem dX5_after_6 : decode cX5_after 6 = .ok (.arraylength, 1) := by decide +kernel
theorem dX5_after_7 : decode cX5_after 7 = .ok (.if_icmp .lt 5, 3) := by decide +kernel
theorem dX5_after_10 : decode cX5_after 10 = .ok (.iload_n 0, 1) := by decide +kernel
theorem dX5_after_11 : decode cX5_after 11 = .ok (.ireturn, 1) := by decide +kernel
theorem dX5_after_12 : decode cX5_after 12 = .ok (.aload_n 2, 1) := by decide +kernel
theorem dX5_after_13 : decode cX5_after 13 = .ok (.iload_n 1, 1) := by decide +kernel
theorem dX5_after_14 : decode cX5_after 14 = .ok (.iaload, 1) := by decide +kernel
theorem dX5_after_15 : decode cX5_after 15 = .ok (.ifCond .ne 36, 3) := by decide +kernel
theorem dX5_after_18 : decode cX5_after 18 = .ok (.iload_n 0, 1) := by decide +kernel
theorem dX5_after_19 : decode cX5_after 19 = .ok (.iconst 2, 1) := by decide +kernel
theorem dX5_after_20 : decode cX5_after 20 = .ok (.iand, 1) := by decide +kernel
theorem dX5_after_21 : decode cX5_after 21 = .ok (.ifCond .eq 7, 3) := by decide +kernel
theorem dX5_after_24 : decode cX5_after 24 = .ok (.iconst 1, 1) := by decide +kernel
theorem dX5_after_25 : decode cX5_after 25 = .ok (.goto 4, 3) := by decide +kernel
theorem dX5_after_28 : decode cX5_after 28 = .ok (.iconst 0, 1) := by decide +kernel
theorem dX5_after_29 : decode cX5_after 29 = .ok (.istore 4, 2) := by decide +kernel
theorem dX5_after_31 : decode cX5_after 31 = .ok (.iload_n 1, 1) := by decide +kernel
theorem dX5_after_32 : decode cX5_after 32 = .ok (.iload_n 3, 1) := by decide +kernel
theorem dX5_after_33 : decode cX5_after 33 = .ok (.if_icmp .ne 14, 3) := by decide +kernel
theorem dX5_after_36 : decode cX5_after 36 = .ok (.iload 4, 2) := by decide +kernel
theorem dX5_after_38 : decode cX5_after 38 = .ok (.ifCond .eq 7, 3) := by decide +kernel
theorem dX5_after_41 : decode cX5_after 41 = .ok (.iconst 4, 1) := by decide +kernel
theorem dX5_after_42 : decode cX5_after 42 = .ok (.goto 4, 3) := by decide +kernel
theorem dX5_after_45 : decode cX5_after 45 = .ok (.iconst 5, 1) := by decide +kernel
theorem dX5_after_46 : decode cX5_after 46 = .ok (.ireturn, 1) := by decide +kernel
theorem dX5_after_47 : decode cX5_after 47 = .ok (.iload_n 0, 1) := by decide +kernel
theorem dX5_after_48 : decode cX5_after 48 = .ok (.iconst 1, 1) := by decide +kernel
theorem dX5_after_49 : decode cX5_after 49 = .ok (.iand, 1) := by decide +kernel
theorem dX5_after_50 : decode cX5_after 50 = .ok (.ireturn, 1) := by decide +kernel
theorem dX5_after_51 : decode cX5_after 51 = .ok (.aload_n 2, 1) := by decide +kernel
theorem dX5_after_52 : decode cX5_after 52 = .ok (.iload_n 1, 1) := by decide +kernel
theorem dX5_after_53 : decode cX5_after 53 = .ok (.iaload, 1) := by decide +kernel
theorem dX5_after_54 : decode cX5_after 54 = .ok (.iconst 2, 1) := by decide +kernel
theorem dX5_after_55 : decode cX5_after 55 = .ok (.if_icmp .ne 13, 3) := by decide +kernel
theorem dX5_after_58 : decode cX5_after 58 = .ok (.iload_n 0, 1) := by decide +kernel
theorem dX5_after_59 : decode cX5_after 59 = .ok (.iconst 4, 1) := by decide +kernel
theorem dX5_after_60 : decode cX5_after 60 = .ok (.iand, 1) := by decide +kernel
theorem dX5_after_61 : decode cX5_after 61 = .ok (.ifCond .eq 7, 3) := by decide +kernel
theorem dX5_after_64 : decode cX5_after 64 = .ok (.iconst 1, 1) := by decide +kernel
theorem dX5_after_65 : decode cX5_after 65 = .ok (.goto 4, 3) := by decide +kernel
theorem dX5_after_68 : decode cX5_after 68 = .ok (.iconst 0, 1) := by decide +kernel
theorem dX5_after_69 : decode cX5_after 69 = .ok (.istore 4, 2) := by decide +kernel
theorem dX5_after_71 : decode cX5_after 71 = .ok (.iload 4, 2) := by decide +kernel
theorem dX5_after_73 : decode cX5_after 73 = .ok (.ifCond .eq 10, 3) := by decide +kernel
theorem dX5_after_76 : decode cX5_after 76 = .ok (.iload_n 0, 1) := by decide +kernel
theorem dX5_after_77 : decode cX5_after 77 = .ok (.bipush (-2), 2) := by decide +kernel
theorem dX5_after_79 : decode cX5_after 79 = .ok (.iand, 1) := by decide +kernel
theorem dX5_after_80 : decode cX5_after 80 = .ok (.goto 4, 3) := by decide +kernel
theorem dX5_after_83 : decode cX5_after 83 = .ok (.iload_n 0, 1) := by decide +kernel
theorem dX5_after_84 : decode cX5_after 84 = .ok (.iconst 2, 1) := by decide +kernel
theorem dX5_after_85 : decode cX5_after 85 = .ok (.ixor, 1) := by decide +kernel
theorem dX5_after_86 : decode cX5_after 86 = .ok (.ireturn, 1) := by decide +kernel
set_option maxRecDepth 20000 in
theorem ggX5_keepEnds_X2_size : GoodIn wsX5_keepEnds wsX2_size := goodIn_r _ [10, 11, 31, 32] (by decide +kernel) (by decide +kernel)
set_option maxRecDepth 20000 in
theorem gX5_keepEnds_X2_size : GoodIn wsX5_keepEnds (wsV RX5 19 RX2 yX2_size wsX2_size) := goodIn_app (goodIn_of _ (by decide +kernel)) ggX5_keepEnds_X2_size
set_option maxRecDepth 20000 in
theorem ggX5_keepEnds_X2_at : GoodIn wsX5_keepEnds wsX2_at := goodIn_r _ [15, 16, 17, 18, 19, 9, 20, 11, 31, 32] (by decide +kernel) (by decide +kernel)
set_option maxRecDepth 20000 in
theorem gX5_keepEnds_X2_at : GoodIn wsX5_keepEnds (wsV RX5 25 RX2 yX2_at wsX2_at) := goodIn_app (goodIn_of _ (by decide +kernel)) ggX5_keepEnds_X2_at
set_option maxRecDepth 20000 in
theorem ggX5_keepEnds_X5_after : GoodIn wsX5_keepEnds wsX5_after := goodIn_r _ [24] (by decide +kernel) (by decide +kernel)
set_option maxRecDepth 20000 in
theorem gX5_keepEnds_X5_after : GoodIn wsX5_keepEnds (va_wsS RX5 29 yX5_after wsX5_after) := goodIn_app (goodIn_of _ (by decide +kernel)) ggX5_keepEnds_X5_after
set_option maxRecDepth 20000 in
theorem ggX5_keepEnds_X5_endsSaid : GoodIn wsX5_keepEnds wsX5_endsSaid := goodIn_r _ [28, 5, 29, 30] (by decide +kernel) (by decide +kernel)
set_option maxRecDepth 20000 in
theorem gX5_keepEnds_X5_endsSaid : GoodIn wsX5_keepEnds (wsV RX5 37 RX5 yX5_endsSaid wsX5_endsSaid) := goodIn_app (goodIn_of _ (by decide +kernel)) ggX5_keepEnds_X5_endsSaid
theorem dX5_keepEnds_0 : decode cX5_keepEnds 0 = .ok (.aload_n 1, 1) := by decide +kernel
theorem dX5_keepEnds_1 : decode cX5_keepEnds 1 = .ok (.invokevirtual 19, 3) := by decide +kernel
theorem dX5_keepEnds_4 : decode cX5_keepEnds 4 = .ok (.bipush 12, 2) := by decide +kernel
theorem dX5_keepEnds_6 : decode cX5_keepEnds 6 = .ok (.invokestatic 49, 3) := by decide +kernel
theorem dX5_keepEnds_9 : decode cX5_keepEnds 9 = .ok (.istore 4, 2) := by decide +kernel
theorem dX5_keepEnds_11 : decode cX5_keepEnds 11 = .ok (.iconst 0, 1) := by decide +kernel
theorem dX5_keepEnds_12 : decode cX5_keepEnds 12 = .ok (.istore 5, 2) := by decide +kernel
theorem dX5_keepEnds_14 : decode cX5_keepEnds 14 = .ok (.iload 5, 2) := by decide +kernel
theorem dX5_keepEnds_16 : decode cX5_keepEnds 16 = .ok (.bipush 8, 2) := by decide +kernel
theorem dX5_keepEnds_18 : decode cX5_keepEnds 18 = .ok (.if_icmp .ge 34, 3) := by decide +kernel
theorem dX5_keepEnds_21 : decode cX5_keepEnds 21 = .ok (.aload_n 0, 1) := by decide +kernel
theorem dX5_keepEnds_22 : decode cX5_keepEnds 22 = .ok (.getfield 11, 3) := by decide +kernel
theorem dX5_keepEnds_25 : decode cX5_keepEnds 25 = .ok (.iload 4, 2) := by decide +kernel
theorem dX5_keepEnds_27 : decode cX5_keepEnds 27 = .ok (.bipush 8, 2) := by decide +kernel
theorem dX5_keepEnds_29 : decode cX5_keepEnds 29 = .ok (.imul, 1) := by decide +kernel
theorem dX5_keepEnds_30 : decode cX5_keepEnds 30 = .ok (.iload 5, 2) := by decide +kernel
theorem dX5_keepEnds_32 : decode cX5_keepEnds 32 = .ok (.iadd, 1) := by decide +kernel
theorem dX5_keepEnds_33 : decode cX5_keepEnds 33 = .ok (.iload 5, 2) := by decide +kernel
theorem dX5_keepEnds_35 : decode cX5_keepEnds 35 = .ok (.iconst 1, 1) := by decide +kernel
theorem dX5_keepEnds_36 : decode cX5_keepEnds 36 = .ok (.iand, 1) := by decide +kernel
theorem dX5_keepEnds_37 : decode cX5_keepEnds 37 = .ok (.ifCond .eq 7, 3) := by decide +kernel
theorem dX5_keepEnds_40 : decode cX5_keepEnds 40 = .ok (.iconst 1, 1) := by decide +kernel
theorem dX5_keepEnds_41 : decode cX5_keepEnds 41 = .ok (.goto 4, 3) := by decide +kernel
theorem dX5_keepEnds_44 : decode cX5_keepEnds 44 = .ok (.iconst 0, 1) := by decide +kernel
theorem dX5_keepEnds_45 : decode cX5_keepEnds 45 = .ok (.bastore, 1) := by decide +kernel
theorem dX5_keepEnds_46 : decode cX5_keepEnds 46 = .ok (.iinc 5 1, 3) := by decide +kernel
theorem dX5_keepEnds_49 : decode cX5_keepEnds 49 = .ok (.goto (-35), 3) := by decide +kernel
theorem dX5_keepEnds_52 : decode cX5_keepEnds 52 = .ok (.iload 4, 2) := by decide +kernel
theorem dX5_keepEnds_54 : decode cX5_keepEnds 54 = .ok (.iconst 1, 1) := by decide +kernel
theorem dX5_keepEnds_55 : decode cX5_keepEnds 55 = .ok (.isub, 1) := by decide +kernel
theorem dX5_keepEnds_56 : decode cX5_keepEnds 56 = .ok (.istore 5, 2) := by decide +kernel
theorem dX5_keepEnds_58 : decode cX5_keepEnds 58 = .ok (.iload 5, 2) := by decide +kernel
theorem dX5_keepEnds_60 : decode cX5_keepEnds 60 = .ok (.ifCond .lt 59, 3) := by decide +kernel
theorem dX5_keepEnds_63 : decode cX5_keepEnds 63 = .ok (.iconst 0, 1) := by decide +kernel
theorem dX5_keepEnds_64 : decode cX5_keepEnds 64 = .ok (.istore 6, 2) := by decide +kernel
theorem dX5_keepEnds_66 : decode cX5_keepEnds 66 = .ok (.iload 6, 2) := by decide +kernel
theorem dX5_keepEnds_68 : decode cX5_keepEnds 68 = .ok (.bipush 8, 2) := by decide +kernel
theorem dX5_keepEnds_70 : decode cX5_keepEnds 70 = .ok (.if_icmp .ge 43, 3) := by decide +kernel
theorem dX5_keepEnds_73 : decode cX5_keepEnds 73 = .ok (.aload_n 0, 1) := by decide +kernel
theorem dX5_keepEnds_74 : decode cX5_keepEnds 74 = .ok (.getfield 11, 3) := by decide +kernel
theorem dX5_keepEnds_77 : decode cX5_keepEnds 77 = .ok (.iload 5, 2) := by decide +kernel
theorem dX5_keepEnds_79 : decode cX5_keepEnds 79 = .ok (.bipush 8, 2) := by decide +kernel
theorem dX5_keepEnds_81 : decode cX5_keepEnds 81 = .ok (.imul, 1) := by decide +kernel
theorem dX5_keepEnds_82 : decode cX5_keepEnds 82 = .ok (.iload 6, 2) := by decide +kernel
theorem dX5_keepEnds_84 : decode cX5_keepEnds 84 = .ok (.iadd, 1) := by decide +kernel
theorem dX5_keepEnds_85 : decode cX5_keepEnds 85 = .ok (.aload_n 0, 1) := by decide +kernel
theorem dX5_keepEnds_86 : decode cX5_keepEnds 86 = .ok (.iload 5, 2) := by decide +kernel
theorem dX5_keepEnds_88 : decode cX5_keepEnds 88 = .ok (.iconst 1, 1) := by decide +kernel
theorem dX5_keepEnds_89 : decode cX5_keepEnds 89 = .ok (.iadd, 1) := by decide +kernel
theorem dX5_keepEnds_90 : decode cX5_keepEnds 90 = .ok (.iload 6, 2) := by decide +kernel
theorem dX5_keepEnds_92 : decode cX5_keepEnds 92 = .ok (.aload_n 1, 1) := by decide +kernel
theorem dX5_keepEnds_93 : decode cX5_keepEnds 93 = .ok (.iload 5, 2) := by decide +kernel
theorem dX5_keepEnds_95 : decode cX5_keepEnds 95 = .ok (.invokevirtual 25, 3) := by decide +kernel
theorem dX5_keepEnds_98 : decode cX5_keepEnds 98 = .ok (.aload_n 2, 1) := by decide +kernel
theorem dX5_keepEnds_99 : decode cX5_keepEnds 99 = .ok (.iload_n 3, 1) := by decide +kernel
theorem dX5_keepEnds_100 : decode cX5_keepEnds 100 = .ok (.invokestatic 29, 3) := by decide +kernel
theorem dX5_keepEnds_103 : decode cX5_keepEnds 103 = .ok (.invokevirtual 37, 3) := by decide +kernel
theorem dX5_keepEnds_106 : decode cX5_keepEnds 106 = .ok (.bastore, 1) := by decide +kernel
theorem dX5_keepEnds_107 : decode cX5_keepEnds 107 = .ok (.iinc 6 1, 3) := by decide +kernel
theorem dX5_keepEnds_110 : decode cX5_keepEnds 110 = .ok (.goto (-44), 3) := by decide +kernel
theorem dX5_keepEnds_113 : decode cX5_keepEnds 113 = .ok (.iinc 5 (-1), 3) := by decide +kernel
theorem dX5_keepEnds_116 : decode cX5_keepEnds 116 = .ok (.goto (-58), 3) := by decide +kernel
theorem dX5_keepEnds_119 : decode cX5_keepEnds 119 = .ok (.return_, 1) := by decide +kernel
theorem dX5_endsSaid_0 : decode cX5_endsSaid 0 = .ok (.iload_n 1, 1) := by decide +kernel
theorem dX5_endsSaid_1 : decode cX5_endsSaid 1 = .ok (.ifCond .lt 37, 3) := by decide +kernel
theorem dX5_endsSaid_4 : decode cX5_endsSaid 4 = .ok (.iload_n 1, 1) := by decide +kernel
theorem dX5_endsSaid_5 : decode cX5_endsSaid 5 = .ok (.bipush 13, 2) := by decide +kernel
theorem dX5_endsSaid_7 : decode cX5_endsSaid 7 = .ok (.if_icmp .ge 31, 3) := by decide +kernel
theorem dX5_endsSaid_10 : decode cX5_endsSaid 10 = .ok (.iload_n 2, 1) := by decide +kernel
theorem dX5_endsSaid_11 : decode cX5_endsSaid 11 = .ok (.ifCond .lt 27, 3) := by decide +kernel
theorem dX5_endsSaid_14 : decode cX5_endsSaid 14 = .ok (.iload_n 2, 1) := by decide +kernel
theorem dX5_endsSaid_15 : decode cX5_endsSaid 15 = .ok (.bipush 8, 2) := by decide +kernel
theorem dX5_endsSaid_17 : decode cX5_endsSaid 17 = .ok (.if_icmp .ge 21, 3) := by decide +kernel
theorem dX5_endsSaid_20 : decode cX5_endsSaid 20 = .ok (.aload_n 0, 1) := by decide +kernel
theorem dX5_endsSaid_21 : decode cX5_endsSaid 21 = .ok (.getfield 11, 3) := by decide +kernel
theorem dX5_endsSaid_24 : decode cX5_endsSaid 24 = .ok (.iload_n 1, 1) := by decide +kernel
theorem dX5_endsSaid_25 : decode cX5_endsSaid 25 = .ok (.bipush 8, 2) := by decide +kernel
theorem dX5_endsSaid_27 : decode cX5_endsSaid 27 = .ok (.imul, 1) := by decide +kernel
theorem dX5_endsSaid_28 : decode cX5_endsSaid 28 = .ok (.iload_n 2, 1) := by decide +kernel
theorem dX5_endsSaid_29 : decode cX5_endsSaid 29 = .ok (.iadd, 1) := by decide +kernel
theorem dX5_endsSaid_30 : decode cX5_endsSaid 30 = .ok (.baload, 1) := by decide +kernel
theorem dX5_endsSaid_31 : decode cX5_endsSaid 31 = .ok (.ifCond .eq 7, 3) := by decide +kernel
theorem dX5_endsSaid_34 : decode cX5_endsSaid 34 = .ok (.iconst 1, 1) := by decide +kernel
theorem dX5_endsSaid_35 : decode cX5_endsSaid 35 = .ok (.goto 4, 3) := by decide +kernel
theorem dX5_endsSaid_38 : decode cX5_endsSaid 38 = .ok (.iconst 0, 1) := by decide +kernel
theorem dX5_endsSaid_39 : decode cX5_endsSaid 39 = .ok (.ireturn, 1) := by decide +kernel
set_option maxRecDepth 20000 in
theorem ggX5_findOne_X2_size : GoodIn wsX5_findOne wsX2_size := goodIn_r _ [5, 6, 30, 31] (by decide +kernel) (by decide +kernel)
set_option maxRecDepth 20000 in
theorem gX5_findOne_X2_size : GoodIn wsX5_findOne (wsV RX5 19 RX2 yX2_size wsX2_size) := goodIn_app (goodIn_of _ (by decide +kernel)) ggX5_findOne_X2_size
set_option maxRecDepth 20000 in
theorem ggX5_findOne_X5_after : GoodIn wsX5_findOne wsX5_after := goodIn_r _ [10] (by decide +kernel) (by decide +kernel)
set_option maxRecDepth 20000 in
theorem gX5_findOne_X5_after : GoodIn wsX5_findOne (va_wsS RX5 29 yX5_after wsX5_after) := goodIn_app (goodIn_of _ (by decide +kernel)) ggX5_findOne_X5_after
set_option maxRecDepth 20000 in
theorem ggX5_findOne_X5_endsSaid : GoodIn wsX5_findOne wsX5_endsSaid := goodIn_r _ [14, 15, 32, 33] (by decide +kernel) (by decide +kernel)
set_option maxRecDepth 20000 in
theorem gX5_findOne_X5_endsSaid : GoodIn wsX5_findOne (wsV RX5 37 RX5 yX5_endsSaid wsX5_endsSaid) := goodIn_app (goodIn_of _ (by decide +kernel)) ggX5_findOne_X5_endsSaid
set_option maxRecDepth 20000 in
theorem ggX5_findOne_X5_keep : GoodIn wsX5_findOne wsX5_keep := goodIn_r _ [19, 20, 32, 33] (by decide +kernel) (by decide +kernel)
set_option maxRecDepth 20000 in
theorem gX5_findOne_X5_keep : GoodIn wsX5_findOne (wsV RX5 55 RX5 yX5_keep wsX5_keep) := goodIn_app (goodIn_of _ (by decide +kernel)) ggX5_findOne_X5_keep
set_option maxRecDepth 20000 in
theorem ggX5_findOne_X2_at : GoodIn wsX5_findOne wsX2_at := goodIn_r _ [24, 25, 26, 27, 28, 4, 29, 6, 30, 31] (by decide +kernel) (by decide +kernel)
set_option maxRecDepth 20000 in
theorem gX5_findOne_X2_at : GoodIn wsX5_findOne (wsV RX5 25 RX2 yX2_at wsX2_at) := goodIn_app (goodIn_of _ (by decide +kernel)) ggX5_findOne_X2_at
theorem dX5_findOne_0 : decode cX5_findOne 0 = .ok (.iload 6, 2) := by decide +kernel
theorem dX5_findOne_2 : decode cX5_findOne 2 = .ok (.istore 8, 2) := by decide +kernel
theorem dX5_findOne_4 : decode cX5_findOne 4 = .ok (.iload 5, 2) := by decide +kernel
theorem dX5_findOne_6 : decode cX5_findOne 6 = .ok (.istore 9, 2) := by decide +kernel
theorem dX5_findOne_8 : decode cX5_findOne 8 = .ok (.iload 9, 2) := by decide +kernel
theorem dX5_findOne_10 : decode cX5_findOne 10 = .ok (.aload_n 1, 1) := by decide +kernel
theorem dX5_findOne_11 : decode cX5_findOne 11 = .ok (.invokevirtual 19, 3) := by decide +kernel
theorem dX5_findOne_14 : decode cX5_findOne 14 = .ok (.if_icmp .gt 72, 3) := by decide +kernel
theorem dX5_findOne_17 : decode cX5_findOne 17 = .ok (.iconst 0, 1) := by decide +kernel
theorem dX5_findOne_18 : decode cX5_findOne 18 = .ok (.istore 10, 2) := by decide +kernel
theorem dX5_findOne_20 : decode cX5_findOne 20 = .ok (.iload 10, 2) := by decide +kernel
theorem dX5_findOne_22 : decode cX5_findOne 22 = .ok (.bipush 8, 2) := by decide +kernel
theorem dX5_findOne_24 : decode cX5_findOne 24 = .ok (.if_icmp .ge 41, 3) := by decide +kernel
theorem dX5_findOne_27 : decode cX5_findOne 27 = .ok (.aload_n 0, 1) := by decide +kernel
theorem dX5_findOne_28 : decode cX5_findOne 28 = .ok (.iload 9, 2) := by decide +kernel
theorem dX5_findOne_30 : decode cX5_findOne 30 = .ok (.iload 8, 2) := by decide +kernel
theorem dX5_findOne_32 : decode cX5_findOne 32 = .ok (.iload 10, 2) := by decide +kernel
theorem dX5_findOne_34 : decode cX5_findOne 34 = .ok (.aload_n 2, 1) := by decide +kernel
theorem dX5_findOne_35 : decode cX5_findOne 35 = .ok (.iload_n 3, 1) := by decide +kernel
theorem dX5_findOne_36 : decode cX5_findOne 36 = .ok (.invokestatic 29, 3) := by decide +kernel
theorem dX5_findOne_39 : decode cX5_findOne 39 = .ok (.invokevirtual 37, 3) := by decide +kernel
theorem dX5_findOne_42 : decode cX5_findOne 42 = .ok (.iload 4, 2) := by decide +kernel
theorem dX5_findOne_44 : decode cX5_findOne 44 = .ok (.if_icmp .ne 15, 3) := by decide +kernel
theorem dX5_findOne_47 : decode cX5_findOne 47 = .ok (.aload_n 0, 1) := by decide +kernel
theorem dX5_findOne_48 : decode cX5_findOne 48 = .ok (.iload 7, 2) := by decide +kernel
theorem dX5_findOne_50 : decode cX5_findOne 50 = .ok (.iload 9, 2) := by decide +kernel
theorem dX5_findOne_52 : decode cX5_findOne 52 = .ok (.iload 10, 2) := by decide +kernel
theorem dX5_findOne_54 : decode cX5_findOne 54 = .ok (.invokevirtual 55, 3) := by decide +kernel
theorem dX5_findOne_57 : decode cX5_findOne 57 = .ok (.iconst 1, 1) := by decide +kernel
theorem dX5_findOne_58 : decode cX5_findOne 58 = .ok (.ireturn, 1) := by decide +kernel
theorem dX5_findOne_59 : decode cX5_findOne 59 = .ok (.iinc 10 1, 3) := by decide +kernel
theorem dX5_findOne_62 : decode cX5_findOne 62 = .ok (.goto (-42), 3) := by decide +kernel
theorem dX5_findOne_65 : decode cX5_findOne 65 = .ok (.iload 8, 2) := by decide +kernel
theorem dX5_findOne_67 : decode cX5_findOne 67 = .ok (.aload_n 1, 1) := by decide +kernel
theorem dX5_findOne_68 : decode cX5_findOne 68 = .ok (.iload 9, 2) := by decide +kernel
theorem dX5_findOne_70 : decode cX5_findOne 70 = .ok (.invokevirtual 25, 3) := by decide +kernel
theorem dX5_findOne_73 : decode cX5_findOne 73 = .ok (.aload_n 2, 1) := by decide +kernel
theorem dX5_findOne_74 : decode cX5_findOne 74 = .ok (.iload_n 3, 1) := by decide +kernel
theorem dX5_findOne_75 : decode cX5_findOne 75 = .ok (.invokestatic 29, 3) := by decide +kernel
theorem dX5_findOne_78 : decode cX5_findOne 78 = .ok (.istore 8, 2) := by decide +kernel
theorem dX5_findOne_80 : decode cX5_findOne 80 = .ok (.iinc 9 1, 3) := by decide +kernel
theorem dX5_findOne_83 : decode cX5_findOne 83 = .ok (.goto (-75), 3) := by decide +kernel
theorem dX5_findOne_86 : decode cX5_findOne 86 = .ok (.iconst 0, 1) := by decide +kernel
theorem dX5_findOne_87 : decode cX5_findOne 87 = .ok (.ireturn, 1) := by decide +kernel
set_option maxRecDepth 20000 in
theorem ggX5_findTwo_X2_size : GoodIn wsX5_findTwo wsX2_size := goodIn_r _ [5, 6, 34, 35] (by decide +kernel) (by decide +kernel)
set_option maxRecDepth 20000 in
theorem gX5_findTwo_X2_size : GoodIn wsX5_findTwo (wsV RX5 19 RX2 yX2_size wsX2_size) := goodIn_app (goodIn_of _ (by decide +kernel)) ggX5_findTwo_X2_size
set_option maxRecDepth 20000 in
theorem ggX5_findTwo_X5_after : GoodIn wsX5_findTwo wsX5_after := goodIn_r _ [10] (by decide +kernel) (by decide +kernel)
set_option maxRecDepth 20000 in
theorem gX5_findTwo_X5_after : GoodIn wsX5_findTwo (va_wsS RX5 29 yX5_after wsX5_after) := goodIn_app (goodIn_of _ (by decide +kernel)) ggX5_findTwo_X5_after
set_option maxRecDepth 20000 in
theorem ggX5_findTwo_X5_findOne : GoodIn wsX5_findTwo wsX5_findOne := goodIn_r _ [14, 1, 2, 3, 4, 5, 6, 7, 8, 9, 10, 15, 16, 17, 18, 19, 20, 21, 22, 23, 24, 25, 26, 27, 28, 29, 30, 31, 32, 33, 34, 35, 36, 37] (by decide +kernel) (by decide +kernel)
set_option maxRecDepth 20000 in
theorem gX5_findTwo_X5_findOne : GoodIn wsX5_findTwo (wsV RX5 41 RX5 yX5_findOne wsX5_findOne) := goodIn_app (goodIn_of _ (by decide +kernel)) ggX5_findTwo_X5_findOne
set_option maxRecDepth 20000 in
theorem ggX5_findTwo_X5_keep : GoodIn wsX5_findTwo wsX5_keep := goodIn_r _ [23, 24, 36, 37] (by decide +kernel) (by decide +kernel)
set_option maxRecDepth 20000 in
theorem gX5_findTwo_X5_keep : GoodIn wsX5_findTwo (wsV RX5 55 RX5 yX5_keep wsX5_keep) := goodIn_app (goodIn_of _ (by decide +kernel)) ggX5_findTwo_X5_keep
set_option maxRecDepth 20000 in
theorem ggX5_findTwo_X2_at : GoodIn wsX5_findTwo wsX2_at := goodIn_r _ [28, 29, 30, 31, 32, 4, 33, 6, 34, 35] (by decide +kernel) (by decide +kernel)
set_option maxRecDepth 20000 in
theorem gX5_findTwo_X2_at : GoodIn wsX5_findTwo (wsV RX5 25 RX2 yX2_at wsX2_at) := goodIn_app (goodIn_of _ (by decide +kernel)) ggX5_findTwo_X2_at
theorem dX5_findTwo_0 : decode cX5_findTwo 0 = .ok (.iconst 0, 1) := by decide +kernel
theorem dX5_findTwo_1 : decode cX5_findTwo 1 = .ok (.istore 5, 2) := by decide +kernel
theorem dX5_findTwo_3 : decode cX5_findTwo 3 = .ok (.iconst 0, 1) := by decide +kernel
theorem dX5_findTwo_4 : decode cX5_findTwo 4 = .ok (.istore 6, 2) := by decide +kernel
theorem dX5_findTwo_6 : decode cX5_findTwo 6 = .ok (.iload 6, 2) := by decide +kernel
theorem dX5_findTwo_8 : decode cX5_findTwo 8 = .ok (.aload_n 1, 1) := by decide +kernel
theorem dX5_findTwo_9 : decode cX5_findTwo 9 = .ok (.invokevirtual 19, 3) := by decide +kernel
theorem dX5_findTwo_12 : decode cX5_findTwo 12 = .ok (.if_icmp .gt 75, 3) := by decide +kernel
theorem dX5_findTwo_15 : decode cX5_findTwo 15 = .ok (.iconst 0, 1) := by decide +kernel
theorem dX5_findTwo_16 : decode cX5_findTwo 16 = .ok (.istore 7, 2) := by decide +kernel
theorem dX5_findTwo_18 : decode cX5_findTwo 18 = .ok (.iload 7, 2) := by decide +kernel
theorem dX5_findTwo_20 : decode cX5_findTwo 20 = .ok (.bipush 8, 2) := by decide +kernel
theorem dX5_findTwo_22 : decode cX5_findTwo 22 = .ok (.if_icmp .ge 44, 3) := by decide +kernel
theorem dX5_findTwo_25 : decode cX5_findTwo 25 = .ok (.aload_n 0, 1) := by decide +kernel
theorem dX5_findTwo_26 : decode cX5_findTwo 26 = .ok (.aload_n 1, 1) := by decide +kernel
theorem dX5_findTwo_27 : decode cX5_findTwo 27 = .ok (.aload_n 2, 1) := by decide +kernel
theorem dX5_findTwo_28 : decode cX5_findTwo 28 = .ok (.iload_n 3, 1) := by decide +kernel
theorem dX5_findTwo_29 : decode cX5_findTwo 29 = .ok (.iload 4, 2) := by decide +kernel
theorem dX5_findTwo_31 : decode cX5_findTwo 31 = .ok (.iload 6, 2) := by decide +kernel
theorem dX5_findTwo_33 : decode cX5_findTwo 33 = .ok (.iload 5, 2) := by decide +kernel
theorem dX5_findTwo_35 : decode cX5_findTwo 35 = .ok (.iload 7, 2) := by decide +kernel
theorem dX5_findTwo_37 : decode cX5_findTwo 37 = .ok (.aload_n 2, 1) := by decide +kernel
theorem dX5_findTwo_38 : decode cX5_findTwo 38 = .ok (.iload_n 3, 1) := by decide +kernel
theorem dX5_findTwo_39 : decode cX5_findTwo 39 = .ok (.invokestatic 29, 3) := by decide +kernel
theorem dX5_findTwo_42 : decode cX5_findTwo 42 = .ok (.iconst 1, 1) := by decide +kernel
theorem dX5_findTwo_43 : decode cX5_findTwo 43 = .ok (.invokevirtual 41, 3) := by decide +kernel
theorem dX5_findTwo_46 : decode cX5_findTwo 46 = .ok (.ifCond .eq 14, 3) := by decide +kernel
theorem dX5_findTwo_49 : decode cX5_findTwo 49 = .ok (.aload_n 0, 1) := by decide +kernel
theorem dX5_findTwo_50 : decode cX5_findTwo 50 = .ok (.iconst 0, 1) := by decide +kernel
theorem dX5_findTwo_51 : decode cX5_findTwo 51 = .ok (.iload 6, 2) := by decide +kernel
theorem dX5_findTwo_53 : decode cX5_findTwo 53 = .ok (.iload 7, 2) := by decide +kernel
theorem dX5_findTwo_55 : decode cX5_findTwo 55 = .ok (.invokevirtual 55, 3) := by decide +kernel
theorem dX5_findTwo_58 : decode cX5_findTwo 58 = .ok (.iconst 1, 1) := by decide +kernel
theorem dX5_findTwo_59 : decode cX5_findTwo 59 = .ok (.ireturn, 1) := by decide +kernel
theorem dX5_findTwo_60 : decode cX5_findTwo 60 = .ok (.iinc 7 1, 3) := by decide +kernel
theorem dX5_findTwo_63 : decode cX5_findTwo 63 = .ok (.goto (-45), 3) := by decide +kernel
theorem dX5_findTwo_66 : decode cX5_findTwo 66 = .ok (.iload 5, 2) := by decide +kernel
theorem dX5_findTwo_68 : decode cX5_findTwo 68 = .ok (.aload_n 1, 1) := by decide +kernel
theorem dX5_findTwo_69 : decode cX5_findTwo 69 = .ok (.iload 6, 2) := by decide +kernel
theorem dX5_findTwo_71 : decode cX5_findTwo 71 = .ok (.invokevirtual 25, 3) := by decide +kernel
theorem dX5_findTwo_74 : decode cX5_findTwo 74 = .ok (.aload_n 2, 1) := by decide +kernel
theorem dX5_findTwo_75 : decode cX5_findTwo 75 = .ok (.iload_n 3, 1) := by decide +kernel
theorem dX5_findTwo_76 : decode cX5_findTwo 76 = .ok (.invokestatic 29, 3) := by decide +kernel
theorem dX5_findTwo_79 : decode cX5_findTwo 79 = .ok (.istore 5, 2) := by decide +kernel
theorem dX5_findTwo_81 : decode cX5_findTwo 81 = .ok (.iinc 6 1, 3) := by decide +kernel
theorem dX5_findTwo_84 : decode cX5_findTwo 84 = .ok (.goto (-78), 3) := by decide +kernel
theorem dX5_findTwo_87 : decode cX5_findTwo 87 = .ok (.iconst 0, 1) := by decide +kernel
theorem dX5_findTwo_88 : decode cX5_findTwo 88 = .ok (.ireturn, 1) := by decide +kernel
theorem dX5_keep_0 : decode cX5_keep 0 = .ok (.iload_n 1, 1) := by decide +kernel
theorem dX5_keep_1 : decode cX5_keep 1 = .ok (.ifCond .lt 20, 3) := by decide +kernel
theorem dX5_keep_4 : decode cX5_keep 4 = .ok (.iload_n 1, 1) := by decide +kernel
theorem dX5_keep_5 : decode cX5_keep 5 = .ok (.iconst 2, 1) := by decide +kernel
theorem dX5_keep_6 : decode cX5_keep 6 = .ok (.if_icmp .ge 15, 3) := by decide +kernel
theorem dX5_keep_9 : decode cX5_keep 9 = .ok (.aload_n 0, 1) := by decide +kernel
theorem dX5_keep_10 : decode cX5_keep 10 = .ok (.getfield 15, 3) := by decide +kernel
theorem dX5_keep_13 : decode cX5_keep 13 = .ok (.iload_n 1, 1) := by decide +kernel
theorem dX5_keep_14 : decode cX5_keep 14 = .ok (.bipush 10, 2) := by decide +kernel
theorem dX5_keep_16 : decode cX5_keep 16 = .ok (.iload_n 2, 1) := by decide +kernel
theorem dX5_keep_17 : decode cX5_keep 17 = .ok (.imul, 1) := by decide +kernel
theorem dX5_keep_18 : decode cX5_keep 18 = .ok (.iload_n 3, 1) := by decide +kernel
theorem dX5_keep_19 : decode cX5_keep 19 = .ok (.iadd, 1) := by decide +kernel
theorem dX5_keep_20 : decode cX5_keep 20 = .ok (.iastore, 1) := by decide +kernel
theorem dX5_keep_21 : decode cX5_keep 21 = .ok (.return_, 1) := by decide +kernel
theorem dX6_init_0 : decode cX6_init 0 = .ok (.aload_n 0, 1) := by decide +kernel
theorem dX6_init_1 : decode cX6_init 1 = .ok (.invokespecial 3, 3) := by decide +kernel
theorem dX6_init_4 : decode cX6_init 4 = .ok (.aload_n 0, 1) := by decide +kernel
theorem dX6_init_5 : decode cX6_init 5 = .ok (.bipush 80, 2) := by decide +kernel
theorem dX6_init_7 : decode cX6_init 7 = .ok (.newarray .int, 2) := by decide +kernel
theorem dX6_init_9 : decode cX6_init 9 = .ok (.putfield 9, 3) := by decide +kernel
theorem dX6_init_12 : decode cX6_init 12 = .ok (.aload_n 0, 1) := by decide +kernel
theorem dX6_init_13 : decode cX6_init 13 = .ok (.iconst (-1), 1) := by decide +kernel
theorem dX6_init_14 : decode cX6_init 14 = .ok (.putfield 15, 3) := by decide +kernel
theorem dX6_init_17 : decode cX6_init 17 = .ok (.aload_n 0, 1) := by decide +kernel
theorem dX6_init_18 : decode cX6_init 18 = .ok (.iconst 0, 1) := by decide +kernel
theorem dX6_init_19 : decode cX6_init 19 = .ok (.putfield 19, 3) := by decide +kernel
theorem dX6_init_22 : decode cX6_init 22 = .ok (.return_, 1) := by decide +kernel
theorem dX6_isNothing_0 : decode cX6_isNothing 0 = .ok (.aload_n 0, 1) := by decide +kernel
theorem dX6_isNothing_1 : decode cX6_isNothing 1 = .ok (.getfield 15, 3) := by decide +kernel
theorem dX6_isNothing_4 : decode cX6_isNothing 4 = .ok (.iconst (-1), 1) := by decide +kernel
theorem dX6_isNothing_5 : decode cX6_isNothing 5 = .ok (.if_icmp .ne 7, 3) := by decide +kernel
theorem dX6_isNothing_8 : decode cX6_isNothing 8 = .ok (.iconst 1, 1) := by decide +kernel
theorem dX6_isNothing_9 : decode cX6_isNothing 9 = .ok (.goto 4, 3) := by decide +kernel
theorem dX6_isNothing_12 : decode cX6_isNothing 12 = .ok (.iconst 0, 1) := by decide +kernel
theorem dX6_isNothing_13 : decode cX6_isNothing 13 = .ok (.ireturn, 1) := by decide +kernel
theorem dX6_sort_0 : decode cX6_sort 0 = .ok (.aload_n 0, 1) := by decide +kernel
theorem dX6_sort_1 : decode cX6_sort 1 = .ok (.getfield 19, 3) := by decide +kernel
theorem dX6_sort_4 : decode cX6_sort 4 = .ok (.ireturn, 1) := by decide +kernel
set_option maxRecDepth 20000 in
theorem ggX6_renew_J7_fill_53178 : GoodIn wsX6_renew wsJ7_fill_53178 := goodIn_r _ [7] (by decide +kernel) (by decide +kernel)
set_option maxRecDepth 20000 in
theorem gX6_renew_J7_fill_53178 : GoodIn wsX6_renew (va_wsS RX6 22 yJ7_fill_53178 wsJ7_fill_53178) := goodIn_app (goodIn_of _ (by decide +kernel)) ggX6_renew_J7_fill_53178
theorem dX6_renew_0 : decode cX6_renew 0 = .ok (.iload_n 2, 1) := by decide +kernel
theorem dX6_renew_1 : decode cX6_renew 1 = .ok (.ifCond .lt 9, 3) := by decide +kernel
theorem dX6_renew_4 : decode cX6_renew 4 = .ok (.iload_n 2, 1) := by decide +kernel
theorem dX6_renew_5 : decode cX6_renew 5 = .ok (.bipush 80, 2) := by decide +kernel
theorem dX6_renew_7 : decode cX6_renew 7 = .ok (.if_icmp .le 4, 3) := by decide +kernel
theorem dX6_renew_10 : decode cX6_renew 10 = .ok (.return_, 1) := by decide +kernel
theorem dX6_renew_11 : decode cX6_renew 11 = .ok (.aload_n 0, 1) := by decide +kernel
theorem dX6_renew_12 : decode cX6_renew 12 = .ok (.getfield 9, 3) := by decide +kernel
theorem dX6_renew_15 : decode cX6_renew 15 = .ok (.iconst 0, 1) := by decide +kernel
theorem dX6_renew_16 : decode cX6_renew 16 = .ok (.invokestatic 22, 3) := by decide +kernel
theorem dX6_renew_19 : decode cX6_renew 19 = .ok (.aload_n 0, 1) := by decide +kernel
theorem dX6_renew_20 : decode cX6_renew 20 = .ok (.iload_n 2, 1) := by decide +kernel
theorem dX6_renew_21 : decode cX6_renew 21 = .ok (.putfield 15, 3) := by decide +kernel
theorem dX6_renew_24 : decode cX6_renew 24 = .ok (.aload_n 0, 1) := by decide +kernel
theorem dX6_renew_25 : decode cX6_renew 25 = .ok (.iload_n 1, 1) := by decide +kernel
theorem dX6_renew_26 : decode cX6_renew 26 = .ok (.putfield 19, 3) := by decide +kernel
theorem dX6_renew_29 : decode cX6_renew 29 = .ok (.return_, 1) := by decide +kernel
theorem dX6_drop_0 : decode cX6_drop 0 = .ok (.aload_n 0, 1) := by decide +kernel
theorem dX6_drop_1 : decode cX6_drop 1 = .ok (.iconst (-1), 1) := by decide +kernel
theorem dX6_drop_2 : decode cX6_drop 2 = .ok (.putfield 15, 3) := by decide +kernel
theorem dX6_drop_5 : decode cX6_drop 5 = .ok (.return_, 1) := by decide +kernel
theorem dX6_hasCells_0 : decode cX6_hasCells 0 = .ok (.iload_n 1, 1) := by decide +kernel
theorem dX6_hasCells_1 : decode cX6_hasCells 1 = .ok (.ifCond .lt 25, 3) := by decide +kernel
theorem dX6_hasCells_4 : decode cX6_hasCells 4 = .ok (.iload_n 2, 1) := by decide +kernel
theorem dX6_hasCells_5 : decode cX6_hasCells 5 = .ok (.ifCond .lt 21, 3) := by decide +kernel
theorem dX6_hasCells_8 : decode cX6_hasCells 8 = .ok (.iload_n 1, 1) := by decide +kernel
theorem dX6_hasCells_9 : decode cX6_hasCells 9 = .ok (.i2l, 1) := by decide +kernel
theorem dX6_hasCells_10 : decode cX6_hasCells 10 = .ok (.iload_n 2, 1) := by decide +kernel
theorem dX6_hasCells_11 : decode cX6_hasCells 11 = .ok (.i2l, 1) := by decide +kernel
theorem dX6_hasCells_12 : decode cX6_hasCells 12 = .ok (.ladd, 1) := by decide +kernel
theorem dX6_hasCells_13 : decode cX6_hasCells 13 = .ok (.aload_n 0, 1) := by decide +kernel
theorem dX6_hasCells_14 : decode cX6_hasCells 14 = .ok (.getfield 15, 3) := by decide +kernel
theorem dX6_hasCells_17 : decode cX6_hasCells 17 = .ok (.i2l, 1) := by decide +kernel
theorem dX6_hasCells_18 : decode cX6_hasCells 18 = .ok (.lcmp, 1) := by decide +kernel
theorem dX6_hasCells_19 : decode cX6_hasCells 19 = .ok (.ifCond .gt 7, 3) := by decide +kernel
theorem dX6_hasCells_22 : decode cX6_hasCells 22 = .ok (.iconst 1, 1) := by decide +kernel
theorem dX6_hasCells_23 : decode cX6_hasCells 23 = .ok (.goto 4, 3) := by decide +kernel
theorem dX6_hasCells_26 : decode cX6_hasCells 26 = .ok (.iconst 0, 1) := by decide +kernel
theorem dX6_hasCells_27 : decode cX6_hasCells 27 = .ok (.ireturn, 1) := by decide +kernel
set_option maxRecDepth 20000 in
theorem ggX6_at_X6_hasCells : GoodIn wsX6_at wsX6_hasCells := goodIn_r _ [6, 7, 8, 9, 10] (by decide +kernel) (by decide +kernel)
set_option maxRecDepth 20000 in
theorem gX6_at_X6_hasCells : GoodIn wsX6_at (wsV RX6 28 RX6 yX6_hasCells wsX6_hasCells) := goodIn_app (goodIn_of _ (by decide +kernel)) ggX6_at_X6_hasCells
theorem dX6_at_0 : decode cX6_at 0 = .ok (.aload_n 0, 1) := by decide +kernel
theorem dX6_at_1 : decode cX6_at 1 = .ok (.iload_n 1, 1) := by decide +kernel
theorem dX6_at_2 : decode cX6_at 2 = .ok (.iconst 1, 1) := by decide +kernel
theorem dX6_at_3 : decode cX6_at 3 = .ok (.invokevirtual 28, 3) := by decide +kernel
theorem dX6_at_6 : decode cX6_at 6 = .ok (.ifCond .eq 12, 3) := by decide +kernel
theorem dX6_at_9 : decode cX6_at 9 = .ok (.aload_n 0, 1) := by decide +kernel
theorem dX6_at_10 : decode cX6_at 10 = .ok (.getfield 9, 3) := by decide +kernel
theorem dX6_at_13 : decode cX6_at 13 = .ok (.iload_n 1, 1) := by decide +kernel
theorem dX6_at_14 : decode cX6_at 14 = .ok (.iaload, 1) := by decide +kernel
theorem dX6_at_15 : decode cX6_at 15 = .ok (.goto 4, 3) := by decide +kernel
theorem dX6_at_18 : decode cX6_at 18 = .ok (.iconst 0, 1) := by decide +kernel
theorem dX6_at_19 : decode cX6_at 19 = .ok (.ireturn, 1) := by decide +kernel
set_option maxRecDepth 20000 in
theorem ggX6_write_X6_hasCells : GoodIn wsX6_write wsX6_hasCells := goodIn_r _ [6, 7, 13, 14, 15] (by decide +kernel) (by decide +kernel)
set_option maxRecDepth 20000 in
theorem gX6_write_X6_hasCells : GoodIn wsX6_write (wsV RX6 28 RX6 yX6_hasCells wsX6_hasCells) := goodIn_app (goodIn_of _ (by decide +kernel)) ggX6_write_X6_hasCells
set_option maxRecDepth 20000 in
theorem ggX6_write_X6_cut : GoodIn wsX6_write wsX6_cut := goodIn_r _ [11, 12, 13, 14, 15] (by decide +kernel) (by decide +kernel)
set_option maxRecDepth 20000 in
theorem gX6_write_X6_cut : GoodIn wsX6_write (wsV RX6 32 RX6 yX6_cut wsX6_cut) := goodIn_app (goodIn_of _ (by decide +kernel)) ggX6_write_X6_cut
theorem dX6_write_0 : decode cX6_write 0 = .ok (.aload_n 0, 1) := by decide +kernel
theorem dX6_write_1 : decode cX6_write 1 = .ok (.iload_n 1, 1) := by decide +kernel
theorem dX6_write_2 : decode cX6_write 2 = .ok (.iconst 1, 1) := by decide +kernel
theorem dX6_write_3 : decode cX6_write 3 = .ok (.invokevirtual 28, 3) := by decide +kernel
theorem dX6_write_6 : decode cX6_write 6 = .ok (.ifCond .eq 14, 3) := by decide +kernel
theorem dX6_write_9 : decode cX6_write 9 = .ok (.aload_n 0, 1) := by decide +kernel
theorem dX6_write_10 : decode cX6_write 10 = .ok (.getfield 9, 3) := by decide +kernel
theorem dX6_write_13 : decode cX6_write 13 = .ok (.iload_n 1, 1) := by decide +kernel
theorem dX6_write_14 : decode cX6_write 14 = .ok (.aload_n 0, 1) := by decide +kernel
theorem dX6_write_15 : decode cX6_write 15 = .ok (.iload_n 2, 1) := by decide +kernel
theorem dX6_write_16 : decode cX6_write 16 = .ok (.invokevirtual 32, 3) := by decide +kernel
theorem dX6_write_19 : decode cX6_write 19 = .ok (.iastore, 1) := by decide +kernel
theorem dX6_write_20 : decode cX6_write 20 = .ok (.return_, 1) := by decide +kernel
set_option maxRecDepth 20000 in
theorem ggX6_giveTo_X6_hasCells : GoodIn wsX6_giveTo wsX6_hasCells := goodIn_r _ [10, 11, 12, 13, 14] (by decide +kernel) (by decide +kernel)
set_option maxRecDepth 20000 in
theorem gX6_giveTo_X6_hasCells : GoodIn wsX6_giveTo (wsV RX6 28 RX6 yX6_hasCells wsX6_hasCells) := goodIn_app (goodIn_of _ (by decide +kernel)) ggX6_giveTo_X6_hasCells
theorem dX6_giveTo_0 : decode cX6_giveTo 0 = .ok (.aload_n 0, 1) := by decide +kernel
theorem dX6_giveTo_1 : decode cX6_giveTo 1 = .ok (.iload_n 1, 1) := by decide +kernel
theorem dX6_giveTo_2 : decode cX6_giveTo 2 = .ok (.iload 4, 2) := by decide +kernel
theorem dX6_giveTo_4 : decode cX6_giveTo 4 = .ok (.invokevirtual 28, 3) := by decide +kernel
theorem dX6_giveTo_7 : decode cX6_giveTo 7 = .ok (.ifCond .eq 28, 3) := by decide +kernel
theorem dX6_giveTo_10 : decode cX6_giveTo 10 = .ok (.aload_n 2, 1) := by decide +kernel
theorem dX6_giveTo_11 : decode cX6_giveTo 11 = .ok (.iload_n 3, 1) := by decide +kernel
theorem dX6_giveTo_12 : decode cX6_giveTo 12 = .ok (.iload 4, 2) := by decide +kernel
theorem dX6_giveTo_14 : decode cX6_giveTo 14 = .ok (.invokevirtual 28, 3) := by decide +kernel
theorem dX6_giveTo_17 : decode cX6_giveTo 17 = .ok (.ifCond .eq 18, 3) := by decide +kernel
theorem dX6_giveTo_20 : decode cX6_giveTo 20 = .ok (.aload_n 0, 1) := by decide +kernel
theorem dX6_giveTo_21 : decode cX6_giveTo 21 = .ok (.getfield 9, 3) := by decide +kernel
theorem dX6_giveTo_24 : decode cX6_giveTo 24 = .ok (.iload_n 1, 1) := by decide +kernel
theorem dX6_giveTo_25 : decode cX6_giveTo 25 = .ok (.aload_n 2, 1) := by decide +kernel
theorem dX6_giveTo_26 : decode cX6_giveTo 26 = .ok (.getfield 9, 3) := by decide +kernel
theorem dX6_giveTo_29 : decode cX6_giveTo 29 = .ok (.iload_n 3, 1) := by decide +kernel
theorem dX6_giveTo_30 : decode cX6_giveTo 30 = .ok (.iload 4, 2) := by decide +kernel
theorem dX6_giveTo_32 : decode cX6_giveTo 32 = .ok (.invokestatic 36, 3) := by decide +kernel
theorem dX6_giveTo_35 : decode cX6_giveTo 35 = .ok (.return_, 1) := by decide +kernel
theorem dX6_cut_0 : decode cX6_cut 0 = .ok (.aload_n 0, 1) := by decide +kernel
theorem dX6_cut_1 : decode cX6_cut 1 = .ok (.getfield 19, 3) := by decide +kernel
theorem dX6_cut_4 : decode cX6_cut 4 = .ok (.ifCond .ne 6, 3) := by decide +kernel
theorem dX6_cut_7 : decode cX6_cut 7 = .ok (.iload_n 1, 1) := by decide +kernel
theorem dX6_cut_8 : decode cX6_cut 8 = .ok (.i2b, 1) := by decide +kernel
theorem dX6_cut_9 : decode cX6_cut 9 = .ok (.ireturn, 1) := by decide +kernel
theorem dX6_cut_10 : decode cX6_cut 10 = .ok (.aload_n 0, 1) := by decide +kernel
theorem dX6_cut_11 : decode cX6_cut 11 = .ok (.getfield 19, 3) := by decide +kernel
theorem dX6_cut_14 : decode cX6_cut 14 = .ok (.iconst 1, 1) := by decide +kernel
theorem dX6_cut_15 : decode cX6_cut 15 = .ok (.if_icmp .ne 8, 3) := by decide +kernel
theorem dX6_cut_18 : decode cX6_cut 18 = .ok (.iload_n 1, 1) := by decide +kernel
theorem dX6_cut_19 : decode cX6_cut 19 = .ok (.i2s, 1) := by decide +kernel
theorem dX6_cut_20 : decode cX6_cut 20 = .ok (.goto 4, 3) := by decide +kernel
theorem dX6_cut_23 : decode cX6_cut 23 = .ok (.iload_n 1, 1) := by decide +kernel
theorem dX6_cut_24 : decode cX6_cut 24 = .ok (.ireturn, 1) := by decide +kernel
set_option maxRecDepth 20000 in
theorem ggX7_init_X4_init : GoodIn wsX7_init wsX4_init := goodIn_r _ [10, 11, 2, 3, 12, 13, 14] (by decide +kernel) (by decide +kernel)
set_option maxRecDepth 20000 in
theorem gX7_init_X4_init_n11 : GoodIn wsX7_init (wsX4_init) := ggX7_init_X4_init
theorem dX7_init_0 : decode cX7_init 0 = .ok (.aload_n 0, 1) := by decide +kernel
theorem dX7_init_1 : decode cX7_init 1 = .ok (.invokespecial 3, 3) := by decide +kernel
theorem dX7_init_4 : decode cX7_init 4 = .ok (.aload_n 0, 1) := by decide +kernel
theorem dX7_init_5 : decode cX7_init 5 = .ok (.new 9, 3) := by decide +kernel
theorem dX7_init_8 : decode cX7_init 8 = .ok (.dup, 1) := by decide +kernel
theorem dX7_init_9 : decode cX7_init 9 = .ok (.invokespecial 11, 3) := by decide +kernel
theorem dX7_init_12 : decode cX7_init 12 = .ok (.putfield 12, 3) := by decide +kernel
theorem dX7_init_15 : decode cX7_init 15 = .ok (.aload_n 0, 1) := by decide +kernel
theorem dX7_init_16 : decode cX7_init 16 = .ok (.new 9, 3) := by decide +kernel
theorem dX7_init_19 : decode cX7_init 19 = .ok (.dup, 1) := by decide +kernel
theorem dX7_init_20 : decode cX7_init 20 = .ok (.invokespecial 11, 3) := by decide +kernel
theorem dX7_init_23 : decode cX7_init 23 = .ok (.putfield 18, 3) := by decide +kernel
theorem dX7_init_26 : decode cX7_init 26 = .ok (.return_, 1) := by decide +kernel
set_option maxRecDepth 20000 in
theorem ggX7_make_X2_size : GoodIn wsX7_make wsX2_size := goodIn_r _ [5, 6, 45, 46] (by decide +kernel) (by decide +kernel)
set_option maxRecDepth 20000 in
theorem gX7_make_X2_size : GoodIn wsX7_make (wsV RX7 21 RX2 yX2_size wsX2_size) := goodIn_app (goodIn_of _ (by decide +kernel)) ggX7_make_X2_size
set_option maxRecDepth 20000 in
theorem ggX7_make_X7_makeAt : GoodIn wsX7_make wsX7_makeAt := goodIn_r _ [11, 12, 13, 14, 15, 16, 17, 18, 19, 20, 4, 21, 6, 1, 2, 3, 5, 22, 23, 24, 10, 25, 26, 27, 28, 29, 30, 31, 32, 33, 34, 35, 36, 37, 38, 39, 40, 41, 42, 43, 44, 47, 48, 45, 46, 49] (by decide +kernel) (by decide +kernel)
set_option maxRecDepth 20000 in
theorem gX7_make_X7_makeAt : GoodIn wsX7_make (wsV RX7 27 RX7 yX7_makeAt wsX7_makeAt) := goodIn_app (goodIn_of _ (by decide +kernel)) ggX7_make_X7_makeAt
theorem dX7_make_0 : decode cX7_make 0 = .ok (.aload_n 1, 1) := by decide +kernel
theorem dX7_make_1 : decode cX7_make 1 = .ok (.invokevirtual 21, 3) := by decide +kernel
theorem dX7_make_4 : decode cX7_make 4 = .ok (.istore_n 3, 1) := by decide +kernel
theorem dX7_make_5 : decode cX7_make 5 = .ok (.iload_n 3, 1) := by decide +kernel
theorem dX7_make_6 : decode cX7_make 6 = .ok (.ifCond .lt 35, 3) := by decide +kernel
theorem dX7_make_9 : decode cX7_make 9 = .ok (.aload_n 2, 1) := by decide +kernel
theorem dX7_make_10 : decode cX7_make 10 = .ok (.invokevirtual 21, 3) := by decide +kernel
theorem dX7_make_13 : decode cX7_make 13 = .ok (.istore 4, 2) := by decide +kernel
theorem dX7_make_15 : decode cX7_make 15 = .ok (.iload 4, 2) := by decide +kernel
theorem dX7_make_17 : decode cX7_make 17 = .ok (.ifCond .lt 18, 3) := by decide +kernel
theorem dX7_make_20 : decode cX7_make 20 = .ok (.aload_n 0, 1) := by decide +kernel
theorem dX7_make_21 : decode cX7_make 21 = .ok (.aload_n 1, 1) := by decide +kernel
theorem dX7_make_22 : decode cX7_make 22 = .ok (.iload_n 3, 1) := by decide +kernel
theorem dX7_make_23 : decode cX7_make 23 = .ok (.aload_n 2, 1) := by decide +kernel
theorem dX7_make_24 : decode cX7_make 24 = .ok (.iload 4, 2) := by decide +kernel
theorem dX7_make_26 : decode cX7_make 26 = .ok (.invokevirtual 27, 3) := by decide +kernel
theorem dX7_make_29 : decode cX7_make 29 = .ok (.iinc 4 (-1), 3) := by decide +kernel
theorem dX7_make_32 : decode cX7_make 32 = .ok (.goto (-17), 3) := by decide +kernel
theorem dX7_make_35 : decode cX7_make 35 = .ok (.iinc 3 (-1), 3) := by decide +kernel
theorem dX7_make_38 : decode cX7_make 38 = .ok (.goto (-33), 3) := by decide +kernel
theorem dX7_make_41 : decode cX7_make 41 = .ok (.return_, 1) := by decide +kernel
set_option maxRecDepth 20000 in
theorem ggX7_length_X4_at : GoodIn wsX7_length wsX4_at := goodIn_r _ [6, 7, 8, 9, 5, 10, 13] (by decide +kernel) (by decide +kernel)
set_option maxRecDepth 20000 in
theorem gX7_length_X4_at : GoodIn wsX7_length (wsV RX7 31 RX4 yX4_at wsX4_at) := goodIn_app (goodIn_of _ (by decide +kernel)) ggX7_length_X4_at
theorem dX7_length_0 : decode cX7_length 0 = .ok (.aload_n 0, 1) := by decide +kernel
theorem dX7_length_1 : decode cX7_length 1 = .ok (.getfield 12, 3) := by decide +kernel
theorem dX7_length_4 : decode cX7_length 4 = .ok (.iconst 0, 1) := by decide +kernel
theorem dX7_length_5 : decode cX7_length 5 = .ok (.iconst 0, 1) := by decide +kernel
theorem dX7_length_6 : decode cX7_length 6 = .ok (.invokevirtual 31, 3) := by decide +kernel
theorem dX7_length_9 : decode cX7_length 9 = .ok (.l2i, 1) := by decide +kernel
theorem dX7_length_10 : decode cX7_length 10 = .ok (.ireturn, 1) := by decide +kernel
set_option maxRecDepth 20000 in
theorem ggX7_howMany_X4_at : GoodIn wsX7_howMany wsX4_at := goodIn_r _ [6, 7, 8, 9, 5, 10, 13] (by decide +kernel) (by decide +kernel)
set_option maxRecDepth 20000 in
theorem gX7_howMany_X4_at : GoodIn wsX7_howMany (wsV RX7 31 RX4 yX4_at wsX4_at) := goodIn_app (goodIn_of _ (by decide +kernel)) ggX7_howMany_X4_at
theorem dX7_howMany_0 : decode cX7_howMany 0 = .ok (.aload_n 0, 1) := by decide +kernel
theorem dX7_howMany_1 : decode cX7_howMany 1 = .ok (.getfield 18, 3) := by decide +kernel
theorem dX7_howMany_4 : decode cX7_howMany 4 = .ok (.iconst 0, 1) := by decide +kernel
theorem dX7_howMany_5 : decode cX7_howMany 5 = .ok (.iconst 0, 1) := by decide +kernel
theorem dX7_howMany_6 : decode cX7_howMany 6 = .ok (.invokevirtual 31, 3) := by decide +kernel
theorem dX7_howMany_9 : decode cX7_howMany 9 = .ok (.lreturn, 1) := by decide +kernel
set_option maxRecDepth 20000 in
theorem ggX7_wordOfFirst_X7_firstWord : GoodIn wsX7_wordOfFirst wsX7_firstWord := goodIn_r _ [5, 6, 7, 8, 9, 10, 11, 12, 13, 14, 15, 16, 17, 18, 19, 20, 21, 22, 23, 24, 25, 26, 27, 28, 29, 30, 31, 32, 33, 34, 35, 36] (by decide +kernel) (by decide +kernel)
set_option maxRecDepth 20000 in
theorem gX7_wordOfFirst_X7_firstWord : GoodIn wsX7_wordOfFirst (wsV RX7 35 RX7 yX7_firstWord wsX7_firstWord) := goodIn_app (goodIn_of _ (by decide +kernel)) ggX7_wordOfFirst_X7_firstWord
set_option maxRecDepth 20000 in
theorem ggX7_wordOfFirst_X2_at : GoodIn wsX7_wordOfFirst wsX2_at := goodIn_r _ [20, 21, 22, 12, 13, 14, 15, 16, 34, 35] (by decide +kernel) (by decide +kernel)
set_option maxRecDepth 20000 in
theorem gX7_wordOfFirst_X2_at : GoodIn wsX7_wordOfFirst (wsV RX7 39 RX2 yX2_at wsX2_at) := goodIn_app (goodIn_of _ (by decide +kernel)) ggX7_wordOfFirst_X2_at
theorem dX7_wordOfFirst_0 : decode cX7_wordOfFirst 0 = .ok (.iconst 0, 1) := by decide +kernel
theorem dX7_wordOfFirst_1 : decode cX7_wordOfFirst 1 = .ok (.istore 4, 2) := by decide +kernel
theorem dX7_wordOfFirst_3 : decode cX7_wordOfFirst 3 = .ok (.iconst 0, 1) := by decide +kernel
theorem dX7_wordOfFirst_4 : decode cX7_wordOfFirst 4 = .ok (.istore 5, 2) := by decide +kernel
theorem dX7_wordOfFirst_6 : decode cX7_wordOfFirst 6 = .ok (.bipush (-9), 2) := by decide +kernel
theorem dX7_wordOfFirst_8 : decode cX7_wordOfFirst 8 = .ok (.istore 6, 2) := by decide +kernel
theorem dX7_wordOfFirst_10 : decode cX7_wordOfFirst 10 = .ok (.iconst 0, 1) := by decide +kernel
theorem dX7_wordOfFirst_11 : decode cX7_wordOfFirst 11 = .ok (.istore 7, 2) := by decide +kernel
theorem dX7_wordOfFirst_13 : decode cX7_wordOfFirst 13 = .ok (.iload 7, 2) := by decide +kernel
theorem dX7_wordOfFirst_15 : decode cX7_wordOfFirst 15 = .ok (.iload_n 3, 1) := by decide +kernel
theorem dX7_wordOfFirst_16 : decode cX7_wordOfFirst 16 = .ok (.if_icmp .gt 70, 3) := by decide +kernel
theorem dX7_wordOfFirst_19 : decode cX7_wordOfFirst 19 = .ok (.iload 7, 2) := by decide +kernel
theorem dX7_wordOfFirst_21 : decode cX7_wordOfFirst 21 = .ok (.bipush 24, 2) := by decide +kernel
theorem dX7_wordOfFirst_23 : decode cX7_wordOfFirst 23 = .ok (.if_icmp .ge 63, 3) := by decide +kernel
theorem dX7_wordOfFirst_26 : decode cX7_wordOfFirst 26 = .ok (.aload_n 0, 1) := by decide +kernel
theorem dX7_wordOfFirst_27 : decode cX7_wordOfFirst 27 = .ok (.aload_n 1, 1) := by decide +kernel
theorem dX7_wordOfFirst_28 : decode cX7_wordOfFirst 28 = .ok (.iload 4, 2) := by decide +kernel
theorem dX7_wordOfFirst_30 : decode cX7_wordOfFirst 30 = .ok (.aload_n 2, 1) := by decide +kernel
theorem dX7_wordOfFirst_31 : decode cX7_wordOfFirst 31 = .ok (.iload 5, 2) := by decide +kernel
theorem dX7_wordOfFirst_33 : decode cX7_wordOfFirst 33 = .ok (.invokevirtual 35, 3) := by decide +kernel
theorem dX7_wordOfFirst_36 : decode cX7_wordOfFirst 36 = .ok (.istore 6, 2) := by decide +kernel
theorem dX7_wordOfFirst_38 : decode cX7_wordOfFirst 38 = .ok (.iload 4, 2) := by decide +kernel
theorem dX7_wordOfFirst_40 : decode cX7_wordOfFirst 40 = .ok (.aload_n 1, 1) := by decide +kernel
theorem dX7_wordOfFirst_41 : decode cX7_wordOfFirst 41 = .ok (.iload 4, 2) := by decide +kernel
theorem dX7_wordOfFirst_43 : decode cX7_wordOfFirst 43 = .ok (.invokevirtual 39, 3) := by decide +kernel
theorem dX7_wordOfFirst_46 : decode cX7_wordOfFirst 46 = .ok (.iload 6, 2) := by decide +kernel
theorem dX7_wordOfFirst_48 : decode cX7_wordOfFirst 48 = .ok (.if_icmp .ne 7, 3) := by decide +kernel
theorem dX7_wordOfFirst_51 : decode cX7_wordOfFirst 51 = .ok (.iconst 1, 1) := by decide +kernel
theorem dX7_wordOfFirst_52 : decode cX7_wordOfFirst 52 = .ok (.goto 4, 3) := by decide +kernel
theorem dX7_wordOfFirst_55 : decode cX7_wordOfFirst 55 = .ok (.iconst 0, 1) := by decide +kernel
theorem dX7_wordOfFirst_56 : decode cX7_wordOfFirst 56 = .ok (.iadd, 1) := by decide +kernel
theorem dX7_wordOfFirst_57 : decode cX7_wordOfFirst 57 = .ok (.istore 4, 2) := by decide +kernel
theorem dX7_wordOfFirst_59 : decode cX7_wordOfFirst 59 = .ok (.iload 5, 2) := by decide +kernel
theorem dX7_wordOfFirst_61 : decode cX7_wordOfFirst 61 = .ok (.aload_n 2, 1) := by decide +kernel
theorem dX7_wordOfFirst_62 : decode cX7_wordOfFirst 62 = .ok (.iload 5, 2) := by decide +kernel
theorem dX7_wordOfFirst_64 : decode cX7_wordOfFirst 64 = .ok (.invokevirtual 39, 3) := by decide +kernel
theorem dX7_wordOfFirst_67 : decode cX7_wordOfFirst 67 = .ok (.iload 6, 2) := by decide +kernel
theorem dX7_wordOfFirst_69 : decode cX7_wordOfFirst 69 = .ok (.if_icmp .ne 7, 3) := by decide +kernel
theorem dX7_wordOfFirst_72 : decode cX7_wordOfFirst 72 = .ok (.iconst 1, 1) := by decide +kernel
theorem dX7_wordOfFirst_73 : decode cX7_wordOfFirst 73 = .ok (.goto 4, 3) := by decide +kernel
theorem dX7_wordOfFirst_76 : decode cX7_wordOfFirst 76 = .ok (.iconst 0, 1) := by decide +kernel
theorem dX7_wordOfFirst_77 : decode cX7_wordOfFirst 77 = .ok (.iadd, 1) := by decide +kernel
theorem dX7_wordOfFirst_78 : decode cX7_wordOfFirst 78 = .ok (.istore 5, 2) := by decide +kernel
theorem dX7_wordOfFirst_80 : decode cX7_wordOfFirst 80 = .ok (.iinc 7 1, 3) := by decide +kernel
theorem dX7_wordOfFirst_83 : decode cX7_wordOfFirst 83 = .ok (.goto (-70), 3) := by decide +kernel
theorem dX7_wordOfFirst_86 : decode cX7_wordOfFirst 86 = .ok (.iload 6, 2) := by decide +kernel
theorem dX7_wordOfFirst_88 : decode cX7_wordOfFirst 88 = .ok (.ireturn, 1) := by decide +kernel
set_option maxRecDepth 20000 in
theorem ggX7_makeAt_X2_has : GoodIn wsX7_makeAt wsX2_has := goodIn_r _ [11, 12, 43, 44] (by decide +kernel) (by decide +kernel)
set_option maxRecDepth 20000 in
theorem gX7_makeAt_X2_has : GoodIn wsX7_makeAt (wsV RX7 42 RX2 yX2_has wsX2_has) := goodIn_app (goodIn_of _ (by decide +kernel)) ggX7_makeAt_X2_has
set_option maxRecDepth 20000 in
theorem ggX7_makeAt_X2_size : GoodIn wsX7_makeAt wsX2_size := goodIn_r _ [16, 12, 43, 44] (by decide +kernel) (by decide +kernel)
set_option maxRecDepth 20000 in
theorem gX7_makeAt_X2_size : GoodIn wsX7_makeAt (wsV RX7 21 RX2 yX2_size wsX2_size) := goodIn_app (goodIn_of _ (by decide +kernel)) ggX7_makeAt_X2_size
set_option maxRecDepth 20000 in
theorem ggX7_makeAt_X7_keep : GoodIn wsX7_makeAt wsX7_keep := goodIn_r _ [21, 1, 2, 22, 23, 24, 25, 26, 27, 28, 29, 30, 41, 42, 45] (by decide +kernel) (by decide +kernel)
set_option maxRecDepth 20000 in
theorem gX7_makeAt_X7_keep : GoodIn wsX7_makeAt (wsV RX7 46 RX7 yX7_keep wsX7_keep) := goodIn_app (goodIn_of _ (by decide +kernel)) ggX7_makeAt_X7_keep
set_option maxRecDepth 20000 in
theorem ggX7_makeAt_X2_at : GoodIn wsX7_makeAt wsX2_at := goodIn_r _ [34, 35, 36, 8, 9, 10, 11, 12, 43, 44] (by decide +kernel) (by decide +kernel)
set_option maxRecDepth 20000 in
theorem gX7_makeAt_X2_at : GoodIn wsX7_makeAt (wsV RX7 39 RX2 yX2_at wsX2_at) := goodIn_app (goodIn_of _ (by decide +kernel)) ggX7_makeAt_X2_at
set_option maxRecDepth 20000 in
theorem ggX7_makeAt_X4_at : GoodIn wsX7_makeAt wsX4_at := goodIn_r _ [40, 27, 28, 29, 25, 30, 45] (by decide +kernel) (by decide +kernel)
set_option maxRecDepth 20000 in
theorem gX7_makeAt_X4_at : GoodIn wsX7_makeAt (wsV RX7 31 RX4 yX4_at wsX4_at) := goodIn_app (goodIn_of _ (by decide +kernel)) ggX7_makeAt_X4_at
theorem dX7_makeAt_0 : decode cX7_makeAt 0 = .ok (.aload_n 1, 1) := by decide +kernel
theorem dX7_makeAt_1 : decode cX7_makeAt 1 = .ok (.iload_n 2, 1) := by decide +kernel
theorem dX7_makeAt_2 : decode cX7_makeAt 2 = .ok (.invokevirtual 42, 3) := by decide +kernel
theorem dX7_makeAt_5 : decode cX7_makeAt 5 = .ok (.ifCond .eq 12, 3) := by decide +kernel
theorem dX7_makeAt_8 : decode cX7_makeAt 8 = .ok (.aload_n 3, 1) := by decide +kernel
theorem dX7_makeAt_9 : decode cX7_makeAt 9 = .ok (.iload 4, 2) := by decide +kernel
theorem dX7_makeAt_11 : decode cX7_makeAt 11 = .ok (.invokevirtual 42, 3) := by decide +kernel
theorem dX7_makeAt_14 : decode cX7_makeAt 14 = .ok (.ifCond .ne 29, 3) := by decide +kernel
theorem dX7_makeAt_17 : decode cX7_makeAt 17 = .ok (.aload_n 0, 1) := by decide +kernel
theorem dX7_makeAt_18 : decode cX7_makeAt 18 = .ok (.iload_n 2, 1) := by decide +kernel
theorem dX7_makeAt_19 : decode cX7_makeAt 19 = .ok (.iload 4, 2) := by decide +kernel
theorem dX7_makeAt_21 : decode cX7_makeAt 21 = .ok (.aload_n 1, 1) := by decide +kernel
theorem dX7_makeAt_22 : decode cX7_makeAt 22 = .ok (.invokevirtual 21, 3) := by decide +kernel
theorem dX7_makeAt_25 : decode cX7_makeAt 25 = .ok (.iload_n 2, 1) := by decide +kernel
theorem dX7_makeAt_26 : decode cX7_makeAt 26 = .ok (.isub, 1) := by decide +kernel
theorem dX7_makeAt_27 : decode cX7_makeAt 27 = .ok (.aload_n 3, 1) := by decide +kernel
theorem dX7_makeAt_28 : decode cX7_makeAt 28 = .ok (.invokevirtual 21, 3) := by decide +kernel
theorem dX7_makeAt_31 : decode cX7_makeAt 31 = .ok (.iadd, 1) := by decide +kernel
theorem dX7_makeAt_32 : decode cX7_makeAt 32 = .ok (.iload 4, 2) := by decide +kernel
theorem dX7_makeAt_34 : decode cX7_makeAt 34 = .ok (.isub, 1) := by decide +kernel
theorem dX7_makeAt_35 : decode cX7_makeAt 35 = .ok (.i2l, 1) := by decide +kernel
theorem dX7_makeAt_36 : decode cX7_makeAt 36 = .ok (.lconst 1, 1) := by decide +kernel
theorem dX7_makeAt_37 : decode cX7_makeAt 37 = .ok (.invokevirtual 46, 3) := by decide +kernel
theorem dX7_makeAt_40 : decode cX7_makeAt 40 = .ok (.goto 154, 3) := by decide +kernel
theorem dX7_makeAt_43 : decode cX7_makeAt 43 = .ok (.aload_n 1, 1) := by decide +kernel
theorem dX7_makeAt_44 : decode cX7_makeAt 44 = .ok (.iload_n 2, 1) := by decide +kernel
theorem dX7_makeAt_45 : decode cX7_makeAt 45 = .ok (.invokevirtual 39, 3) := by decide +kernel
theorem dX7_makeAt_48 : decode cX7_makeAt 48 = .ok (.aload_n 3, 1) := by decide +kernel
theorem dX7_makeAt_49 : decode cX7_makeAt 49 = .ok (.iload 4, 2) := by decide +kernel
theorem dX7_makeAt_51 : decode cX7_makeAt 51 = .ok (.invokevirtual 39, 3) := by decide +kernel
theorem dX7_makeAt_54 : decode cX7_makeAt 54 = .ok (.if_icmp .ne 43, 3) := by decide +kernel
theorem dX7_makeAt_57 : decode cX7_makeAt 57 = .ok (.aload_n 0, 1) := by decide +kernel
theorem dX7_makeAt_58 : decode cX7_makeAt 58 = .ok (.iload_n 2, 1) := by decide +kernel
theorem dX7_makeAt_59 : decode cX7_makeAt 59 = .ok (.iload 4, 2) := by decide +kernel
theorem dX7_makeAt_61 : decode cX7_makeAt 61 = .ok (.lconst 1, 1) := by decide +kernel
theorem dX7_makeAt_62 : decode cX7_makeAt 62 = .ok (.aload_n 0, 1) := by decide +kernel
theorem dX7_makeAt_63 : decode cX7_makeAt 63 = .ok (.getfield 12, 3) := by decide +kernel
theorem dX7_makeAt_66 : decode cX7_makeAt 66 = .ok (.iload_n 2, 1) := by decide +kernel
theorem dX7_makeAt_67 : decode cX7_makeAt 67 = .ok (.iconst 1, 1) := by decide +kernel
theorem dX7_makeAt_68 : decode cX7_makeAt 68 = .ok (.iadd, 1) := by decide +kernel
theorem dX7_makeAt_69 : decode cX7_makeAt 69 = .ok (.iload 4, 2) := by decide +kernel
theorem dX7_makeAt_71 : decode cX7_makeAt 71 = .ok (.iconst 1, 1) := by decide +kernel
theorem dX7_makeAt_72 : decode cX7_makeAt 72 = .ok (.iadd, 1) := by decide +kernel
theorem dX7_makeAt_73 : decode cX7_makeAt 73 = .ok (.invokevirtual 31, 3) := by decide +kernel
theorem dX7_makeAt_76 : decode cX7_makeAt 76 = .ok (.ladd, 1) := by decide +kernel
theorem dX7_makeAt_77 : decode cX7_makeAt 77 = .ok (.aload_n 0, 1) := by decide +kernel
theorem dX7_makeAt_78 : decode cX7_makeAt 78 = .ok (.getfield 18, 3) := by decide +kernel
theorem dX7_makeAt_81 : decode cX7_makeAt 81 = .ok (.iload_n 2, 1) := by decide +kernel
theorem dX7_makeAt_82 : decode cX7_makeAt 82 = .ok (.iconst 1, 1) := by decide +kernel
theorem dX7_makeAt_83 : decode cX7_makeAt 83 = .ok (.iadd, 1) := by decide +kernel
theorem dX7_makeAt_84 : decode cX7_makeAt 84 = .ok (.iload 4, 2) := by decide +kernel
theorem dX7_makeAt_86 : decode cX7_makeAt 86 = .ok (.iconst 1, 1) := by decide +kernel
theorem dX7_makeAt_87 : decode cX7_makeAt 87 = .ok (.iadd, 1) := by decide +kernel
theorem dX7_makeAt_88 : decode cX7_makeAt 88 = .ok (.invokevirtual 31, 3) := by decide +kernel
theorem dX7_makeAt_91 : decode cX7_makeAt 91 = .ok (.invokevirtual 46, 3) := by decide +kernel
theorem dX7_makeAt_94 : decode cX7_makeAt 94 = .ok (.goto 100, 3) := by decide +kernel
theorem dX7_makeAt_97 : decode cX7_makeAt 97 = .ok (.aload_n 0, 1) := by decide +kernel
theorem dX7_makeAt_98 : decode cX7_makeAt 98 = .ok (.getfield 12, 3) := by decide +kernel
theorem dX7_makeAt_101 : decode cX7_makeAt 101 = .ok (.iload_n 2, 1) := by decide +kernel
theorem dX7_makeAt_102 : decode cX7_makeAt 102 = .ok (.iconst 1, 1) := by decide +kernel
theorem dX7_makeAt_103 : decode cX7_makeAt 103 = .ok (.iadd, 1) := by decide +kernel
theorem dX7_makeAt_104 : decode cX7_makeAt 104 = .ok (.iload 4, 2) := by decide +kernel
theorem dX7_makeAt_106 : decode cX7_makeAt 106 = .ok (.invokevirtual 31, 3) := by decide +kernel
theorem dX7_makeAt_109 : decode cX7_makeAt 109 = .ok (.lstore 5, 2) := by decide +kernel
theorem dX7_makeAt_111 : decode cX7_makeAt 111 = .ok (.aload_n 0, 1) := by decide +kernel
theorem dX7_makeAt_112 : decode cX7_makeAt 112 = .ok (.getfield 12, 3) := by decide +kernel
theorem dX7_makeAt_115 : decode cX7_makeAt 115 = .ok (.iload_n 2, 1) := by decide +kernel
theorem dX7_makeAt_116 : decode cX7_makeAt 116 = .ok (.iload 4, 2) := by decide +kernel
theorem dX7_makeAt_118 : decode cX7_makeAt 118 = .ok (.iconst 1, 1) := by decide +kernel
theorem dX7_makeAt_119 : decode cX7_makeAt 119 = .ok (.iadd, 1) := by decide +kernel
theorem dX7_makeAt_120 : decode cX7_makeAt 120 = .ok (.invokevirtual 31, 3) := by decide +kernel
theorem dX7_makeAt_123 : decode cX7_makeAt 123 = .ok (.lstore 7, 2) := by decide +kernel
theorem dX7_makeAt_125 : decode cX7_makeAt 125 = .ok (.lload 5, 2) := by decide +kernel
theorem dX7_makeAt_127 : decode cX7_makeAt 127 = .ok (.lload 7, 2) := by decide +kernel
theorem dX7_makeAt_129 : decode cX7_makeAt 129 = .ok (.lcmp, 1) := by decide +kernel
theorem dX7_makeAt_130 : decode cX7_makeAt 130 = .ok (.ifCond .gt 18, 3) := by decide +kernel
theorem dX7_makeAt_133 : decode cX7_makeAt 133 = .ok (.aload_n 0, 1) := by decide +kernel
theorem dX7_makeAt_134 : decode cX7_makeAt 134 = .ok (.getfield 18, 3) := by decide +kernel
theorem dX7_makeAt_137 : decode cX7_makeAt 137 = .ok (.iload_n 2, 1) := by decide +kernel
theorem dX7_makeAt_138 : decode cX7_makeAt 138 = .ok (.iconst 1, 1) := by decide +kernel
theorem dX7_makeAt_139 : decode cX7_makeAt 139 = .ok (.iadd, 1) := by decide +kernel
theorem dX7_makeAt_140 : decode cX7_makeAt 140 = .ok (.iload 4, 2) := by decide +kernel
theorem dX7_makeAt_142 : decode cX7_makeAt 142 = .ok (.invokevirtual 31, 3) := by decide +kernel
theorem dX7_makeAt_145 : decode cX7_makeAt 145 = .ok (.goto 4, 3) := by decide +kernel
theorem dX7_makeAt_148 : decode cX7_makeAt 148 = .ok (.lconst 0, 1) := by decide +kernel
theorem dX7_makeAt_149 : decode cX7_makeAt 149 = .ok (.lload 7, 2) := by decide +kernel
theorem dX7_makeAt_151 : decode cX7_makeAt 151 = .ok (.lload 5, 2) := by decide +kernel
theorem dX7_makeAt_153 : decode cX7_makeAt 153 = .ok (.lcmp, 1) := by decide +kernel
theorem dX7_makeAt_154 : decode cX7_makeAt 154 = .ok (.ifCond .gt 18, 3) := by decide +kernel
theorem dX7_makeAt_157 : decode cX7_makeAt 157 = .ok (.aload_n 0, 1) := by decide +kernel
theorem dX7_makeAt_158 : decode cX7_makeAt 158 = .ok (.getfield 18, 3) := by decide +kernel
theorem dX7_makeAt_161 : decode cX7_makeAt 161 = .ok (.iload_n 2, 1) := by decide +kernel
theorem dX7_makeAt_162 : decode cX7_makeAt 162 = .ok (.iload 4, 2) := by decide +kernel
theorem dX7_makeAt_164 : decode cX7_makeAt 164 = .ok (.iconst 1, 1) := by decide +kernel
theorem dX7_makeAt_165 : decode cX7_makeAt 165 = .ok (.iadd, 1) := by decide +kernel
theorem dX7_makeAt_166 : decode cX7_makeAt 166 = .ok (.invokevirtual 31, 3) := by decide +kernel
theorem dX7_makeAt_169 : decode cX7_makeAt 169 = .ok (.goto 4, 3) := by decide +kernel
theorem dX7_makeAt_172 : decode cX7_makeAt 172 = .ok (.lconst 0, 1) := by decide +kernel
theorem dX7_makeAt_173 : decode cX7_makeAt 173 = .ok (.ladd, 1) := by decide +kernel
theorem dX7_makeAt_174 : decode cX7_makeAt 174 = .ok (.lstore 9, 2) := by decide +kernel
theorem dX7_makeAt_176 : decode cX7_makeAt 176 = .ok (.aload_n 0, 1) := by decide +kernel
theorem dX7_makeAt_177 : decode cX7_makeAt 177 = .ok (.iload_n 2, 1) := by decide +kernel
theorem dX7_makeAt_178 : decode cX7_makeAt 178 = .ok (.iload 4, 2) := by decide +kernel
theorem dX7_makeAt_180 : decode cX7_makeAt 180 = .ok (.lconst 1, 1) := by decide +kernel
theorem dX7_makeAt_181 : decode cX7_makeAt 181 = .ok (.lload 5, 2) := by decide +kernel
theorem dX7_makeAt_183 : decode cX7_makeAt 183 = .ok (.lload 7, 2) := by decide +kernel
theorem dX7_makeAt_185 : decode cX7_makeAt 185 = .ok (.invokestatic 50, 3) := by decide +kernel
theorem dX7_makeAt_188 : decode cX7_makeAt 188 = .ok (.ladd, 1) := by decide +kernel
theorem dX7_makeAt_189 : decode cX7_makeAt 189 = .ok (.lload 9, 2) := by decide +kernel
theorem dX7_makeAt_191 : decode cX7_makeAt 191 = .ok (.invokevirtual 46, 3) := by decide +kernel
theorem dX7_makeAt_194 : decode cX7_makeAt 194 = .ok (.return_, 1) := by decide +kernel
set_option maxRecDepth 20000 in
theorem ggX7_keep_X4_write : GoodIn wsX7_keep wsX4_write := goodIn_r _ [7, 8, 9, 10, 6, 11, 14] (by decide +kernel) (by decide +kernel)
set_option maxRecDepth 20000 in
theorem gX7_keep_X4_write : GoodIn wsX7_keep (wsV RX7 56 RX4 yX4_write wsX4_write) := goodIn_app (goodIn_of _ (by decide +kernel)) ggX7_keep_X4_write
theorem dX7_keep_0 : decode cX7_keep 0 = .ok (.aload_n 0, 1) := by decide +kernel
theorem dX7_keep_1 : decode cX7_keep 1 = .ok (.getfield 12, 3) := by decide +kernel
theorem dX7_keep_4 : decode cX7_keep 4 = .ok (.iload_n 1, 1) := by decide +kernel
theorem dX7_keep_5 : decode cX7_keep 5 = .ok (.iload_n 2, 1) := by decide +kernel
theorem dX7_keep_6 : decode cX7_keep 6 = .ok (.lload_n 3, 1) := by decide +kernel
theorem dX7_keep_7 : decode cX7_keep 7 = .ok (.invokevirtual 56, 3) := by decide +kernel
theorem dX7_keep_10 : decode cX7_keep 10 = .ok (.aload_n 0, 1) := by decide +kernel
theorem dX7_keep_11 : decode cX7_keep 11 = .ok (.getfield 18, 3) := by decide +kernel
theorem dX7_keep_14 : decode cX7_keep 14 = .ok (.iload_n 1, 1) := by decide +kernel
theorem dX7_keep_15 : decode cX7_keep 15 = .ok (.iload_n 2, 1) := by decide +kernel
theorem dX7_keep_16 : decode cX7_keep 16 = .ok (.lload 5, 2) := by decide +kernel
theorem dX7_keep_18 : decode cX7_keep 18 = .ok (.invokevirtual 56, 3) := by decide +kernel
theorem dX7_keep_21 : decode cX7_keep 21 = .ok (.return_, 1) := by decide +kernel
set_option maxRecDepth 20000 in
theorem ggX7_firstWord_X2_has : GoodIn wsX7_firstWord wsX2_has := goodIn_r _ [10, 11, 29, 30] (by decide +kernel) (by decide +kernel)
set_option maxRecDepth 20000 in
theorem gX7_firstWord_X2_has : GoodIn wsX7_firstWord (wsV RX7 42 RX2 yX2_has wsX2_has) := goodIn_app (goodIn_of _ (by decide +kernel)) ggX7_firstWord_X2_has
set_option maxRecDepth 20000 in
theorem ggX7_firstWord_X2_at : GoodIn wsX7_firstWord wsX2_at := goodIn_r _ [15, 16, 17, 7, 8, 9, 10, 11, 29, 30] (by decide +kernel) (by decide +kernel)
set_option maxRecDepth 20000 in
theorem gX7_firstWord_X2_at : GoodIn wsX7_firstWord (wsV RX7 39 RX2 yX2_at wsX2_at) := goodIn_app (goodIn_of _ (by decide +kernel)) ggX7_firstWord_X2_at
set_option maxRecDepth 20000 in
theorem ggX7_firstWord_X4_at : GoodIn wsX7_firstWord wsX4_at := goodIn_r _ [22, 23, 24, 25, 21, 26, 31] (by decide +kernel) (by decide +kernel)
set_option maxRecDepth 20000 in
theorem gX7_firstWord_X4_at : GoodIn wsX7_firstWord (wsV RX7 31 RX4 yX4_at wsX4_at) := goodIn_app (goodIn_of _ (by decide +kernel)) ggX7_firstWord_X4_at
theorem dX7_firstWord_0 : decode cX7_firstWord 0 = .ok (.aload_n 1, 1) := by decide +kernel
theorem dX7_firstWord_1 : decode cX7_firstWord 1 = .ok (.iload_n 2, 1) := by decide +kernel
theorem dX7_firstWord_2 : decode cX7_firstWord 2 = .ok (.invokevirtual 42, 3) := by decide +kernel
theorem dX7_firstWord_5 : decode cX7_firstWord 5 = .ok (.ifCond .ne 10, 3) := by decide +kernel
theorem dX7_firstWord_8 : decode cX7_firstWord 8 = .ok (.aload_n 3, 1) := by decide +kernel
theorem dX7_firstWord_9 : decode cX7_firstWord 9 = .ok (.iload 4, 2) := by decide +kernel
theorem dX7_firstWord_11 : decode cX7_firstWord 11 = .ok (.invokevirtual 39, 3) := by decide +kernel
theorem dX7_firstWord_14 : decode cX7_firstWord 14 = .ok (.ireturn, 1) := by decide +kernel
theorem dX7_firstWord_15 : decode cX7_firstWord 15 = .ok (.aload_n 3, 1) := by decide +kernel
theorem dX7_firstWord_16 : decode cX7_firstWord 16 = .ok (.iload 4, 2) := by decide +kernel
theorem dX7_firstWord_18 : decode cX7_firstWord 18 = .ok (.invokevirtual 42, 3) := by decide +kernel
theorem dX7_firstWord_21 : decode cX7_firstWord 21 = .ok (.ifCond .eq 17, 3) := by decide +kernel
theorem dX7_firstWord_24 : decode cX7_firstWord 24 = .ok (.aload_n 1, 1) := by decide +kernel
theorem dX7_firstWord_25 : decode cX7_firstWord 25 = .ok (.iload_n 2, 1) := by decide +kernel
theorem dX7_firstWord_26 : decode cX7_firstWord 26 = .ok (.invokevirtual 39, 3) := by decide +kernel
theorem dX7_firstWord_29 : decode cX7_firstWord 29 = .ok (.aload_n 3, 1) := by decide +kernel
theorem dX7_firstWord_30 : decode cX7_firstWord 30 = .ok (.iload 4, 2) := by decide +kernel
theorem dX7_firstWord_32 : decode cX7_firstWord 32 = .ok (.invokevirtual 39, 3) := by decide +kernel
theorem dX7_firstWord_35 : decode cX7_firstWord 35 = .ok (.if_icmp .ne 9, 3) := by decide +kernel
theorem dX7_firstWord_38 : decode cX7_firstWord 38 = .ok (.aload_n 1, 1) := by decide +kernel
theorem dX7_firstWord_39 : decode cX7_firstWord 39 = .ok (.iload_n 2, 1) := by decide +kernel
theorem dX7_firstWord_40 : decode cX7_firstWord 40 = .ok (.invokevirtual 39, 3) := by decide +kernel
theorem dX7_firstWord_43 : decode cX7_firstWord 43 = .ok (.ireturn, 1) := by decide +kernel
theorem dX7_firstWord_44 : decode cX7_firstWord 44 = .ok (.aload_n 0, 1) := by decide +kernel
theorem dX7_firstWord_45 : decode cX7_firstWord 45 = .ok (.getfield 12, 3) := by decide +kernel
theorem dX7_firstWord_48 : decode cX7_firstWord 48 = .ok (.iload_n 2, 1) := by decide +kernel
theorem dX7_firstWord_49 : decode cX7_firstWord 49 = .ok (.iconst 1, 1) := by decide +kernel
theorem dX7_firstWord_50 : decode cX7_firstWord 50 = .ok (.iadd, 1) := by decide +kernel
theorem dX7_firstWord_51 : decode cX7_firstWord 51 = .ok (.iload 4, 2) := by decide +kernel
theorem dX7_firstWord_53 : decode cX7_firstWord 53 = .ok (.invokevirtual 31, 3) := by decide +kernel
theorem dX7_firstWord_56 : decode cX7_firstWord 56 = .ok (.lstore 5, 2) := by decide +kernel
theorem dX7_firstWord_58 : decode cX7_firstWord 58 = .ok (.aload_n 0, 1) := by decide +kernel
theorem dX7_firstWord_59 : decode cX7_firstWord 59 = .ok (.getfield 12, 3) := by decide +kernel
theorem dX7_firstWord_62 : decode cX7_firstWord 62 = .ok (.iload_n 2, 1) := by decide +kernel
theorem dX7_firstWord_63 : decode cX7_firstWord 63 = .ok (.iload 4, 2) := by decide +kernel
theorem dX7_firstWord_65 : decode cX7_firstWord 65 = .ok (.iconst 1, 1) := by decide +kernel
theorem dX7_firstWord_66 : decode cX7_firstWord 66 = .ok (.iadd, 1) := by decide +kernel
theorem dX7_firstWord_67 : decode cX7_firstWord 67 = .ok (.invokevirtual 31, 3) := by decide +kernel
theorem dX7_firstWord_70 : decode cX7_firstWord 70 = .ok (.lstore 7, 2) := by decide +kernel
theorem dX7_firstWord_72 : decode cX7_firstWord 72 = .ok (.lload 5, 2) := by decide +kernel
theorem dX7_firstWord_74 : decode cX7_firstWord 74 = .ok (.lload 7, 2) := by decide +kernel
theorem dX7_firstWord_76 : decode cX7_firstWord 76 = .ok (.lcmp, 1) := by decide +kernel
theorem dX7_firstWord_77 : decode cX7_firstWord 77 = .ok (.ifCond .ne 18, 3) := by decide +kernel
theorem dX7_firstWord_80 : decode cX7_firstWord 80 = .ok (.aload_n 1, 1) := by decide +kernel
theorem dX7_firstWord_81 : decode cX7_firstWord 81 = .ok (.iload_n 2, 1) := by decide +kernel
theorem dX7_firstWord_82 : decode cX7_firstWord 82 = .ok (.invokevirtual 39, 3) := by decide +kernel
theorem dX7_firstWord_85 : decode cX7_firstWord 85 = .ok (.aload_n 3, 1) := by decide +kernel
theorem dX7_firstWord_86 : decode cX7_firstWord 86 = .ok (.iload 4, 2) := by decide +kernel
theorem dX7_firstWord_88 : decode cX7_firstWord 88 = .ok (.invokevirtual 39, 3) := by decide +kernel
theorem dX7_firstWord_91 : decode cX7_firstWord 91 = .ok (.invokestatic 60, 3) := by decide +kernel
theorem dX7_firstWord_94 : decode cX7_firstWord 94 = .ok (.ireturn, 1) := by decide +kernel
theorem dX7_firstWord_95 : decode cX7_firstWord 95 = .ok (.lload 5, 2) := by decide +kernel
theorem dX7_firstWord_97 : decode cX7_firstWord 97 = .ok (.lload 7, 2) := by decide +kernel
theorem dX7_firstWord_99 : decode cX7_firstWord 99 = .ok (.lcmp, 1) := by decide +kernel
theorem dX7_firstWord_100 : decode cX7_firstWord 100 = .ok (.ifCond .ge 11, 3) := by decide +kernel
theorem dX7_firstWord_103 : decode cX7_firstWord 103 = .ok (.aload_n 1, 1) := by decide +kernel
theorem dX7_firstWord_104 : decode cX7_firstWord 104 = .ok (.iload_n 2, 1) := by decide +kernel
theorem dX7_firstWord_105 : decode cX7_firstWord 105 = .ok (.invokevirtual 39, 3) := by decide +kernel
theorem dX7_firstWord_108 : decode cX7_firstWord 108 = .ok (.goto 9, 3) := by decide +kernel
theorem dX7_firstWord_111 : decode cX7_firstWord 111 = .ok (.aload_n 3, 1) := by decide +kernel
theorem dX7_firstWord_112 : decode cX7_firstWord 112 = .ok (.iload 4, 2) := by decide +kernel
theorem dX7_firstWord_114 : decode cX7_firstWord 114 = .ok (.invokevirtual 39, 3) := by decide +kernel
theorem dX7_firstWord_117 : decode cX7_firstWord 117 = .ok (.ireturn, 1) := by decide +kernel
set_option maxRecDepth 20000 in
theorem ggX8_init_X2_init : GoodIn wsX8_init wsX2_init := goodIn_r _ [40, 41, 2, 3, 4, 42, 43, 100, 101] (by decide +kernel) (by decide +kernel)
set_option maxRecDepth 20000 in
theorem gX8_init_X2_init_n27 : GoodIn wsX8_init (wsX2_init) := ggX8_init_X2_init
set_option maxRecDepth 20000 in
theorem ggX8_init_X3_init : GoodIn wsX8_init wsX3_init := goodIn_r _ [45, 46, 2, 3, 4, 47, 48, 49, 50, 102, 103, 104] (by decide +kernel) (by decide +kernel)
set_option maxRecDepth 20000 in
theorem gX8_init_X3_init_n34 : GoodIn wsX8_init (wsX3_init) := ggX8_init_X3_init
set_option maxRecDepth 20000 in
theorem ggX8_init_X5_init : GoodIn wsX8_init wsX5_init := goodIn_r _ [52, 53, 2, 3, 54, 55, 4, 56, 105, 106] (by decide +kernel) (by decide +kernel)
set_option maxRecDepth 20000 in
theorem gX8_init_X5_init_n41 : GoodIn wsX8_init (wsX5_init) := ggX8_init_X5_init
set_option maxRecDepth 20000 in
theorem ggX8_init_X7_init : GoodIn wsX8_init wsX7_init := goodIn_r _ [58, 59, 2, 3, 60, 61, 62, 63, 64, 65, 66, 67, 49, 68, 116, 107, 108] (by decide +kernel) (by decide +kernel)
set_option maxRecDepth 20000 in
theorem gX8_init_X7_init_n48 : GoodIn wsX8_init (wsX7_init) := ggX8_init_X7_init
set_option maxRecDepth 20000 in
theorem ggX8_init_X1_init : GoodIn wsX8_init wsX1_init := goodIn_r _ [70, 71, 2, 3, 72, 61, 62, 73, 74, 65, 66, 67, 49, 68, 116, 109, 110] (by decide +kernel) (by decide +kernel)
set_option maxRecDepth 20000 in
theorem gX8_init_X1_init_n55 : GoodIn wsX8_init (wsX1_init) := ggX8_init_X1_init
set_option maxRecDepth 20000 in
theorem ggX8_init_X0_init : GoodIn wsX8_init wsX0_init := goodIn_r _ [76, 77, 2, 3, 78, 61, 62, 79, 80, 65, 66, 67, 49, 68, 116, 111, 112] (by decide +kernel) (by decide +kernel)
set_option maxRecDepth 20000 in
theorem gX8_init_X0_init_n62 : GoodIn wsX8_init (wsX0_init) := ggX8_init_X0_init
set_option maxRecDepth 20000 in
theorem ggX8_init_X6_init : GoodIn wsX8_init wsX6_init := goodIn_r _ [82, 83, 2, 3, 4, 84, 85, 86, 113, 114, 115] (by decide +kernel) (by decide +kernel)
set_option maxRecDepth 20000 in
theorem gX8_init_X6_init_n80 : GoodIn wsX8_init (wsX6_init) := ggX8_init_X6_init
end
section
theorem dX8_init_0 : decode cX8_init 0 = .ok (.aload_n 0, 1) := by decide +kernel
theorem dX8_init_1 : decode cX8_init 1 = .ok (.invokespecial 5, 3) := by decide +kernel
theorem dX8_init_4 : decode cX8_init 4 = .ok (.aload_n 0, 1) := by decide +kernel
theorem dX8_init_5 : decode cX8_init 5 = .ok (.bipush 8, 2) := by decide +kernel
theorem dX8_init_7 : decode cX8_init 7 = .ok (.newarray .int, 2) := by decide +kernel
theorem dX8_init_9 : decode cX8_init 9 = .ok (.putfield 11, 3) := by decide +kernel
theorem dX8_init_12 : decode cX8_init 12 = .ok (.aload_n 0, 1) := by decide +kernel
theorem dX8_init_13 : decode cX8_init 13 = .ok (.bipush 6, 2) := by decide +kernel
theorem dX8_init_15 : decode cX8_init 15 = .ok (.anewarray 15, 3) := by decide +kernel
theorem dX8_init_18 : decode cX8_init 18 = .ok (.putfield 17, 3) := by decide +kernel
theorem dX8_init_21 : decode cX8_init 21 = .ok (.aload_n 0, 1) := by decide +kernel
theorem dX8_init_22 : decode cX8_init 22 = .ok (.iconst 4, 1) := by decide +kernel
theorem dX8_init_23 : decode cX8_init 23 = .ok (.anewarray 21, 3) := by decide +kernel
theorem dX8_init_26 : decode cX8_init 26 = .ok (.putfield 23, 3) := by decide +kernel
theorem dX8_init_29 : decode cX8_init 29 = .ok (.aload_n 0, 1) := by decide +kernel
theorem dX8_init_30 : decode cX8_init 30 = .ok (.new 15, 3) := by decide +kernel
theorem dX8_init_33 : decode cX8_init 33 = .ok (.dup, 1) := by decide +kernel
theorem dX8_init_34 : decode cX8_init 34 = .ok (.invokespecial 27, 3) := by decide +kernel
theorem dX8_init_37 : decode cX8_init 37 = .ok (.putfield 28, 3) := by decide +kernel
theorem dX8_init_40 : decode cX8_init 40 = .ok (.aload_n 0, 1) := by decide +kernel
theorem dX8_init_41 : decode cX8_init 41 = .ok (.new 32, 3) := by decide +kernel
theorem dX8_init_44 : decode cX8_init 44 = .ok (.dup, 1) := by decide +kernel
theorem dX8_init_45 : decode cX8_init 45 = .ok (.invokespecial 34, 3) := by decide +kernel
theorem dX8_init_48 : decode cX8_init 48 = .ok (.putfield 35, 3) := by decide +kernel
theorem dX8_init_51 : decode cX8_init 51 = .ok (.aload_n 0, 1) := by decide +kernel
theorem dX8_init_52 : decode cX8_init 52 = .ok (.new 39, 3) := by decide +kernel
theorem dX8_init_55 : decode cX8_init 55 = .ok (.dup, 1) := by decide +kernel
theorem dX8_init_56 : decode cX8_init 56 = .ok (.invokespecial 41, 3) := by decide +kernel
theorem dX8_init_59 : decode cX8_init 59 = .ok (.putfield 42, 3) := by decide +kernel
theorem dX8_init_62 : decode cX8_init 62 = .ok (.aload_n 0, 1) := by decide +kernel
theorem dX8_init_63 : decode cX8_init 63 = .ok (.new 46, 3) := by decide +kernel
theorem dX8_init_66 : decode cX8_init 66 = .ok (.dup, 1) := by decide +kernel
theorem dX8_init_67 : decode cX8_init 67 = .ok (.invokespecial 48, 3) := by decide +kernel
theorem dX8_init_70 : decode cX8_init 70 = .ok (.putfield 49, 3) := by decide +kernel
theorem dX8_init_73 : decode cX8_init 73 = .ok (.aload_n 0, 1) := by decide +kernel
theorem dX8_init_74 : decode cX8_init 74 = .ok (.new 53, 3) := by decide +kernel
theorem dX8_init_77 : decode cX8_init 77 = .ok (.dup, 1) := by decide +kernel
theorem dX8_init_78 : decode cX8_init 78 = .ok (.invokespecial 55, 3) := by decide +kernel
theorem dX8_init_81 : decode cX8_init 81 = .ok (.putfield 56, 3) := by decide +kernel
theorem dX8_init_84 : decode cX8_init 84 = .ok (.aload_n 0, 1) := by decide +kernel
theorem dX8_init_85 : decode cX8_init 85 = .ok (.new 60, 3) := by decide +kernel
theorem dX8_init_88 : decode cX8_init 88 = .ok (.dup, 1) := by decide +kernel
theorem dX8_init_89 : decode cX8_init 89 = .ok (.invokespecial 62, 3) := by decide +kernel
theorem dX8_init_92 : decode cX8_init 92 = .ok (.putfield 63, 3) := by decide +kernel
theorem dX8_init_95 : decode cX8_init 95 = .ok (.aload_n 0, 1) := by decide +kernel
theorem dX8_init_96 : decode cX8_init 96 = .ok (.bipush 13, 2) := by decide +kernel
theorem dX8_init_98 : decode cX8_init 98 = .ok (.newarray .int, 2) := by decide +kernel
theorem dX8_init_100 : decode cX8_init 100 = .ok (.putfield 67, 3) := by decide +kernel
theorem dX8_init_103 : decode cX8_init 103 = .ok (.aload_n 0, 1) := by decide +kernel
theorem dX8_init_104 : decode cX8_init 104 = .ok (.iconst 0, 1) := by decide +kernel
theorem dX8_init_105 : decode cX8_init 105 = .ok (.putfield 70, 3) := by decide +kernel
theorem dX8_init_108 : decode cX8_init 108 = .ok (.aload_n 0, 1) := by decide +kernel
theorem dX8_init_109 : decode cX8_init 109 = .ok (.iconst 0, 1) := by decide +kernel
theorem dX8_init_110 : decode cX8_init 110 = .ok (.putfield 74, 3) := by decide +kernel
theorem dX8_init_113 : decode cX8_init 113 = .ok (.aload_n 0, 1) := by decide +kernel
theorem dX8_init_114 : decode cX8_init 114 = .ok (.iconst 0, 1) := by decide +kernel
theorem dX8_init_115 : decode cX8_init 115 = .ok (.putfield 77, 3) := by decide +kernel
theorem dX8_init_118 : decode cX8_init 118 = .ok (.iconst 0, 1) := by decide +kernel
theorem dX8_init_119 : decode cX8_init 119 = .ok (.istore_n 1, 1) := by decide +kernel
theorem dX8_init_120 : decode cX8_init 120 = .ok (.iload_n 1, 1) := by decide +kernel
theorem dX8_init_121 : decode cX8_init 121 = .ok (.bipush 6, 2) := by decide +kernel
theorem dX8_init_123 : decode cX8_init 123 = .ok (.if_icmp .ge 22, 3) := by decide +kernel
theorem dX8_init_126 : decode cX8_init 126 = .ok (.aload_n 0, 1) := by decide +kernel
theorem dX8_init_127 : decode cX8_init 127 = .ok (.getfield 17, 3) := by decide +kernel
theorem dX8_init_130 : decode cX8_init 130 = .ok (.iload_n 1, 1) := by decide +kernel
theorem dX8_init_131 : decode cX8_init 131 = .ok (.new 15, 3) := by decide +kernel
theorem dX8_init_134 : decode cX8_init 134 = .ok (.dup, 1) := by decide +kernel
theorem dX8_init_135 : decode cX8_init 135 = .ok (.invokespecial 27, 3) := by decide +kernel
theorem dX8_init_138 : decode cX8_init 138 = .ok (.aastore, 1) := by decide +kernel
theorem dX8_init_139 : decode cX8_init 139 = .ok (.iinc 1 1, 3) := by decide +kernel
theorem dX8_init_142 : decode cX8_init 142 = .ok (.goto (-22), 3) := by decide +kernel
theorem dX8_init_145 : decode cX8_init 145 = .ok (.iconst 0, 1) := by decide +kernel
theorem dX8_init_146 : decode cX8_init 146 = .ok (.istore_n 1, 1) := by decide +kernel
theorem dX8_init_147 : decode cX8_init 147 = .ok (.iload_n 1, 1) := by decide +kernel
theorem dX8_init_148 : decode cX8_init 148 = .ok (.iconst 4, 1) := by decide +kernel
theorem dX8_init_149 : decode cX8_init 149 = .ok (.if_icmp .ge 22, 3) := by decide +kernel
theorem dX8_init_152 : decode cX8_init 152 = .ok (.aload_n 0, 1) := by decide +kernel
theorem dX8_init_153 : decode cX8_init 153 = .ok (.getfield 23, 3) := by decide +kernel
theorem dX8_init_156 : decode cX8_init 156 = .ok (.iload_n 1, 1) := by decide +kernel
theorem dX8_init_157 : decode cX8_init 157 = .ok (.new 21, 3) := by decide +kernel
theorem dX8_init_160 : decode cX8_init 160 = .ok (.dup, 1) := by decide +kernel
theorem dX8_init_161 : decode cX8_init 161 = .ok (.invokespecial 80, 3) := by decide +kernel
theorem dX8_init_164 : decode cX8_init 164 = .ok (.aastore, 1) := by decide +kernel
theorem dX8_init_165 : decode cX8_init 165 = .ok (.iinc 1 1, 3) := by decide +kernel
theorem dX8_init_168 : decode cX8_init 168 = .ok (.goto (-21), 3) := by decide +kernel
theorem dX8_init_171 : decode cX8_init 171 = .ok (.return_, 1) := by decide +kernel
set_option maxRecDepth 20000 in
theorem ggX8_cries_X8_sheetOf : GoodIn wsX8_cries wsX8_sheetOf := goodIn_r _ [7, 8, 82, 83, 84, 85, 86, 87, 88, 89, 90, 91, 92, 93, 94] (by decide +kernel) (by decide +kernel)
set_option maxRecDepth 20000 in
theorem gX8_cries_X8_sheetOf : GoodIn wsX8_cries (wsV RX8 81 RX8 yX8_sheetOf wsX8_sheetOf) := goodIn_app (goodIn_of _ (by decide +kernel)) ggX8_cries_X8_sheetOf
set_option maxRecDepth 20000 in
theorem ggX8_cries_X8_isSort : GoodIn wsX8_cries wsX8_isSort := goodIn_r _ [11] (by decide +kernel) (by decide +kernel)
set_option maxRecDepth 20000 in
theorem gX8_cries_X8_isSort : GoodIn wsX8_cries (va_wsS RX8 85 yX8_isSort wsX8_isSort) := goodIn_app (goodIn_of _ (by decide +kernel)) ggX8_cries_X8_isSort
set_option maxRecDepth 20000 in
theorem ggX8_cries_X8_readingFault : GoodIn wsX8_cries wsX8_readingFault := goodIn_r _ [14, 15, 16, 17, 18, 19, 20, 21, 22, 23, 24, 25, 95, 96, 97] (by decide +kernel) (by decide +kernel)
set_option maxRecDepth 20000 in
theorem gX8_cries_X8_readingFault : GoodIn wsX8_cries (va_wsS RX8 89 yX8_readingFault wsX8_readingFault) := goodIn_app (goodIn_of _ (by decide +kernel)) ggX8_cries_X8_readingFault
set_option maxRecDepth 20000 in
theorem ggX8_cries_X8_fails : GoodIn wsX8_cries wsX8_fails := goodIn_r _ [29, 1, 82, 83, 84, 85, 86, 87, 88, 89, 90, 91, 92, 93, 94] (by decide +kernel) (by decide +kernel)
set_option maxRecDepth 20000 in
theorem gX8_cries_X8_fails : GoodIn wsX8_cries (wsV RX8 93 RX8 yX8_fails wsX8_fails) := goodIn_app (goodIn_of _ (by decide +kernel)) ggX8_cries_X8_fails
set_option maxRecDepth 20000 in
theorem ggX8_cries_X6_hasCells : GoodIn wsX8_cries wsX6_hasCells := goodIn_r _ [33, 20, 95, 96, 97] (by decide +kernel) (by decide +kernel)
set_option maxRecDepth 20000 in
theorem gX8_cries_X6_hasCells : GoodIn wsX8_cries (wsV RX8 97 RX6 yX6_hasCells wsX6_hasCells) := goodIn_app (goodIn_of _ (by decide +kernel)) ggX8_cries_X6_hasCells
set_option maxRecDepth 20000 in
theorem ggX8_cries_X8_firstFaultOf : GoodIn wsX8_cries wsX8_firstFaultOf := goodIn_r _ [36, 37, 38, 39, 18, 40, 41, 42, 31, 32, 33, 20, 43, 44, 6, 45, 95, 96, 97] (by decide +kernel) (by decide +kernel)
set_option maxRecDepth 20000 in
theorem gX8_cries_X8_firstFaultOf : GoodIn wsX8_cries (va_wsS RX8 101 yX8_firstFaultOf wsX8_firstFaultOf) := goodIn_app (goodIn_of _ (by decide +kernel)) ggX8_cries_X8_firstFaultOf
set_option maxRecDepth 20000 in
theorem ggX8_cries_X8_takeText : GoodIn wsX8_cries wsX8_takeText := goodIn_r _ [49, 2, 50, 51, 52, 6, 53, 54, 55, 56, 57, 58, 59, 60, 61, 62, 63, 64, 65, 66, 67, 68, 37, 38, 39, 18, 40, 41, 42, 31, 32, 33, 20, 43, 44, 45, 69, 70, 71, 72, 73, 74, 75, 76, 77, 78, 79, 80, 81, 82, 83, 84, 85, 86, 87, 88, 89, 90, 91, 92, 93, 94, 98, 99, 95, 96, 97] (by decide +kernel) (by decide +kernel)
set_option maxRecDepth 20000 in
theorem gX8_cries_X8_takeText : GoodIn wsX8_cries (wsV RX8 105 RX8 yX8_takeText wsX8_takeText) := goodIn_app (goodIn_of _ (by decide +kernel)) ggX8_cries_X8_takeText
theorem dX8_cries_0 : decode cX8_cries 0 = .ok (.aload_n 0, 1) := by decide +kernel
theorem dX8_cries_1 : decode cX8_cries 1 = .ok (.iconst 0, 1) := by decide +kernel
theorem dX8_cries_2 : decode cX8_cries 2 = .ok (.putfield 77, 3) := by decide +kernel
theorem dX8_cries_5 : decode cX8_cries 5 = .ok (.aload_n 0, 1) := by decide +kernel
theorem dX8_cries_6 : decode cX8_cries 6 = .ok (.iload_n 1, 1) := by decide +kernel
theorem dX8_cries_7 : decode cX8_cries 7 = .ok (.invokevirtual 81, 3) := by decide +kernel
theorem dX8_cries_10 : decode cX8_cries 10 = .ok (.astore 5, 2) := by decide +kernel
theorem dX8_cries_12 : decode cX8_cries 12 = .ok (.aload 5, 2) := by decide +kernel
theorem dX8_cries_14 : decode cX8_cries 14 = .ok (.ifnonnull 5, 3) := by decide +kernel
theorem dX8_cries_17 : decode cX8_cries 17 = .ok (.iconst (-1), 1) := by decide +kernel
theorem dX8_cries_18 : decode cX8_cries 18 = .ok (.ireturn, 1) := by decide +kernel
theorem dX8_cries_19 : decode cX8_cries 19 = .ok (.iload_n 2, 1) := by decide +kernel
theorem dX8_cries_20 : decode cX8_cries 20 = .ok (.invokestatic 85, 3) := by decide +kernel
theorem dX8_cries_23 : decode cX8_cries 23 = .ok (.ifCond .ne 6, 3) := by decide +kernel
theorem dX8_cries_26 : decode cX8_cries 26 = .ok (.bipush (-2), 2) := by decide +kernel
theorem dX8_cries_28 : decode cX8_cries 28 = .ok (.ireturn, 1) := by decide +kernel
theorem dX8_cries_29 : decode cX8_cries 29 = .ok (.aload 5, 2) := by decide +kernel
theorem dX8_cries_31 : decode cX8_cries 31 = .ok (.iload_n 2, 1) := by decide +kernel
theorem dX8_cries_32 : decode cX8_cries 32 = .ok (.invokestatic 89, 3) := by decide +kernel
theorem dX8_cries_35 : decode cX8_cries 35 = .ok (.istore 6, 2) := by decide +kernel
theorem dX8_cries_37 : decode cX8_cries 37 = .ok (.iload 6, 2) := by decide +kernel
theorem dX8_cries_39 : decode cX8_cries 39 = .ok (.ifCond .eq 10, 3) := by decide +kernel
theorem dX8_cries_42 : decode cX8_cries 42 = .ok (.aload_n 0, 1) := by decide +kernel
theorem dX8_cries_43 : decode cX8_cries 43 = .ok (.iload 6, 2) := by decide +kernel
theorem dX8_cries_45 : decode cX8_cries 45 = .ok (.invokevirtual 93, 3) := by decide +kernel
theorem dX8_cries_48 : decode cX8_cries 48 = .ok (.ireturn, 1) := by decide +kernel
theorem dX8_cries_49 : decode cX8_cries 49 = .ok (.iload 4, 2) := by decide +kernel
theorem dX8_cries_51 : decode cX8_cries 51 = .ok (.ifCond .ge 9, 3) := by decide +kernel
theorem dX8_cries_54 : decode cX8_cries 54 = .ok (.aload_n 0, 1) := by decide +kernel
theorem dX8_cries_55 : decode cX8_cries 55 = .ok (.iconst 4, 1) := by decide +kernel
theorem dX8_cries_56 : decode cX8_cries 56 = .ok (.invokevirtual 93, 3) := by decide +kernel
theorem dX8_cries_59 : decode cX8_cries 59 = .ok (.ireturn, 1) := by decide +kernel
theorem dX8_cries_60 : decode cX8_cries 60 = .ok (.aload 5, 2) := by decide +kernel
theorem dX8_cries_62 : decode cX8_cries 62 = .ok (.iload_n 3, 1) := by decide +kernel
theorem dX8_cries_63 : decode cX8_cries 63 = .ok (.iload 4, 2) := by decide +kernel
theorem dX8_cries_65 : decode cX8_cries 65 = .ok (.invokevirtual 97, 3) := by decide +kernel
theorem dX8_cries_68 : decode cX8_cries 68 = .ok (.ifCond .ne 9, 3) := by decide +kernel
theorem dX8_cries_71 : decode cX8_cries 71 = .ok (.aload_n 0, 1) := by decide +kernel
theorem dX8_cries_72 : decode cX8_cries 72 = .ok (.iconst 3, 1) := by decide +kernel
theorem dX8_cries_73 : decode cX8_cries 73 = .ok (.invokevirtual 93, 3) := by decide +kernel
theorem dX8_cries_76 : decode cX8_cries 76 = .ok (.ireturn, 1) := by decide +kernel
theorem dX8_cries_77 : decode cX8_cries 77 = .ok (.aload 5, 2) := by decide +kernel
theorem dX8_cries_79 : decode cX8_cries 79 = .ok (.iload_n 3, 1) := by decide +kernel
theorem dX8_cries_80 : decode cX8_cries 80 = .ok (.iload 4, 2) := by decide +kernel
theorem dX8_cries_82 : decode cX8_cries 82 = .ok (.invokestatic 101, 3) := by decide +kernel
theorem dX8_cries_85 : decode cX8_cries 85 = .ok (.istore 7, 2) := by decide +kernel
theorem dX8_cries_87 : decode cX8_cries 87 = .ok (.iload 7, 2) := by decide +kernel
theorem dX8_cries_89 : decode cX8_cries 89 = .ok (.bipush (-9), 2) := by decide +kernel
theorem dX8_cries_91 : decode cX8_cries 91 = .ok (.if_icmp .eq 9, 3) := by decide +kernel
theorem dX8_cries_94 : decode cX8_cries 94 = .ok (.bipush (-100), 2) := by decide +kernel
theorem dX8_cries_96 : decode cX8_cries 96 = .ok (.iload 7, 2) := by decide +kernel
theorem dX8_cries_98 : decode cX8_cries 98 = .ok (.isub, 1) := by decide +kernel
theorem dX8_cries_99 : decode cX8_cries 99 = .ok (.ireturn, 1) := by decide +kernel
theorem dX8_cries_100 : decode cX8_cries 100 = .ok (.aload_n 0, 1) := by decide +kernel
theorem dX8_cries_101 : decode cX8_cries 101 = .ok (.aload 5, 2) := by decide +kernel
theorem dX8_cries_103 : decode cX8_cries 103 = .ok (.iload_n 3, 1) := by decide +kernel
theorem dX8_cries_104 : decode cX8_cries 104 = .ok (.iload 4, 2) := by decide +kernel
theorem dX8_cries_106 : decode cX8_cries 106 = .ok (.invokevirtual 105, 3) := by decide +kernel
theorem dX8_cries_109 : decode cX8_cries 109 = .ok (.aload_n 0, 1) := by decide +kernel
theorem dX8_cries_110 : decode cX8_cries 110 = .ok (.getfield 70, 3) := by decide +kernel
theorem dX8_cries_113 : decode cX8_cries 113 = .ok (.ireturn, 1) := by decide +kernel
set_option maxRecDepth 20000 in
theorem ggX8_kind_X8_isWord : GoodIn wsX8_kind wsX8_isWord := goodIn_r _ [5] (by decide +kernel) (by decide +kernel)
set_option maxRecDepth 20000 in
theorem gX8_kind_X8_isWord : GoodIn wsX8_kind (va_wsS RX8 109 yX8_isWord wsX8_isWord) := goodIn_app (goodIn_of _ (by decide +kernel)) ggX8_kind_X8_isWord
set_option maxRecDepth 20000 in
theorem ggX8_kind_X8_isKind : GoodIn wsX8_kind wsX8_isKind := goodIn_r _ [8] (by decide +kernel) (by decide +kernel)
set_option maxRecDepth 20000 in
theorem gX8_kind_X8_isKind : GoodIn wsX8_kind (va_wsS RX8 112 yX8_isKind wsX8_isKind) := goodIn_app (goodIn_of _ (by decide +kernel)) ggX8_kind_X8_isKind
theorem dX8_kind_0 : decode cX8_kind 0 = .ok (.iload_n 1, 1) := by decide +kernel
theorem dX8_kind_1 : decode cX8_kind 1 = .ok (.invokestatic 109, 3) := by decide +kernel
theorem dX8_kind_4 : decode cX8_kind 4 = .ok (.ifCond .ne 5, 3) := by decide +kernel
theorem dX8_kind_7 : decode cX8_kind 7 = .ok (.iconst (-1), 1) := by decide +kernel
theorem dX8_kind_8 : decode cX8_kind 8 = .ok (.ireturn, 1) := by decide +kernel
theorem dX8_kind_9 : decode cX8_kind 9 = .ok (.iload_n 2, 1) := by decide +kernel
theorem dX8_kind_10 : decode cX8_kind 10 = .ok (.invokestatic 112, 3) := by decide +kernel
theorem dX8_kind_13 : decode cX8_kind 13 = .ok (.ifCond .ne 6, 3) := by decide +kernel
theorem dX8_kind_16 : decode cX8_kind 16 = .ok (.bipush (-2), 2) := by decide +kernel
theorem dX8_kind_18 : decode cX8_kind 18 = .ok (.ireturn, 1) := by decide +kernel
theorem dX8_kind_19 : decode cX8_kind 19 = .ok (.aload_n 0, 1) := by decide +kernel
theorem dX8_kind_20 : decode cX8_kind 20 = .ok (.getfield 11, 3) := by decide +kernel
theorem dX8_kind_23 : decode cX8_kind 23 = .ok (.iload_n 1, 1) := by decide +kernel
theorem dX8_kind_24 : decode cX8_kind 24 = .ok (.iaload, 1) := by decide +kernel
theorem dX8_kind_25 : decode cX8_kind 25 = .ok (.istore_n 3, 1) := by decide +kernel
theorem dX8_kind_26 : decode cX8_kind 26 = .ok (.aload_n 0, 1) := by decide +kernel
theorem dX8_kind_27 : decode cX8_kind 27 = .ok (.getfield 11, 3) := by decide +kernel
theorem dX8_kind_30 : decode cX8_kind 30 = .ok (.iload_n 1, 1) := by decide +kernel
theorem dX8_kind_31 : decode cX8_kind 31 = .ok (.iload_n 2, 1) := by decide +kernel
theorem dX8_kind_32 : decode cX8_kind 32 = .ok (.iastore, 1) := by decide +kernel
theorem dX8_kind_33 : decode cX8_kind 33 = .ok (.iload_n 3, 1) := by decide +kernel
theorem dX8_kind_34 : decode cX8_kind 34 = .ok (.ireturn, 1) := by decide +kernel
set_option maxRecDepth 20000 in
theorem ggX8_ofDay_X8_cryOf : GoodIn wsX8_ofDay wsX8_cryOf := goodIn_r _ [5, 6, 7, 24, 25, 26, 27, 28, 29, 30, 31, 32, 33, 34, 35, 36] (by decide +kernel) (by decide +kernel)
set_option maxRecDepth 20000 in
theorem gX8_ofDay_X8_cryOf : GoodIn wsX8_ofDay (wsV RX8 115 RX8 yX8_cryOf wsX8_cryOf) := goodIn_app (goodIn_of _ (by decide +kernel)) ggX8_ofDay_X8_cryOf
set_option maxRecDepth 20000 in
theorem ggX8_ofDay_X2_size : GoodIn wsX8_ofDay wsX2_size := goodIn_r _ [12, 13, 37, 38] (by decide +kernel) (by decide +kernel)
set_option maxRecDepth 20000 in
theorem gX8_ofDay_X2_size : GoodIn wsX8_ofDay (wsV RX8 119 RX2 yX2_size wsX2_size) := goodIn_app (goodIn_of _ (by decide +kernel)) ggX8_ofDay_X2_size
set_option maxRecDepth 20000 in
theorem ggX8_ofDay_X2_has : GoodIn wsX8_ofDay wsX2_has := goodIn_r _ [17, 13, 37, 38] (by decide +kernel) (by decide +kernel)
set_option maxRecDepth 20000 in
theorem gX8_ofDay_X2_has : GoodIn wsX8_ofDay (wsV RX8 123 RX2 yX2_has wsX2_has) := goodIn_app (goodIn_of _ (by decide +kernel)) ggX8_ofDay_X2_has
set_option maxRecDepth 20000 in
theorem ggX8_ofDay_X2_at : GoodIn wsX8_ofDay wsX2_at := goodIn_r _ [21, 22, 23, 15, 16, 11, 17, 13, 37, 38] (by decide +kernel) (by decide +kernel)
set_option maxRecDepth 20000 in
theorem gX8_ofDay_X2_at : GoodIn wsX8_ofDay (wsV RX8 126 RX2 yX2_at wsX2_at) := goodIn_app (goodIn_of _ (by decide +kernel)) ggX8_ofDay_X2_at
theorem dX8_ofDay_0 : decode cX8_ofDay 0 = .ok (.aload_n 0, 1) := by decide +kernel
theorem dX8_ofDay_1 : decode cX8_ofDay 1 = .ok (.iload_n 1, 1) := by decide +kernel
theorem dX8_ofDay_2 : decode cX8_ofDay 2 = .ok (.invokevirtual 115, 3) := by decide +kernel
theorem dX8_ofDay_5 : decode cX8_ofDay 5 = .ok (.astore_n 3, 1) := by decide +kernel
theorem dX8_ofDay_6 : decode cX8_ofDay 6 = .ok (.aload_n 3, 1) := by decide +kernel
theorem dX8_ofDay_7 : decode cX8_ofDay 7 = .ok (.ifnonnull 5, 3) := by decide +kernel
theorem dX8_ofDay_10 : decode cX8_ofDay 10 = .ok (.iconst (-1), 1) := by decide +kernel
theorem dX8_ofDay_11 : decode cX8_ofDay 11 = .ok (.ireturn, 1) := by decide +kernel
theorem dX8_ofDay_12 : decode cX8_ofDay 12 = .ok (.iload_n 2, 1) := by decide +kernel
theorem dX8_ofDay_13 : decode cX8_ofDay 13 = .ok (.iconst (-1), 1) := by decide +kernel
theorem dX8_ofDay_14 : decode cX8_ofDay 14 = .ok (.if_icmp .ne 8, 3) := by decide +kernel
theorem dX8_ofDay_17 : decode cX8_ofDay 17 = .ok (.aload_n 3, 1) := by decide +kernel
theorem dX8_ofDay_18 : decode cX8_ofDay 18 = .ok (.invokevirtual 119, 3) := by decide +kernel
theorem dX8_ofDay_21 : decode cX8_ofDay 21 = .ok (.ireturn, 1) := by decide +kernel
theorem dX8_ofDay_22 : decode cX8_ofDay 22 = .ok (.aload_n 3, 1) := by decide +kernel
theorem dX8_ofDay_23 : decode cX8_ofDay 23 = .ok (.iload_n 2, 1) := by decide +kernel
theorem dX8_ofDay_24 : decode cX8_ofDay 24 = .ok (.invokevirtual 123, 3) := by decide +kernel
theorem dX8_ofDay_27 : decode cX8_ofDay 27 = .ok (.ifCond .eq 11, 3) := by decide +kernel
theorem dX8_ofDay_30 : decode cX8_ofDay 30 = .ok (.aload_n 3, 1) := by decide +kernel
theorem dX8_ofDay_31 : decode cX8_ofDay 31 = .ok (.iload_n 2, 1) := by decide +kernel
theorem dX8_ofDay_32 : decode cX8_ofDay 32 = .ok (.invokevirtual 126, 3) := by decide +kernel
theorem dX8_ofDay_35 : decode cX8_ofDay 35 = .ok (.goto 4, 3) := by decide +kernel
theorem dX8_ofDay_38 : decode cX8_ofDay 38 = .ok (.iconst (-1), 1) := by decide +kernel
theorem dX8_ofDay_39 : decode cX8_ofDay 39 = .ok (.ireturn, 1) := by decide +kernel
set_option maxRecDepth 20000 in
theorem ggX8_add_X8_lastCry : GoodIn wsX8_add wsX8_lastCry := goodIn_r _ [5, 6, 7, 8, 9, 4, 10, 11, 31, 32, 33, 34, 35, 36, 37, 38, 39, 40, 41, 42, 43] (by decide +kernel) (by decide +kernel)
set_option maxRecDepth 20000 in
theorem gX8_add_X8_lastCry : GoodIn wsX8_add (wsV RX8 129 RX8 yX8_lastCry wsX8_lastCry) := goodIn_app (goodIn_of _ (by decide +kernel)) ggX8_add_X8_lastCry
set_option maxRecDepth 20000 in
theorem ggX8_add_X8_isWord : GoodIn wsX8_add wsX8_isWord := goodIn_r _ [14] (by decide +kernel) (by decide +kernel)
set_option maxRecDepth 20000 in
theorem gX8_add_X8_isWord : GoodIn wsX8_add (va_wsS RX8 109 yX8_isWord wsX8_isWord) := goodIn_app (goodIn_of _ (by decide +kernel)) ggX8_add_X8_isWord
set_option maxRecDepth 20000 in
theorem ggX8_add_X2_size : GoodIn wsX8_add wsX2_size := goodIn_r _ [19, 20, 44, 45] (by decide +kernel) (by decide +kernel)
set_option maxRecDepth 20000 in
theorem gX8_add_X2_size : GoodIn wsX8_add (wsV RX8 119 RX2 yX2_size wsX2_size) := goodIn_app (goodIn_of _ (by decide +kernel)) ggX8_add_X2_size
set_option maxRecDepth 20000 in
theorem ggX8_add_X2_isFull : GoodIn wsX8_add wsX2_isFull := goodIn_r _ [24, 20, 44, 45] (by decide +kernel) (by decide +kernel)
set_option maxRecDepth 20000 in
theorem gX8_add_X2_isFull : GoodIn wsX8_add (wsV RX8 133 RX2 yX2_isFull wsX2_isFull) := goodIn_app (goodIn_of _ (by decide +kernel)) ggX8_add_X2_isFull
set_option maxRecDepth 20000 in
theorem ggX8_add_X2_insert : GoodIn wsX8_add wsX2_insert := goodIn_r _ [28, 20, 29, 30, 22, 23, 18, 24, 44, 45] (by decide +kernel) (by decide +kernel)
set_option maxRecDepth 20000 in
theorem gX8_add_X2_insert : GoodIn wsX8_add (wsV RX8 137 RX2 yX2_insert wsX2_insert) := goodIn_app (goodIn_of _ (by decide +kernel)) ggX8_add_X2_insert
theorem dX8_add_0 : decode cX8_add 0 = .ok (.aload_n 0, 1) := by decide +kernel
theorem dX8_add_1 : decode cX8_add 1 = .ok (.invokevirtual 129, 3) := by decide +kernel
theorem dX8_add_4 : decode cX8_add 4 = .ok (.astore_n 3, 1) := by decide +kernel
theorem dX8_add_5 : decode cX8_add 5 = .ok (.iload_n 2, 1) := by decide +kernel
theorem dX8_add_6 : decode cX8_add 6 = .ok (.invokestatic 109, 3) := by decide +kernel
theorem dX8_add_9 : decode cX8_add 9 = .ok (.ifCond .eq 7, 3) := by decide +kernel
theorem dX8_add_12 : decode cX8_add 12 = .ok (.iload_n 1, 1) := by decide +kernel
theorem dX8_add_13 : decode cX8_add 13 = .ok (.ifCond .ge 5, 3) := by decide +kernel
theorem dX8_add_16 : decode cX8_add 16 = .ok (.iconst (-1), 1) := by decide +kernel
theorem dX8_add_17 : decode cX8_add 17 = .ok (.ireturn, 1) := by decide +kernel
theorem dX8_add_18 : decode cX8_add 18 = .ok (.aload_n 3, 1) := by decide +kernel
theorem dX8_add_19 : decode cX8_add 19 = .ok (.ifnonnull 6, 3) := by decide +kernel
theorem dX8_add_22 : decode cX8_add 22 = .ok (.bipush (-3), 2) := by decide +kernel
theorem dX8_add_24 : decode cX8_add 24 = .ok (.ireturn, 1) := by decide +kernel
theorem dX8_add_25 : decode cX8_add 25 = .ok (.iload_n 1, 1) := by decide +kernel
theorem dX8_add_26 : decode cX8_add 26 = .ok (.aload_n 3, 1) := by decide +kernel
theorem dX8_add_27 : decode cX8_add 27 = .ok (.invokevirtual 119, 3) := by decide +kernel
theorem dX8_add_30 : decode cX8_add 30 = .ok (.if_icmp .le 5, 3) := by decide +kernel
theorem dX8_add_33 : decode cX8_add 33 = .ok (.iconst (-1), 1) := by decide +kernel
theorem dX8_add_34 : decode cX8_add 34 = .ok (.ireturn, 1) := by decide +kernel
theorem dX8_add_35 : decode cX8_add 35 = .ok (.aload_n 3, 1) := by decide +kernel
theorem dX8_add_36 : decode cX8_add 36 = .ok (.invokevirtual 133, 3) := by decide +kernel
theorem dX8_add_39 : decode cX8_add 39 = .ok (.ifCond .eq 6, 3) := by decide +kernel
theorem dX8_add_42 : decode cX8_add 42 = .ok (.bipush (-4), 2) := by decide +kernel
theorem dX8_add_44 : decode cX8_add 44 = .ok (.ireturn, 1) := by decide +kernel
theorem dX8_add_45 : decode cX8_add 45 = .ok (.aload_n 3, 1) := by decide +kernel
theorem dX8_add_46 : decode cX8_add 46 = .ok (.iload_n 1, 1) := by decide +kernel
theorem dX8_add_47 : decode cX8_add 47 = .ok (.iload_n 2, 1) := by decide +kernel
theorem dX8_add_48 : decode cX8_add 48 = .ok (.invokevirtual 137, 3) := by decide +kernel
theorem dX8_add_51 : decode cX8_add 51 = .ok (.aload_n 3, 1) := by decide +kernel
theorem dX8_add_52 : decode cX8_add 52 = .ok (.invokevirtual 119, 3) := by decide +kernel
theorem dX8_add_55 : decode cX8_add 55 = .ok (.ireturn, 1) := by decide +kernel
set_option maxRecDepth 20000 in
theorem ggX8_within_X8_cryOf : GoodIn wsX8_within wsX8_cryOf := goodIn_r _ [6, 7, 8, 32, 33, 34, 35, 36, 37, 38, 39, 40, 41, 42, 43, 44] (by decide +kernel) (by decide +kernel)
set_option maxRecDepth 20000 in
theorem gX8_within_X8_cryOf : GoodIn wsX8_within (wsV RX8 115 RX8 yX8_cryOf wsX8_cryOf) := goodIn_app (goodIn_of _ (by decide +kernel)) ggX8_within_X8_cryOf
set_option maxRecDepth 20000 in
theorem ggX8_within_X3_make : GoodIn wsX8_within wsX3_make := goodIn_r _ [13, 14, 15, 16, 17, 18, 19, 20, 21, 22, 23, 24, 25, 26, 27, 28, 29, 30, 31, 45, 46, 47, 48, 49] (by decide +kernel) (by decide +kernel)
set_option maxRecDepth 20000 in
theorem gX8_within_X3_make : GoodIn wsX8_within (wsV RX8 141 RX3 yX3_make wsX3_make) := goodIn_app (goodIn_of _ (by decide +kernel)) ggX8_within_X3_make
theorem dX8_within_0 : decode cX8_within 0 = .ok (.aload_n 0, 1) := by decide +kernel
theorem dX8_within_1 : decode cX8_within 1 = .ok (.iload_n 1, 1) := by decide +kernel
theorem dX8_within_2 : decode cX8_within 2 = .ok (.invokevirtual 115, 3) := by decide +kernel
theorem dX8_within_5 : decode cX8_within 5 = .ok (.astore_n 3, 1) := by decide +kernel
theorem dX8_within_6 : decode cX8_within 6 = .ok (.aload_n 0, 1) := by decide +kernel
theorem dX8_within_7 : decode cX8_within 7 = .ok (.iload_n 2, 1) := by decide +kernel
theorem dX8_within_8 : decode cX8_within 8 = .ok (.invokevirtual 115, 3) := by decide +kernel
theorem dX8_within_11 : decode cX8_within 11 = .ok (.astore 4, 2) := by decide +kernel
theorem dX8_within_13 : decode cX8_within 13 = .ok (.aload_n 3, 1) := by decide +kernel
theorem dX8_within_14 : decode cX8_within 14 = .ok (.ifnull 8, 3) := by decide +kernel
theorem dX8_within_17 : decode cX8_within 17 = .ok (.aload 4, 2) := by decide +kernel
theorem dX8_within_19 : decode cX8_within 19 = .ok (.ifnonnull 5, 3) := by decide +kernel
theorem dX8_within_22 : decode cX8_within 22 = .ok (.iconst (-1), 1) := by decide +kernel
theorem dX8_within_23 : decode cX8_within 23 = .ok (.ireturn, 1) := by decide +kernel
theorem dX8_within_24 : decode cX8_within 24 = .ok (.aload_n 0, 1) := by decide +kernel
theorem dX8_within_25 : decode cX8_within 25 = .ok (.getfield 35, 3) := by decide +kernel
theorem dX8_within_28 : decode cX8_within 28 = .ok (.aload_n 3, 1) := by decide +kernel
theorem dX8_within_29 : decode cX8_within 29 = .ok (.aload 4, 2) := by decide +kernel
theorem dX8_within_31 : decode cX8_within 31 = .ok (.invokevirtual 141, 3) := by decide +kernel
theorem dX8_within_34 : decode cX8_within 34 = .ok (.ifCond .eq 7, 3) := by decide +kernel
theorem dX8_within_37 : decode cX8_within 37 = .ok (.iconst 1, 1) := by decide +kernel
theorem dX8_within_38 : decode cX8_within 38 = .ok (.goto 4, 3) := by decide +kernel
theorem dX8_within_41 : decode cX8_within 41 = .ok (.iconst 0, 1) := by decide +kernel
theorem dX8_within_42 : decode cX8_within 42 = .ok (.ireturn, 1) := by decide +kernel
set_option maxRecDepth 20000 in
theorem ggX8_leftOut_X8_cryOf : GoodIn wsX8_leftOut wsX8_cryOf := goodIn_r _ [7, 1, 8, 32, 33, 34, 35, 36, 37, 38, 39, 40, 41, 42, 43, 44] (by decide +kernel) (by decide +kernel)
set_option maxRecDepth 20000 in
theorem gX8_leftOut_X8_cryOf : GoodIn wsX8_leftOut (wsV RX8 115 RX8 yX8_cryOf wsX8_cryOf) := goodIn_app (goodIn_of _ (by decide +kernel)) ggX8_leftOut_X8_cryOf
set_option maxRecDepth 20000 in
theorem ggX8_leftOut_X3_make : GoodIn wsX8_leftOut wsX3_make := goodIn_r _ [13, 14, 15, 16, 17, 18, 19, 20, 21, 22, 23, 24, 25, 26, 27, 28, 29, 30, 31, 45, 46, 47, 48, 49] (by decide +kernel) (by decide +kernel)
set_option maxRecDepth 20000 in
theorem gX8_leftOut_X3_make : GoodIn wsX8_leftOut (wsV RX8 141 RX3 yX3_make wsX3_make) := goodIn_app (goodIn_of _ (by decide +kernel)) ggX8_leftOut_X3_make
theorem dX8_leftOut_0 : decode cX8_leftOut 0 = .ok (.iconst 1, 1) := by decide +kernel
theorem dX8_leftOut_1 : decode cX8_leftOut 1 = .ok (.istore_n 1, 1) := by decide +kernel
theorem dX8_leftOut_2 : decode cX8_leftOut 2 = .ok (.iload_n 1, 1) := by decide +kernel
theorem dX8_leftOut_3 : decode cX8_leftOut 3 = .ok (.aload_n 0, 1) := by decide +kernel
theorem dX8_leftOut_4 : decode cX8_leftOut 4 = .ok (.getfield 70, 3) := by decide +kernel
theorem dX8_leftOut_7 : decode cX8_leftOut 7 = .ok (.if_icmp .ge 45, 3) := by decide +kernel
theorem dX8_leftOut_10 : decode cX8_leftOut 10 = .ok (.aload_n 0, 1) := by decide +kernel
theorem dX8_leftOut_11 : decode cX8_leftOut 11 = .ok (.iload_n 1, 1) := by decide +kernel
theorem dX8_leftOut_12 : decode cX8_leftOut 12 = .ok (.iconst 1, 1) := by decide +kernel
theorem dX8_leftOut_13 : decode cX8_leftOut 13 = .ok (.isub, 1) := by decide +kernel
theorem dX8_leftOut_14 : decode cX8_leftOut 14 = .ok (.invokevirtual 115, 3) := by decide +kernel
theorem dX8_leftOut_17 : decode cX8_leftOut 17 = .ok (.astore_n 2, 1) := by decide +kernel
theorem dX8_leftOut_18 : decode cX8_leftOut 18 = .ok (.aload_n 0, 1) := by decide +kernel
theorem dX8_leftOut_19 : decode cX8_leftOut 19 = .ok (.iload_n 1, 1) := by decide +kernel
theorem dX8_leftOut_20 : decode cX8_leftOut 20 = .ok (.invokevirtual 115, 3) := by decide +kernel
theorem dX8_leftOut_23 : decode cX8_leftOut 23 = .ok (.astore_n 3, 1) := by decide +kernel
theorem dX8_leftOut_24 : decode cX8_leftOut 24 = .ok (.aload_n 2, 1) := by decide +kernel
theorem dX8_leftOut_25 : decode cX8_leftOut 25 = .ok (.ifnull 21, 3) := by decide +kernel
theorem dX8_leftOut_28 : decode cX8_leftOut 28 = .ok (.aload_n 3, 1) := by decide +kernel
theorem dX8_leftOut_29 : decode cX8_leftOut 29 = .ok (.ifnull 17, 3) := by decide +kernel
theorem dX8_leftOut_32 : decode cX8_leftOut 32 = .ok (.aload_n 0, 1) := by decide +kernel
theorem dX8_leftOut_33 : decode cX8_leftOut 33 = .ok (.getfield 35, 3) := by decide +kernel
theorem dX8_leftOut_36 : decode cX8_leftOut 36 = .ok (.aload_n 2, 1) := by decide +kernel
theorem dX8_leftOut_37 : decode cX8_leftOut 37 = .ok (.aload_n 3, 1) := by decide +kernel
theorem dX8_leftOut_38 : decode cX8_leftOut 38 = .ok (.invokevirtual 141, 3) := by decide +kernel
theorem dX8_leftOut_41 : decode cX8_leftOut 41 = .ok (.ifCond .ne 5, 3) := by decide +kernel
theorem dX8_leftOut_44 : decode cX8_leftOut 44 = .ok (.iload_n 1, 1) := by decide +kernel
theorem dX8_leftOut_45 : decode cX8_leftOut 45 = .ok (.ireturn, 1) := by decide +kernel
theorem dX8_leftOut_46 : decode cX8_leftOut 46 = .ok (.iinc 1 1, 3) := by decide +kernel
theorem dX8_leftOut_49 : decode cX8_leftOut 49 = .ok (.goto (-47), 3) := by decide +kernel
theorem dX8_leftOut_52 : decode cX8_leftOut 52 = .ok (.bipush (-9), 2) := by decide +kernel
theorem dX8_leftOut_54 : decode cX8_leftOut 54 = .ok (.ireturn, 1) := by decide +kernel
set_option maxRecDepth 20000 in
theorem ggX8_said_X8_cryOf : GoodIn wsX8_said wsX8_cryOf := goodIn_r _ [6, 7, 8, 31, 32, 33, 34, 35, 36, 37, 38, 39, 40, 41, 42, 43] (by decide +kernel) (by decide +kernel)
set_option maxRecDepth 20000 in
theorem gX8_said_X8_cryOf : GoodIn wsX8_said (wsV RX8 115 RX8 yX8_cryOf wsX8_cryOf) := goodIn_app (goodIn_of _ (by decide +kernel)) ggX8_said_X8_cryOf
set_option maxRecDepth 20000 in
theorem ggX8_said_X5_isSaid : GoodIn wsX8_said wsX5_isSaid := goodIn_r _ [12, 13, 14, 15, 16, 17, 18, 19, 20, 21, 22, 23, 24, 25, 26, 27, 28, 29, 11, 30, 44, 45] (by decide +kernel) (by decide +kernel)
set_option maxRecDepth 20000 in
theorem gX8_said_X5_isSaid : GoodIn wsX8_said (va_wsS RX8 145 yX5_isSaid wsX5_isSaid) := goodIn_app (goodIn_of _ (by decide +kernel)) ggX8_said_X5_isSaid
theorem dX8_said_0 : decode cX8_said 0 = .ok (.aload_n 0, 1) := by decide +kernel
theorem dX8_said_1 : decode cX8_said 1 = .ok (.iload_n 1, 1) := by decide +kernel
theorem dX8_said_2 : decode cX8_said 2 = .ok (.invokevirtual 115, 3) := by decide +kernel
theorem dX8_said_5 : decode cX8_said 5 = .ok (.astore_n 2, 1) := by decide +kernel
theorem dX8_said_6 : decode cX8_said 6 = .ok (.aload_n 2, 1) := by decide +kernel
theorem dX8_said_7 : decode cX8_said 7 = .ok (.ifnonnull 5, 3) := by decide +kernel
theorem dX8_said_10 : decode cX8_said 10 = .ok (.iconst (-1), 1) := by decide +kernel
theorem dX8_said_11 : decode cX8_said 11 = .ok (.ireturn, 1) := by decide +kernel
theorem dX8_said_12 : decode cX8_said 12 = .ok (.iconst 0, 1) := by decide +kernel
theorem dX8_said_13 : decode cX8_said 13 = .ok (.istore_n 3, 1) := by decide +kernel
theorem dX8_said_14 : decode cX8_said 14 = .ok (.iconst 0, 1) := by decide +kernel
theorem dX8_said_15 : decode cX8_said 15 = .ok (.istore 4, 2) := by decide +kernel
theorem dX8_said_17 : decode cX8_said 17 = .ok (.iload 4, 2) := by decide +kernel
theorem dX8_said_19 : decode cX8_said 19 = .ok (.bipush 8, 2) := by decide +kernel
theorem dX8_said_21 : decode cX8_said 21 = .ok (.if_icmp .ge 39, 3) := by decide +kernel
theorem dX8_said_24 : decode cX8_said 24 = .ok (.aload_n 0, 1) := by decide +kernel
theorem dX8_said_25 : decode cX8_said 25 = .ok (.getfield 11, 3) := by decide +kernel
theorem dX8_said_28 : decode cX8_said 28 = .ok (.iload 4, 2) := by decide +kernel
theorem dX8_said_30 : decode cX8_said 30 = .ok (.iaload, 1) := by decide +kernel
theorem dX8_said_31 : decode cX8_said 31 = .ok (.ifCond .ne 23, 3) := by decide +kernel
theorem dX8_said_34 : decode cX8_said 34 = .ok (.aload_n 2, 1) := by decide +kernel
theorem dX8_said_35 : decode cX8_said 35 = .ok (.aload_n 0, 1) := by decide +kernel
theorem dX8_said_36 : decode cX8_said 36 = .ok (.getfield 11, 3) := by decide +kernel
theorem dX8_said_39 : decode cX8_said 39 = .ok (.iload 4, 2) := by decide +kernel
theorem dX8_said_41 : decode cX8_said 41 = .ok (.invokestatic 145, 3) := by decide +kernel
theorem dX8_said_44 : decode cX8_said 44 = .ok (.ifCond .eq 10, 3) := by decide +kernel
theorem dX8_said_47 : decode cX8_said 47 = .ok (.iload_n 3, 1) := by decide +kernel
theorem dX8_said_48 : decode cX8_said 48 = .ok (.iconst 1, 1) := by decide +kernel
theorem dX8_said_49 : decode cX8_said 49 = .ok (.iload 4, 2) := by decide +kernel
theorem dX8_said_51 : decode cX8_said 51 = .ok (.ishl, 1) := by decide +kernel
theorem dX8_said_52 : decode cX8_said 52 = .ok (.ior, 1) := by decide +kernel
theorem dX8_said_53 : decode cX8_said 53 = .ok (.istore_n 3, 1) := by decide +kernel
theorem dX8_said_54 : decode cX8_said 54 = .ok (.iinc 4 1, 3) := by decide +kernel
theorem dX8_said_57 : decode cX8_said 57 = .ok (.goto (-40), 3) := by decide +kernel
theorem dX8_said_60 : decode cX8_said 60 = .ok (.iload_n 3, 1) := by decide +kernel
theorem dX8_said_61 : decode cX8_said 61 = .ok (.ireturn, 1) := by decide +kernel
set_option maxRecDepth 20000 in
theorem ggX8_putIn_X8_cryOf : GoodIn wsX8_putIn wsX8_cryOf := goodIn_r _ [7, 8, 9, 66, 67, 68, 69, 70, 71, 72, 73, 74, 75, 76, 77, 78] (by decide +kernel) (by decide +kernel)
set_option maxRecDepth 20000 in
theorem gX8_putIn_X8_cryOf : GoodIn wsX8_putIn (wsV RX8 115 RX8 yX8_cryOf wsX8_cryOf) := goodIn_app (goodIn_of _ (by decide +kernel)) ggX8_putIn_X8_cryOf
set_option maxRecDepth 20000 in
theorem ggX8_putIn_X8_isWord : GoodIn wsX8_putIn wsX8_isWord := goodIn_r _ [12] (by decide +kernel) (by decide +kernel)
set_option maxRecDepth 20000 in
theorem gX8_putIn_X8_isWord : GoodIn wsX8_putIn (va_wsS RX8 109 yX8_isWord wsX8_isWord) := goodIn_app (goodIn_of _ (by decide +kernel)) ggX8_putIn_X8_isWord
set_option maxRecDepth 20000 in
theorem ggX8_putIn_X5_fewest : GoodIn wsX8_putIn wsX5_fewest := goodIn_r _ [17, 18, 19, 20, 16, 21, 22, 23, 24, 25, 26, 27, 28, 29, 30, 31, 32, 33, 34, 35, 36, 37, 38, 39, 40, 41, 42, 43, 44, 45, 46, 47, 48, 49, 50, 51, 52, 53, 54, 55, 56, 57, 58, 59, 60, 61, 79, 80, 81, 82] (by decide +kernel) (by decide +kernel)
set_option maxRecDepth 20000 in
theorem gX8_putIn_X5_fewest : GoodIn wsX8_putIn (wsV RX8 149 RX5 yX5_fewest wsX5_fewest) := goodIn_app (goodIn_of _ (by decide +kernel)) ggX8_putIn_X5_fewest
set_option maxRecDepth 20000 in
theorem ggX8_putIn_X5_found : GoodIn wsX8_putIn wsX5_found := goodIn_r _ [65, 57, 79, 80] (by decide +kernel) (by decide +kernel)
set_option maxRecDepth 20000 in
theorem gX8_putIn_X5_found : GoodIn wsX8_putIn (wsV RX8 153 RX5 yX5_found wsX5_found) := goodIn_app (goodIn_of _ (by decide +kernel)) ggX8_putIn_X5_found
theorem dX8_putIn_0 : decode cX8_putIn 0 = .ok (.aload_n 0, 1) := by decide +kernel
theorem dX8_putIn_1 : decode cX8_putIn 1 = .ok (.iload_n 1, 1) := by decide +kernel
theorem dX8_putIn_2 : decode cX8_putIn 2 = .ok (.invokevirtual 115, 3) := by decide +kernel
theorem dX8_putIn_5 : decode cX8_putIn 5 = .ok (.astore 5, 2) := by decide +kernel
theorem dX8_putIn_7 : decode cX8_putIn 7 = .ok (.aload 5, 2) := by decide +kernel
theorem dX8_putIn_9 : decode cX8_putIn 9 = .ok (.ifnull 22, 3) := by decide +kernel
theorem dX8_putIn_12 : decode cX8_putIn 12 = .ok (.iload_n 2, 1) := by decide +kernel
theorem dX8_putIn_13 : decode cX8_putIn 13 = .ok (.invokestatic 109, 3) := by decide +kernel
theorem dX8_putIn_16 : decode cX8_putIn 16 = .ok (.ifCond .eq 15, 3) := by decide +kernel
theorem dX8_putIn_19 : decode cX8_putIn 19 = .ok (.iload 4, 2) := by decide +kernel
theorem dX8_putIn_21 : decode cX8_putIn 21 = .ok (.iconst (-1), 1) := by decide +kernel
theorem dX8_putIn_22 : decode cX8_putIn 22 = .ok (.if_icmp .lt 9, 3) := by decide +kernel
theorem dX8_putIn_25 : decode cX8_putIn 25 = .ok (.iload 4, 2) := by decide +kernel
theorem dX8_putIn_27 : decode cX8_putIn 27 = .ok (.iconst 1, 1) := by decide +kernel
theorem dX8_putIn_28 : decode cX8_putIn 28 = .ok (.if_icmp .le 5, 3) := by decide +kernel
theorem dX8_putIn_31 : decode cX8_putIn 31 = .ok (.iconst (-1), 1) := by decide +kernel
theorem dX8_putIn_32 : decode cX8_putIn 32 = .ok (.ireturn, 1) := by decide +kernel
theorem dX8_putIn_33 : decode cX8_putIn 33 = .ok (.aload_n 0, 1) := by decide +kernel
theorem dX8_putIn_34 : decode cX8_putIn 34 = .ok (.getfield 11, 3) := by decide +kernel
theorem dX8_putIn_37 : decode cX8_putIn 37 = .ok (.iload_n 2, 1) := by decide +kernel
theorem dX8_putIn_38 : decode cX8_putIn 38 = .ok (.iaload, 1) := by decide +kernel
theorem dX8_putIn_39 : decode cX8_putIn 39 = .ok (.ifCond .eq 6, 3) := by decide +kernel
theorem dX8_putIn_42 : decode cX8_putIn 42 = .ok (.bipush (-3), 2) := by decide +kernel
theorem dX8_putIn_44 : decode cX8_putIn 44 = .ok (.ireturn, 1) := by decide +kernel
theorem dX8_putIn_45 : decode cX8_putIn 45 = .ok (.aload_n 0, 1) := by decide +kernel
theorem dX8_putIn_46 : decode cX8_putIn 46 = .ok (.getfield 42, 3) := by decide +kernel
theorem dX8_putIn_49 : decode cX8_putIn 49 = .ok (.aload 5, 2) := by decide +kernel
theorem dX8_putIn_51 : decode cX8_putIn 51 = .ok (.aload_n 0, 1) := by decide +kernel
theorem dX8_putIn_52 : decode cX8_putIn 52 = .ok (.getfield 11, 3) := by decide +kernel
theorem dX8_putIn_55 : decode cX8_putIn 55 = .ok (.iload_n 2, 1) := by decide +kernel
theorem dX8_putIn_56 : decode cX8_putIn 56 = .ok (.iload_n 3, 1) := by decide +kernel
theorem dX8_putIn_57 : decode cX8_putIn 57 = .ok (.invokevirtual 149, 3) := by decide +kernel
theorem dX8_putIn_60 : decode cX8_putIn 60 = .ok (.istore 6, 2) := by decide +kernel
theorem dX8_putIn_62 : decode cX8_putIn 62 = .ok (.iload 4, 2) := by decide +kernel
theorem dX8_putIn_64 : decode cX8_putIn 64 = .ok (.iconst (-1), 1) := by decide +kernel
theorem dX8_putIn_65 : decode cX8_putIn 65 = .ok (.if_icmp .ne 6, 3) := by decide +kernel
theorem dX8_putIn_68 : decode cX8_putIn 68 = .ok (.iload 6, 2) := by decide +kernel
theorem dX8_putIn_70 : decode cX8_putIn 70 = .ok (.ireturn, 1) := by decide +kernel
theorem dX8_putIn_71 : decode cX8_putIn 71 = .ok (.iload 4, 2) := by decide +kernel
theorem dX8_putIn_73 : decode cX8_putIn 73 = .ok (.iload 6, 2) := by decide +kernel
theorem dX8_putIn_75 : decode cX8_putIn 75 = .ok (.if_icmp .ge 15, 3) := by decide +kernel
theorem dX8_putIn_78 : decode cX8_putIn 78 = .ok (.aload_n 0, 1) := by decide +kernel
theorem dX8_putIn_79 : decode cX8_putIn 79 = .ok (.getfield 42, 3) := by decide +kernel
theorem dX8_putIn_82 : decode cX8_putIn 82 = .ok (.iload 4, 2) := by decide +kernel
theorem dX8_putIn_84 : decode cX8_putIn 84 = .ok (.invokevirtual 153, 3) := by decide +kernel
theorem dX8_putIn_87 : decode cX8_putIn 87 = .ok (.goto 5, 3) := by decide +kernel
theorem dX8_putIn_90 : decode cX8_putIn 90 = .ok (.bipush (-9), 2) := by decide +kernel
theorem dX8_putIn_92 : decode cX8_putIn 92 = .ok (.ireturn, 1) := by decide +kernel
set_option maxRecDepth 20000 in
theorem ggX8_ways_X8_cryOf : GoodIn wsX8_ways wsX8_cryOf := goodIn_r _ [7, 8, 9, 39, 40, 41, 42, 43, 44, 45, 46, 47, 48, 49, 50, 51] (by decide +kernel) (by decide +kernel)
set_option maxRecDepth 20000 in
theorem gX8_ways_X8_cryOf : GoodIn wsX8_ways (wsV RX8 115 RX8 yX8_cryOf wsX8_cryOf) := goodIn_app (goodIn_of _ (by decide +kernel)) ggX8_ways_X8_cryOf
set_option maxRecDepth 20000 in
theorem ggX8_ways_X3_choices : GoodIn wsX8_ways wsX3_choices := goodIn_r _ [14, 15, 16, 17, 18, 19, 20, 21, 22, 23, 24, 25, 26, 27, 28, 29, 30, 31, 32, 33, 34, 35, 36, 37, 38, 52, 53, 54, 55, 56] (by decide +kernel) (by decide +kernel)
set_option maxRecDepth 20000 in
theorem gX8_ways_X3_choices : GoodIn wsX8_ways (wsV RX8 158 RX3 yX3_choices wsX3_choices) := goodIn_app (goodIn_of _ (by decide +kernel)) ggX8_ways_X3_choices
theorem dX8_ways_0 : decode cX8_ways 0 = .ok (.aload_n 0, 1) := by decide +kernel
theorem dX8_ways_1 : decode cX8_ways 1 = .ok (.iload_n 1, 1) := by decide +kernel
theorem dX8_ways_2 : decode cX8_ways 2 = .ok (.invokevirtual 115, 3) := by decide +kernel
theorem dX8_ways_5 : decode cX8_ways 5 = .ok (.astore_n 3, 1) := by decide +kernel
theorem dX8_ways_6 : decode cX8_ways 6 = .ok (.aload_n 0, 1) := by decide +kernel
theorem dX8_ways_7 : decode cX8_ways 7 = .ok (.iload_n 2, 1) := by decide +kernel
theorem dX8_ways_8 : decode cX8_ways 8 = .ok (.invokevirtual 115, 3) := by decide +kernel
theorem dX8_ways_11 : decode cX8_ways 11 = .ok (.astore 4, 2) := by decide +kernel
theorem dX8_ways_13 : decode cX8_ways 13 = .ok (.aload_n 3, 1) := by decide +kernel
theorem dX8_ways_14 : decode cX8_ways 14 = .ok (.ifnull 8, 3) := by decide +kernel
theorem dX8_ways_17 : decode cX8_ways 17 = .ok (.aload 4, 2) := by decide +kernel
theorem dX8_ways_19 : decode cX8_ways 19 = .ok (.ifnonnull 7, 3) := by decide +kernel
theorem dX8_ways_22 : decode cX8_ways 22 = .ok (.ldc2_w 156, 3) := by decide +kernel
theorem dX8_ways_25 : decode cX8_ways 25 = .ok (.lreturn, 1) := by decide +kernel
theorem dX8_ways_26 : decode cX8_ways 26 = .ok (.aload_n 0, 1) := by decide +kernel
theorem dX8_ways_27 : decode cX8_ways 27 = .ok (.getfield 35, 3) := by decide +kernel
theorem dX8_ways_30 : decode cX8_ways 30 = .ok (.aload_n 3, 1) := by decide +kernel
theorem dX8_ways_31 : decode cX8_ways 31 = .ok (.aload 4, 2) := by decide +kernel
theorem dX8_ways_33 : decode cX8_ways 33 = .ok (.invokevirtual 158, 3) := by decide +kernel
theorem dX8_ways_36 : decode cX8_ways 36 = .ok (.lreturn, 1) := by decide +kernel
set_option maxRecDepth 20000 in
theorem ggX8_place_X8_cryOf : GoodIn wsX8_place wsX8_cryOf := goodIn_r _ [6, 7, 8, 44, 45, 46, 47, 48, 49, 50, 51, 52, 53, 54, 55, 56] (by decide +kernel) (by decide +kernel)
set_option maxRecDepth 20000 in
theorem gX8_place_X8_cryOf : GoodIn wsX8_place (wsV RX8 115 RX8 yX8_cryOf wsX8_cryOf) := goodIn_app (goodIn_of _ (by decide +kernel)) ggX8_place_X8_cryOf
set_option maxRecDepth 20000 in
theorem ggX8_place_X2_has : GoodIn wsX8_place wsX2_has := goodIn_r _ [13, 14, 57, 58] (by decide +kernel) (by decide +kernel)
set_option maxRecDepth 20000 in
theorem gX8_place_X2_has : GoodIn wsX8_place (wsV RX8 123 RX2 yX2_has wsX2_has) := goodIn_app (goodIn_of _ (by decide +kernel)) ggX8_place_X2_has
set_option maxRecDepth 20000 in
theorem ggX8_place_X8_isFirstOrSecond : GoodIn wsX8_place wsX8_isFirstOrSecond := goodIn_r _ [17] (by decide +kernel) (by decide +kernel)
set_option maxRecDepth 20000 in
theorem gX8_place_X8_isFirstOrSecond : GoodIn wsX8_place (va_wsS RX8 162 yX8_isFirstOrSecond wsX8_isFirstOrSecond) := goodIn_app (goodIn_of _ (by decide +kernel)) ggX8_place_X8_isFirstOrSecond
set_option maxRecDepth 20000 in
theorem ggX8_place_X3_make : GoodIn wsX8_place wsX3_make := goodIn_r _ [22, 23, 24, 25, 26, 27, 12, 28, 14, 29, 10, 11, 13, 30, 31, 32, 33, 34, 35, 59, 60, 61, 57, 58] (by decide +kernel) (by decide +kernel)
set_option maxRecDepth 20000 in
theorem gX8_place_X3_make : GoodIn wsX8_place (wsV RX8 141 RX3 yX3_make wsX3_make) := goodIn_app (goodIn_of _ (by decide +kernel)) ggX8_place_X3_make
set_option maxRecDepth 20000 in
theorem ggX8_place_X3_first : GoodIn wsX8_place wsX3_first := goodIn_r _ [39, 23, 59, 60, 61] (by decide +kernel) (by decide +kernel)
set_option maxRecDepth 20000 in
theorem gX8_place_X3_first : GoodIn wsX8_place (wsV RX8 165 RX3 yX3_first wsX3_first) := goodIn_app (goodIn_of _ (by decide +kernel)) ggX8_place_X3_first
set_option maxRecDepth 20000 in
theorem ggX8_place_X3_last : GoodIn wsX8_place wsX3_last := goodIn_r _ [43, 24, 59, 60, 61] (by decide +kernel) (by decide +kernel)
set_option maxRecDepth 20000 in
theorem gX8_place_X3_last : GoodIn wsX8_place (wsV RX8 168 RX3 yX3_last wsX3_last) := goodIn_app (goodIn_of _ (by decide +kernel)) ggX8_place_X3_last
theorem dX8_place_0 : decode cX8_place 0 = .ok (.aload_n 0, 1) := by decide +kernel
theorem dX8_place_1 : decode cX8_place 1 = .ok (.iload_n 1, 1) := by decide +kernel
theorem dX8_place_2 : decode cX8_place 2 = .ok (.invokevirtual 115, 3) := by decide +kernel
theorem dX8_place_5 : decode cX8_place 5 = .ok (.astore 5, 2) := by decide +kernel
theorem dX8_place_7 : decode cX8_place 7 = .ok (.aload_n 0, 1) := by decide +kernel
theorem dX8_place_8 : decode cX8_place 8 = .ok (.iload_n 2, 1) := by decide +kernel
theorem dX8_place_9 : decode cX8_place 9 = .ok (.invokevirtual 115, 3) := by decide +kernel
theorem dX8_place_12 : decode cX8_place 12 = .ok (.astore 6, 2) := by decide +kernel
theorem dX8_place_14 : decode cX8_place 14 = .ok (.aload 5, 2) := by decide +kernel
theorem dX8_place_16 : decode cX8_place 16 = .ok (.ifnull 17, 3) := by decide +kernel
theorem dX8_place_19 : decode cX8_place 19 = .ok (.aload 6, 2) := by decide +kernel
theorem dX8_place_21 : decode cX8_place 21 = .ok (.ifnull 12, 3) := by decide +kernel
theorem dX8_place_24 : decode cX8_place 24 = .ok (.aload 5, 2) := by decide +kernel
theorem dX8_place_26 : decode cX8_place 26 = .ok (.iload_n 3, 1) := by decide +kernel
theorem dX8_place_27 : decode cX8_place 27 = .ok (.invokevirtual 123, 3) := by decide +kernel
theorem dX8_place_30 : decode cX8_place 30 = .ok (.ifCond .ne 5, 3) := by decide +kernel
theorem dX8_place_33 : decode cX8_place 33 = .ok (.iconst (-1), 1) := by decide +kernel
theorem dX8_place_34 : decode cX8_place 34 = .ok (.ireturn, 1) := by decide +kernel
theorem dX8_place_35 : decode cX8_place 35 = .ok (.iload 4, 2) := by decide +kernel
theorem dX8_place_37 : decode cX8_place 37 = .ok (.invokestatic 162, 3) := by decide +kernel
theorem dX8_place_40 : decode cX8_place 40 = .ok (.ifCond .ne 6, 3) := by decide +kernel
theorem dX8_place_43 : decode cX8_place 43 = .ok (.bipush (-2), 2) := by decide +kernel
theorem dX8_place_45 : decode cX8_place 45 = .ok (.ireturn, 1) := by decide +kernel
theorem dX8_place_46 : decode cX8_place 46 = .ok (.aload_n 0, 1) := by decide +kernel
theorem dX8_place_47 : decode cX8_place 47 = .ok (.getfield 35, 3) := by decide +kernel
theorem dX8_place_50 : decode cX8_place 50 = .ok (.aload 5, 2) := by decide +kernel
theorem dX8_place_52 : decode cX8_place 52 = .ok (.aload 6, 2) := by decide +kernel
theorem dX8_place_54 : decode cX8_place 54 = .ok (.invokevirtual 141, 3) := by decide +kernel
theorem dX8_place_57 : decode cX8_place 57 = .ok (.ifCond .ne 6, 3) := by decide +kernel
theorem dX8_place_60 : decode cX8_place 60 = .ok (.bipush (-9), 2) := by decide +kernel
theorem dX8_place_62 : decode cX8_place 62 = .ok (.ireturn, 1) := by decide +kernel
theorem dX8_place_63 : decode cX8_place 63 = .ok (.iload 4, 2) := by decide +kernel
theorem dX8_place_65 : decode cX8_place 65 = .ok (.ifCond .ne 14, 3) := by decide +kernel
theorem dX8_place_68 : decode cX8_place 68 = .ok (.aload_n 0, 1) := by decide +kernel
theorem dX8_place_69 : decode cX8_place 69 = .ok (.getfield 35, 3) := by decide +kernel
theorem dX8_place_72 : decode cX8_place 72 = .ok (.iload_n 3, 1) := by decide +kernel
theorem dX8_place_73 : decode cX8_place 73 = .ok (.invokevirtual 165, 3) := by decide +kernel
theorem dX8_place_76 : decode cX8_place 76 = .ok (.goto 11, 3) := by decide +kernel
theorem dX8_place_79 : decode cX8_place 79 = .ok (.aload_n 0, 1) := by decide +kernel
theorem dX8_place_80 : decode cX8_place 80 = .ok (.getfield 35, 3) := by decide +kernel
theorem dX8_place_83 : decode cX8_place 83 = .ok (.iload_n 3, 1) := by decide +kernel
theorem dX8_place_84 : decode cX8_place 84 = .ok (.invokevirtual 168, 3) := by decide +kernel
theorem dX8_place_87 : decode cX8_place 87 = .ok (.ireturn, 1) := by decide +kernel
set_option maxRecDepth 20000 in
theorem ggX8_mayBe_X8_lastCry : GoodIn wsX8_mayBe wsX8_lastCry := goodIn_r _ [7, 1, 8, 9, 10, 6, 11, 12, 49, 50, 51, 52, 53, 54, 55, 56, 57, 58, 59, 60, 61] (by decide +kernel) (by decide +kernel)
set_option maxRecDepth 20000 in
theorem gX8_mayBe_X8_lastCry : GoodIn wsX8_mayBe (wsV RX8 129 RX8 yX8_lastCry wsX8_lastCry) := goodIn_app (goodIn_of _ (by decide +kernel)) ggX8_mayBe_X8_lastCry
set_option maxRecDepth 20000 in
theorem ggX8_mayBe_X2_has : GoodIn wsX8_mayBe wsX2_has := goodIn_r _ [17, 18, 62, 63] (by decide +kernel) (by decide +kernel)
set_option maxRecDepth 20000 in
theorem gX8_mayBe_X2_has : GoodIn wsX8_mayBe (wsV RX8 123 RX2 yX2_has wsX2_has) := goodIn_app (goodIn_of _ (by decide +kernel)) ggX8_mayBe_X2_has
set_option maxRecDepth 20000 in
theorem ggX8_mayBe_X8_cryOf : GoodIn wsX8_mayBe wsX8_cryOf := goodIn_r _ [11, 1, 12, 49, 50, 51, 52, 53, 54, 55, 56, 57, 58, 59, 60, 61] (by decide +kernel) (by decide +kernel)
set_option maxRecDepth 20000 in
theorem gX8_mayBe_X8_cryOf : GoodIn wsX8_mayBe (wsV RX8 115 RX8 yX8_cryOf wsX8_cryOf) := goodIn_app (goodIn_of _ (by decide +kernel)) ggX8_mayBe_X8_cryOf
set_option maxRecDepth 20000 in
theorem ggX8_mayBe_X3_canStand : GoodIn wsX8_mayBe wsX3_canStand := goodIn_r _ [23, 24, 25, 26, 22, 27, 28, 29, 30, 31, 32, 16, 33, 18, 34, 14, 15, 17, 35, 36, 37, 38, 39, 40, 41, 42, 43, 44, 45, 46, 47, 48, 64, 65, 66, 62, 63] (by decide +kernel) (by decide +kernel)
set_option maxRecDepth 20000 in
theorem gX8_mayBe_X3_canStand : GoodIn wsX8_mayBe (wsV RX8 171 RX3 yX3_canStand wsX3_canStand) := goodIn_app (goodIn_of _ (by decide +kernel)) ggX8_mayBe_X3_canStand
theorem dX8_mayBe_0 : decode cX8_mayBe 0 = .ok (.aload_n 0, 1) := by decide +kernel
theorem dX8_mayBe_1 : decode cX8_mayBe 1 = .ok (.invokevirtual 129, 3) := by decide +kernel
theorem dX8_mayBe_4 : decode cX8_mayBe 4 = .ok (.astore_n 2, 1) := by decide +kernel
theorem dX8_mayBe_5 : decode cX8_mayBe 5 = .ok (.aload_n 2, 1) := by decide +kernel
theorem dX8_mayBe_6 : decode cX8_mayBe 6 = .ok (.ifnull 11, 3) := by decide +kernel
theorem dX8_mayBe_9 : decode cX8_mayBe 9 = .ok (.aload_n 2, 1) := by decide +kernel
theorem dX8_mayBe_10 : decode cX8_mayBe 10 = .ok (.iload_n 1, 1) := by decide +kernel
theorem dX8_mayBe_11 : decode cX8_mayBe 11 = .ok (.invokevirtual 123, 3) := by decide +kernel
theorem dX8_mayBe_14 : decode cX8_mayBe 14 = .ok (.ifCond .ne 5, 3) := by decide +kernel
theorem dX8_mayBe_17 : decode cX8_mayBe 17 = .ok (.iconst (-1), 1) := by decide +kernel
theorem dX8_mayBe_18 : decode cX8_mayBe 18 = .ok (.ireturn, 1) := by decide +kernel
theorem dX8_mayBe_19 : decode cX8_mayBe 19 = .ok (.iconst 0, 1) := by decide +kernel
theorem dX8_mayBe_20 : decode cX8_mayBe 20 = .ok (.istore_n 3, 1) := by decide +kernel
theorem dX8_mayBe_21 : decode cX8_mayBe 21 = .ok (.iconst 0, 1) := by decide +kernel
theorem dX8_mayBe_22 : decode cX8_mayBe 22 = .ok (.istore 4, 2) := by decide +kernel
theorem dX8_mayBe_24 : decode cX8_mayBe 24 = .ok (.iload 4, 2) := by decide +kernel
theorem dX8_mayBe_26 : decode cX8_mayBe 26 = .ok (.aload_n 0, 1) := by decide +kernel
theorem dX8_mayBe_27 : decode cX8_mayBe 27 = .ok (.getfield 70, 3) := by decide +kernel
theorem dX8_mayBe_30 : decode cX8_mayBe 30 = .ok (.if_icmp .ge 43, 3) := by decide +kernel
theorem dX8_mayBe_33 : decode cX8_mayBe 33 = .ok (.aload_n 0, 1) := by decide +kernel
theorem dX8_mayBe_34 : decode cX8_mayBe 34 = .ok (.iload 4, 2) := by decide +kernel
theorem dX8_mayBe_36 : decode cX8_mayBe 36 = .ok (.invokevirtual 115, 3) := by decide +kernel
theorem dX8_mayBe_39 : decode cX8_mayBe 39 = .ok (.astore 5, 2) := by decide +kernel
theorem dX8_mayBe_41 : decode cX8_mayBe 41 = .ok (.aload 5, 2) := by decide +kernel
theorem dX8_mayBe_43 : decode cX8_mayBe 43 = .ok (.ifnull 24, 3) := by decide +kernel
theorem dX8_mayBe_46 : decode cX8_mayBe 46 = .ok (.aload_n 0, 1) := by decide +kernel
theorem dX8_mayBe_47 : decode cX8_mayBe 47 = .ok (.getfield 35, 3) := by decide +kernel
theorem dX8_mayBe_50 : decode cX8_mayBe 50 = .ok (.aload 5, 2) := by decide +kernel
theorem dX8_mayBe_52 : decode cX8_mayBe 52 = .ok (.aload_n 2, 1) := by decide +kernel
theorem dX8_mayBe_53 : decode cX8_mayBe 53 = .ok (.iload_n 1, 1) := by decide +kernel
theorem dX8_mayBe_54 : decode cX8_mayBe 54 = .ok (.invokevirtual 171, 3) := by decide +kernel
theorem dX8_mayBe_57 : decode cX8_mayBe 57 = .ok (.ifCond .eq 10, 3) := by decide +kernel
theorem dX8_mayBe_60 : decode cX8_mayBe 60 = .ok (.iload_n 3, 1) := by decide +kernel
theorem dX8_mayBe_61 : decode cX8_mayBe 61 = .ok (.iconst 1, 1) := by decide +kernel
theorem dX8_mayBe_62 : decode cX8_mayBe 62 = .ok (.iload 4, 2) := by decide +kernel
theorem dX8_mayBe_64 : decode cX8_mayBe 64 = .ok (.ishl, 1) := by decide +kernel
theorem dX8_mayBe_65 : decode cX8_mayBe 65 = .ok (.ior, 1) := by decide +kernel
theorem dX8_mayBe_66 : decode cX8_mayBe 66 = .ok (.istore_n 3, 1) := by decide +kernel
theorem dX8_mayBe_67 : decode cX8_mayBe 67 = .ok (.iinc 4 1, 3) := by decide +kernel
theorem dX8_mayBe_70 : decode cX8_mayBe 70 = .ok (.goto (-46), 3) := by decide +kernel
theorem dX8_mayBe_73 : decode cX8_mayBe 73 = .ok (.iload_n 3, 1) := by decide +kernel
theorem dX8_mayBe_74 : decode cX8_mayBe 74 = .ok (.ireturn, 1) := by decide +kernel
set_option maxRecDepth 20000 in
theorem ggX8_both_X8_cryOf : GoodIn wsX8_both wsX8_cryOf := goodIn_r _ [6, 7, 8, 65, 66, 67, 68, 69, 70, 71, 72, 73, 74, 75, 76, 77] (by decide +kernel) (by decide +kernel)
set_option maxRecDepth 20000 in
theorem gX8_both_X8_cryOf : GoodIn wsX8_both (wsV RX8 115 RX8 yX8_cryOf wsX8_cryOf) := goodIn_app (goodIn_of _ (by decide +kernel)) ggX8_both_X8_cryOf
set_option maxRecDepth 20000 in
theorem ggX8_both_X8_isFirstOrSecond : GoodIn wsX8_both wsX8_isFirstOrSecond := goodIn_r _ [11] (by decide +kernel) (by decide +kernel)
set_option maxRecDepth 20000 in
theorem gX8_both_X8_isFirstOrSecond : GoodIn wsX8_both (va_wsS RX8 162 yX8_isFirstOrSecond wsX8_isFirstOrSecond) := goodIn_app (goodIn_of _ (by decide +kernel)) ggX8_both_X8_isFirstOrSecond
set_option maxRecDepth 20000 in
theorem ggX8_both_X7_make : GoodIn wsX8_both wsX7_make := goodIn_r _ [16, 17, 18, 19, 20, 21, 22, 23, 24, 25, 15, 26, 27, 28, 29, 30, 31, 32, 33, 34, 35, 36, 37, 38, 39, 40, 41, 42, 43, 44, 45, 46, 47, 48, 49, 50, 51, 52, 53, 54, 55, 56, 57, 58, 59, 78, 79, 80, 81, 82] (by decide +kernel) (by decide +kernel)
set_option maxRecDepth 20000 in
theorem gX8_both_X7_make : GoodIn wsX8_both (wsV RX8 175 RX7 yX7_make wsX7_make) := goodIn_app (goodIn_of _ (by decide +kernel)) ggX8_both_X7_make
set_option maxRecDepth 20000 in
theorem ggX8_both_X2_size : GoodIn wsX8_both wsX2_size := goodIn_r _ [21, 22, 78, 79] (by decide +kernel) (by decide +kernel)
set_option maxRecDepth 20000 in
theorem gX8_both_X2_size : GoodIn wsX8_both (wsV RX8 119 RX2 yX2_size wsX2_size) := goodIn_app (goodIn_of _ (by decide +kernel)) ggX8_both_X2_size
set_option maxRecDepth 20000 in
theorem ggX8_both_X7_length : GoodIn wsX8_both wsX7_length := goodIn_r _ [64, 27, 56, 57, 58, 44, 59, 46, 47, 48, 49, 80, 81, 82] (by decide +kernel) (by decide +kernel)
set_option maxRecDepth 20000 in
theorem gX8_both_X7_length : GoodIn wsX8_both (wsV RX8 178 RX7 yX7_length wsX7_length) := goodIn_app (goodIn_of _ (by decide +kernel)) ggX8_both_X7_length
theorem dX8_both_0 : decode cX8_both 0 = .ok (.aload_n 0, 1) := by decide +kernel
theorem dX8_both_1 : decode cX8_both 1 = .ok (.iload_n 1, 1) := by decide +kernel
theorem dX8_both_2 : decode cX8_both 2 = .ok (.invokevirtual 115, 3) := by decide +kernel
theorem dX8_both_5 : decode cX8_both 5 = .ok (.astore 4, 2) := by decide +kernel
theorem dX8_both_7 : decode cX8_both 7 = .ok (.aload_n 0, 1) := by decide +kernel
theorem dX8_both_8 : decode cX8_both 8 = .ok (.iload_n 2, 1) := by decide +kernel
theorem dX8_both_9 : decode cX8_both 9 = .ok (.invokevirtual 115, 3) := by decide +kernel
theorem dX8_both_12 : decode cX8_both 12 = .ok (.astore 5, 2) := by decide +kernel
theorem dX8_both_14 : decode cX8_both 14 = .ok (.aload 4, 2) := by decide +kernel
theorem dX8_both_16 : decode cX8_both 16 = .ok (.ifnull 8, 3) := by decide +kernel
theorem dX8_both_19 : decode cX8_both 19 = .ok (.aload 5, 2) := by decide +kernel
theorem dX8_both_21 : decode cX8_both 21 = .ok (.ifnonnull 5, 3) := by decide +kernel
theorem dX8_both_24 : decode cX8_both 24 = .ok (.iconst (-1), 1) := by decide +kernel
theorem dX8_both_25 : decode cX8_both 25 = .ok (.ireturn, 1) := by decide +kernel
theorem dX8_both_26 : decode cX8_both 26 = .ok (.iload_n 3, 1) := by decide +kernel
theorem dX8_both_27 : decode cX8_both 27 = .ok (.invokestatic 162, 3) := by decide +kernel
theorem dX8_both_30 : decode cX8_both 30 = .ok (.ifCond .ne 6, 3) := by decide +kernel
theorem dX8_both_33 : decode cX8_both 33 = .ok (.bipush (-2), 2) := by decide +kernel
theorem dX8_both_35 : decode cX8_both 35 = .ok (.ireturn, 1) := by decide +kernel
theorem dX8_both_36 : decode cX8_both 36 = .ok (.aload_n 0, 1) := by decide +kernel
theorem dX8_both_37 : decode cX8_both 37 = .ok (.getfield 49, 3) := by decide +kernel
theorem dX8_both_40 : decode cX8_both 40 = .ok (.aload 4, 2) := by decide +kernel
theorem dX8_both_42 : decode cX8_both 42 = .ok (.aload 5, 2) := by decide +kernel
theorem dX8_both_44 : decode cX8_both 44 = .ok (.invokevirtual 175, 3) := by decide +kernel
theorem dX8_both_47 : decode cX8_both 47 = .ok (.iload_n 3, 1) := by decide +kernel
theorem dX8_both_48 : decode cX8_both 48 = .ok (.ifCond .ne 25, 3) := by decide +kernel
theorem dX8_both_51 : decode cX8_both 51 = .ok (.aload 4, 2) := by decide +kernel
theorem dX8_both_53 : decode cX8_both 53 = .ok (.invokevirtual 119, 3) := by decide +kernel
theorem dX8_both_56 : decode cX8_both 56 = .ok (.aload 5, 2) := by decide +kernel
theorem dX8_both_58 : decode cX8_both 58 = .ok (.invokevirtual 119, 3) := by decide +kernel
theorem dX8_both_61 : decode cX8_both 61 = .ok (.iadd, 1) := by decide +kernel
theorem dX8_both_62 : decode cX8_both 62 = .ok (.aload_n 0, 1) := by decide +kernel
theorem dX8_both_63 : decode cX8_both 63 = .ok (.getfield 49, 3) := by decide +kernel
theorem dX8_both_66 : decode cX8_both 66 = .ok (.invokevirtual 178, 3) := by decide +kernel
theorem dX8_both_69 : decode cX8_both 69 = .ok (.isub, 1) := by decide +kernel
theorem dX8_both_70 : decode cX8_both 70 = .ok (.goto 10, 3) := by decide +kernel
theorem dX8_both_73 : decode cX8_both 73 = .ok (.aload_n 0, 1) := by decide +kernel
theorem dX8_both_74 : decode cX8_both 74 = .ok (.getfield 49, 3) := by decide +kernel
theorem dX8_both_77 : decode cX8_both 77 = .ok (.invokevirtual 178, 3) := by decide +kernel
theorem dX8_both_80 : decode cX8_both 80 = .ok (.ireturn, 1) := by decide +kernel
set_option maxRecDepth 20000 in
theorem ggX8_shortest_X8_cryOf : GoodIn wsX8_shortest wsX8_cryOf := goodIn_r _ [7, 8, 9, 77, 78, 79, 80, 81, 82, 83, 84, 85, 86, 87, 88, 89] (by decide +kernel) (by decide +kernel)
set_option maxRecDepth 20000 in
theorem gX8_shortest_X8_cryOf : GoodIn wsX8_shortest (wsV RX8 115 RX8 yX8_cryOf wsX8_cryOf) := goodIn_app (goodIn_of _ (by decide +kernel)) ggX8_shortest_X8_cryOf
set_option maxRecDepth 20000 in
theorem ggX8_shortest_X7_make : GoodIn wsX8_shortest wsX7_make := goodIn_r _ [14, 15, 16, 17, 18, 19, 20, 21, 22, 23, 13, 24, 25, 26, 27, 28, 29, 30, 31, 32, 33, 34, 35, 36, 37, 38, 39, 40, 41, 42, 43, 44, 45, 46, 47, 48, 49, 50, 51, 52, 53, 54, 55, 56, 57, 90, 91, 92, 93, 94] (by decide +kernel) (by decide +kernel)
set_option maxRecDepth 20000 in
theorem gX8_shortest_X7_make : GoodIn wsX8_shortest (wsV RX8 175 RX7 yX7_make wsX7_make) := goodIn_app (goodIn_of _ (by decide +kernel)) ggX8_shortest_X7_make
set_option maxRecDepth 20000 in
theorem ggX8_shortest_X7_length : GoodIn wsX8_shortest wsX7_length := goodIn_r _ [61, 25, 54, 55, 56, 42, 57, 44, 45, 46, 47, 92, 93, 94] (by decide +kernel) (by decide +kernel)
set_option maxRecDepth 20000 in
theorem gX8_shortest_X7_length : GoodIn wsX8_shortest (wsV RX8 178 RX7 yX7_length wsX7_length) := goodIn_app (goodIn_of _ (by decide +kernel)) ggX8_shortest_X7_length
set_option maxRecDepth 20000 in
theorem ggX8_shortest_X7_howMany : GoodIn wsX8_shortest wsX7_howMany := goodIn_r _ [65, 26, 54, 55, 56, 42, 57, 44, 45, 46, 47, 92, 93, 94] (by decide +kernel) (by decide +kernel)
set_option maxRecDepth 20000 in
theorem gX8_shortest_X7_howMany : GoodIn wsX8_shortest (wsV RX8 181 RX7 yX7_howMany wsX7_howMany) := goodIn_app (goodIn_of _ (by decide +kernel)) ggX8_shortest_X7_howMany
set_option maxRecDepth 20000 in
theorem ggX8_shortest_X7_wordOfFirst : GoodIn wsX8_shortest wsX7_wordOfFirst := goodIn_r _ [69, 70, 71, 72, 13, 73, 25, 74, 75, 29, 76, 31, 32, 33, 18, 34, 20, 48, 49, 50, 51, 52, 53, 54, 55, 56, 42, 57, 44, 45, 46, 47, 92, 93, 90, 91, 94] (by decide +kernel) (by decide +kernel)
set_option maxRecDepth 20000 in
theorem gX8_shortest_X7_wordOfFirst : GoodIn wsX8_shortest (wsV RX8 185 RX7 yX7_wordOfFirst wsX7_wordOfFirst) := goodIn_app (goodIn_of _ (by decide +kernel)) ggX8_shortest_X7_wordOfFirst
theorem dX8_shortest_0 : decode cX8_shortest 0 = .ok (.aload_n 0, 1) := by decide +kernel
theorem dX8_shortest_1 : decode cX8_shortest 1 = .ok (.iload_n 1, 1) := by decide +kernel
theorem dX8_shortest_2 : decode cX8_shortest 2 = .ok (.invokevirtual 115, 3) := by decide +kernel
theorem dX8_shortest_5 : decode cX8_shortest 5 = .ok (.astore 4, 2) := by decide +kernel
theorem dX8_shortest_7 : decode cX8_shortest 7 = .ok (.aload_n 0, 1) := by decide +kernel
theorem dX8_shortest_8 : decode cX8_shortest 8 = .ok (.iload_n 2, 1) := by decide +kernel
theorem dX8_shortest_9 : decode cX8_shortest 9 = .ok (.invokevirtual 115, 3) := by decide +kernel
theorem dX8_shortest_12 : decode cX8_shortest 12 = .ok (.astore 5, 2) := by decide +kernel
theorem dX8_shortest_14 : decode cX8_shortest 14 = .ok (.aload 4, 2) := by decide +kernel
theorem dX8_shortest_16 : decode cX8_shortest 16 = .ok (.ifnull 13, 3) := by decide +kernel
theorem dX8_shortest_19 : decode cX8_shortest 19 = .ok (.aload 5, 2) := by decide +kernel
theorem dX8_shortest_21 : decode cX8_shortest 21 = .ok (.ifnull 8, 3) := by decide +kernel
theorem dX8_shortest_24 : decode cX8_shortest 24 = .ok (.iload_n 3, 1) := by decide +kernel
theorem dX8_shortest_25 : decode cX8_shortest 25 = .ok (.iconst (-1), 1) := by decide +kernel
theorem dX8_shortest_26 : decode cX8_shortest 26 = .ok (.if_icmp .ge 7, 3) := by decide +kernel
theorem dX8_shortest_29 : decode cX8_shortest 29 = .ok (.ldc2_w 156, 3) := by decide +kernel
theorem dX8_shortest_32 : decode cX8_shortest 32 = .ok (.lreturn, 1) := by decide +kernel
theorem dX8_shortest_33 : decode cX8_shortest 33 = .ok (.aload_n 0, 1) := by decide +kernel
theorem dX8_shortest_34 : decode cX8_shortest 34 = .ok (.getfield 49, 3) := by decide +kernel
theorem dX8_shortest_37 : decode cX8_shortest 37 = .ok (.aload 4, 2) := by decide +kernel
theorem dX8_shortest_39 : decode cX8_shortest 39 = .ok (.aload 5, 2) := by decide +kernel
theorem dX8_shortest_41 : decode cX8_shortest 41 = .ok (.invokevirtual 175, 3) := by decide +kernel
theorem dX8_shortest_44 : decode cX8_shortest 44 = .ok (.iload_n 3, 1) := by decide +kernel
theorem dX8_shortest_45 : decode cX8_shortest 45 = .ok (.aload_n 0, 1) := by decide +kernel
theorem dX8_shortest_46 : decode cX8_shortest 46 = .ok (.getfield 49, 3) := by decide +kernel
theorem dX8_shortest_49 : decode cX8_shortest 49 = .ok (.invokevirtual 178, 3) := by decide +kernel
theorem dX8_shortest_52 : decode cX8_shortest 52 = .ok (.if_icmp .lt 7, 3) := by decide +kernel
theorem dX8_shortest_55 : decode cX8_shortest 55 = .ok (.ldc2_w 156, 3) := by decide +kernel
theorem dX8_shortest_58 : decode cX8_shortest 58 = .ok (.lreturn, 1) := by decide +kernel
theorem dX8_shortest_59 : decode cX8_shortest 59 = .ok (.iload_n 3, 1) := by decide +kernel
theorem dX8_shortest_60 : decode cX8_shortest 60 = .ok (.iconst (-1), 1) := by decide +kernel
theorem dX8_shortest_61 : decode cX8_shortest 61 = .ok (.if_icmp .ne 13, 3) := by decide +kernel
theorem dX8_shortest_64 : decode cX8_shortest 64 = .ok (.aload_n 0, 1) := by decide +kernel
theorem dX8_shortest_65 : decode cX8_shortest 65 = .ok (.getfield 49, 3) := by decide +kernel
theorem dX8_shortest_68 : decode cX8_shortest 68 = .ok (.invokevirtual 181, 3) := by decide +kernel
theorem dX8_shortest_71 : decode cX8_shortest 71 = .ok (.goto 16, 3) := by decide +kernel
theorem dX8_shortest_74 : decode cX8_shortest 74 = .ok (.aload_n 0, 1) := by decide +kernel
theorem dX8_shortest_75 : decode cX8_shortest 75 = .ok (.getfield 49, 3) := by decide +kernel
theorem dX8_shortest_78 : decode cX8_shortest 78 = .ok (.aload 4, 2) := by decide +kernel
theorem dX8_shortest_80 : decode cX8_shortest 80 = .ok (.aload 5, 2) := by decide +kernel
theorem dX8_shortest_82 : decode cX8_shortest 82 = .ok (.iload_n 3, 1) := by decide +kernel
theorem dX8_shortest_83 : decode cX8_shortest 83 = .ok (.invokevirtual 185, 3) := by decide +kernel
theorem dX8_shortest_86 : decode cX8_shortest 86 = .ok (.i2l, 1) := by decide +kernel
theorem dX8_shortest_87 : decode cX8_shortest 87 = .ok (.lreturn, 1) := by decide +kernel
set_option maxRecDepth 20000 in
theorem ggX8_three_X8_cryOf : GoodIn wsX8_three wsX8_cryOf := goodIn_r _ [6, 7, 8, 63, 64, 65, 66, 67, 68, 69, 70, 71, 72, 73, 74, 75] (by decide +kernel) (by decide +kernel)
set_option maxRecDepth 20000 in
theorem gX8_three_X8_cryOf : GoodIn wsX8_three (wsV RX8 115 RX8 yX8_cryOf wsX8_cryOf) := goodIn_app (goodIn_of _ (by decide +kernel)) ggX8_three_X8_cryOf
set_option maxRecDepth 20000 in
theorem ggX8_three_X1_length : GoodIn wsX8_three wsX1_length := goodIn_r _ [13, 14, 15, 16, 17, 18, 19, 20, 21, 22, 23, 24, 25, 26, 27, 28, 29, 30, 31, 32, 33, 12, 34, 35, 36, 37, 38, 39, 40, 41, 42, 43, 44, 45, 46, 47, 48, 49, 50, 51, 52, 53, 54, 55, 56, 57, 58, 59, 60, 61, 62, 76, 77, 78, 79, 80] (by decide +kernel) (by decide +kernel)
set_option maxRecDepth 20000 in
theorem gX8_three_X1_length : GoodIn wsX8_three (wsV RX8 189 RX1 yX1_length wsX1_length) := goodIn_app (goodIn_of _ (by decide +kernel)) ggX8_three_X1_length
theorem dX8_three_0 : decode cX8_three 0 = .ok (.aload_n 0, 1) := by decide +kernel
theorem dX8_three_1 : decode cX8_three 1 = .ok (.iload_n 1, 1) := by decide +kernel
theorem dX8_three_2 : decode cX8_three 2 = .ok (.invokevirtual 115, 3) := by decide +kernel
theorem dX8_three_5 : decode cX8_three 5 = .ok (.astore 4, 2) := by decide +kernel
theorem dX8_three_7 : decode cX8_three 7 = .ok (.aload_n 0, 1) := by decide +kernel
theorem dX8_three_8 : decode cX8_three 8 = .ok (.iload_n 2, 1) := by decide +kernel
theorem dX8_three_9 : decode cX8_three 9 = .ok (.invokevirtual 115, 3) := by decide +kernel
theorem dX8_three_12 : decode cX8_three 12 = .ok (.astore 5, 2) := by decide +kernel
theorem dX8_three_14 : decode cX8_three 14 = .ok (.aload_n 0, 1) := by decide +kernel
theorem dX8_three_15 : decode cX8_three 15 = .ok (.iload_n 3, 1) := by decide +kernel
theorem dX8_three_16 : decode cX8_three 16 = .ok (.invokevirtual 115, 3) := by decide +kernel
theorem dX8_three_19 : decode cX8_three 19 = .ok (.astore 6, 2) := by decide +kernel
theorem dX8_three_21 : decode cX8_three 21 = .ok (.aload 4, 2) := by decide +kernel
theorem dX8_three_23 : decode cX8_three 23 = .ok (.ifnull 13, 3) := by decide +kernel
theorem dX8_three_26 : decode cX8_three 26 = .ok (.aload 5, 2) := by decide +kernel
theorem dX8_three_28 : decode cX8_three 28 = .ok (.ifnull 8, 3) := by decide +kernel
theorem dX8_three_31 : decode cX8_three 31 = .ok (.aload 6, 2) := by decide +kernel
theorem dX8_three_33 : decode cX8_three 33 = .ok (.ifnonnull 5, 3) := by decide +kernel
theorem dX8_three_36 : decode cX8_three 36 = .ok (.iconst (-1), 1) := by decide +kernel
theorem dX8_three_37 : decode cX8_three 37 = .ok (.ireturn, 1) := by decide +kernel
theorem dX8_three_38 : decode cX8_three 38 = .ok (.aload_n 0, 1) := by decide +kernel
theorem dX8_three_39 : decode cX8_three 39 = .ok (.getfield 56, 3) := by decide +kernel
theorem dX8_three_42 : decode cX8_three 42 = .ok (.aload 4, 2) := by decide +kernel
theorem dX8_three_44 : decode cX8_three 44 = .ok (.aload 5, 2) := by decide +kernel
theorem dX8_three_46 : decode cX8_three 46 = .ok (.aload 6, 2) := by decide +kernel
theorem dX8_three_48 : decode cX8_three 48 = .ok (.invokevirtual 189, 3) := by decide +kernel
theorem dX8_three_51 : decode cX8_three 51 = .ok (.ireturn, 1) := by decide +kernel
set_option maxRecDepth 20000 in
theorem ggX8_lostDay_X8_cryOf : GoodIn wsX8_lostDay wsX8_cryOf := goodIn_r _ [7, 8, 9, 67, 68, 69, 70, 71, 72, 73, 74, 75, 76, 77, 78, 79] (by decide +kernel) (by decide +kernel)
set_option maxRecDepth 20000 in
theorem gX8_lostDay_X8_cryOf : GoodIn wsX8_lostDay (wsV RX8 115 RX8 yX8_cryOf wsX8_cryOf) := goodIn_app (goodIn_of _ (by decide +kernel)) ggX8_lostDay_X8_cryOf
set_option maxRecDepth 20000 in
theorem ggX8_lostDay_X0_count : GoodIn wsX8_lostDay wsX0_count := goodIn_r _ [14, 15, 16, 17, 18, 19, 20, 21, 22, 23, 24, 25, 26, 27, 28, 29, 30, 31, 32, 33, 34, 35, 13, 36, 37, 38, 39, 40, 41, 42, 43, 44, 45, 46, 47, 48, 49, 50, 51, 52, 53, 54, 55, 56, 57, 58, 59, 60, 61, 62, 63, 64, 65, 66, 80, 81, 82, 83, 84] (by decide +kernel) (by decide +kernel)
set_option maxRecDepth 20000 in
theorem gX8_lostDay_X0_count : GoodIn wsX8_lostDay (wsV RX8 192 RX0 yX0_count wsX0_count) := goodIn_app (goodIn_of _ (by decide +kernel)) ggX8_lostDay_X0_count
theorem dX8_lostDay_0 : decode cX8_lostDay 0 = .ok (.aload_n 0, 1) := by decide +kernel
theorem dX8_lostDay_1 : decode cX8_lostDay 1 = .ok (.iload_n 1, 1) := by decide +kernel
theorem dX8_lostDay_2 : decode cX8_lostDay 2 = .ok (.invokevirtual 115, 3) := by decide +kernel
theorem dX8_lostDay_5 : decode cX8_lostDay 5 = .ok (.astore 4, 2) := by decide +kernel
theorem dX8_lostDay_7 : decode cX8_lostDay 7 = .ok (.aload_n 0, 1) := by decide +kernel
theorem dX8_lostDay_8 : decode cX8_lostDay 8 = .ok (.iload_n 2, 1) := by decide +kernel
theorem dX8_lostDay_9 : decode cX8_lostDay 9 = .ok (.invokevirtual 115, 3) := by decide +kernel
theorem dX8_lostDay_12 : decode cX8_lostDay 12 = .ok (.astore 5, 2) := by decide +kernel
theorem dX8_lostDay_14 : decode cX8_lostDay 14 = .ok (.aload 4, 2) := by decide +kernel
theorem dX8_lostDay_16 : decode cX8_lostDay 16 = .ok (.ifnull 18, 3) := by decide +kernel
theorem dX8_lostDay_19 : decode cX8_lostDay 19 = .ok (.aload 5, 2) := by decide +kernel
theorem dX8_lostDay_21 : decode cX8_lostDay 21 = .ok (.ifnull 13, 3) := by decide +kernel
theorem dX8_lostDay_24 : decode cX8_lostDay 24 = .ok (.iload_n 3, 1) := by decide +kernel
theorem dX8_lostDay_25 : decode cX8_lostDay 25 = .ok (.ifCond .lt 9, 3) := by decide +kernel
theorem dX8_lostDay_28 : decode cX8_lostDay 28 = .ok (.iload_n 3, 1) := by decide +kernel
theorem dX8_lostDay_29 : decode cX8_lostDay 29 = .ok (.bipush 12, 2) := by decide +kernel
theorem dX8_lostDay_31 : decode cX8_lostDay 31 = .ok (.if_icmp .le 7, 3) := by decide +kernel
theorem dX8_lostDay_34 : decode cX8_lostDay 34 = .ok (.ldc2_w 156, 3) := by decide +kernel
theorem dX8_lostDay_37 : decode cX8_lostDay 37 = .ok (.lreturn, 1) := by decide +kernel
theorem dX8_lostDay_38 : decode cX8_lostDay 38 = .ok (.aload_n 0, 1) := by decide +kernel
theorem dX8_lostDay_39 : decode cX8_lostDay 39 = .ok (.getfield 63, 3) := by decide +kernel
theorem dX8_lostDay_42 : decode cX8_lostDay 42 = .ok (.aload 4, 2) := by decide +kernel
theorem dX8_lostDay_44 : decode cX8_lostDay 44 = .ok (.aload 5, 2) := by decide +kernel
theorem dX8_lostDay_46 : decode cX8_lostDay 46 = .ok (.iload_n 3, 1) := by decide +kernel
theorem dX8_lostDay_47 : decode cX8_lostDay 47 = .ok (.invokevirtual 192, 3) := by decide +kernel
theorem dX8_lostDay_50 : decode cX8_lostDay 50 = .ok (.lreturn, 1) := by decide +kernel
set_option maxRecDepth 20000 in
theorem ggX8_roots_X8_cryOf : GoodIn wsX8_roots wsX8_cryOf := goodIn_r _ [8, 9, 10, 68, 69, 70, 71, 72, 73, 74, 75, 76, 77, 78, 79, 80] (by decide +kernel) (by decide +kernel)
set_option maxRecDepth 20000 in
theorem gX8_roots_X8_cryOf : GoodIn wsX8_roots (wsV RX8 115 RX8 yX8_cryOf wsX8_cryOf) := goodIn_app (goodIn_of _ (by decide +kernel)) ggX8_roots_X8_cryOf
set_option maxRecDepth 20000 in
theorem ggX8_roots_X0_count : GoodIn wsX8_roots wsX0_count := goodIn_r _ [15, 16, 17, 18, 19, 20, 21, 22, 23, 24, 25, 26, 27, 28, 29, 30, 31, 32, 33, 34, 35, 36, 14, 37, 38, 39, 40, 41, 42, 43, 44, 45, 46, 47, 48, 49, 50, 51, 52, 53, 54, 55, 56, 57, 58, 59, 60, 61, 62, 63, 64, 65, 66, 67, 81, 82, 83, 84, 85] (by decide +kernel) (by decide +kernel)
set_option maxRecDepth 20000 in
theorem gX8_roots_X0_count : GoodIn wsX8_roots (wsV RX8 192 RX0 yX0_count wsX0_count) := goodIn_app (goodIn_of _ (by decide +kernel)) ggX8_roots_X0_count
theorem dX8_roots_0 : decode cX8_roots 0 = .ok (.aload_n 0, 1) := by decide +kernel
theorem dX8_roots_1 : decode cX8_roots 1 = .ok (.iload_n 1, 1) := by decide +kernel
theorem dX8_roots_2 : decode cX8_roots 2 = .ok (.invokevirtual 115, 3) := by decide +kernel
theorem dX8_roots_5 : decode cX8_roots 5 = .ok (.astore_n 3, 1) := by decide +kernel
theorem dX8_roots_6 : decode cX8_roots 6 = .ok (.aload_n 3, 1) := by decide +kernel
theorem dX8_roots_7 : decode cX8_roots 7 = .ok (.ifnull 13, 3) := by decide +kernel
theorem dX8_roots_10 : decode cX8_roots 10 = .ok (.iload_n 2, 1) := by decide +kernel
theorem dX8_roots_11 : decode cX8_roots 11 = .ok (.ifCond .lt 9, 3) := by decide +kernel
theorem dX8_roots_14 : decode cX8_roots 14 = .ok (.iload_n 2, 1) := by decide +kernel
theorem dX8_roots_15 : decode cX8_roots 15 = .ok (.bipush 12, 2) := by decide +kernel
theorem dX8_roots_17 : decode cX8_roots 17 = .ok (.if_icmp .le 7, 3) := by decide +kernel
theorem dX8_roots_20 : decode cX8_roots 20 = .ok (.ldc2_w 156, 3) := by decide +kernel
theorem dX8_roots_23 : decode cX8_roots 23 = .ok (.lreturn, 1) := by decide +kernel
theorem dX8_roots_24 : decode cX8_roots 24 = .ok (.aload_n 0, 1) := by decide +kernel
theorem dX8_roots_25 : decode cX8_roots 25 = .ok (.getfield 63, 3) := by decide +kernel
theorem dX8_roots_28 : decode cX8_roots 28 = .ok (.aload_n 0, 1) := by decide +kernel
theorem dX8_roots_29 : decode cX8_roots 29 = .ok (.getfield 28, 3) := by decide +kernel
theorem dX8_roots_32 : decode cX8_roots 32 = .ok (.aload_n 3, 1) := by decide +kernel
theorem dX8_roots_33 : decode cX8_roots 33 = .ok (.iload_n 2, 1) := by decide +kernel
theorem dX8_roots_34 : decode cX8_roots 34 = .ok (.invokevirtual 192, 3) := by decide +kernel
theorem dX8_roots_37 : decode cX8_roots 37 = .ok (.lreturn, 1) := by decide +kernel
set_option maxRecDepth 20000 in
theorem ggX8_breaths_X8_cryOf : GoodIn wsX8_breaths wsX8_cryOf := goodIn_r _ [5, 6, 7, 43, 44, 45, 46, 47, 48, 49, 50, 51, 52, 53, 54, 55] (by decide +kernel) (by decide +kernel)
set_option maxRecDepth 20000 in
theorem gX8_breaths_X8_cryOf : GoodIn wsX8_breaths (wsV RX8 115 RX8 yX8_cryOf wsX8_cryOf) := goodIn_app (goodIn_of _ (by decide +kernel)) ggX8_breaths_X8_cryOf
set_option maxRecDepth 20000 in
theorem ggX8_breaths_X8_fewestBreaths : GoodIn wsX8_breaths wsX8_fewestBreaths := goodIn_r _ [11, 12, 13, 14, 15, 16, 17, 18, 19, 20, 21, 22, 23, 24, 25, 26, 27, 28, 29, 30, 31, 32, 33, 34, 35, 36, 37, 4, 38, 39, 40, 41, 42, 43, 44, 45, 46, 47, 48, 49, 50, 51, 52, 53, 54, 55, 56, 57] (by decide +kernel) (by decide +kernel)
set_option maxRecDepth 20000 in
theorem gX8_breaths_X8_fewestBreaths : GoodIn wsX8_breaths (wsV RX8 196 RX8 yX8_fewestBreaths wsX8_fewestBreaths) := goodIn_app (goodIn_of _ (by decide +kernel)) ggX8_breaths_X8_fewestBreaths
theorem dX8_breaths_0 : decode cX8_breaths 0 = .ok (.aload_n 0, 1) := by decide +kernel
theorem dX8_breaths_1 : decode cX8_breaths 1 = .ok (.iload_n 1, 1) := by decide +kernel
theorem dX8_breaths_2 : decode cX8_breaths 2 = .ok (.invokevirtual 115, 3) := by decide +kernel
theorem dX8_breaths_5 : decode cX8_breaths 5 = .ok (.astore_n 3, 1) := by decide +kernel
theorem dX8_breaths_6 : decode cX8_breaths 6 = .ok (.aload_n 3, 1) := by decide +kernel
theorem dX8_breaths_7 : decode cX8_breaths 7 = .ok (.ifnonnull 5, 3) := by decide +kernel
theorem dX8_breaths_10 : decode cX8_breaths 10 = .ok (.iconst (-1), 1) := by decide +kernel
theorem dX8_breaths_11 : decode cX8_breaths 11 = .ok (.ireturn, 1) := by decide +kernel
theorem dX8_breaths_12 : decode cX8_breaths 12 = .ok (.iload_n 2, 1) := by decide +kernel
theorem dX8_breaths_13 : decode cX8_breaths 13 = .ok (.iconst 1, 1) := by decide +kernel
theorem dX8_breaths_14 : decode cX8_breaths 14 = .ok (.if_icmp .lt 9, 3) := by decide +kernel
theorem dX8_breaths_17 : decode cX8_breaths 17 = .ok (.iload_n 2, 1) := by decide +kernel
theorem dX8_breaths_18 : decode cX8_breaths 18 = .ok (.bipush 12, 2) := by decide +kernel
theorem dX8_breaths_20 : decode cX8_breaths 20 = .ok (.if_icmp .le 6, 3) := by decide +kernel
theorem dX8_breaths_23 : decode cX8_breaths 23 = .ok (.bipush (-2), 2) := by decide +kernel
theorem dX8_breaths_25 : decode cX8_breaths 25 = .ok (.ireturn, 1) := by decide +kernel
theorem dX8_breaths_26 : decode cX8_breaths 26 = .ok (.aload_n 0, 1) := by decide +kernel
theorem dX8_breaths_27 : decode cX8_breaths 27 = .ok (.aload_n 3, 1) := by decide +kernel
theorem dX8_breaths_28 : decode cX8_breaths 28 = .ok (.iload_n 2, 1) := by decide +kernel
theorem dX8_breaths_29 : decode cX8_breaths 29 = .ok (.invokevirtual 196, 3) := by decide +kernel
theorem dX8_breaths_32 : decode cX8_breaths 32 = .ok (.ireturn, 1) := by decide +kernel
set_option maxRecDepth 20000 in
theorem ggX8_once_X8_cryOf : GoodIn wsX8_once wsX8_cryOf := goodIn_r _ [5, 6, 7, 37, 38, 39, 40, 41, 42, 43, 44, 45, 46, 47, 48, 49] (by decide +kernel) (by decide +kernel)
set_option maxRecDepth 20000 in
theorem gX8_once_X8_cryOf : GoodIn wsX8_once (wsV RX8 115 RX8 yX8_cryOf wsX8_cryOf) := goodIn_app (goodIn_of _ (by decide +kernel)) ggX8_once_X8_cryOf
set_option maxRecDepth 20000 in
theorem ggX8_once_X8_isFirstOrSecond : GoodIn wsX8_once wsX8_isFirstOrSecond := goodIn_r _ [10] (by decide +kernel) (by decide +kernel)
set_option maxRecDepth 20000 in
theorem gX8_once_X8_isFirstOrSecond : GoodIn wsX8_once (va_wsS RX8 162 yX8_isFirstOrSecond wsX8_isFirstOrSecond) := goodIn_app (goodIn_of _ (by decide +kernel)) ggX8_once_X8_isFirstOrSecond
set_option maxRecDepth 20000 in
theorem ggX8_once_X2_size : GoodIn wsX8_once wsX2_size := goodIn_r _ [15, 16, 50, 51] (by decide +kernel) (by decide +kernel)
set_option maxRecDepth 20000 in
theorem gX8_once_X2_size : GoodIn wsX8_once (wsV RX8 119 RX2 yX2_size wsX2_size) := goodIn_app (goodIn_of _ (by decide +kernel)) ggX8_once_X2_size
set_option maxRecDepth 20000 in
theorem ggX8_once_X8_longestPartAt : GoodIn wsX8_once wsX8_longestPartAt := goodIn_r _ [19, 20, 21, 22, 23, 11, 12, 13, 14, 15, 16, 24, 25, 4, 26, 27, 28, 29, 30, 31, 32, 33, 34, 35, 36, 50, 51] (by decide +kernel) (by decide +kernel)
set_option maxRecDepth 20000 in
theorem gX8_once_X8_longestPartAt : GoodIn wsX8_once (va_wsS RX8 200 yX8_longestPartAt wsX8_longestPartAt) := goodIn_app (goodIn_of _ (by decide +kernel)) ggX8_once_X8_longestPartAt
theorem dX8_once_0 : decode cX8_once 0 = .ok (.aload_n 0, 1) := by decide +kernel
theorem dX8_once_1 : decode cX8_once 1 = .ok (.iload_n 1, 1) := by decide +kernel
theorem dX8_once_2 : decode cX8_once 2 = .ok (.invokevirtual 115, 3) := by decide +kernel
theorem dX8_once_5 : decode cX8_once 5 = .ok (.astore 4, 2) := by decide +kernel
theorem dX8_once_7 : decode cX8_once 7 = .ok (.aload_n 0, 1) := by decide +kernel
theorem dX8_once_8 : decode cX8_once 8 = .ok (.iload_n 2, 1) := by decide +kernel
theorem dX8_once_9 : decode cX8_once 9 = .ok (.invokevirtual 115, 3) := by decide +kernel
theorem dX8_once_12 : decode cX8_once 12 = .ok (.astore 5, 2) := by decide +kernel
theorem dX8_once_14 : decode cX8_once 14 = .ok (.aload 4, 2) := by decide +kernel
theorem dX8_once_16 : decode cX8_once 16 = .ok (.ifnull 8, 3) := by decide +kernel
theorem dX8_once_19 : decode cX8_once 19 = .ok (.aload 5, 2) := by decide +kernel
theorem dX8_once_21 : decode cX8_once 21 = .ok (.ifnonnull 5, 3) := by decide +kernel
theorem dX8_once_24 : decode cX8_once 24 = .ok (.iconst (-1), 1) := by decide +kernel
theorem dX8_once_25 : decode cX8_once 25 = .ok (.ireturn, 1) := by decide +kernel
theorem dX8_once_26 : decode cX8_once 26 = .ok (.iload_n 3, 1) := by decide +kernel
theorem dX8_once_27 : decode cX8_once 27 = .ok (.invokestatic 162, 3) := by decide +kernel
theorem dX8_once_30 : decode cX8_once 30 = .ok (.ifCond .ne 6, 3) := by decide +kernel
theorem dX8_once_33 : decode cX8_once 33 = .ok (.bipush (-2), 2) := by decide +kernel
theorem dX8_once_35 : decode cX8_once 35 = .ok (.ireturn, 1) := by decide +kernel
theorem dX8_once_36 : decode cX8_once 36 = .ok (.iconst 0, 1) := by decide +kernel
theorem dX8_once_37 : decode cX8_once 37 = .ok (.istore 6, 2) := by decide +kernel
theorem dX8_once_39 : decode cX8_once 39 = .ok (.bipush (-9), 2) := by decide +kernel
theorem dX8_once_41 : decode cX8_once 41 = .ok (.istore 7, 2) := by decide +kernel
theorem dX8_once_43 : decode cX8_once 43 = .ok (.iconst 0, 1) := by decide +kernel
theorem dX8_once_44 : decode cX8_once 44 = .ok (.istore 8, 2) := by decide +kernel
theorem dX8_once_46 : decode cX8_once 46 = .ok (.iload 8, 2) := by decide +kernel
theorem dX8_once_48 : decode cX8_once 48 = .ok (.aload 4, 2) := by decide +kernel
theorem dX8_once_50 : decode cX8_once 50 = .ok (.invokevirtual 119, 3) := by decide +kernel
theorem dX8_once_53 : decode cX8_once 53 = .ok (.if_icmp .ge 35, 3) := by decide +kernel
theorem dX8_once_56 : decode cX8_once 56 = .ok (.aload 4, 2) := by decide +kernel
theorem dX8_once_58 : decode cX8_once 58 = .ok (.iload 8, 2) := by decide +kernel
theorem dX8_once_60 : decode cX8_once 60 = .ok (.aload 5, 2) := by decide +kernel
theorem dX8_once_62 : decode cX8_once 62 = .ok (.invokestatic 200, 3) := by decide +kernel
theorem dX8_once_65 : decode cX8_once 65 = .ok (.istore 9, 2) := by decide +kernel
theorem dX8_once_67 : decode cX8_once 67 = .ok (.iload 9, 2) := by decide +kernel
theorem dX8_once_69 : decode cX8_once 69 = .ok (.iload 6, 2) := by decide +kernel
theorem dX8_once_71 : decode cX8_once 71 = .ok (.if_icmp .le 11, 3) := by decide +kernel
theorem dX8_once_74 : decode cX8_once 74 = .ok (.iload 9, 2) := by decide +kernel
theorem dX8_once_76 : decode cX8_once 76 = .ok (.istore 6, 2) := by decide +kernel
theorem dX8_once_78 : decode cX8_once 78 = .ok (.iload 8, 2) := by decide +kernel
theorem dX8_once_80 : decode cX8_once 80 = .ok (.istore 7, 2) := by decide +kernel
theorem dX8_once_82 : decode cX8_once 82 = .ok (.iinc 8 1, 3) := by decide +kernel
theorem dX8_once_85 : decode cX8_once 85 = .ok (.goto (-39), 3) := by decide +kernel
theorem dX8_once_88 : decode cX8_once 88 = .ok (.iload_n 3, 1) := by decide +kernel
theorem dX8_once_89 : decode cX8_once 89 = .ok (.ifCond .ne 8, 3) := by decide +kernel
theorem dX8_once_92 : decode cX8_once 92 = .ok (.iload 6, 2) := by decide +kernel
theorem dX8_once_94 : decode cX8_once 94 = .ok (.goto 5, 3) := by decide +kernel
theorem dX8_once_97 : decode cX8_once 97 = .ok (.iload 7, 2) := by decide +kernel
theorem dX8_once_99 : decode cX8_once 99 = .ok (.ireturn, 1) := by decide +kernel
set_option maxRecDepth 20000 in
theorem ggX8_twice_X8_cryOf : GoodIn wsX8_twice wsX8_cryOf := goodIn_r _ [5, 6, 7, 23, 24, 25, 26, 27, 28, 29, 30, 31, 32, 33, 34, 35] (by decide +kernel) (by decide +kernel)
set_option maxRecDepth 20000 in
theorem gX8_twice_X8_cryOf : GoodIn wsX8_twice (wsV RX8 115 RX8 yX8_cryOf wsX8_cryOf) := goodIn_app (goodIn_of _ (by decide +kernel)) ggX8_twice_X8_cryOf
set_option maxRecDepth 20000 in
theorem ggX8_twice_X2_size : GoodIn wsX8_twice wsX2_size := goodIn_r _ [12, 13, 36, 37] (by decide +kernel) (by decide +kernel)
set_option maxRecDepth 20000 in
theorem gX8_twice_X2_size : GoodIn wsX8_twice (wsV RX8 119 RX2 yX2_size wsX2_size) := goodIn_app (goodIn_of _ (by decide +kernel)) ggX8_twice_X2_size
set_option maxRecDepth 20000 in
theorem ggX8_twice_X2_at : GoodIn wsX8_twice wsX2_at := goodIn_r _ [17, 18, 19, 20, 21, 11, 22, 13, 36, 37] (by decide +kernel) (by decide +kernel)
set_option maxRecDepth 20000 in
theorem gX8_twice_X2_at : GoodIn wsX8_twice (wsV RX8 126 RX2 yX2_at wsX2_at) := goodIn_app (goodIn_of _ (by decide +kernel)) ggX8_twice_X2_at
theorem dX8_twice_0 : decode cX8_twice 0 = .ok (.aload_n 0, 1) := by decide +kernel
theorem dX8_twice_1 : decode cX8_twice 1 = .ok (.iload_n 1, 1) := by decide +kernel
theorem dX8_twice_2 : decode cX8_twice 2 = .ok (.invokevirtual 115, 3) := by decide +kernel
theorem dX8_twice_5 : decode cX8_twice 5 = .ok (.astore_n 2, 1) := by decide +kernel
theorem dX8_twice_6 : decode cX8_twice 6 = .ok (.aload_n 2, 1) := by decide +kernel
theorem dX8_twice_7 : decode cX8_twice 7 = .ok (.ifnonnull 5, 3) := by decide +kernel
theorem dX8_twice_10 : decode cX8_twice 10 = .ok (.iconst (-1), 1) := by decide +kernel
theorem dX8_twice_11 : decode cX8_twice 11 = .ok (.ireturn, 1) := by decide +kernel
theorem dX8_twice_12 : decode cX8_twice 12 = .ok (.iconst 0, 1) := by decide +kernel
theorem dX8_twice_13 : decode cX8_twice 13 = .ok (.istore_n 3, 1) := by decide +kernel
theorem dX8_twice_14 : decode cX8_twice 14 = .ok (.iconst 0, 1) := by decide +kernel
theorem dX8_twice_15 : decode cX8_twice 15 = .ok (.istore 4, 2) := by decide +kernel
theorem dX8_twice_17 : decode cX8_twice 17 = .ok (.iconst 0, 1) := by decide +kernel
theorem dX8_twice_18 : decode cX8_twice 18 = .ok (.istore 5, 2) := by decide +kernel
theorem dX8_twice_20 : decode cX8_twice 20 = .ok (.iload 5, 2) := by decide +kernel
theorem dX8_twice_22 : decode cX8_twice 22 = .ok (.aload_n 2, 1) := by decide +kernel
theorem dX8_twice_23 : decode cX8_twice 23 = .ok (.invokevirtual 119, 3) := by decide +kernel
theorem dX8_twice_26 : decode cX8_twice 26 = .ok (.if_icmp .ge 34, 3) := by decide +kernel
theorem dX8_twice_29 : decode cX8_twice 29 = .ok (.iconst 1, 1) := by decide +kernel
theorem dX8_twice_30 : decode cX8_twice 30 = .ok (.aload_n 2, 1) := by decide +kernel
theorem dX8_twice_31 : decode cX8_twice 31 = .ok (.iload 5, 2) := by decide +kernel
theorem dX8_twice_33 : decode cX8_twice 33 = .ok (.invokevirtual 126, 3) := by decide +kernel
theorem dX8_twice_36 : decode cX8_twice 36 = .ok (.ishl, 1) := by decide +kernel
theorem dX8_twice_37 : decode cX8_twice 37 = .ok (.istore 6, 2) := by decide +kernel
theorem dX8_twice_39 : decode cX8_twice 39 = .ok (.iload_n 3, 1) := by decide +kernel
theorem dX8_twice_40 : decode cX8_twice 40 = .ok (.iload 6, 2) := by decide +kernel
theorem dX8_twice_42 : decode cX8_twice 42 = .ok (.iand, 1) := by decide +kernel
theorem dX8_twice_43 : decode cX8_twice 43 = .ok (.ifCond .eq 6, 3) := by decide +kernel
theorem dX8_twice_46 : decode cX8_twice 46 = .ok (.iinc 4 1, 3) := by decide +kernel
theorem dX8_twice_49 : decode cX8_twice 49 = .ok (.iload_n 3, 1) := by decide +kernel
theorem dX8_twice_50 : decode cX8_twice 50 = .ok (.iload 6, 2) := by decide +kernel
theorem dX8_twice_52 : decode cX8_twice 52 = .ok (.ior, 1) := by decide +kernel
theorem dX8_twice_53 : decode cX8_twice 53 = .ok (.istore_n 3, 1) := by decide +kernel
theorem dX8_twice_54 : decode cX8_twice 54 = .ok (.iinc 5 1, 3) := by decide +kernel
theorem dX8_twice_57 : decode cX8_twice 57 = .ok (.goto (-37), 3) := by decide +kernel
theorem dX8_twice_60 : decode cX8_twice 60 = .ok (.iload 4, 2) := by decide +kernel
theorem dX8_twice_62 : decode cX8_twice 62 = .ok (.ireturn, 1) := by decide +kernel
set_option maxRecDepth 20000 in
theorem ggX8_sheet_X8_sheetOf : GoodIn wsX8_sheet wsX8_sheetOf := goodIn_r _ [6, 7, 27, 28, 29, 30, 31, 32, 33, 34, 35, 36, 37, 38, 39] (by decide +kernel) (by decide +kernel)
set_option maxRecDepth 20000 in
theorem gX8_sheet_X8_sheetOf : GoodIn wsX8_sheet (wsV RX8 81 RX8 yX8_sheetOf wsX8_sheetOf) := goodIn_app (goodIn_of _ (by decide +kernel)) ggX8_sheet_X8_sheetOf
set_option maxRecDepth 20000 in
theorem ggX8_sheet_X8_isSort : GoodIn wsX8_sheet wsX8_isSort := goodIn_r _ [10] (by decide +kernel) (by decide +kernel)
set_option maxRecDepth 20000 in
theorem gX8_sheet_X8_isSort : GoodIn wsX8_sheet (va_wsS RX8 85 yX8_isSort wsX8_isSort) := goodIn_app (goodIn_of _ (by decide +kernel)) ggX8_sheet_X8_isSort
set_option maxRecDepth 20000 in
theorem ggX8_sheet_X8_fails : GoodIn wsX8_sheet wsX8_fails := goodIn_r _ [14, 1, 27, 28, 29, 30, 31, 32, 33, 34, 35, 36, 37, 38, 39] (by decide +kernel) (by decide +kernel)
set_option maxRecDepth 20000 in
theorem gX8_sheet_X8_fails : GoodIn wsX8_sheet (wsV RX8 93 RX8 yX8_fails wsX8_fails) := goodIn_app (goodIn_of _ (by decide +kernel)) ggX8_sheet_X8_fails
set_option maxRecDepth 20000 in
theorem ggX8_sheet_X6_renew : GoodIn wsX8_sheet wsX6_renew := goodIn_r _ [19, 20, 21, 22, 23, 24, 25, 26, 40, 41, 42] (by decide +kernel) (by decide +kernel)
set_option maxRecDepth 20000 in
theorem gX8_sheet_X6_renew : GoodIn wsX8_sheet (wsV RX8 204 RX6 yX6_renew wsX6_renew) := goodIn_app (goodIn_of _ (by decide +kernel)) ggX8_sheet_X6_renew
theorem dX8_sheet_0 : decode cX8_sheet 0 = .ok (.aload_n 0, 1) := by decide +kernel
theorem dX8_sheet_1 : decode cX8_sheet 1 = .ok (.iconst 0, 1) := by decide +kernel
theorem dX8_sheet_2 : decode cX8_sheet 2 = .ok (.putfield 77, 3) := by decide +kernel
theorem dX8_sheet_5 : decode cX8_sheet 5 = .ok (.aload_n 0, 1) := by decide +kernel
theorem dX8_sheet_6 : decode cX8_sheet 6 = .ok (.iload_n 1, 1) := by decide +kernel
theorem dX8_sheet_7 : decode cX8_sheet 7 = .ok (.invokevirtual 81, 3) := by decide +kernel
theorem dX8_sheet_10 : decode cX8_sheet 10 = .ok (.astore 4, 2) := by decide +kernel
theorem dX8_sheet_12 : decode cX8_sheet 12 = .ok (.aload 4, 2) := by decide +kernel
theorem dX8_sheet_14 : decode cX8_sheet 14 = .ok (.ifnonnull 5, 3) := by decide +kernel
theorem dX8_sheet_17 : decode cX8_sheet 17 = .ok (.iconst (-1), 1) := by decide +kernel
theorem dX8_sheet_18 : decode cX8_sheet 18 = .ok (.ireturn, 1) := by decide +kernel
theorem dX8_sheet_19 : decode cX8_sheet 19 = .ok (.iload_n 2, 1) := by decide +kernel
theorem dX8_sheet_20 : decode cX8_sheet 20 = .ok (.invokestatic 85, 3) := by decide +kernel
theorem dX8_sheet_23 : decode cX8_sheet 23 = .ok (.ifCond .eq 9, 3) := by decide +kernel
theorem dX8_sheet_26 : decode cX8_sheet 26 = .ok (.iload_n 3, 1) := by decide +kernel
theorem dX8_sheet_27 : decode cX8_sheet 27 = .ok (.bipush 80, 2) := by decide +kernel
theorem dX8_sheet_29 : decode cX8_sheet 29 = .ok (.if_icmp .le 6, 3) := by decide +kernel
theorem dX8_sheet_32 : decode cX8_sheet 32 = .ok (.bipush (-2), 2) := by decide +kernel
theorem dX8_sheet_34 : decode cX8_sheet 34 = .ok (.ireturn, 1) := by decide +kernel
theorem dX8_sheet_35 : decode cX8_sheet 35 = .ok (.iload_n 3, 1) := by decide +kernel
theorem dX8_sheet_36 : decode cX8_sheet 36 = .ok (.ifCond .ge 9, 3) := by decide +kernel
theorem dX8_sheet_39 : decode cX8_sheet 39 = .ok (.aload_n 0, 1) := by decide +kernel
theorem dX8_sheet_40 : decode cX8_sheet 40 = .ok (.iconst 4, 1) := by decide +kernel
theorem dX8_sheet_41 : decode cX8_sheet 41 = .ok (.invokevirtual 93, 3) := by decide +kernel
theorem dX8_sheet_44 : decode cX8_sheet 44 = .ok (.ireturn, 1) := by decide +kernel
theorem dX8_sheet_45 : decode cX8_sheet 45 = .ok (.aload 4, 2) := by decide +kernel
theorem dX8_sheet_47 : decode cX8_sheet 47 = .ok (.iload_n 2, 1) := by decide +kernel
theorem dX8_sheet_48 : decode cX8_sheet 48 = .ok (.iload_n 3, 1) := by decide +kernel
theorem dX8_sheet_49 : decode cX8_sheet 49 = .ok (.invokevirtual 204, 3) := by decide +kernel
theorem dX8_sheet_52 : decode cX8_sheet 52 = .ok (.iconst 1, 1) := by decide +kernel
theorem dX8_sheet_53 : decode cX8_sheet 53 = .ok (.ireturn, 1) := by decide +kernel
set_option maxRecDepth 20000 in
theorem ggX8_lose_X8_sheetOf : GoodIn wsX8_lose wsX8_sheetOf := goodIn_r _ [5, 6, 17, 18, 19, 20, 21, 22, 23, 24, 25, 26, 27, 28, 29] (by decide +kernel) (by decide +kernel)
set_option maxRecDepth 20000 in
theorem gX8_lose_X8_sheetOf : GoodIn wsX8_lose (wsV RX8 81 RX8 yX8_sheetOf wsX8_sheetOf) := goodIn_app (goodIn_of _ (by decide +kernel)) ggX8_lose_X8_sheetOf
set_option maxRecDepth 20000 in
theorem ggX8_lose_X6_isNothing : GoodIn wsX8_lose wsX6_isNothing := goodIn_r _ [11, 12, 30, 31, 32] (by decide +kernel) (by decide +kernel)
set_option maxRecDepth 20000 in
theorem gX8_lose_X6_isNothing : GoodIn wsX8_lose (wsV RX8 207 RX6 yX6_isNothing wsX6_isNothing) := goodIn_app (goodIn_of _ (by decide +kernel)) ggX8_lose_X6_isNothing
set_option maxRecDepth 20000 in
theorem ggX8_lose_X6_drop : GoodIn wsX8_lose wsX6_drop := goodIn_r _ [16, 12, 30, 31, 32] (by decide +kernel) (by decide +kernel)
set_option maxRecDepth 20000 in
theorem gX8_lose_X6_drop : GoodIn wsX8_lose (wsV RX8 210 RX6 yX6_drop wsX6_drop) := goodIn_app (goodIn_of _ (by decide +kernel)) ggX8_lose_X6_drop
theorem dX8_lose_0 : decode cX8_lose 0 = .ok (.aload_n 0, 1) := by decide +kernel
theorem dX8_lose_1 : decode cX8_lose 1 = .ok (.iload_n 1, 1) := by decide +kernel
theorem dX8_lose_2 : decode cX8_lose 2 = .ok (.invokevirtual 81, 3) := by decide +kernel
theorem dX8_lose_5 : decode cX8_lose 5 = .ok (.astore_n 2, 1) := by decide +kernel
theorem dX8_lose_6 : decode cX8_lose 6 = .ok (.aload_n 2, 1) := by decide +kernel
theorem dX8_lose_7 : decode cX8_lose 7 = .ok (.ifnonnull 5, 3) := by decide +kernel
theorem dX8_lose_10 : decode cX8_lose 10 = .ok (.iconst (-1), 1) := by decide +kernel
theorem dX8_lose_11 : decode cX8_lose 11 = .ok (.ireturn, 1) := by decide +kernel
theorem dX8_lose_12 : decode cX8_lose 12 = .ok (.aload_n 2, 1) := by decide +kernel
theorem dX8_lose_13 : decode cX8_lose 13 = .ok (.invokevirtual 207, 3) := by decide +kernel
theorem dX8_lose_16 : decode cX8_lose 16 = .ok (.ifCond .eq 5, 3) := by decide +kernel
theorem dX8_lose_19 : decode cX8_lose 19 = .ok (.iconst 0, 1) := by decide +kernel
theorem dX8_lose_20 : decode cX8_lose 20 = .ok (.ireturn, 1) := by decide +kernel
theorem dX8_lose_21 : decode cX8_lose 21 = .ok (.aload_n 2, 1) := by decide +kernel
theorem dX8_lose_22 : decode cX8_lose 22 = .ok (.invokevirtual 210, 3) := by decide +kernel
theorem dX8_lose_25 : decode cX8_lose 25 = .ok (.iconst 1, 1) := by decide +kernel
theorem dX8_lose_26 : decode cX8_lose 26 = .ok (.ireturn, 1) := by decide +kernel
set_option maxRecDepth 20000 in
theorem ggX8_put_X8_sheetOf : GoodIn wsX8_put wsX8_sheetOf := goodIn_r _ [6, 7, 33, 34, 35, 36, 37, 38, 39, 40, 41, 42, 43, 44, 45] (by decide +kernel) (by decide +kernel)
set_option maxRecDepth 20000 in
theorem gX8_put_X8_sheetOf : GoodIn wsX8_put (wsV RX8 81 RX8 yX8_sheetOf wsX8_sheetOf) := goodIn_app (goodIn_of _ (by decide +kernel)) ggX8_put_X8_sheetOf
set_option maxRecDepth 20000 in
theorem ggX8_put_X6_isNothing : GoodIn wsX8_put wsX6_isNothing := goodIn_r _ [12, 13, 46, 47, 48] (by decide +kernel) (by decide +kernel)
set_option maxRecDepth 20000 in
theorem gX8_put_X6_isNothing : GoodIn wsX8_put (wsV RX8 207 RX6 yX6_isNothing wsX6_isNothing) := goodIn_app (goodIn_of _ (by decide +kernel)) ggX8_put_X6_isNothing
set_option maxRecDepth 20000 in
theorem ggX8_put_X8_fails : GoodIn wsX8_put wsX8_fails := goodIn_r _ [17, 1, 33, 34, 35, 36, 37, 38, 39, 40, 41, 42, 43, 44, 45] (by decide +kernel) (by decide +kernel)
set_option maxRecDepth 20000 in
theorem gX8_put_X8_fails : GoodIn wsX8_put (wsV RX8 93 RX8 yX8_fails wsX8_fails) := goodIn_app (goodIn_of _ (by decide +kernel)) ggX8_put_X8_fails
set_option maxRecDepth 20000 in
theorem ggX8_put_X6_hasCells : GoodIn wsX8_put wsX6_hasCells := goodIn_r _ [21, 13, 46, 47, 48] (by decide +kernel) (by decide +kernel)
set_option maxRecDepth 20000 in
theorem gX8_put_X6_hasCells : GoodIn wsX8_put (wsV RX8 97 RX6 yX6_hasCells wsX6_hasCells) := goodIn_app (goodIn_of _ (by decide +kernel)) ggX8_put_X6_hasCells
set_option maxRecDepth 20000 in
theorem ggX8_put_X6_write : GoodIn wsX8_put wsX6_write := goodIn_r _ [25, 26, 27, 19, 20, 11, 21, 13, 28, 29, 30, 31, 32, 46, 47, 48] (by decide +kernel) (by decide +kernel)
set_option maxRecDepth 20000 in
theorem gX8_put_X6_write : GoodIn wsX8_put (wsV RX8 213 RX6 yX6_write wsX6_write) := goodIn_app (goodIn_of _ (by decide +kernel)) ggX8_put_X6_write
theorem dX8_put_0 : decode cX8_put 0 = .ok (.aload_n 0, 1) := by decide +kernel
theorem dX8_put_1 : decode cX8_put 1 = .ok (.iconst 0, 1) := by decide +kernel
theorem dX8_put_2 : decode cX8_put 2 = .ok (.putfield 77, 3) := by decide +kernel
theorem dX8_put_5 : decode cX8_put 5 = .ok (.aload_n 0, 1) := by decide +kernel
theorem dX8_put_6 : decode cX8_put 6 = .ok (.iload_n 1, 1) := by decide +kernel
theorem dX8_put_7 : decode cX8_put 7 = .ok (.invokevirtual 81, 3) := by decide +kernel
theorem dX8_put_10 : decode cX8_put 10 = .ok (.astore 4, 2) := by decide +kernel
theorem dX8_put_12 : decode cX8_put 12 = .ok (.aload 4, 2) := by decide +kernel
theorem dX8_put_14 : decode cX8_put 14 = .ok (.ifnonnull 5, 3) := by decide +kernel
theorem dX8_put_17 : decode cX8_put 17 = .ok (.iconst (-1), 1) := by decide +kernel
theorem dX8_put_18 : decode cX8_put 18 = .ok (.ireturn, 1) := by decide +kernel
theorem dX8_put_19 : decode cX8_put 19 = .ok (.aload 4, 2) := by decide +kernel
theorem dX8_put_21 : decode cX8_put 21 = .ok (.invokevirtual 207, 3) := by decide +kernel
theorem dX8_put_24 : decode cX8_put 24 = .ok (.ifCond .eq 9, 3) := by decide +kernel
theorem dX8_put_27 : decode cX8_put 27 = .ok (.aload_n 0, 1) := by decide +kernel
theorem dX8_put_28 : decode cX8_put 28 = .ok (.iconst 1, 1) := by decide +kernel
theorem dX8_put_29 : decode cX8_put 29 = .ok (.invokevirtual 93, 3) := by decide +kernel
theorem dX8_put_32 : decode cX8_put 32 = .ok (.ireturn, 1) := by decide +kernel
theorem dX8_put_33 : decode cX8_put 33 = .ok (.aload 4, 2) := by decide +kernel
theorem dX8_put_35 : decode cX8_put 35 = .ok (.iload_n 2, 1) := by decide +kernel
theorem dX8_put_36 : decode cX8_put 36 = .ok (.iconst 1, 1) := by decide +kernel
theorem dX8_put_37 : decode cX8_put 37 = .ok (.invokevirtual 97, 3) := by decide +kernel
theorem dX8_put_40 : decode cX8_put 40 = .ok (.ifCond .ne 9, 3) := by decide +kernel
theorem dX8_put_43 : decode cX8_put 43 = .ok (.aload_n 0, 1) := by decide +kernel
theorem dX8_put_44 : decode cX8_put 44 = .ok (.iconst 3, 1) := by decide +kernel
theorem dX8_put_45 : decode cX8_put 45 = .ok (.invokevirtual 93, 3) := by decide +kernel
theorem dX8_put_48 : decode cX8_put 48 = .ok (.ireturn, 1) := by decide +kernel
theorem dX8_put_49 : decode cX8_put 49 = .ok (.aload 4, 2) := by decide +kernel
theorem dX8_put_51 : decode cX8_put 51 = .ok (.iload_n 2, 1) := by decide +kernel
theorem dX8_put_52 : decode cX8_put 52 = .ok (.iload_n 3, 1) := by decide +kernel
theorem dX8_put_53 : decode cX8_put 53 = .ok (.invokevirtual 213, 3) := by decide +kernel
theorem dX8_put_56 : decode cX8_put 56 = .ok (.iconst 1, 1) := by decide +kernel
theorem dX8_put_57 : decode cX8_put 57 = .ok (.ireturn, 1) := by decide +kernel
set_option maxRecDepth 20000 in
theorem ggX8_cell_X8_sheetOf : GoodIn wsX8_cell wsX8_sheetOf := goodIn_r _ [7, 8, 36, 37, 38, 39, 40, 41, 42, 43, 44, 45, 46, 47, 48] (by decide +kernel) (by decide +kernel)
set_option maxRecDepth 20000 in
theorem gX8_cell_X8_sheetOf : GoodIn wsX8_cell (wsV RX8 81 RX8 yX8_sheetOf wsX8_sheetOf) := goodIn_app (goodIn_of _ (by decide +kernel)) ggX8_cell_X8_sheetOf
set_option maxRecDepth 20000 in
theorem ggX8_cell_X8_isSort : GoodIn wsX8_cell wsX8_isSort := goodIn_r _ [11] (by decide +kernel) (by decide +kernel)
set_option maxRecDepth 20000 in
theorem gX8_cell_X8_isSort : GoodIn wsX8_cell (va_wsS RX8 85 yX8_isSort wsX8_isSort) := goodIn_app (goodIn_of _ (by decide +kernel)) ggX8_cell_X8_isSort
set_option maxRecDepth 20000 in
theorem ggX8_cell_X8_readingFault : GoodIn wsX8_cell wsX8_readingFault := goodIn_r _ [14, 15, 16, 17, 18, 19, 20, 21, 22, 23, 24, 25, 49, 50, 51] (by decide +kernel) (by decide +kernel)
set_option maxRecDepth 20000 in
theorem gX8_cell_X8_readingFault : GoodIn wsX8_cell (va_wsS RX8 89 yX8_readingFault wsX8_readingFault) := goodIn_app (goodIn_of _ (by decide +kernel)) ggX8_cell_X8_readingFault
set_option maxRecDepth 20000 in
theorem ggX8_cell_X6_hasCells : GoodIn wsX8_cell wsX6_hasCells := goodIn_r _ [29, 20, 49, 50, 51] (by decide +kernel) (by decide +kernel)
set_option maxRecDepth 20000 in
theorem gX8_cell_X6_hasCells : GoodIn wsX8_cell (wsV RX8 97 RX6 yX6_hasCells wsX6_hasCells) := goodIn_app (goodIn_of _ (by decide +kernel)) ggX8_cell_X6_hasCells
set_option maxRecDepth 20000 in
theorem ggX8_cell_X6_at : GoodIn wsX8_cell wsX6_at := goodIn_r _ [33, 34, 35, 27, 28, 18, 29, 20, 49, 50, 51] (by decide +kernel) (by decide +kernel)
set_option maxRecDepth 20000 in
theorem gX8_cell_X6_at : GoodIn wsX8_cell (wsV RX8 216 RX6 yX6_at wsX6_at) := goodIn_app (goodIn_of _ (by decide +kernel)) ggX8_cell_X6_at
theorem dX8_cell_0 : decode cX8_cell 0 = .ok (.aload_n 0, 1) := by decide +kernel
theorem dX8_cell_1 : decode cX8_cell 1 = .ok (.iconst 0, 1) := by decide +kernel
theorem dX8_cell_2 : decode cX8_cell 2 = .ok (.putfield 77, 3) := by decide +kernel
theorem dX8_cell_5 : decode cX8_cell 5 = .ok (.aload_n 0, 1) := by decide +kernel
theorem dX8_cell_6 : decode cX8_cell 6 = .ok (.iload_n 1, 1) := by decide +kernel
theorem dX8_cell_7 : decode cX8_cell 7 = .ok (.invokevirtual 81, 3) := by decide +kernel
theorem dX8_cell_10 : decode cX8_cell 10 = .ok (.astore 4, 2) := by decide +kernel
theorem dX8_cell_12 : decode cX8_cell 12 = .ok (.aload 4, 2) := by decide +kernel
theorem dX8_cell_14 : decode cX8_cell 14 = .ok (.ifnull 10, 3) := by decide +kernel
theorem dX8_cell_17 : decode cX8_cell 17 = .ok (.iload_n 3, 1) := by decide +kernel
theorem dX8_cell_18 : decode cX8_cell 18 = .ok (.invokestatic 85, 3) := by decide +kernel
theorem dX8_cell_21 : decode cX8_cell 21 = .ok (.ifCond .ne 7, 3) := by decide +kernel
theorem dX8_cell_24 : decode cX8_cell 24 = .ok (.ldc2_w 156, 3) := by decide +kernel
theorem dX8_cell_27 : decode cX8_cell 27 = .ok (.lreturn, 1) := by decide +kernel
theorem dX8_cell_28 : decode cX8_cell 28 = .ok (.aload_n 0, 1) := by decide +kernel
theorem dX8_cell_29 : decode cX8_cell 29 = .ok (.aload 4, 2) := by decide +kernel
theorem dX8_cell_31 : decode cX8_cell 31 = .ok (.iload_n 3, 1) := by decide +kernel
theorem dX8_cell_32 : decode cX8_cell 32 = .ok (.invokestatic 89, 3) := by decide +kernel
theorem dX8_cell_35 : decode cX8_cell 35 = .ok (.putfield 77, 3) := by decide +kernel
theorem dX8_cell_38 : decode cX8_cell 38 = .ok (.aload_n 0, 1) := by decide +kernel
theorem dX8_cell_39 : decode cX8_cell 39 = .ok (.getfield 77, 3) := by decide +kernel
theorem dX8_cell_42 : decode cX8_cell 42 = .ok (.ifCond .eq 7, 3) := by decide +kernel
theorem dX8_cell_45 : decode cX8_cell 45 = .ok (.ldc2_w 156, 3) := by decide +kernel
theorem dX8_cell_48 : decode cX8_cell 48 = .ok (.lreturn, 1) := by decide +kernel
theorem dX8_cell_49 : decode cX8_cell 49 = .ok (.aload 4, 2) := by decide +kernel
theorem dX8_cell_51 : decode cX8_cell 51 = .ok (.iload_n 2, 1) := by decide +kernel
theorem dX8_cell_52 : decode cX8_cell 52 = .ok (.iconst 1, 1) := by decide +kernel
theorem dX8_cell_53 : decode cX8_cell 53 = .ok (.invokevirtual 97, 3) := by decide +kernel
theorem dX8_cell_56 : decode cX8_cell 56 = .ok (.ifCond .ne 12, 3) := by decide +kernel
theorem dX8_cell_59 : decode cX8_cell 59 = .ok (.aload_n 0, 1) := by decide +kernel
theorem dX8_cell_60 : decode cX8_cell 60 = .ok (.iconst 3, 1) := by decide +kernel
theorem dX8_cell_61 : decode cX8_cell 61 = .ok (.putfield 77, 3) := by decide +kernel
theorem dX8_cell_64 : decode cX8_cell 64 = .ok (.ldc2_w 156, 3) := by decide +kernel
theorem dX8_cell_67 : decode cX8_cell 67 = .ok (.lreturn, 1) := by decide +kernel
theorem dX8_cell_68 : decode cX8_cell 68 = .ok (.aload 4, 2) := by decide +kernel
theorem dX8_cell_70 : decode cX8_cell 70 = .ok (.iload_n 2, 1) := by decide +kernel
theorem dX8_cell_71 : decode cX8_cell 71 = .ok (.invokevirtual 216, 3) := by decide +kernel
theorem dX8_cell_74 : decode cX8_cell 74 = .ok (.i2l, 1) := by decide +kernel
theorem dX8_cell_75 : decode cX8_cell 75 = .ok (.lreturn, 1) := by decide +kernel
set_option maxRecDepth 20000 in
theorem ggX8_copy_X8_sheetOf : GoodIn wsX8_copy wsX8_sheetOf := goodIn_r _ [6, 7, 37, 38, 39, 40, 41, 42, 43, 44, 45, 46, 47, 48, 49] (by decide +kernel) (by decide +kernel)
set_option maxRecDepth 20000 in
theorem gX8_copy_X8_sheetOf : GoodIn wsX8_copy (wsV RX8 81 RX8 yX8_sheetOf wsX8_sheetOf) := goodIn_app (goodIn_of _ (by decide +kernel)) ggX8_copy_X8_sheetOf
set_option maxRecDepth 20000 in
theorem ggX8_copy_X6_isNothing : GoodIn wsX8_copy wsX6_isNothing := goodIn_r _ [12, 13, 50, 51, 52] (by decide +kernel) (by decide +kernel)
set_option maxRecDepth 20000 in
theorem gX8_copy_X6_isNothing : GoodIn wsX8_copy (wsV RX8 207 RX6 yX6_isNothing wsX6_isNothing) := goodIn_app (goodIn_of _ (by decide +kernel)) ggX8_copy_X6_isNothing
set_option maxRecDepth 20000 in
theorem ggX8_copy_X8_fails : GoodIn wsX8_copy wsX8_fails := goodIn_r _ [17, 1, 37, 38, 39, 40, 41, 42, 43, 44, 45, 46, 47, 48, 49] (by decide +kernel) (by decide +kernel)
set_option maxRecDepth 20000 in
theorem gX8_copy_X8_fails : GoodIn wsX8_copy (wsV RX8 93 RX8 yX8_fails wsX8_fails) := goodIn_app (goodIn_of _ (by decide +kernel)) ggX8_copy_X8_fails
set_option maxRecDepth 20000 in
theorem ggX8_copy_X6_sort : GoodIn wsX8_copy wsX6_sort := goodIn_r _ [21, 22, 50, 51, 52] (by decide +kernel) (by decide +kernel)
set_option maxRecDepth 20000 in
theorem gX8_copy_X6_sort : GoodIn wsX8_copy (wsV RX8 217 RX6 yX6_sort wsX6_sort) := goodIn_app (goodIn_of _ (by decide +kernel)) ggX8_copy_X6_sort
set_option maxRecDepth 20000 in
theorem ggX8_copy_X6_hasCells : GoodIn wsX8_copy wsX6_hasCells := goodIn_r _ [26, 13, 50, 51, 52] (by decide +kernel) (by decide +kernel)
set_option maxRecDepth 20000 in
theorem gX8_copy_X6_hasCells : GoodIn wsX8_copy (wsV RX8 97 RX6 yX6_hasCells wsX6_hasCells) := goodIn_app (goodIn_of _ (by decide +kernel)) ggX8_copy_X6_hasCells
set_option maxRecDepth 20000 in
theorem ggX8_copy_X6_giveTo : GoodIn wsX8_copy wsX6_giveTo := goodIn_r _ [30, 31, 32, 33, 34, 35, 36, 24, 25, 11, 26, 13, 50, 51, 52] (by decide +kernel) (by decide +kernel)
set_option maxRecDepth 20000 in
theorem gX8_copy_X6_giveTo : GoodIn wsX8_copy (wsV RX8 220 RX6 yX6_giveTo wsX6_giveTo) := goodIn_app (goodIn_of _ (by decide +kernel)) ggX8_copy_X6_giveTo
theorem dX8_copy_0 : decode cX8_copy 0 = .ok (.aload_n 0, 1) := by decide +kernel
theorem dX8_copy_1 : decode cX8_copy 1 = .ok (.iconst 0, 1) := by decide +kernel
theorem dX8_copy_2 : decode cX8_copy 2 = .ok (.putfield 77, 3) := by decide +kernel
theorem dX8_copy_5 : decode cX8_copy 5 = .ok (.aload_n 0, 1) := by decide +kernel
theorem dX8_copy_6 : decode cX8_copy 6 = .ok (.iload_n 1, 1) := by decide +kernel
theorem dX8_copy_7 : decode cX8_copy 7 = .ok (.invokevirtual 81, 3) := by decide +kernel
theorem dX8_copy_10 : decode cX8_copy 10 = .ok (.astore 6, 2) := by decide +kernel
theorem dX8_copy_12 : decode cX8_copy 12 = .ok (.aload_n 0, 1) := by decide +kernel
theorem dX8_copy_13 : decode cX8_copy 13 = .ok (.iload_n 3, 1) := by decide +kernel
theorem dX8_copy_14 : decode cX8_copy 14 = .ok (.invokevirtual 81, 3) := by decide +kernel
theorem dX8_copy_17 : decode cX8_copy 17 = .ok (.astore 7, 2) := by decide +kernel
theorem dX8_copy_19 : decode cX8_copy 19 = .ok (.aload 6, 2) := by decide +kernel
theorem dX8_copy_21 : decode cX8_copy 21 = .ok (.ifnull 8, 3) := by decide +kernel
theorem dX8_copy_24 : decode cX8_copy 24 = .ok (.aload 7, 2) := by decide +kernel
theorem dX8_copy_26 : decode cX8_copy 26 = .ok (.ifnonnull 5, 3) := by decide +kernel
theorem dX8_copy_29 : decode cX8_copy 29 = .ok (.iconst (-1), 1) := by decide +kernel
theorem dX8_copy_30 : decode cX8_copy 30 = .ok (.ireturn, 1) := by decide +kernel
theorem dX8_copy_31 : decode cX8_copy 31 = .ok (.aload 6, 2) := by decide +kernel
theorem dX8_copy_33 : decode cX8_copy 33 = .ok (.invokevirtual 207, 3) := by decide +kernel
theorem dX8_copy_36 : decode cX8_copy 36 = .ok (.ifCond .ne 11, 3) := by decide +kernel
theorem dX8_copy_39 : decode cX8_copy 39 = .ok (.aload 7, 2) := by decide +kernel
theorem dX8_copy_41 : decode cX8_copy 41 = .ok (.invokevirtual 207, 3) := by decide +kernel
theorem dX8_copy_44 : decode cX8_copy 44 = .ok (.ifCond .eq 9, 3) := by decide +kernel
theorem dX8_copy_47 : decode cX8_copy 47 = .ok (.aload_n 0, 1) := by decide +kernel
theorem dX8_copy_48 : decode cX8_copy 48 = .ok (.iconst 1, 1) := by decide +kernel
theorem dX8_copy_49 : decode cX8_copy 49 = .ok (.invokevirtual 93, 3) := by decide +kernel
theorem dX8_copy_52 : decode cX8_copy 52 = .ok (.ireturn, 1) := by decide +kernel
theorem dX8_copy_53 : decode cX8_copy 53 = .ok (.aload 6, 2) := by decide +kernel
theorem dX8_copy_55 : decode cX8_copy 55 = .ok (.invokevirtual 217, 3) := by decide +kernel
theorem dX8_copy_58 : decode cX8_copy 58 = .ok (.aload 7, 2) := by decide +kernel
theorem dX8_copy_60 : decode cX8_copy 60 = .ok (.invokevirtual 217, 3) := by decide +kernel
theorem dX8_copy_63 : decode cX8_copy 63 = .ok (.if_icmp .eq 9, 3) := by decide +kernel
theorem dX8_copy_66 : decode cX8_copy 66 = .ok (.aload_n 0, 1) := by decide +kernel
theorem dX8_copy_67 : decode cX8_copy 67 = .ok (.iconst 2, 1) := by decide +kernel
theorem dX8_copy_68 : decode cX8_copy 68 = .ok (.invokevirtual 93, 3) := by decide +kernel
theorem dX8_copy_71 : decode cX8_copy 71 = .ok (.ireturn, 1) := by decide +kernel
theorem dX8_copy_72 : decode cX8_copy 72 = .ok (.aload 6, 2) := by decide +kernel
theorem dX8_copy_74 : decode cX8_copy 74 = .ok (.iload_n 2, 1) := by decide +kernel
theorem dX8_copy_75 : decode cX8_copy 75 = .ok (.iload 5, 2) := by decide +kernel
theorem dX8_copy_77 : decode cX8_copy 77 = .ok (.invokevirtual 97, 3) := by decide +kernel
theorem dX8_copy_80 : decode cX8_copy 80 = .ok (.ifCond .eq 15, 3) := by decide +kernel
theorem dX8_copy_83 : decode cX8_copy 83 = .ok (.aload 7, 2) := by decide +kernel
theorem dX8_copy_85 : decode cX8_copy 85 = .ok (.iload 4, 2) := by decide +kernel
theorem dX8_copy_87 : decode cX8_copy 87 = .ok (.iload 5, 2) := by decide +kernel
theorem dX8_copy_89 : decode cX8_copy 89 = .ok (.invokevirtual 97, 3) := by decide +kernel
theorem dX8_copy_92 : decode cX8_copy 92 = .ok (.ifCond .ne 9, 3) := by decide +kernel
theorem dX8_copy_95 : decode cX8_copy 95 = .ok (.aload_n 0, 1) := by decide +kernel
theorem dX8_copy_96 : decode cX8_copy 96 = .ok (.iconst 3, 1) := by decide +kernel
theorem dX8_copy_97 : decode cX8_copy 97 = .ok (.invokevirtual 93, 3) := by decide +kernel
theorem dX8_copy_100 : decode cX8_copy 100 = .ok (.ireturn, 1) := by decide +kernel
theorem dX8_copy_101 : decode cX8_copy 101 = .ok (.aload 6, 2) := by decide +kernel
theorem dX8_copy_103 : decode cX8_copy 103 = .ok (.iload_n 2, 1) := by decide +kernel
theorem dX8_copy_104 : decode cX8_copy 104 = .ok (.aload 7, 2) := by decide +kernel
theorem dX8_copy_106 : decode cX8_copy 106 = .ok (.iload 4, 2) := by decide +kernel
theorem dX8_copy_108 : decode cX8_copy 108 = .ok (.iload 5, 2) := by decide +kernel
theorem dX8_copy_110 : decode cX8_copy 110 = .ok (.invokevirtual 220, 3) := by decide +kernel
theorem dX8_copy_113 : decode cX8_copy 113 = .ok (.iload 5, 2) := by decide +kernel
theorem dX8_copy_115 : decode cX8_copy 115 = .ok (.ireturn, 1) := by decide +kernel
set_option maxRecDepth 20000 in
theorem ggX8_tell_X8_isWord : GoodIn wsX8_tell wsX8_isWord := goodIn_r _ [5] (by decide +kernel) (by decide +kernel)
set_option maxRecDepth 20000 in
theorem gX8_tell_X8_isWord : GoodIn wsX8_tell (va_wsS RX8 109 yX8_isWord wsX8_isWord) := goodIn_app (goodIn_of _ (by decide +kernel)) ggX8_tell_X8_isWord
set_option maxRecDepth 20000 in
theorem ggX8_tell_X8_doubtTells : GoodIn wsX8_tell wsX8_doubtTells := goodIn_r _ [9, 10, 11, 12, 4, 13, 14, 15, 16, 17, 18, 19, 20, 21, 22, 23, 24, 25, 26, 27, 28, 29, 30, 31, 32, 33, 34, 35, 36, 37, 38, 39, 40, 41, 42, 43, 44, 45, 46, 47, 48, 49, 50] (by decide +kernel) (by decide +kernel)
set_option maxRecDepth 20000 in
theorem gX8_tell_X8_doubtTells : GoodIn wsX8_tell (wsV RX8 224 RX8 yX8_doubtTells wsX8_doubtTells) := goodIn_app (goodIn_of _ (by decide +kernel)) ggX8_tell_X8_doubtTells
set_option maxRecDepth 20000 in
theorem ggX8_tell_X8_denialTells : GoodIn wsX8_tell wsX8_denialTells := goodIn_r _ [18, 10, 11, 12, 4, 13, 14, 19, 20, 21, 22, 23, 24, 25, 26, 27, 28, 29, 30, 31, 32, 33, 34, 35, 36, 37, 38, 39, 40, 41, 42, 43, 44, 45, 46, 47, 48, 49, 50] (by decide +kernel) (by decide +kernel)
set_option maxRecDepth 20000 in
theorem gX8_tell_X8_denialTells : GoodIn wsX8_tell (wsV RX8 227 RX8 yX8_denialTells wsX8_denialTells) := goodIn_app (goodIn_of _ (by decide +kernel)) ggX8_tell_X8_denialTells
set_option maxRecDepth 20000 in
theorem ggX8_tell_X8_wordTells : GoodIn wsX8_tell wsX8_wordTells := goodIn_r _ [22, 23, 10, 11, 12, 4, 13, 14, 24, 25, 26, 27, 28, 29, 30, 31, 32, 33, 34, 35, 36, 37, 38, 39, 40, 41, 42, 43, 44, 45, 46, 47, 48, 49, 50] (by decide +kernel) (by decide +kernel)
set_option maxRecDepth 20000 in
theorem gX8_tell_X8_wordTells : GoodIn wsX8_tell (wsV RX8 230 RX8 yX8_wordTells wsX8_wordTells) := goodIn_app (goodIn_of _ (by decide +kernel)) ggX8_tell_X8_wordTells
theorem dX8_tell_0 : decode cX8_tell 0 = .ok (.iload_n 1, 1) := by decide +kernel
theorem dX8_tell_1 : decode cX8_tell 1 = .ok (.invokestatic 109, 3) := by decide +kernel
theorem dX8_tell_4 : decode cX8_tell 4 = .ok (.ifCond .ne 5, 3) := by decide +kernel
theorem dX8_tell_7 : decode cX8_tell 7 = .ok (.iconst (-1), 1) := by decide +kernel
theorem dX8_tell_8 : decode cX8_tell 8 = .ok (.ireturn, 1) := by decide +kernel
theorem dX8_tell_9 : decode cX8_tell 9 = .ok (.aload_n 0, 1) := by decide +kernel
theorem dX8_tell_10 : decode cX8_tell 10 = .ok (.getfield 11, 3) := by decide +kernel
theorem dX8_tell_13 : decode cX8_tell 13 = .ok (.iload_n 1, 1) := by decide +kernel
theorem dX8_tell_14 : decode cX8_tell 14 = .ok (.iaload, 1) := by decide +kernel
theorem dX8_tell_15 : decode cX8_tell 15 = .ok (.iconst 2, 1) := by decide +kernel
theorem dX8_tell_16 : decode cX8_tell 16 = .ok (.if_icmp .ne 9, 3) := by decide +kernel
theorem dX8_tell_19 : decode cX8_tell 19 = .ok (.aload_n 0, 1) := by decide +kernel
theorem dX8_tell_20 : decode cX8_tell 20 = .ok (.iload_n 1, 1) := by decide +kernel
theorem dX8_tell_21 : decode cX8_tell 21 = .ok (.invokevirtual 224, 3) := by decide +kernel
theorem dX8_tell_24 : decode cX8_tell 24 = .ok (.ireturn, 1) := by decide +kernel
theorem dX8_tell_25 : decode cX8_tell 25 = .ok (.aload_n 0, 1) := by decide +kernel
theorem dX8_tell_26 : decode cX8_tell 26 = .ok (.getfield 11, 3) := by decide +kernel
theorem dX8_tell_29 : decode cX8_tell 29 = .ok (.iload_n 1, 1) := by decide +kernel
theorem dX8_tell_30 : decode cX8_tell 30 = .ok (.iaload, 1) := by decide +kernel
theorem dX8_tell_31 : decode cX8_tell 31 = .ok (.iconst 1, 1) := by decide +kernel
theorem dX8_tell_32 : decode cX8_tell 32 = .ok (.if_icmp .ne 11, 3) := by decide +kernel
theorem dX8_tell_35 : decode cX8_tell 35 = .ok (.aload_n 0, 1) := by decide +kernel
theorem dX8_tell_36 : decode cX8_tell 36 = .ok (.iload_n 1, 1) := by decide +kernel
theorem dX8_tell_37 : decode cX8_tell 37 = .ok (.invokevirtual 227, 3) := by decide +kernel
theorem dX8_tell_40 : decode cX8_tell 40 = .ok (.goto 8, 3) := by decide +kernel
theorem dX8_tell_43 : decode cX8_tell 43 = .ok (.aload_n 0, 1) := by decide +kernel
theorem dX8_tell_44 : decode cX8_tell 44 = .ok (.iload_n 1, 1) := by decide +kernel
theorem dX8_tell_45 : decode cX8_tell 45 = .ok (.invokevirtual 230, 3) := by decide +kernel
theorem dX8_tell_48 : decode cX8_tell 48 = .ok (.ireturn, 1) := by decide +kernel
set_option maxRecDepth 20000 in
theorem ggX8_sing_X8_isWord : GoodIn wsX8_sing wsX8_isWord := goodIn_r _ [5] (by decide +kernel) (by decide +kernel)
set_option maxRecDepth 20000 in
theorem gX8_sing_X8_isWord : GoodIn wsX8_sing (va_wsS RX8 109 yX8_isWord wsX8_isWord) := goodIn_app (goodIn_of _ (by decide +kernel)) ggX8_sing_X8_isWord
set_option maxRecDepth 20000 in
theorem ggX8_sing_X8_doubtSings : GoodIn wsX8_sing wsX8_doubtSings := goodIn_r _ [9, 10, 11, 12, 4, 13, 14, 19, 20, 21, 22, 23, 24, 25, 26, 27, 28, 29, 30, 31] (by decide +kernel) (by decide +kernel)
set_option maxRecDepth 20000 in
theorem gX8_sing_X8_doubtSings : GoodIn wsX8_sing (wsV RX8 233 RX8 yX8_doubtSings wsX8_doubtSings) := goodIn_app (goodIn_of _ (by decide +kernel)) ggX8_sing_X8_doubtSings
set_option maxRecDepth 20000 in
theorem ggX8_sing_X8_wordSings : GoodIn wsX8_sing wsX8_wordSings := goodIn_r _ [18, 10, 11, 12, 4, 13, 14, 19, 20, 21, 22, 23, 24, 25, 26, 27, 28, 29, 30, 31] (by decide +kernel) (by decide +kernel)
set_option maxRecDepth 20000 in
theorem gX8_sing_X8_wordSings : GoodIn wsX8_sing (wsV RX8 236 RX8 yX8_wordSings wsX8_wordSings) := goodIn_app (goodIn_of _ (by decide +kernel)) ggX8_sing_X8_wordSings
theorem dX8_sing_0 : decode cX8_sing 0 = .ok (.iload_n 1, 1) := by decide +kernel
theorem dX8_sing_1 : decode cX8_sing 1 = .ok (.invokestatic 109, 3) := by decide +kernel
theorem dX8_sing_4 : decode cX8_sing 4 = .ok (.ifCond .ne 5, 3) := by decide +kernel
theorem dX8_sing_7 : decode cX8_sing 7 = .ok (.iconst (-1), 1) := by decide +kernel
theorem dX8_sing_8 : decode cX8_sing 8 = .ok (.ireturn, 1) := by decide +kernel
theorem dX8_sing_9 : decode cX8_sing 9 = .ok (.aload_n 0, 1) := by decide +kernel
theorem dX8_sing_10 : decode cX8_sing 10 = .ok (.getfield 11, 3) := by decide +kernel
theorem dX8_sing_13 : decode cX8_sing 13 = .ok (.iload_n 1, 1) := by decide +kernel
theorem dX8_sing_14 : decode cX8_sing 14 = .ok (.iaload, 1) := by decide +kernel
theorem dX8_sing_15 : decode cX8_sing 15 = .ok (.iconst 2, 1) := by decide +kernel
theorem dX8_sing_16 : decode cX8_sing 16 = .ok (.if_icmp .ne 10, 3) := by decide +kernel
theorem dX8_sing_19 : decode cX8_sing 19 = .ok (.aload_n 0, 1) := by decide +kernel
theorem dX8_sing_20 : decode cX8_sing 20 = .ok (.invokevirtual 233, 3) := by decide +kernel
theorem dX8_sing_23 : decode cX8_sing 23 = .ok (.goto 8, 3) := by decide +kernel
theorem dX8_sing_26 : decode cX8_sing 26 = .ok (.aload_n 0, 1) := by decide +kernel
theorem dX8_sing_27 : decode cX8_sing 27 = .ok (.iload_n 1, 1) := by decide +kernel
theorem dX8_sing_28 : decode cX8_sing 28 = .ok (.invokevirtual 236, 3) := by decide +kernel
theorem dX8_sing_31 : decode cX8_sing 31 = .ok (.ireturn, 1) := by decide +kernel
set_option maxRecDepth 20000 in
theorem ggX8_as_X8_isWord : GoodIn wsX8_as wsX8_isWord := goodIn_r _ [6] (by decide +kernel) (by decide +kernel)
set_option maxRecDepth 20000 in
theorem gX8_as_X8_isWord : GoodIn wsX8_as (va_wsS RX8 109 yX8_isWord wsX8_isWord) := goodIn_app (goodIn_of _ (by decide +kernel)) ggX8_as_X8_isWord
set_option maxRecDepth 20000 in
theorem ggX8_as_X8_isKind : GoodIn wsX8_as wsX8_isKind := goodIn_r _ [9] (by decide +kernel) (by decide +kernel)
set_option maxRecDepth 20000 in
theorem gX8_as_X8_isKind : GoodIn wsX8_as (va_wsS RX8 112 yX8_isKind wsX8_isKind) := goodIn_app (goodIn_of _ (by decide +kernel)) ggX8_as_X8_isKind
set_option maxRecDepth 20000 in
theorem ggX8_as_X8_fails : GoodIn wsX8_as wsX8_fails := goodIn_r _ [13, 1, 14, 15, 16, 17, 18, 19, 20, 21, 22, 23, 24, 25, 26] (by decide +kernel) (by decide +kernel)
set_option maxRecDepth 20000 in
theorem gX8_as_X8_fails : GoodIn wsX8_as (wsV RX8 93 RX8 yX8_fails wsX8_fails) := goodIn_app (goodIn_of _ (by decide +kernel)) ggX8_as_X8_fails
theorem dX8_as_0 : decode cX8_as 0 = .ok (.aload_n 0, 1) := by decide +kernel
theorem dX8_as_1 : decode cX8_as 1 = .ok (.iconst 0, 1) := by decide +kernel
theorem dX8_as_2 : decode cX8_as 2 = .ok (.putfield 77, 3) := by decide +kernel
theorem dX8_as_5 : decode cX8_as 5 = .ok (.iload_n 1, 1) := by decide +kernel
theorem dX8_as_6 : decode cX8_as 6 = .ok (.invokestatic 109, 3) := by decide +kernel
theorem dX8_as_9 : decode cX8_as 9 = .ok (.ifCond .ne 5, 3) := by decide +kernel
theorem dX8_as_12 : decode cX8_as 12 = .ok (.iconst (-1), 1) := by decide +kernel
theorem dX8_as_13 : decode cX8_as 13 = .ok (.ireturn, 1) := by decide +kernel
theorem dX8_as_14 : decode cX8_as 14 = .ok (.iload_n 2, 1) := by decide +kernel
theorem dX8_as_15 : decode cX8_as 15 = .ok (.invokestatic 112, 3) := by decide +kernel
theorem dX8_as_18 : decode cX8_as 18 = .ok (.ifCond .ne 6, 3) := by decide +kernel
theorem dX8_as_21 : decode cX8_as 21 = .ok (.bipush (-2), 2) := by decide +kernel
theorem dX8_as_23 : decode cX8_as 23 = .ok (.ireturn, 1) := by decide +kernel
theorem dX8_as_24 : decode cX8_as 24 = .ok (.aload_n 0, 1) := by decide +kernel
theorem dX8_as_25 : decode cX8_as 25 = .ok (.getfield 11, 3) := by decide +kernel
theorem dX8_as_28 : decode cX8_as 28 = .ok (.iload_n 1, 1) := by decide +kernel
theorem dX8_as_29 : decode cX8_as 29 = .ok (.iaload, 1) := by decide +kernel
theorem dX8_as_30 : decode cX8_as 30 = .ok (.iload_n 2, 1) := by decide +kernel
theorem dX8_as_31 : decode cX8_as 31 = .ok (.if_icmp .ge 11, 3) := by decide +kernel
theorem dX8_as_34 : decode cX8_as 34 = .ok (.aload_n 0, 1) := by decide +kernel
theorem dX8_as_35 : decode cX8_as 35 = .ok (.iconst 2, 1) := by decide +kernel
theorem dX8_as_36 : decode cX8_as 36 = .ok (.invokevirtual 93, 3) := by decide +kernel
theorem dX8_as_39 : decode cX8_as 39 = .ok (.goto 4, 3) := by decide +kernel
theorem dX8_as_42 : decode cX8_as 42 = .ok (.iconst 1, 1) := by decide +kernel
theorem dX8_as_43 : decode cX8_as 43 = .ok (.ireturn, 1) := by decide +kernel
theorem dX8_trace_0 : decode cX8_trace 0 = .ok (.aload_n 0, 1) := by decide +kernel
theorem dX8_trace_1 : decode cX8_trace 1 = .ok (.getfield 74, 3) := by decide +kernel
theorem dX8_trace_4 : decode cX8_trace 4 = .ok (.ireturn, 1) := by decide +kernel
theorem dX8_fault_0 : decode cX8_fault 0 = .ok (.aload_n 0, 1) := by decide +kernel
theorem dX8_fault_1 : decode cX8_fault 1 = .ok (.getfield 77, 3) := by decide +kernel
theorem dX8_fault_4 : decode cX8_fault 4 = .ok (.ireturn, 1) := by decide +kernel
theorem dX8_many_0 : decode cX8_many 0 = .ok (.aload_n 0, 1) := by decide +kernel
theorem dX8_many_1 : decode cX8_many 1 = .ok (.getfield 70, 3) := by decide +kernel
theorem dX8_many_4 : decode cX8_many 4 = .ok (.ireturn, 1) := by decide +kernel
theorem dX8_isWord_0 : decode cX8_isWord 0 = .ok (.iload_n 0, 1) := by decide +kernel
theorem dX8_isWord_1 : decode cX8_isWord 1 = .ok (.ifCond .lt 13, 3) := by decide +kernel
theorem dX8_isWord_4 : decode cX8_isWord 4 = .ok (.iload_n 0, 1) := by decide +kernel
theorem dX8_isWord_5 : decode cX8_isWord 5 = .ok (.bipush 8, 2) := by decide +kernel
theorem dX8_isWord_7 : decode cX8_isWord 7 = .ok (.if_icmp .ge 7, 3) := by decide +kernel
theorem dX8_isWord_10 : decode cX8_isWord 10 = .ok (.iconst 1, 1) := by decide +kernel
theorem dX8_isWord_11 : decode cX8_isWord 11 = .ok (.goto 4, 3) := by decide +kernel
theorem dX8_isWord_14 : decode cX8_isWord 14 = .ok (.iconst 0, 1) := by decide +kernel
theorem dX8_isWord_15 : decode cX8_isWord 15 = .ok (.ireturn, 1) := by decide +kernel
theorem dX8_isKind_0 : decode cX8_isKind 0 = .ok (.iload_n 0, 1) := by decide +kernel
theorem dX8_isKind_1 : decode cX8_isKind 1 = .ok (.ifCond .lt 12, 3) := by decide +kernel
theorem dX8_isKind_4 : decode cX8_isKind 4 = .ok (.iload_n 0, 1) := by decide +kernel
theorem dX8_isKind_5 : decode cX8_isKind 5 = .ok (.iconst 3, 1) := by decide +kernel
theorem dX8_isKind_6 : decode cX8_isKind 6 = .ok (.if_icmp .ge 7, 3) := by decide +kernel
theorem dX8_isKind_9 : decode cX8_isKind 9 = .ok (.iconst 1, 1) := by decide +kernel
theorem dX8_isKind_10 : decode cX8_isKind 10 = .ok (.goto 4, 3) := by decide +kernel
theorem dX8_isKind_13 : decode cX8_isKind 13 = .ok (.iconst 0, 1) := by decide +kernel
theorem dX8_isKind_14 : decode cX8_isKind 14 = .ok (.ireturn, 1) := by decide +kernel
theorem dX8_isSort_0 : decode cX8_isSort 0 = .ok (.iload_n 0, 1) := by decide +kernel
theorem dX8_isSort_1 : decode cX8_isSort 1 = .ok (.ifCond .lt 12, 3) := by decide +kernel
theorem dX8_isSort_4 : decode cX8_isSort 4 = .ok (.iload_n 0, 1) := by decide +kernel
theorem dX8_isSort_5 : decode cX8_isSort 5 = .ok (.iconst 3, 1) := by decide +kernel
theorem dX8_isSort_6 : decode cX8_isSort 6 = .ok (.if_icmp .ge 7, 3) := by decide +kernel
theorem dX8_isSort_9 : decode cX8_isSort 9 = .ok (.iconst 1, 1) := by decide +kernel
theorem dX8_isSort_10 : decode cX8_isSort 10 = .ok (.goto 4, 3) := by decide +kernel
theorem dX8_isSort_13 : decode cX8_isSort 13 = .ok (.iconst 0, 1) := by decide +kernel
theorem dX8_isSort_14 : decode cX8_isSort 14 = .ok (.ireturn, 1) := by decide +kernel
theorem dX8_isFirstOrSecond_0 : decode cX8_isFirstOrSecond 0 = .ok (.iload_n 0, 1) := by decide +kernel
theorem dX8_isFirstOrSecond_1 : decode cX8_isFirstOrSecond 1 = .ok (.ifCond .eq 8, 3) := by decide +kernel
theorem dX8_isFirstOrSecond_4 : decode cX8_isFirstOrSecond 4 = .ok (.iload_n 0, 1) := by decide +kernel
theorem dX8_isFirstOrSecond_5 : decode cX8_isFirstOrSecond 5 = .ok (.iconst 1, 1) := by decide +kernel
theorem dX8_isFirstOrSecond_6 : decode cX8_isFirstOrSecond 6 = .ok (.if_icmp .ne 7, 3) := by decide +kernel
theorem dX8_isFirstOrSecond_9 : decode cX8_isFirstOrSecond 9 = .ok (.iconst 1, 1) := by decide +kernel
theorem dX8_isFirstOrSecond_10 : decode cX8_isFirstOrSecond 10 = .ok (.goto 4, 3) := by decide +kernel
theorem dX8_isFirstOrSecond_13 : decode cX8_isFirstOrSecond 13 = .ok (.iconst 0, 1) := by decide +kernel
theorem dX8_isFirstOrSecond_14 : decode cX8_isFirstOrSecond 14 = .ok (.ireturn, 1) := by decide +kernel
theorem dX8_cryOf_0 : decode cX8_cryOf 0 = .ok (.iload_n 1, 1) := by decide +kernel
theorem dX8_cryOf_1 : decode cX8_cryOf 1 = .ok (.ifCond .lt 26, 3) := by decide +kernel
theorem dX8_cryOf_4 : decode cX8_cryOf 4 = .ok (.iload_n 1, 1) := by decide +kernel
theorem dX8_cryOf_5 : decode cX8_cryOf 5 = .ok (.aload_n 0, 1) := by decide +kernel
theorem dX8_cryOf_6 : decode cX8_cryOf 6 = .ok (.getfield 70, 3) := by decide +kernel
theorem dX8_cryOf_9 : decode cX8_cryOf 9 = .ok (.if_icmp .ge 18, 3) := by decide +kernel
theorem dX8_cryOf_12 : decode cX8_cryOf 12 = .ok (.iload_n 1, 1) := by decide +kernel
theorem dX8_cryOf_13 : decode cX8_cryOf 13 = .ok (.bipush 6, 2) := by decide +kernel
theorem dX8_cryOf_15 : decode cX8_cryOf 15 = .ok (.if_icmp .ge 12, 3) := by decide +kernel
theorem dX8_cryOf_18 : decode cX8_cryOf 18 = .ok (.aload_n 0, 1) := by decide +kernel
theorem dX8_cryOf_19 : decode cX8_cryOf 19 = .ok (.getfield 17, 3) := by decide +kernel
theorem dX8_cryOf_22 : decode cX8_cryOf 22 = .ok (.iload_n 1, 1) := by decide +kernel
theorem dX8_cryOf_23 : decode cX8_cryOf 23 = .ok (.aaload, 1) := by decide +kernel
theorem dX8_cryOf_24 : decode cX8_cryOf 24 = .ok (.goto 4, 3) := by decide +kernel
theorem dX8_cryOf_27 : decode cX8_cryOf 27 = .ok (.aconst_null, 1) := by decide +kernel
theorem dX8_cryOf_28 : decode cX8_cryOf 28 = .ok (.areturn, 1) := by decide +kernel
set_option maxRecDepth 20000 in
theorem ggX8_lastCry_X8_cryOf : GoodIn wsX8_lastCry wsX8_cryOf := goodIn_r _ [6, 1, 7, 8, 9, 10, 11, 12, 13, 14, 15, 16, 17, 18, 19, 20] (by decide +kernel) (by decide +kernel)
set_option maxRecDepth 20000 in
theorem gX8_lastCry_X8_cryOf : GoodIn wsX8_lastCry (wsV RX8 115 RX8 yX8_cryOf wsX8_cryOf) := goodIn_app (goodIn_of _ (by decide +kernel)) ggX8_lastCry_X8_cryOf
theorem dX8_lastCry_0 : decode cX8_lastCry 0 = .ok (.aload_n 0, 1) := by decide +kernel
theorem dX8_lastCry_1 : decode cX8_lastCry 1 = .ok (.aload_n 0, 1) := by decide +kernel
theorem dX8_lastCry_2 : decode cX8_lastCry 2 = .ok (.getfield 70, 3) := by decide +kernel
theorem dX8_lastCry_5 : decode cX8_lastCry 5 = .ok (.iconst 1, 1) := by decide +kernel
theorem dX8_lastCry_6 : decode cX8_lastCry 6 = .ok (.isub, 1) := by decide +kernel
theorem dX8_lastCry_7 : decode cX8_lastCry 7 = .ok (.invokevirtual 115, 3) := by decide +kernel
theorem dX8_lastCry_10 : decode cX8_lastCry 10 = .ok (.areturn, 1) := by decide +kernel
theorem dX8_sheetOf_0 : decode cX8_sheetOf 0 = .ok (.iload_n 1, 1) := by decide +kernel
theorem dX8_sheetOf_1 : decode cX8_sheetOf 1 = .ok (.ifCond .lt 17, 3) := by decide +kernel
theorem dX8_sheetOf_4 : decode cX8_sheetOf 4 = .ok (.iload_n 1, 1) := by decide +kernel
theorem dX8_sheetOf_5 : decode cX8_sheetOf 5 = .ok (.iconst 4, 1) := by decide +kernel
theorem dX8_sheetOf_6 : decode cX8_sheetOf 6 = .ok (.if_icmp .ge 12, 3) := by decide +kernel
theorem dX8_sheetOf_9 : decode cX8_sheetOf 9 = .ok (.aload_n 0, 1) := by decide +kernel
theorem dX8_sheetOf_10 : decode cX8_sheetOf 10 = .ok (.getfield 23, 3) := by decide +kernel
theorem dX8_sheetOf_13 : decode cX8_sheetOf 13 = .ok (.iload_n 1, 1) := by decide +kernel
theorem dX8_sheetOf_14 : decode cX8_sheetOf 14 = .ok (.aaload, 1) := by decide +kernel
theorem dX8_sheetOf_15 : decode cX8_sheetOf 15 = .ok (.goto 4, 3) := by decide +kernel
theorem dX8_sheetOf_18 : decode cX8_sheetOf 18 = .ok (.aconst_null, 1) := by decide +kernel
theorem dX8_sheetOf_19 : decode cX8_sheetOf 19 = .ok (.areturn, 1) := by decide +kernel
theorem dX8_fails_0 : decode cX8_fails 0 = .ok (.aload_n 0, 1) := by decide +kernel
theorem dX8_fails_1 : decode cX8_fails 1 = .ok (.iload_n 1, 1) := by decide +kernel
theorem dX8_fails_2 : decode cX8_fails 2 = .ok (.putfield 77, 3) := by decide +kernel
theorem dX8_fails_5 : decode cX8_fails 5 = .ok (.bipush (-10), 2) := by decide +kernel
theorem dX8_fails_7 : decode cX8_fails 7 = .ok (.iload_n 1, 1) := by decide +kernel
theorem dX8_fails_8 : decode cX8_fails 8 = .ok (.isub, 1) := by decide +kernel
theorem dX8_fails_9 : decode cX8_fails 9 = .ok (.ireturn, 1) := by decide +kernel
set_option maxRecDepth 20000 in
theorem ggX8_readingFault_X6_isNothing : GoodIn wsX8_readingFault wsX6_isNothing := goodIn_r _ [5, 6, 12, 13, 14] (by decide +kernel) (by decide +kernel)
set_option maxRecDepth 20000 in
theorem gX8_readingFault_X6_isNothing : GoodIn wsX8_readingFault (wsV RX8 207 RX6 yX6_isNothing wsX6_isNothing) := goodIn_app (goodIn_of _ (by decide +kernel)) ggX8_readingFault_X6_isNothing
set_option maxRecDepth 20000 in
theorem ggX8_readingFault_X6_sort : GoodIn wsX8_readingFault wsX6_sort := goodIn_r _ [10, 11, 12, 13, 14] (by decide +kernel) (by decide +kernel)
set_option maxRecDepth 20000 in
theorem gX8_readingFault_X6_sort : GoodIn wsX8_readingFault (wsV RX8 217 RX6 yX6_sort wsX6_sort) := goodIn_app (goodIn_of _ (by decide +kernel)) ggX8_readingFault_X6_sort
theorem dX8_readingFault_0 : decode cX8_readingFault 0 = .ok (.aload_n 0, 1) := by decide +kernel
theorem dX8_readingFault_1 : decode cX8_readingFault 1 = .ok (.invokevirtual 207, 3) := by decide +kernel
theorem dX8_readingFault_4 : decode cX8_readingFault 4 = .ok (.ifCond .eq 5, 3) := by decide +kernel
theorem dX8_readingFault_7 : decode cX8_readingFault 7 = .ok (.iconst 1, 1) := by decide +kernel
theorem dX8_readingFault_8 : decode cX8_readingFault 8 = .ok (.ireturn, 1) := by decide +kernel
theorem dX8_readingFault_9 : decode cX8_readingFault 9 = .ok (.aload_n 0, 1) := by decide +kernel
theorem dX8_readingFault_10 : decode cX8_readingFault 10 = .ok (.invokevirtual 217, 3) := by decide +kernel
theorem dX8_readingFault_13 : decode cX8_readingFault 13 = .ok (.iload_n 1, 1) := by decide +kernel
theorem dX8_readingFault_14 : decode cX8_readingFault 14 = .ok (.if_icmp .ne 7, 3) := by decide +kernel
theorem dX8_readingFault_17 : decode cX8_readingFault 17 = .ok (.iconst 0, 1) := by decide +kernel
theorem dX8_readingFault_18 : decode cX8_readingFault 18 = .ok (.goto 4, 3) := by decide +kernel
theorem dX8_readingFault_21 : decode cX8_readingFault 21 = .ok (.iconst 2, 1) := by decide +kernel
theorem dX8_readingFault_22 : decode cX8_readingFault 22 = .ok (.ireturn, 1) := by decide +kernel
theorem dX8_isLetter_0 : decode cX8_isLetter 0 = .ok (.iload_n 0, 1) := by decide +kernel
theorem dX8_isLetter_1 : decode cX8_isLetter 1 = .ok (.bipush 97, 2) := by decide +kernel
theorem dX8_isLetter_3 : decode cX8_isLetter 3 = .ok (.if_icmp .lt 13, 3) := by decide +kernel
theorem dX8_isLetter_6 : decode cX8_isLetter 6 = .ok (.iload_n 0, 1) := by decide +kernel
theorem dX8_isLetter_7 : decode cX8_isLetter 7 = .ok (.bipush 105, 2) := by decide +kernel
theorem dX8_isLetter_9 : decode cX8_isLetter 9 = .ok (.if_icmp .ge 7, 3) := by decide +kernel
theorem dX8_isLetter_12 : decode cX8_isLetter 12 = .ok (.iconst 1, 1) := by decide +kernel
theorem dX8_isLetter_13 : decode cX8_isLetter 13 = .ok (.goto 4, 3) := by decide +kernel
theorem dX8_isLetter_16 : decode cX8_isLetter 16 = .ok (.iconst 0, 1) := by decide +kernel
theorem dX8_isLetter_17 : decode cX8_isLetter 17 = .ok (.ireturn, 1) := by decide +kernel
set_option maxRecDepth 20000 in
theorem ggX8_firstFaultOf_X6_at : GoodIn wsX8_firstFaultOf wsX6_at := goodIn_r _ [5, 6, 7, 8, 9, 4, 10, 11, 16, 17, 18] (by decide +kernel) (by decide +kernel)
set_option maxRecDepth 20000 in
theorem gX8_firstFaultOf_X6_at : GoodIn wsX8_firstFaultOf (wsV RX8 216 RX6 yX6_at wsX6_at) := goodIn_app (goodIn_of _ (by decide +kernel)) ggX8_firstFaultOf_X6_at
set_option maxRecDepth 20000 in
theorem ggX8_firstFaultOf_X8_isLetter : GoodIn wsX8_firstFaultOf wsX8_isLetter := goodIn_r _ [15] (by decide +kernel) (by decide +kernel)
set_option maxRecDepth 20000 in
theorem gX8_firstFaultOf_X8_isLetter : GoodIn wsX8_firstFaultOf (va_wsS RX8 239 yX8_isLetter wsX8_isLetter) := goodIn_app (goodIn_of _ (by decide +kernel)) ggX8_firstFaultOf_X8_isLetter
theorem dX8_firstFaultOf_0 : decode cX8_firstFaultOf 0 = .ok (.iconst 1, 1) := by decide +kernel
theorem dX8_firstFaultOf_1 : decode cX8_firstFaultOf 1 = .ok (.istore_n 3, 1) := by decide +kernel
theorem dX8_firstFaultOf_2 : decode cX8_firstFaultOf 2 = .ok (.iconst 0, 1) := by decide +kernel
theorem dX8_firstFaultOf_3 : decode cX8_firstFaultOf 3 = .ok (.istore 4, 2) := by decide +kernel
theorem dX8_firstFaultOf_5 : decode cX8_firstFaultOf 5 = .ok (.iconst 0, 1) := by decide +kernel
theorem dX8_firstFaultOf_6 : decode cX8_firstFaultOf 6 = .ok (.istore 5, 2) := by decide +kernel
theorem dX8_firstFaultOf_8 : decode cX8_firstFaultOf 8 = .ok (.iload 5, 2) := by decide +kernel
theorem dX8_firstFaultOf_10 : decode cX8_firstFaultOf 10 = .ok (.iload_n 2, 1) := by decide +kernel
theorem dX8_firstFaultOf_11 : decode cX8_firstFaultOf 11 = .ok (.if_icmp .ge 70, 3) := by decide +kernel
theorem dX8_firstFaultOf_14 : decode cX8_firstFaultOf 14 = .ok (.aload_n 0, 1) := by decide +kernel
theorem dX8_firstFaultOf_15 : decode cX8_firstFaultOf 15 = .ok (.iload_n 1, 1) := by decide +kernel
theorem dX8_firstFaultOf_16 : decode cX8_firstFaultOf 16 = .ok (.iload 5, 2) := by decide +kernel
theorem dX8_firstFaultOf_18 : decode cX8_firstFaultOf 18 = .ok (.iadd, 1) := by decide +kernel
theorem dX8_firstFaultOf_19 : decode cX8_firstFaultOf 19 = .ok (.invokevirtual 216, 3) := by decide +kernel
theorem dX8_firstFaultOf_22 : decode cX8_firstFaultOf 22 = .ok (.istore 6, 2) := by decide +kernel
theorem dX8_firstFaultOf_24 : decode cX8_firstFaultOf 24 = .ok (.iload 6, 2) := by decide +kernel
theorem dX8_firstFaultOf_26 : decode cX8_firstFaultOf 26 = .ok (.invokestatic 239, 3) := by decide +kernel
theorem dX8_firstFaultOf_29 : decode cX8_firstFaultOf 29 = .ok (.ifCond .eq 16, 3) := by decide +kernel
theorem dX8_firstFaultOf_32 : decode cX8_firstFaultOf 32 = .ok (.iload 4, 2) := by decide +kernel
theorem dX8_firstFaultOf_34 : decode cX8_firstFaultOf 34 = .ok (.bipush 12, 2) := by decide +kernel
theorem dX8_firstFaultOf_36 : decode cX8_firstFaultOf 36 = .ok (.if_icmp .ge 9, 3) := by decide +kernel
theorem dX8_firstFaultOf_39 : decode cX8_firstFaultOf 39 = .ok (.iinc 4 1, 3) := by decide +kernel
theorem dX8_firstFaultOf_42 : decode cX8_firstFaultOf 42 = .ok (.goto 33, 3) := by decide +kernel
theorem dX8_firstFaultOf_45 : decode cX8_firstFaultOf 45 = .ok (.iload 6, 2) := by decide +kernel
theorem dX8_firstFaultOf_47 : decode cX8_firstFaultOf 47 = .ok (.bipush 59, 2) := by decide +kernel
theorem dX8_firstFaultOf_49 : decode cX8_firstFaultOf 49 = .ok (.if_icmp .ne 23, 3) := by decide +kernel
theorem dX8_firstFaultOf_52 : decode cX8_firstFaultOf 52 = .ok (.iload 4, 2) := by decide +kernel
theorem dX8_firstFaultOf_54 : decode cX8_firstFaultOf 54 = .ok (.ifCond .le 18, 3) := by decide +kernel
theorem dX8_firstFaultOf_57 : decode cX8_firstFaultOf 57 = .ok (.iload_n 3, 1) := by decide +kernel
theorem dX8_firstFaultOf_58 : decode cX8_firstFaultOf 58 = .ok (.bipush 6, 2) := by decide +kernel
theorem dX8_firstFaultOf_60 : decode cX8_firstFaultOf 60 = .ok (.if_icmp .ge 12, 3) := by decide +kernel
theorem dX8_firstFaultOf_63 : decode cX8_firstFaultOf 63 = .ok (.iinc 3 1, 3) := by decide +kernel
theorem dX8_firstFaultOf_66 : decode cX8_firstFaultOf 66 = .ok (.iconst 0, 1) := by decide +kernel
theorem dX8_firstFaultOf_67 : decode cX8_firstFaultOf 67 = .ok (.istore 4, 2) := by decide +kernel
theorem dX8_firstFaultOf_69 : decode cX8_firstFaultOf 69 = .ok (.goto 6, 3) := by decide +kernel
theorem dX8_firstFaultOf_72 : decode cX8_firstFaultOf 72 = .ok (.iload 5, 2) := by decide +kernel
theorem dX8_firstFaultOf_74 : decode cX8_firstFaultOf 74 = .ok (.ireturn, 1) := by decide +kernel
theorem dX8_firstFaultOf_75 : decode cX8_firstFaultOf 75 = .ok (.iinc 5 1, 3) := by decide +kernel
theorem dX8_firstFaultOf_78 : decode cX8_firstFaultOf 78 = .ok (.goto (-70), 3) := by decide +kernel
theorem dX8_firstFaultOf_81 : decode cX8_firstFaultOf 81 = .ok (.iload 4, 2) := by decide +kernel
theorem dX8_firstFaultOf_83 : decode cX8_firstFaultOf 83 = .ok (.ifCond .ne 7, 3) := by decide +kernel
theorem dX8_firstFaultOf_86 : decode cX8_firstFaultOf 86 = .ok (.iload_n 2, 1) := by decide +kernel
theorem dX8_firstFaultOf_87 : decode cX8_firstFaultOf 87 = .ok (.goto 5, 3) := by decide +kernel
theorem dX8_firstFaultOf_90 : decode cX8_firstFaultOf 90 = .ok (.bipush (-9), 2) := by decide +kernel
theorem dX8_firstFaultOf_92 : decode cX8_firstFaultOf 92 = .ok (.ireturn, 1) := by decide +kernel
set_option maxRecDepth 20000 in
theorem ggX8_takeText_X8_beginDay : GoodIn wsX8_takeText wsX8_beginDay := goodIn_r _ [6, 1, 7, 8, 9, 5, 10, 11, 12, 13, 14, 15, 16, 17, 18, 19, 20, 21, 49, 50, 51, 52, 53, 54, 55, 56, 57, 58, 59, 60, 61, 62, 63] (by decide +kernel) (by decide +kernel)
set_option maxRecDepth 20000 in
theorem gX8_takeText_X8_beginDay : GoodIn wsX8_takeText (wsV RX8 242 RX8 yX8_beginDay wsX8_beginDay) := goodIn_app (goodIn_of _ (by decide +kernel)) ggX8_takeText_X8_beginDay
set_option maxRecDepth 20000 in
theorem ggX8_takeText_X6_at : GoodIn wsX8_takeText wsX6_at := goodIn_r _ [26, 27, 28, 29, 30, 25, 31, 32, 64, 65, 66] (by decide +kernel) (by decide +kernel)
set_option maxRecDepth 20000 in
theorem gX8_takeText_X6_at : GoodIn wsX8_takeText (wsV RX8 216 RX6 yX6_at wsX6_at) := goodIn_app (goodIn_of _ (by decide +kernel)) ggX8_takeText_X6_at
set_option maxRecDepth 20000 in
theorem ggX8_takeText_X8_lastCry : GoodIn wsX8_takeText wsX8_lastCry := goodIn_r _ [10, 1, 11, 12, 13, 5, 14, 15, 49, 50, 51, 52, 53, 54, 55, 56, 57, 58, 59, 60, 61] (by decide +kernel) (by decide +kernel)
set_option maxRecDepth 20000 in
theorem gX8_takeText_X8_lastCry : GoodIn wsX8_takeText (wsV RX8 129 RX8 yX8_lastCry wsX8_lastCry) := goodIn_app (goodIn_of _ (by decide +kernel)) ggX8_takeText_X8_lastCry
set_option maxRecDepth 20000 in
theorem ggX8_takeText_X8_isLetter : GoodIn wsX8_takeText wsX8_isLetter := goodIn_r _ [35] (by decide +kernel) (by decide +kernel)
set_option maxRecDepth 20000 in
theorem gX8_takeText_X8_isLetter : GoodIn wsX8_takeText (va_wsS RX8 239 yX8_isLetter wsX8_isLetter) := goodIn_app (goodIn_of _ (by decide +kernel)) ggX8_takeText_X8_isLetter
set_option maxRecDepth 20000 in
theorem ggX8_takeText_X2_size : GoodIn wsX8_takeText wsX2_size := goodIn_r _ [39, 21, 62, 63] (by decide +kernel) (by decide +kernel)
set_option maxRecDepth 20000 in
theorem gX8_takeText_X2_size : GoodIn wsX8_takeText (wsV RX8 119 RX2 yX2_size wsX2_size) := goodIn_app (goodIn_of _ (by decide +kernel)) ggX8_takeText_X2_size
set_option maxRecDepth 20000 in
theorem ggX8_takeText_X2_insert : GoodIn wsX8_takeText wsX2_insert := goodIn_r _ [43, 21, 44, 45, 46, 47, 19, 48, 62, 63] (by decide +kernel) (by decide +kernel)
set_option maxRecDepth 20000 in
theorem gX8_takeText_X2_insert : GoodIn wsX8_takeText (wsV RX8 137 RX2 yX2_insert wsX2_insert) := goodIn_app (goodIn_of _ (by decide +kernel)) ggX8_takeText_X2_insert
theorem dX8_takeText_0 : decode cX8_takeText 0 = .ok (.aload_n 0, 1) := by decide +kernel
theorem dX8_takeText_1 : decode cX8_takeText 1 = .ok (.iconst 0, 1) := by decide +kernel
theorem dX8_takeText_2 : decode cX8_takeText 2 = .ok (.putfield 70, 3) := by decide +kernel
theorem dX8_takeText_5 : decode cX8_takeText 5 = .ok (.aload_n 0, 1) := by decide +kernel
theorem dX8_takeText_6 : decode cX8_takeText 6 = .ok (.invokevirtual 242, 3) := by decide +kernel
theorem dX8_takeText_9 : decode cX8_takeText 9 = .ok (.iconst 0, 1) := by decide +kernel
theorem dX8_takeText_10 : decode cX8_takeText 10 = .ok (.istore 4, 2) := by decide +kernel
theorem dX8_takeText_12 : decode cX8_takeText 12 = .ok (.iload 4, 2) := by decide +kernel
theorem dX8_takeText_14 : decode cX8_takeText 14 = .ok (.iload_n 3, 1) := by decide +kernel
theorem dX8_takeText_15 : decode cX8_takeText 15 = .ok (.if_icmp .ge 67, 3) := by decide +kernel
theorem dX8_takeText_18 : decode cX8_takeText 18 = .ok (.aload_n 1, 1) := by decide +kernel
theorem dX8_takeText_19 : decode cX8_takeText 19 = .ok (.iload_n 2, 1) := by decide +kernel
theorem dX8_takeText_20 : decode cX8_takeText 20 = .ok (.iload 4, 2) := by decide +kernel
theorem dX8_takeText_22 : decode cX8_takeText 22 = .ok (.iadd, 1) := by decide +kernel
theorem dX8_takeText_23 : decode cX8_takeText 23 = .ok (.invokevirtual 216, 3) := by decide +kernel
theorem dX8_takeText_26 : decode cX8_takeText 26 = .ok (.istore 5, 2) := by decide +kernel
theorem dX8_takeText_28 : decode cX8_takeText 28 = .ok (.aload_n 0, 1) := by decide +kernel
theorem dX8_takeText_29 : decode cX8_takeText 29 = .ok (.invokevirtual 129, 3) := by decide +kernel
theorem dX8_takeText_32 : decode cX8_takeText 32 = .ok (.astore 6, 2) := by decide +kernel
theorem dX8_takeText_34 : decode cX8_takeText 34 = .ok (.iload 5, 2) := by decide +kernel
theorem dX8_takeText_36 : decode cX8_takeText 36 = .ok (.bipush 59, 2) := by decide +kernel
theorem dX8_takeText_38 : decode cX8_takeText 38 = .ok (.if_icmp .ne 10, 3) := by decide +kernel
theorem dX8_takeText_41 : decode cX8_takeText 41 = .ok (.aload_n 0, 1) := by decide +kernel
theorem dX8_takeText_42 : decode cX8_takeText 42 = .ok (.invokevirtual 242, 3) := by decide +kernel
theorem dX8_takeText_45 : decode cX8_takeText 45 = .ok (.goto 31, 3) := by decide +kernel
theorem dX8_takeText_48 : decode cX8_takeText 48 = .ok (.aload 6, 2) := by decide +kernel
theorem dX8_takeText_50 : decode cX8_takeText 50 = .ok (.ifnull 26, 3) := by decide +kernel
theorem dX8_takeText_53 : decode cX8_takeText 53 = .ok (.iload 5, 2) := by decide +kernel
theorem dX8_takeText_55 : decode cX8_takeText 55 = .ok (.invokestatic 239, 3) := by decide +kernel
theorem dX8_takeText_58 : decode cX8_takeText 58 = .ok (.ifCond .eq 18, 3) := by decide +kernel
theorem dX8_takeText_61 : decode cX8_takeText 61 = .ok (.aload 6, 2) := by decide +kernel
theorem dX8_takeText_63 : decode cX8_takeText 63 = .ok (.aload 6, 2) := by decide +kernel
theorem dX8_takeText_65 : decode cX8_takeText 65 = .ok (.invokevirtual 119, 3) := by decide +kernel
theorem dX8_takeText_68 : decode cX8_takeText 68 = .ok (.iload 5, 2) := by decide +kernel
theorem dX8_takeText_70 : decode cX8_takeText 70 = .ok (.bipush 97, 2) := by decide +kernel
theorem dX8_takeText_72 : decode cX8_takeText 72 = .ok (.isub, 1) := by decide +kernel
theorem dX8_takeText_73 : decode cX8_takeText 73 = .ok (.invokevirtual 137, 3) := by decide +kernel
theorem dX8_takeText_76 : decode cX8_takeText 76 = .ok (.iinc 4 1, 3) := by decide +kernel
theorem dX8_takeText_79 : decode cX8_takeText 79 = .ok (.goto (-67), 3) := by decide +kernel
theorem dX8_takeText_82 : decode cX8_takeText 82 = .ok (.return_, 1) := by decide +kernel
set_option maxRecDepth 20000 in
theorem ggX8_beginDay_X8_lastCry : GoodIn wsX8_beginDay wsX8_lastCry := goodIn_r _ [6, 1, 7, 8, 9, 5, 10, 11, 18, 19, 20, 21, 22, 23, 24, 25, 26, 27, 28, 29, 30] (by decide +kernel) (by decide +kernel)
set_option maxRecDepth 20000 in
theorem gX8_beginDay_X8_lastCry : GoodIn wsX8_beginDay (wsV RX8 129 RX8 yX8_lastCry wsX8_lastCry) := goodIn_app (goodIn_of _ (by decide +kernel)) ggX8_beginDay_X8_lastCry
set_option maxRecDepth 20000 in
theorem ggX8_beginDay_X2_clear : GoodIn wsX8_beginDay wsX2_clear := goodIn_r _ [16, 17, 31, 32] (by decide +kernel) (by decide +kernel)
set_option maxRecDepth 20000 in
theorem gX8_beginDay_X2_clear : GoodIn wsX8_beginDay (wsV RX8 245 RX2 yX2_clear wsX2_clear) := goodIn_app (goodIn_of _ (by decide +kernel)) ggX8_beginDay_X2_clear
theorem dX8_beginDay_0 : decode cX8_beginDay 0 = .ok (.aload_n 0, 1) := by decide +kernel
theorem dX8_beginDay_1 : decode cX8_beginDay 1 = .ok (.getfield 70, 3) := by decide +kernel
theorem dX8_beginDay_4 : decode cX8_beginDay 4 = .ok (.bipush 6, 2) := by decide +kernel
theorem dX8_beginDay_6 : decode cX8_beginDay 6 = .ok (.if_icmp .lt 4, 3) := by decide +kernel
theorem dX8_beginDay_9 : decode cX8_beginDay 9 = .ok (.return_, 1) := by decide +kernel
theorem dX8_beginDay_10 : decode cX8_beginDay 10 = .ok (.aload_n 0, 1) := by decide +kernel
theorem dX8_beginDay_11 : decode cX8_beginDay 11 = .ok (.dup, 1) := by decide +kernel
theorem dX8_beginDay_12 : decode cX8_beginDay 12 = .ok (.getfield 70, 3) := by decide +kernel
theorem dX8_beginDay_15 : decode cX8_beginDay 15 = .ok (.iconst 1, 1) := by decide +kernel
theorem dX8_beginDay_16 : decode cX8_beginDay 16 = .ok (.iadd, 1) := by decide +kernel
theorem dX8_beginDay_17 : decode cX8_beginDay 17 = .ok (.putfield 70, 3) := by decide +kernel
theorem dX8_beginDay_20 : decode cX8_beginDay 20 = .ok (.aload_n 0, 1) := by decide +kernel
theorem dX8_beginDay_21 : decode cX8_beginDay 21 = .ok (.invokevirtual 129, 3) := by decide +kernel
theorem dX8_beginDay_24 : decode cX8_beginDay 24 = .ok (.astore_n 1, 1) := by decide +kernel
theorem dX8_beginDay_25 : decode cX8_beginDay 25 = .ok (.aload_n 1, 1) := by decide +kernel
theorem dX8_beginDay_26 : decode cX8_beginDay 26 = .ok (.ifnull 7, 3) := by decide +kernel
theorem dX8_beginDay_29 : decode cX8_beginDay 29 = .ok (.aload_n 1, 1) := by decide +kernel
theorem dX8_beginDay_30 : decode cX8_beginDay 30 = .ok (.invokevirtual 245, 3) := by decide +kernel
theorem dX8_beginDay_33 : decode cX8_beginDay 33 = .ok (.return_, 1) := by decide +kernel
set_option maxRecDepth 20000 in
theorem ggX8_fewestBreaths_X2_size : GoodIn wsX8_fewestBreaths wsX2_size := goodIn_r _ [13, 14, 46, 47] (by decide +kernel) (by decide +kernel)
set_option maxRecDepth 20000 in
theorem gX8_fewestBreaths_X2_size : GoodIn wsX8_fewestBreaths (wsV RX8 119 RX2 yX2_size wsX2_size) := goodIn_app (goodIn_of _ (by decide +kernel)) ggX8_fewestBreaths_X2_size
set_option maxRecDepth 20000 in
theorem ggX8_fewestBreaths_X2_at : GoodIn wsX8_fewestBreaths wsX2_at := goodIn_r _ [18, 19, 20, 21, 22, 12, 23, 14, 46, 47] (by decide +kernel) (by decide +kernel)
set_option maxRecDepth 20000 in
theorem gX8_fewestBreaths_X2_at : GoodIn wsX8_fewestBreaths (wsV RX8 126 RX2 yX2_at wsX2_at) := goodIn_app (goodIn_of _ (by decide +kernel)) ggX8_fewestBreaths_X2_at
set_option maxRecDepth 20000 in
theorem ggX8_fewestBreaths_X8_isDenial : GoodIn wsX8_fewestBreaths wsX8_isDenial := goodIn_r _ [28, 29, 30, 31, 27, 32, 33, 34, 35, 36, 37, 38, 39, 40, 41, 42, 43, 44, 45] (by decide +kernel) (by decide +kernel)
set_option maxRecDepth 20000 in
theorem gX8_fewestBreaths_X8_isDenial : GoodIn wsX8_fewestBreaths (wsV RX8 254 RX8 yX8_isDenial wsX8_isDenial) := goodIn_app (goodIn_of _ (by decide +kernel)) ggX8_fewestBreaths_X8_isDenial
theorem dX8_fewestBreaths_0 : decode cX8_fewestBreaths 0 = .ok (.aload_n 0, 1) := by decide +kernel
theorem dX8_fewestBreaths_1 : decode cX8_fewestBreaths 1 = .ok (.getfield 67, 3) := by decide +kernel
theorem dX8_fewestBreaths_4 : decode cX8_fewestBreaths 4 = .ok (.iconst 0, 1) := by decide +kernel
theorem dX8_fewestBreaths_5 : decode cX8_fewestBreaths 5 = .ok (.iconst 0, 1) := by decide +kernel
theorem dX8_fewestBreaths_6 : decode cX8_fewestBreaths 6 = .ok (.iastore, 1) := by decide +kernel
theorem dX8_fewestBreaths_7 : decode cX8_fewestBreaths 7 = .ok (.aload_n 1, 1) := by decide +kernel
theorem dX8_fewestBreaths_8 : decode cX8_fewestBreaths 8 = .ok (.invokevirtual 119, 3) := by decide +kernel
theorem dX8_fewestBreaths_11 : decode cX8_fewestBreaths 11 = .ok (.bipush 12, 2) := by decide +kernel
theorem dX8_fewestBreaths_13 : decode cX8_fewestBreaths 13 = .ok (.invokestatic 248, 3) := by decide +kernel
theorem dX8_fewestBreaths_16 : decode cX8_fewestBreaths 16 = .ok (.istore_n 3, 1) := by decide +kernel
theorem dX8_fewestBreaths_17 : decode cX8_fewestBreaths 17 = .ok (.iconst 1, 1) := by decide +kernel
theorem dX8_fewestBreaths_18 : decode cX8_fewestBreaths 18 = .ok (.istore 4, 2) := by decide +kernel
theorem dX8_fewestBreaths_20 : decode cX8_fewestBreaths 20 = .ok (.iload 4, 2) := by decide +kernel
theorem dX8_fewestBreaths_22 : decode cX8_fewestBreaths 22 = .ok (.iload_n 3, 1) := by decide +kernel
theorem dX8_fewestBreaths_23 : decode cX8_fewestBreaths 23 = .ok (.if_icmp .gt 121, 3) := by decide +kernel
theorem dX8_fewestBreaths_26 : decode cX8_fewestBreaths 26 = .ok (.aload_n 0, 1) := by decide +kernel
theorem dX8_fewestBreaths_27 : decode cX8_fewestBreaths 27 = .ok (.getfield 67, 3) := by decide +kernel
theorem dX8_fewestBreaths_30 : decode cX8_fewestBreaths 30 = .ok (.iload 4, 2) := by decide +kernel
theorem dX8_fewestBreaths_32 : decode cX8_fewestBreaths 32 = .ok (.bipush (-9), 2) := by decide +kernel
theorem dX8_fewestBreaths_34 : decode cX8_fewestBreaths 34 = .ok (.iastore, 1) := by decide +kernel
theorem dX8_fewestBreaths_35 : decode cX8_fewestBreaths 35 = .ok (.iload 4, 2) := by decide +kernel
theorem dX8_fewestBreaths_37 : decode cX8_fewestBreaths 37 = .ok (.iload_n 3, 1) := by decide +kernel
theorem dX8_fewestBreaths_38 : decode cX8_fewestBreaths 38 = .ok (.if_icmp .ge 21, 3) := by decide +kernel
theorem dX8_fewestBreaths_41 : decode cX8_fewestBreaths 41 = .ok (.aload_n 0, 1) := by decide +kernel
theorem dX8_fewestBreaths_42 : decode cX8_fewestBreaths 42 = .ok (.aload_n 1, 1) := by decide +kernel
theorem dX8_fewestBreaths_43 : decode cX8_fewestBreaths 43 = .ok (.iload 4, 2) := by decide +kernel
theorem dX8_fewestBreaths_45 : decode cX8_fewestBreaths 45 = .ok (.iconst 1, 1) := by decide +kernel
theorem dX8_fewestBreaths_46 : decode cX8_fewestBreaths 46 = .ok (.isub, 1) := by decide +kernel
theorem dX8_fewestBreaths_47 : decode cX8_fewestBreaths 47 = .ok (.invokevirtual 126, 3) := by decide +kernel
theorem dX8_fewestBreaths_50 : decode cX8_fewestBreaths 50 = .ok (.invokevirtual 254, 3) := by decide +kernel
theorem dX8_fewestBreaths_53 : decode cX8_fewestBreaths 53 = .ok (.ifCond .eq 6, 3) := by decide +kernel
theorem dX8_fewestBreaths_56 : decode cX8_fewestBreaths 56 = .ok (.goto 82, 3) := by decide +kernel
theorem dX8_fewestBreaths_59 : decode cX8_fewestBreaths 59 = .ok (.iconst 0, 1) := by decide +kernel
theorem dX8_fewestBreaths_60 : decode cX8_fewestBreaths 60 = .ok (.iload 4, 2) := by decide +kernel
theorem dX8_fewestBreaths_62 : decode cX8_fewestBreaths 62 = .ok (.iload_n 2, 1) := by decide +kernel
theorem dX8_fewestBreaths_63 : decode cX8_fewestBreaths 63 = .ok (.isub, 1) := by decide +kernel
theorem dX8_fewestBreaths_64 : decode cX8_fewestBreaths 64 = .ok (.invokestatic 257, 3) := by decide +kernel
theorem dX8_fewestBreaths_67 : decode cX8_fewestBreaths 67 = .ok (.istore 5, 2) := by decide +kernel
theorem dX8_fewestBreaths_69 : decode cX8_fewestBreaths 69 = .ok (.iload 5, 2) := by decide +kernel
theorem dX8_fewestBreaths_71 : decode cX8_fewestBreaths 71 = .ok (.iload 4, 2) := by decide +kernel
theorem dX8_fewestBreaths_73 : decode cX8_fewestBreaths 73 = .ok (.if_icmp .ge 65, 3) := by decide +kernel
theorem dX8_fewestBreaths_76 : decode cX8_fewestBreaths 76 = .ok (.aload_n 0, 1) := by decide +kernel
theorem dX8_fewestBreaths_77 : decode cX8_fewestBreaths 77 = .ok (.getfield 67, 3) := by decide +kernel
theorem dX8_fewestBreaths_80 : decode cX8_fewestBreaths 80 = .ok (.iload 5, 2) := by decide +kernel
theorem dX8_fewestBreaths_82 : decode cX8_fewestBreaths 82 = .ok (.iaload, 1) := by decide +kernel
theorem dX8_fewestBreaths_83 : decode cX8_fewestBreaths 83 = .ok (.iconst 1, 1) := by decide +kernel
theorem dX8_fewestBreaths_84 : decode cX8_fewestBreaths 84 = .ok (.iadd, 1) := by decide +kernel
theorem dX8_fewestBreaths_85 : decode cX8_fewestBreaths 85 = .ok (.istore 6, 2) := by decide +kernel
theorem dX8_fewestBreaths_87 : decode cX8_fewestBreaths 87 = .ok (.aload_n 0, 1) := by decide +kernel
theorem dX8_fewestBreaths_88 : decode cX8_fewestBreaths 88 = .ok (.getfield 67, 3) := by decide +kernel
theorem dX8_fewestBreaths_91 : decode cX8_fewestBreaths 91 = .ok (.iload 5, 2) := by decide +kernel
theorem dX8_fewestBreaths_93 : decode cX8_fewestBreaths 93 = .ok (.iaload, 1) := by decide +kernel
theorem dX8_fewestBreaths_94 : decode cX8_fewestBreaths 94 = .ok (.bipush (-9), 2) := by decide +kernel
theorem dX8_fewestBreaths_96 : decode cX8_fewestBreaths 96 = .ok (.if_icmp .eq 36, 3) := by decide +kernel
theorem dX8_fewestBreaths_99 : decode cX8_fewestBreaths 99 = .ok (.aload_n 0, 1) := by decide +kernel
theorem dX8_fewestBreaths_100 : decode cX8_fewestBreaths 100 = .ok (.getfield 67, 3) := by decide +kernel
theorem dX8_fewestBreaths_103 : decode cX8_fewestBreaths 103 = .ok (.iload 4, 2) := by decide +kernel
theorem dX8_fewestBreaths_105 : decode cX8_fewestBreaths 105 = .ok (.iaload, 1) := by decide +kernel
theorem dX8_fewestBreaths_106 : decode cX8_fewestBreaths 106 = .ok (.bipush (-9), 2) := by decide +kernel
theorem dX8_fewestBreaths_108 : decode cX8_fewestBreaths 108 = .ok (.if_icmp .eq 15, 3) := by decide +kernel
theorem dX8_fewestBreaths_111 : decode cX8_fewestBreaths 111 = .ok (.iload 6, 2) := by decide +kernel
theorem dX8_fewestBreaths_113 : decode cX8_fewestBreaths 113 = .ok (.aload_n 0, 1) := by decide +kernel
theorem dX8_fewestBreaths_114 : decode cX8_fewestBreaths 114 = .ok (.getfield 67, 3) := by decide +kernel
theorem dX8_fewestBreaths_117 : decode cX8_fewestBreaths 117 = .ok (.iload 4, 2) := by decide +kernel
theorem dX8_fewestBreaths_119 : decode cX8_fewestBreaths 119 = .ok (.iaload, 1) := by decide +kernel
theorem dX8_fewestBreaths_120 : decode cX8_fewestBreaths 120 = .ok (.if_icmp .ge 12, 3) := by decide +kernel
theorem dX8_fewestBreaths_123 : decode cX8_fewestBreaths 123 = .ok (.aload_n 0, 1) := by decide +kernel
theorem dX8_fewestBreaths_124 : decode cX8_fewestBreaths 124 = .ok (.getfield 67, 3) := by decide +kernel
theorem dX8_fewestBreaths_127 : decode cX8_fewestBreaths 127 = .ok (.iload 4, 2) := by decide +kernel
theorem dX8_fewestBreaths_129 : decode cX8_fewestBreaths 129 = .ok (.iload 6, 2) := by decide +kernel
theorem dX8_fewestBreaths_131 : decode cX8_fewestBreaths 131 = .ok (.iastore, 1) := by decide +kernel
theorem dX8_fewestBreaths_132 : decode cX8_fewestBreaths 132 = .ok (.iinc 5 1, 3) := by decide +kernel
theorem dX8_fewestBreaths_135 : decode cX8_fewestBreaths 135 = .ok (.goto (-66), 3) := by decide +kernel
theorem dX8_fewestBreaths_138 : decode cX8_fewestBreaths 138 = .ok (.iinc 4 1, 3) := by decide +kernel
theorem dX8_fewestBreaths_141 : decode cX8_fewestBreaths 141 = .ok (.goto (-121), 3) := by decide +kernel
theorem dX8_fewestBreaths_144 : decode cX8_fewestBreaths 144 = .ok (.aload_n 0, 1) := by decide +kernel
theorem dX8_fewestBreaths_145 : decode cX8_fewestBreaths 145 = .ok (.getfield 67, 3) := by decide +kernel
theorem dX8_fewestBreaths_148 : decode cX8_fewestBreaths 148 = .ok (.iload_n 3, 1) := by decide +kernel
theorem dX8_fewestBreaths_149 : decode cX8_fewestBreaths 149 = .ok (.iaload, 1) := by decide +kernel
theorem dX8_fewestBreaths_150 : decode cX8_fewestBreaths 150 = .ok (.ireturn, 1) := by decide +kernel
set_option maxRecDepth 20000 in
theorem ggX8_isDenial_X8_isWord : GoodIn wsX8_isDenial wsX8_isWord := goodIn_r _ [5] (by decide +kernel) (by decide +kernel)
set_option maxRecDepth 20000 in
theorem gX8_isDenial_X8_isWord : GoodIn wsX8_isDenial (va_wsS RX8 109 yX8_isWord wsX8_isWord) := goodIn_app (goodIn_of _ (by decide +kernel)) ggX8_isDenial_X8_isWord
theorem dX8_isDenial_0 : decode cX8_isDenial 0 = .ok (.iload_n 1, 1) := by decide +kernel
theorem dX8_isDenial_1 : decode cX8_isDenial 1 = .ok (.invokestatic 109, 3) := by decide +kernel
theorem dX8_isDenial_4 : decode cX8_isDenial 4 = .ok (.ifCond .eq 17, 3) := by decide +kernel
theorem dX8_isDenial_7 : decode cX8_isDenial 7 = .ok (.aload_n 0, 1) := by decide +kernel
theorem dX8_isDenial_8 : decode cX8_isDenial 8 = .ok (.getfield 11, 3) := by decide +kernel
theorem dX8_isDenial_11 : decode cX8_isDenial 11 = .ok (.iload_n 1, 1) := by decide +kernel
theorem dX8_isDenial_12 : decode cX8_isDenial 12 = .ok (.iaload, 1) := by decide +kernel
theorem dX8_isDenial_13 : decode cX8_isDenial 13 = .ok (.iconst 1, 1) := by decide +kernel
theorem dX8_isDenial_14 : decode cX8_isDenial 14 = .ok (.if_icmp .lt 7, 3) := by decide +kernel
theorem dX8_isDenial_17 : decode cX8_isDenial 17 = .ok (.iconst 1, 1) := by decide +kernel
theorem dX8_isDenial_18 : decode cX8_isDenial 18 = .ok (.goto 4, 3) := by decide +kernel
theorem dX8_isDenial_21 : decode cX8_isDenial 21 = .ok (.iconst 0, 1) := by decide +kernel
theorem dX8_isDenial_22 : decode cX8_isDenial 22 = .ok (.ireturn, 1) := by decide +kernel
set_option maxRecDepth 20000 in
theorem ggX8_longestPartAt_X2_size : GoodIn wsX8_longestPartAt wsX2_size := goodIn_r _ [9, 10, 25, 26] (by decide +kernel) (by decide +kernel)
set_option maxRecDepth 20000 in
theorem gX8_longestPartAt_X2_size : GoodIn wsX8_longestPartAt (wsV RX8 119 RX2 yX2_size wsX2_size) := goodIn_app (goodIn_of _ (by decide +kernel)) ggX8_longestPartAt_X2_size
set_option maxRecDepth 20000 in
theorem ggX8_longestPartAt_X8_likeOnEnd : GoodIn wsX8_longestPartAt wsX8_likeOnEnd := goodIn_r _ [14, 15, 16, 17, 8, 18, 10, 19, 20, 21, 22, 23, 24, 25, 26] (by decide +kernel) (by decide +kernel)
set_option maxRecDepth 20000 in
theorem gX8_longestPartAt_X8_likeOnEnd : GoodIn wsX8_longestPartAt (va_wsS RX8 260 yX8_likeOnEnd wsX8_likeOnEnd) := goodIn_app (goodIn_of _ (by decide +kernel)) ggX8_longestPartAt_X8_likeOnEnd
theorem dX8_longestPartAt_0 : decode cX8_longestPartAt 0 = .ok (.iconst 0, 1) := by decide +kernel
theorem dX8_longestPartAt_1 : decode cX8_longestPartAt 1 = .ok (.istore_n 3, 1) := by decide +kernel
theorem dX8_longestPartAt_2 : decode cX8_longestPartAt 2 = .ok (.iconst 0, 1) := by decide +kernel
theorem dX8_longestPartAt_3 : decode cX8_longestPartAt 3 = .ok (.istore 4, 2) := by decide +kernel
theorem dX8_longestPartAt_5 : decode cX8_longestPartAt 5 = .ok (.iload 4, 2) := by decide +kernel
theorem dX8_longestPartAt_7 : decode cX8_longestPartAt 7 = .ok (.aload_n 2, 1) := by decide +kernel
theorem dX8_longestPartAt_8 : decode cX8_longestPartAt 8 = .ok (.invokevirtual 119, 3) := by decide +kernel
theorem dX8_longestPartAt_11 : decode cX8_longestPartAt 11 = .ok (.if_icmp .ge 22, 3) := by decide +kernel
theorem dX8_longestPartAt_14 : decode cX8_longestPartAt 14 = .ok (.iload_n 3, 1) := by decide +kernel
theorem dX8_longestPartAt_15 : decode cX8_longestPartAt 15 = .ok (.aload_n 0, 1) := by decide +kernel
theorem dX8_longestPartAt_16 : decode cX8_longestPartAt 16 = .ok (.iload_n 1, 1) := by decide +kernel
theorem dX8_longestPartAt_17 : decode cX8_longestPartAt 17 = .ok (.aload_n 2, 1) := by decide +kernel
theorem dX8_longestPartAt_18 : decode cX8_longestPartAt 18 = .ok (.iload 4, 2) := by decide +kernel
theorem dX8_longestPartAt_20 : decode cX8_longestPartAt 20 = .ok (.invokestatic 260, 3) := by decide +kernel
theorem dX8_longestPartAt_23 : decode cX8_longestPartAt 23 = .ok (.invokestatic 257, 3) := by decide +kernel
theorem dX8_longestPartAt_26 : decode cX8_longestPartAt 26 = .ok (.istore_n 3, 1) := by decide +kernel
theorem dX8_longestPartAt_27 : decode cX8_longestPartAt 27 = .ok (.iinc 4 1, 3) := by decide +kernel
theorem dX8_longestPartAt_30 : decode cX8_longestPartAt 30 = .ok (.goto (-25), 3) := by decide +kernel
theorem dX8_longestPartAt_33 : decode cX8_longestPartAt 33 = .ok (.iload_n 3, 1) := by decide +kernel
theorem dX8_longestPartAt_34 : decode cX8_longestPartAt 34 = .ok (.ireturn, 1) := by decide +kernel
set_option maxRecDepth 20000 in
theorem ggX8_likeOnEnd_X2_has : GoodIn wsX8_likeOnEnd wsX2_has := goodIn_r _ [5, 6, 13, 14] (by decide +kernel) (by decide +kernel)
set_option maxRecDepth 20000 in
theorem gX8_likeOnEnd_X2_has : GoodIn wsX8_likeOnEnd (wsV RX8 123 RX2 yX2_has wsX2_has) := goodIn_app (goodIn_of _ (by decide +kernel)) ggX8_likeOnEnd_X2_has
set_option maxRecDepth 20000 in
theorem ggX8_likeOnEnd_X2_at : GoodIn wsX8_likeOnEnd wsX2_at := goodIn_r _ [10, 11, 12, 2, 3, 4, 5, 6, 13, 14] (by decide +kernel) (by decide +kernel)
set_option maxRecDepth 20000 in
theorem gX8_likeOnEnd_X2_at : GoodIn wsX8_likeOnEnd (wsV RX8 126 RX2 yX2_at wsX2_at) := goodIn_app (goodIn_of _ (by decide +kernel)) ggX8_likeOnEnd_X2_at
theorem dX8_likeOnEnd_0 : decode cX8_likeOnEnd 0 = .ok (.iconst 0, 1) := by decide +kernel
theorem dX8_likeOnEnd_1 : decode cX8_likeOnEnd 1 = .ok (.istore 4, 2) := by decide +kernel
theorem dX8_likeOnEnd_3 : decode cX8_likeOnEnd 3 = .ok (.iload 4, 2) := by decide +kernel
theorem dX8_likeOnEnd_5 : decode cX8_likeOnEnd 5 = .ok (.bipush 12, 2) := by decide +kernel
theorem dX8_likeOnEnd_7 : decode cX8_likeOnEnd 7 = .ok (.if_icmp .ge 42, 3) := by decide +kernel
theorem dX8_likeOnEnd_10 : decode cX8_likeOnEnd 10 = .ok (.aload_n 0, 1) := by decide +kernel
theorem dX8_likeOnEnd_11 : decode cX8_likeOnEnd 11 = .ok (.iload_n 1, 1) := by decide +kernel
theorem dX8_likeOnEnd_12 : decode cX8_likeOnEnd 12 = .ok (.iload 4, 2) := by decide +kernel
theorem dX8_likeOnEnd_14 : decode cX8_likeOnEnd 14 = .ok (.iadd, 1) := by decide +kernel
theorem dX8_likeOnEnd_15 : decode cX8_likeOnEnd 15 = .ok (.invokevirtual 123, 3) := by decide +kernel
theorem dX8_likeOnEnd_18 : decode cX8_likeOnEnd 18 = .ok (.ifCond .eq 22, 3) := by decide +kernel
theorem dX8_likeOnEnd_21 : decode cX8_likeOnEnd 21 = .ok (.aload_n 0, 1) := by decide +kernel
theorem dX8_likeOnEnd_22 : decode cX8_likeOnEnd 22 = .ok (.iload_n 1, 1) := by decide +kernel
theorem dX8_likeOnEnd_23 : decode cX8_likeOnEnd 23 = .ok (.iload 4, 2) := by decide +kernel
theorem dX8_likeOnEnd_25 : decode cX8_likeOnEnd 25 = .ok (.iadd, 1) := by decide +kernel
theorem dX8_likeOnEnd_26 : decode cX8_likeOnEnd 26 = .ok (.invokevirtual 126, 3) := by decide +kernel
theorem dX8_likeOnEnd_29 : decode cX8_likeOnEnd 29 = .ok (.aload_n 2, 1) := by decide +kernel
theorem dX8_likeOnEnd_30 : decode cX8_likeOnEnd 30 = .ok (.iload_n 3, 1) := by decide +kernel
theorem dX8_likeOnEnd_31 : decode cX8_likeOnEnd 31 = .ok (.iload 4, 2) := by decide +kernel
theorem dX8_likeOnEnd_33 : decode cX8_likeOnEnd 33 = .ok (.iadd, 1) := by decide +kernel
theorem dX8_likeOnEnd_34 : decode cX8_likeOnEnd 34 = .ok (.invokevirtual 126, 3) := by decide +kernel
theorem dX8_likeOnEnd_37 : decode cX8_likeOnEnd 37 = .ok (.if_icmp .eq 6, 3) := by decide +kernel
theorem dX8_likeOnEnd_40 : decode cX8_likeOnEnd 40 = .ok (.iload 4, 2) := by decide +kernel
theorem dX8_likeOnEnd_42 : decode cX8_likeOnEnd 42 = .ok (.ireturn, 1) := by decide +kernel
theorem dX8_likeOnEnd_43 : decode cX8_likeOnEnd 43 = .ok (.iinc 4 1, 3) := by decide +kernel
theorem dX8_likeOnEnd_46 : decode cX8_likeOnEnd 46 = .ok (.goto (-43), 3) := by decide +kernel
theorem dX8_likeOnEnd_49 : decode cX8_likeOnEnd 49 = .ok (.bipush 12, 2) := by decide +kernel
theorem dX8_likeOnEnd_51 : decode cX8_likeOnEnd 51 = .ok (.ireturn, 1) := by decide +kernel
theorem dX8_leave_0 : decode cX8_leave 0 = .ok (.aload_n 0, 1) := by decide +kernel
theorem dX8_leave_1 : decode cX8_leave 1 = .ok (.bipush 31, 2) := by decide +kernel
theorem dX8_leave_3 : decode cX8_leave 3 = .ok (.aload_n 0, 1) := by decide +kernel
theorem dX8_leave_4 : decode cX8_leave 4 = .ok (.getfield 74, 3) := by decide +kernel
theorem dX8_leave_7 : decode cX8_leave 7 = .ok (.imul, 1) := by decide +kernel
theorem dX8_leave_8 : decode cX8_leave 8 = .ok (.iload_n 1, 1) := by decide +kernel
theorem dX8_leave_9 : decode cX8_leave 9 = .ok (.iadd, 1) := by decide +kernel
theorem dX8_leave_10 : decode cX8_leave 10 = .ok (.putfield 74, 3) := by decide +kernel
theorem dX8_leave_13 : decode cX8_leave 13 = .ok (.return_, 1) := by decide +kernel
set_option maxRecDepth 20000 in
theorem ggX8_wordTells_X8_leave : GoodIn wsX8_wordTells wsX8_leave := goodIn_r _ [6, 7, 20, 21, 22, 23, 24, 25, 26, 27, 28, 29, 30, 31, 32] (by decide +kernel) (by decide +kernel)
set_option maxRecDepth 20000 in
theorem gX8_wordTells_X8_leave : GoodIn wsX8_wordTells (wsV RX8 264 RX8 yX8_leave wsX8_leave) := goodIn_app (goodIn_of _ (by decide +kernel)) ggX8_wordTells_X8_leave
set_option maxRecDepth 20000 in
theorem ggX8_wordTells_X8_cryOf : GoodIn wsX8_wordTells wsX8_cryOf := goodIn_r _ [11, 1, 12, 20, 21, 22, 23, 24, 25, 26, 27, 28, 29, 30, 31, 32] (by decide +kernel) (by decide +kernel)
set_option maxRecDepth 20000 in
theorem gX8_wordTells_X8_cryOf : GoodIn wsX8_wordTells (wsV RX8 115 RX8 yX8_cryOf wsX8_cryOf) := goodIn_app (goodIn_of _ (by decide +kernel)) ggX8_wordTells_X8_cryOf
set_option maxRecDepth 20000 in
theorem ggX8_wordTells_X2_hasWord : GoodIn wsX8_wordTells wsX2_hasWord := goodIn_r _ [17, 18, 19, 33, 34] (by decide +kernel) (by decide +kernel)
set_option maxRecDepth 20000 in
theorem gX8_wordTells_X2_hasWord : GoodIn wsX8_wordTells (wsV RX8 268 RX2 yX2_hasWord wsX2_hasWord) := goodIn_app (goodIn_of _ (by decide +kernel)) ggX8_wordTells_X2_hasWord
theorem dX8_wordTells_0 : decode cX8_wordTells 0 = .ok (.aload_n 0, 1) := by decide +kernel
theorem dX8_wordTells_1 : decode cX8_wordTells 1 = .ok (.iconst 1, 1) := by decide +kernel
theorem dX8_wordTells_2 : decode cX8_wordTells 2 = .ok (.invokevirtual 264, 3) := by decide +kernel
theorem dX8_wordTells_5 : decode cX8_wordTells 5 = .ok (.iconst 0, 1) := by decide +kernel
theorem dX8_wordTells_6 : decode cX8_wordTells 6 = .ok (.istore_n 2, 1) := by decide +kernel
theorem dX8_wordTells_7 : decode cX8_wordTells 7 = .ok (.iconst 0, 1) := by decide +kernel
theorem dX8_wordTells_8 : decode cX8_wordTells 8 = .ok (.istore_n 3, 1) := by decide +kernel
theorem dX8_wordTells_9 : decode cX8_wordTells 9 = .ok (.iload_n 3, 1) := by decide +kernel
theorem dX8_wordTells_10 : decode cX8_wordTells 10 = .ok (.aload_n 0, 1) := by decide +kernel
theorem dX8_wordTells_11 : decode cX8_wordTells 11 = .ok (.getfield 70, 3) := by decide +kernel
theorem dX8_wordTells_14 : decode cX8_wordTells 14 = .ok (.if_icmp .ge 33, 3) := by decide +kernel
theorem dX8_wordTells_17 : decode cX8_wordTells 17 = .ok (.aload_n 0, 1) := by decide +kernel
theorem dX8_wordTells_18 : decode cX8_wordTells 18 = .ok (.iload_n 3, 1) := by decide +kernel
theorem dX8_wordTells_19 : decode cX8_wordTells 19 = .ok (.invokevirtual 115, 3) := by decide +kernel
theorem dX8_wordTells_22 : decode cX8_wordTells 22 = .ok (.astore 4, 2) := by decide +kernel
theorem dX8_wordTells_24 : decode cX8_wordTells 24 = .ok (.aload 4, 2) := by decide +kernel
theorem dX8_wordTells_26 : decode cX8_wordTells 26 = .ok (.ifnull 15, 3) := by decide +kernel
theorem dX8_wordTells_29 : decode cX8_wordTells 29 = .ok (.aload 4, 2) := by decide +kernel
theorem dX8_wordTells_31 : decode cX8_wordTells 31 = .ok (.iload_n 1, 1) := by decide +kernel
theorem dX8_wordTells_32 : decode cX8_wordTells 32 = .ok (.invokevirtual 268, 3) := by decide +kernel
theorem dX8_wordTells_35 : decode cX8_wordTells 35 = .ok (.ifCond .eq 6, 3) := by decide +kernel
theorem dX8_wordTells_38 : decode cX8_wordTells 38 = .ok (.iinc 2 1, 3) := by decide +kernel
theorem dX8_wordTells_41 : decode cX8_wordTells 41 = .ok (.iinc 3 1, 3) := by decide +kernel
theorem dX8_wordTells_44 : decode cX8_wordTells 44 = .ok (.goto (-35), 3) := by decide +kernel
theorem dX8_wordTells_47 : decode cX8_wordTells 47 = .ok (.iload_n 2, 1) := by decide +kernel
theorem dX8_wordTells_48 : decode cX8_wordTells 48 = .ok (.ireturn, 1) := by decide +kernel
set_option maxRecDepth 20000 in
theorem ggX8_denialTells_X8_leave : GoodIn wsX8_denialTells wsX8_leave := goodIn_r _ [5, 6, 24, 25, 26, 27, 28, 29, 30, 31, 32, 33, 34, 35, 36] (by decide +kernel) (by decide +kernel)
set_option maxRecDepth 20000 in
theorem gX8_denialTells_X8_leave : GoodIn wsX8_denialTells (wsV RX8 264 RX8 yX8_leave wsX8_leave) := goodIn_app (goodIn_of _ (by decide +kernel)) ggX8_denialTells_X8_leave
set_option maxRecDepth 20000 in
theorem ggX8_denialTells_X8_wordTells : GoodIn wsX8_denialTells wsX8_wordTells := goodIn_r _ [10, 11, 1, 2, 3, 4, 5, 6, 12, 13, 14, 15, 16, 17, 18, 19, 20, 21, 22, 23, 24, 25, 26, 27, 28, 29, 30, 31, 32, 33, 34, 35, 36, 37, 38] (by decide +kernel) (by decide +kernel)
set_option maxRecDepth 20000 in
theorem gX8_denialTells_X8_wordTells : GoodIn wsX8_denialTells (wsV RX8 230 RX8 yX8_wordTells wsX8_wordTells) := goodIn_app (goodIn_of _ (by decide +kernel)) ggX8_denialTells_X8_wordTells
theorem dX8_denialTells_0 : decode cX8_denialTells 0 = .ok (.aload_n 0, 1) := by decide +kernel
theorem dX8_denialTells_1 : decode cX8_denialTells 1 = .ok (.iconst 2, 1) := by decide +kernel
theorem dX8_denialTells_2 : decode cX8_denialTells 2 = .ok (.invokevirtual 264, 3) := by decide +kernel
theorem dX8_denialTells_5 : decode cX8_denialTells 5 = .ok (.aload_n 0, 1) := by decide +kernel
theorem dX8_denialTells_6 : decode cX8_denialTells 6 = .ok (.iload_n 1, 1) := by decide +kernel
theorem dX8_denialTells_7 : decode cX8_denialTells 7 = .ok (.invokevirtual 230, 3) := by decide +kernel
theorem dX8_denialTells_10 : decode cX8_denialTells 10 = .ok (.bipush 100, 2) := by decide +kernel
theorem dX8_denialTells_12 : decode cX8_denialTells 12 = .ok (.iadd, 1) := by decide +kernel
theorem dX8_denialTells_13 : decode cX8_denialTells 13 = .ok (.ireturn, 1) := by decide +kernel
set_option maxRecDepth 20000 in
theorem ggX8_doubtTells_X8_leave : GoodIn wsX8_doubtTells wsX8_leave := goodIn_r _ [5, 6, 28, 29, 30, 31, 32, 33, 34, 35, 36, 37, 38, 39, 40] (by decide +kernel) (by decide +kernel)
set_option maxRecDepth 20000 in
theorem gX8_doubtTells_X8_leave : GoodIn wsX8_doubtTells (wsV RX8 264 RX8 yX8_leave wsX8_leave) := goodIn_app (goodIn_of _ (by decide +kernel)) ggX8_doubtTells_X8_leave
set_option maxRecDepth 20000 in
theorem ggX8_doubtTells_X8_denialTells : GoodIn wsX8_doubtTells wsX8_denialTells := goodIn_r _ [10, 1, 2, 3, 4, 5, 6, 11, 12, 13, 14, 15, 16, 17, 18, 19, 20, 21, 22, 23, 24, 25, 26, 27, 28, 29, 30, 31, 32, 33, 34, 35, 36, 37, 38, 39, 40, 41, 42] (by decide +kernel) (by decide +kernel)
set_option maxRecDepth 20000 in
theorem gX8_doubtTells_X8_denialTells : GoodIn wsX8_doubtTells (wsV RX8 227 RX8 yX8_denialTells wsX8_denialTells) := goodIn_app (goodIn_of _ (by decide +kernel)) ggX8_doubtTells_X8_denialTells
set_option maxRecDepth 20000 in
theorem ggX8_doubtTells_X8_wordTells : GoodIn wsX8_doubtTells wsX8_wordTells := goodIn_r _ [14, 15, 1, 2, 3, 4, 5, 6, 16, 17, 18, 19, 20, 21, 22, 23, 24, 25, 26, 27, 28, 29, 30, 31, 32, 33, 34, 35, 36, 37, 38, 39, 40, 41, 42] (by decide +kernel) (by decide +kernel)
set_option maxRecDepth 20000 in
theorem gX8_doubtTells_X8_wordTells : GoodIn wsX8_doubtTells (wsV RX8 230 RX8 yX8_wordTells wsX8_wordTells) := goodIn_app (goodIn_of _ (by decide +kernel)) ggX8_doubtTells_X8_wordTells
theorem dX8_doubtTells_0 : decode cX8_doubtTells 0 = .ok (.aload_n 0, 1) := by decide +kernel
theorem dX8_doubtTells_1 : decode cX8_doubtTells 1 = .ok (.iconst 3, 1) := by decide +kernel
theorem dX8_doubtTells_2 : decode cX8_doubtTells 2 = .ok (.invokevirtual 264, 3) := by decide +kernel
theorem dX8_doubtTells_5 : decode cX8_doubtTells 5 = .ok (.aload_n 0, 1) := by decide +kernel
theorem dX8_doubtTells_6 : decode cX8_doubtTells 6 = .ok (.iload_n 1, 1) := by decide +kernel
theorem dX8_doubtTells_7 : decode cX8_doubtTells 7 = .ok (.invokevirtual 227, 3) := by decide +kernel
theorem dX8_doubtTells_10 : decode cX8_doubtTells 10 = .ok (.istore_n 2, 1) := by decide +kernel
theorem dX8_doubtTells_11 : decode cX8_doubtTells 11 = .ok (.iload_n 2, 1) := by decide +kernel
theorem dX8_doubtTells_12 : decode cX8_doubtTells 12 = .ok (.aload_n 0, 1) := by decide +kernel
theorem dX8_doubtTells_13 : decode cX8_doubtTells 13 = .ok (.iload_n 1, 1) := by decide +kernel
theorem dX8_doubtTells_14 : decode cX8_doubtTells 14 = .ok (.invokevirtual 230, 3) := by decide +kernel
theorem dX8_doubtTells_17 : decode cX8_doubtTells 17 = .ok (.iadd, 1) := by decide +kernel
theorem dX8_doubtTells_18 : decode cX8_doubtTells 18 = .ok (.ireturn, 1) := by decide +kernel
set_option maxRecDepth 20000 in
theorem ggX8_wordSings_X8_leave : GoodIn wsX8_wordSings wsX8_leave := goodIn_r _ [5, 6, 7, 8, 9, 10, 11, 12, 13, 14, 15, 16, 17, 18, 19] (by decide +kernel) (by decide +kernel)
set_option maxRecDepth 20000 in
theorem gX8_wordSings_X8_leave : GoodIn wsX8_wordSings (wsV RX8 264 RX8 yX8_leave wsX8_leave) := goodIn_app (goodIn_of _ (by decide +kernel)) ggX8_wordSings_X8_leave
theorem dX8_wordSings_0 : decode cX8_wordSings 0 = .ok (.aload_n 0, 1) := by decide +kernel
theorem dX8_wordSings_1 : decode cX8_wordSings 1 = .ok (.iconst 4, 1) := by decide +kernel
theorem dX8_wordSings_2 : decode cX8_wordSings 2 = .ok (.invokevirtual 264, 3) := by decide +kernel
theorem dX8_wordSings_5 : decode cX8_wordSings 5 = .ok (.iload_n 1, 1) := by decide +kernel
theorem dX8_wordSings_6 : decode cX8_wordSings 6 = .ok (.ireturn, 1) := by decide +kernel
set_option maxRecDepth 20000 in
theorem ggX8_doubtSings_X8_leave : GoodIn wsX8_doubtSings wsX8_leave := goodIn_r _ [5, 6, 7, 8, 9, 10, 11, 12, 13, 14, 15, 16, 17, 18, 19] (by decide +kernel) (by decide +kernel)
set_option maxRecDepth 20000 in
theorem gX8_doubtSings_X8_leave : GoodIn wsX8_doubtSings (wsV RX8 264 RX8 yX8_leave wsX8_leave) := goodIn_app (goodIn_of _ (by decide +kernel)) ggX8_doubtSings_X8_leave
theorem dX8_doubtSings_0 : decode cX8_doubtSings 0 = .ok (.aload_n 0, 1) := by decide +kernel
theorem dX8_doubtSings_1 : decode cX8_doubtSings 1 = .ok (.iconst 5, 1) := by decide +kernel
theorem dX8_doubtSings_2 : decode cX8_doubtSings 2 = .ok (.invokevirtual 264, 3) := by decide +kernel
theorem dX8_doubtSings_5 : decode cX8_doubtSings 5 = .ok (.bipush 40, 2) := by decide +kernel
theorem dX8_doubtSings_7 : decode cX8_doubtSings 7 = .ok (.ireturn, 1) := by decide +kernel
end
section
theorem dX9_init_0 : decode cX9_init 0 = .ok (.aload_n 0, 1) := by decide +kernel
theorem dX9_init_1 : decode cX9_init 1 = .ok (.invokespecial 1, 3) := by decide +kernel
theorem dX9_init_4 : decode cX9_init 4 = .ok (.aload_n 0, 1) := by decide +kernel
theorem dX9_init_5 : decode cX9_init 5 = .ok (.iconst 4, 1) := by decide +kernel
theorem dX9_init_6 : decode cX9_init 6 = .ok (.newarray .int, 2) := by decide +kernel
theorem dX9_init_8 : decode cX9_init 8 = .ok (.dup, 1) := by decide +kernel
theorem dX9_init_9 : decode cX9_init 9 = .ok (.iconst 0, 1) := by decide +kernel
theorem dX9_init_10 : decode cX9_init 10 = .ok (.bipush (-9), 2) := by decide +kernel
theorem dX9_init_12 : decode cX9_init 12 = .ok (.iastore, 1) := by decide +kernel
theorem dX9_init_13 : decode cX9_init 13 = .ok (.dup, 1) := by decide +kernel
theorem dX9_init_14 : decode cX9_init 14 = .ok (.iconst 1, 1) := by decide +kernel
theorem dX9_init_15 : decode cX9_init 15 = .ok (.bipush (-9), 2) := by decide +kernel
theorem dX9_init_17 : decode cX9_init 17 = .ok (.iastore, 1) := by decide +kernel
theorem dX9_init_18 : decode cX9_init 18 = .ok (.dup, 1) := by decide +kernel
theorem dX9_init_19 : decode cX9_init 19 = .ok (.iconst 2, 1) := by decide +kernel
theorem dX9_init_20 : decode cX9_init 20 = .ok (.bipush (-9), 2) := by decide +kernel
theorem dX9_init_22 : decode cX9_init 22 = .ok (.iastore, 1) := by decide +kernel
theorem dX9_init_23 : decode cX9_init 23 = .ok (.dup, 1) := by decide +kernel
theorem dX9_init_24 : decode cX9_init 24 = .ok (.iconst 3, 1) := by decide +kernel
theorem dX9_init_25 : decode cX9_init 25 = .ok (.bipush (-9), 2) := by decide +kernel
theorem dX9_init_27 : decode cX9_init 27 = .ok (.iastore, 1) := by decide +kernel
theorem dX9_init_28 : decode cX9_init 28 = .ok (.putfield 9, 3) := by decide +kernel
theorem dX9_init_31 : decode cX9_init 31 = .ok (.aload_n 0, 1) := by decide +kernel
theorem dX9_init_32 : decode cX9_init 32 = .ok (.iconst 4, 1) := by decide +kernel
theorem dX9_init_33 : decode cX9_init 33 = .ok (.newarray .int, 2) := by decide +kernel
theorem dX9_init_35 : decode cX9_init 35 = .ok (.putfield 13, 3) := by decide +kernel
theorem dX9_init_38 : decode cX9_init 38 = .ok (.aload_n 0, 1) := by decide +kernel
theorem dX9_init_39 : decode cX9_init 39 = .ok (.sipush 320, 3) := by decide +kernel
theorem dX9_init_42 : decode cX9_init 42 = .ok (.newarray .int, 2) := by decide +kernel
theorem dX9_init_44 : decode cX9_init 44 = .ok (.putfield 16, 3) := by decide +kernel
theorem dX9_init_47 : decode cX9_init 47 = .ok (.aload_n 0, 1) := by decide +kernel
theorem dX9_init_48 : decode cX9_init 48 = .ok (.bipush 8, 2) := by decide +kernel
theorem dX9_init_50 : decode cX9_init 50 = .ok (.newarray .int, 2) := by decide +kernel
theorem dX9_init_52 : decode cX9_init 52 = .ok (.putfield 19, 3) := by decide +kernel
theorem dX9_init_55 : decode cX9_init 55 = .ok (.aload_n 0, 1) := by decide +kernel
theorem dX9_init_56 : decode cX9_init 56 = .ok (.bipush 6, 2) := by decide +kernel
theorem dX9_init_58 : decode cX9_init 58 = .ok (.newarray .int, 2) := by decide +kernel
theorem dX9_init_60 : decode cX9_init 60 = .ok (.putfield 22, 3) := by decide +kernel
theorem dX9_init_63 : decode cX9_init 63 = .ok (.aload_n 0, 1) := by decide +kernel
theorem dX9_init_64 : decode cX9_init 64 = .ok (.bipush 84, 2) := by decide +kernel
theorem dX9_init_66 : decode cX9_init 66 = .ok (.newarray .int, 2) := by decide +kernel
theorem dX9_init_68 : decode cX9_init 68 = .ok (.putfield 25, 3) := by decide +kernel
theorem dX9_init_71 : decode cX9_init 71 = .ok (.aload_n 0, 1) := by decide +kernel
theorem dX9_init_72 : decode cX9_init 72 = .ok (.bipush 6, 2) := by decide +kernel
theorem dX9_init_74 : decode cX9_init 74 = .ok (.newarray .int, 2) := by decide +kernel
theorem dX9_init_76 : decode cX9_init 76 = .ok (.putfield 28, 3) := by decide +kernel
theorem dX9_init_79 : decode cX9_init 79 = .ok (.aload_n 0, 1) := by decide +kernel
theorem dX9_init_80 : decode cX9_init 80 = .ok (.bipush 84, 2) := by decide +kernel
theorem dX9_init_82 : decode cX9_init 82 = .ok (.newarray .int, 2) := by decide +kernel
theorem dX9_init_84 : decode cX9_init 84 = .ok (.putfield 31, 3) := by decide +kernel
theorem dX9_init_87 : decode cX9_init 87 = .ok (.aload_n 0, 1) := by decide +kernel
theorem dX9_init_88 : decode cX9_init 88 = .ok (.bipush 12, 2) := by decide +kernel
theorem dX9_init_90 : decode cX9_init 90 = .ok (.newarray .int, 2) := by decide +kernel
theorem dX9_init_92 : decode cX9_init 92 = .ok (.putfield 34, 3) := by decide +kernel
theorem dX9_init_95 : decode cX9_init 95 = .ok (.aload_n 0, 1) := by decide +kernel
theorem dX9_init_96 : decode cX9_init 96 = .ok (.bipush 12, 2) := by decide +kernel
theorem dX9_init_98 : decode cX9_init 98 = .ok (.newarray .int, 2) := by decide +kernel
theorem dX9_init_100 : decode cX9_init 100 = .ok (.putfield 37, 3) := by decide +kernel
theorem dX9_init_103 : decode cX9_init 103 = .ok (.aload_n 0, 1) := by decide +kernel
theorem dX9_init_104 : decode cX9_init 104 = .ok (.bipush 14, 2) := by decide +kernel
theorem dX9_init_106 : decode cX9_init 106 = .ok (.newarray .int, 2) := by decide +kernel
theorem dX9_init_108 : decode cX9_init 108 = .ok (.putfield 40, 3) := by decide +kernel
theorem dX9_init_111 : decode cX9_init 111 = .ok (.aload_n 0, 1) := by decide +kernel
theorem dX9_init_112 : decode cX9_init 112 = .ok (.sipush 169, 3) := by decide +kernel
theorem dX9_init_115 : decode cX9_init 115 = .ok (.newarray .long, 2) := by decide +kernel
theorem dX9_init_117 : decode cX9_init 117 = .ok (.putfield 43, 3) := by decide +kernel
theorem dX9_init_120 : decode cX9_init 120 = .ok (.aload_n 0, 1) := by decide +kernel
theorem dX9_init_121 : decode cX9_init 121 = .ok (.sipush 169, 3) := by decide +kernel
theorem dX9_init_124 : decode cX9_init 124 = .ok (.newarray .int, 2) := by decide +kernel
theorem dX9_init_126 : decode cX9_init 126 = .ok (.putfield 47, 3) := by decide +kernel
theorem dX9_init_129 : decode cX9_init 129 = .ok (.aload_n 0, 1) := by decide +kernel
theorem dX9_init_130 : decode cX9_init 130 = .ok (.sipush 169, 3) := by decide +kernel
theorem dX9_init_133 : decode cX9_init 133 = .ok (.newarray .long, 2) := by decide +kernel
theorem dX9_init_135 : decode cX9_init 135 = .ok (.putfield 50, 3) := by decide +kernel
theorem dX9_init_138 : decode cX9_init 138 = .ok (.aload_n 0, 1) := by decide +kernel
theorem dX9_init_139 : decode cX9_init 139 = .ok (.sipush 2197, 3) := by decide +kernel
theorem dX9_init_142 : decode cX9_init 142 = .ok (.newarray .int, 2) := by decide +kernel
theorem dX9_init_144 : decode cX9_init 144 = .ok (.putfield 53, 3) := by decide +kernel
theorem dX9_init_147 : decode cX9_init 147 = .ok (.aload_n 0, 1) := by decide +kernel
theorem dX9_init_148 : decode cX9_init 148 = .ok (.sipush 169, 3) := by decide +kernel
theorem dX9_init_151 : decode cX9_init 151 = .ok (.newarray .long, 2) := by decide +kernel
theorem dX9_init_153 : decode cX9_init 153 = .ok (.putfield 56, 3) := by decide +kernel
theorem dX9_init_156 : decode cX9_init 156 = .ok (.aload_n 0, 1) := by decide +kernel
theorem dX9_init_157 : decode cX9_init 157 = .ok (.sipush 169, 3) := by decide +kernel
theorem dX9_init_160 : decode cX9_init 160 = .ok (.newarray .long, 2) := by decide +kernel
theorem dX9_init_162 : decode cX9_init 162 = .ok (.putfield 59, 3) := by decide +kernel
theorem dX9_init_165 : decode cX9_init 165 = .ok (.aload_n 0, 1) := by decide +kernel
theorem dX9_init_166 : decode cX9_init 166 = .ok (.bipush 13, 2) := by decide +kernel
theorem dX9_init_168 : decode cX9_init 168 = .ok (.newarray .int, 2) := by decide +kernel
theorem dX9_init_170 : decode cX9_init 170 = .ok (.putfield 62, 3) := by decide +kernel
theorem dX9_init_173 : decode cX9_init 173 = .ok (.return_, 1) := by decide +kernel
theorem dX9_fails_0 : decode cX9_fails 0 = .ok (.aload_n 0, 1) := by decide +kernel
theorem dX9_fails_1 : decode cX9_fails 1 = .ok (.iload_n 1, 1) := by decide +kernel
theorem dX9_fails_2 : decode cX9_fails 2 = .ok (.putfield 65, 3) := by decide +kernel
theorem dX9_fails_5 : decode cX9_fails 5 = .ok (.bipush (-10), 2) := by decide +kernel
theorem dX9_fails_7 : decode cX9_fails 7 = .ok (.iload_n 1, 1) := by decide +kernel
theorem dX9_fails_8 : decode cX9_fails 8 = .ok (.isub, 1) := by decide +kernel
theorem dX9_fails_9 : decode cX9_fails 9 = .ok (.ireturn, 1) := by decide +kernel
theorem dX9_lost_0 : decode cX9_lost 0 = .ok (.aload_n 0, 1) := by decide +kernel
theorem dX9_lost_1 : decode cX9_lost 1 = .ok (.iload_n 1, 1) := by decide +kernel
theorem dX9_lost_2 : decode cX9_lost 2 = .ok (.putfield 65, 3) := by decide +kernel
theorem dX9_lost_5 : decode cX9_lost 5 = .ok (.ldc2_w 69, 3) := by decide +kernel
theorem dX9_lost_8 : decode cX9_lost 8 = .ok (.lreturn, 1) := by decide +kernel
theorem dX9_inside_0 : decode cX9_inside 0 = .ok (.iload_n 0, 1) := by decide +kernel
theorem dX9_inside_1 : decode cX9_inside 1 = .ok (.iload_n 1, 1) := by decide +kernel
theorem dX9_inside_2 : decode cX9_inside 2 = .ok (.if_icmp .lt 12, 3) := by decide +kernel
theorem dX9_inside_5 : decode cX9_inside 5 = .ok (.iload_n 0, 1) := by decide +kernel
theorem dX9_inside_6 : decode cX9_inside 6 = .ok (.iload_n 2, 1) := by decide +kernel
theorem dX9_inside_7 : decode cX9_inside 7 = .ok (.if_icmp .gt 7, 3) := by decide +kernel
theorem dX9_inside_10 : decode cX9_inside 10 = .ok (.iconst 1, 1) := by decide +kernel
theorem dX9_inside_11 : decode cX9_inside 11 = .ok (.goto 4, 3) := by decide +kernel
theorem dX9_inside_14 : decode cX9_inside 14 = .ok (.iconst 0, 1) := by decide +kernel
theorem dX9_inside_15 : decode cX9_inside 15 = .ok (.ireturn, 1) := by decide +kernel
set_option maxRecDepth 20000 in
theorem ggX9_isSheet_X9_inside : GoodIn wsX9_isSheet wsX9_inside := goodIn_r _ [4] (by decide +kernel) (by decide +kernel)
set_option maxRecDepth 20000 in
theorem gX9_isSheet_X9_inside : GoodIn wsX9_isSheet (va_wsS RX9 71 yX9_inside wsX9_inside) := goodIn_app (goodIn_of _ (by decide +kernel)) ggX9_isSheet_X9_inside
theorem dX9_isSheet_0 : decode cX9_isSheet 0 = .ok (.iload_n 0, 1) := by decide +kernel
theorem dX9_isSheet_1 : decode cX9_isSheet 1 = .ok (.iconst 0, 1) := by decide +kernel
theorem dX9_isSheet_2 : decode cX9_isSheet 2 = .ok (.iconst 3, 1) := by decide +kernel
theorem dX9_isSheet_3 : decode cX9_isSheet 3 = .ok (.invokestatic 71, 3) := by decide +kernel
theorem dX9_isSheet_6 : decode cX9_isSheet 6 = .ok (.ireturn, 1) := by decide +kernel
set_option maxRecDepth 20000 in
theorem ggX9_isSort_X9_inside : GoodIn wsX9_isSort wsX9_inside := goodIn_r _ [4] (by decide +kernel) (by decide +kernel)
set_option maxRecDepth 20000 in
theorem gX9_isSort_X9_inside : GoodIn wsX9_isSort (va_wsS RX9 71 yX9_inside wsX9_inside) := goodIn_app (goodIn_of _ (by decide +kernel)) ggX9_isSort_X9_inside
theorem dX9_isSort_0 : decode cX9_isSort 0 = .ok (.iload_n 0, 1) := by decide +kernel
theorem dX9_isSort_1 : decode cX9_isSort 1 = .ok (.iconst 0, 1) := by decide +kernel
theorem dX9_isSort_2 : decode cX9_isSort 2 = .ok (.iconst 2, 1) := by decide +kernel
theorem dX9_isSort_3 : decode cX9_isSort 3 = .ok (.invokestatic 71, 3) := by decide +kernel
theorem dX9_isSort_6 : decode cX9_isSort 6 = .ok (.ireturn, 1) := by decide +kernel
theorem dX9_against_0 : decode cX9_against 0 = .ok (.aload_n 0, 1) := by decide +kernel
theorem dX9_against_1 : decode cX9_against 1 = .ok (.getfield 9, 3) := by decide +kernel
theorem dX9_against_4 : decode cX9_against 4 = .ok (.iload_n 1, 1) := by decide +kernel
theorem dX9_against_5 : decode cX9_against 5 = .ok (.iaload, 1) := by decide +kernel
theorem dX9_against_6 : decode cX9_against 6 = .ok (.bipush (-9), 2) := by decide +kernel
theorem dX9_against_8 : decode cX9_against 8 = .ok (.if_icmp .eq 15, 3) := by decide +kernel
theorem dX9_against_11 : decode cX9_against 11 = .ok (.aload_n 0, 1) := by decide +kernel
theorem dX9_against_12 : decode cX9_against 12 = .ok (.getfield 9, 3) := by decide +kernel
theorem dX9_against_15 : decode cX9_against 15 = .ok (.iload_n 1, 1) := by decide +kernel
theorem dX9_against_16 : decode cX9_against 16 = .ok (.iaload, 1) := by decide +kernel
theorem dX9_against_17 : decode cX9_against 17 = .ok (.iload_n 2, 1) := by decide +kernel
theorem dX9_against_18 : decode cX9_against 18 = .ok (.if_icmp .eq 5, 3) := by decide +kernel
theorem dX9_against_21 : decode cX9_against 21 = .ok (.iconst 2, 1) := by decide +kernel
theorem dX9_against_22 : decode cX9_against 22 = .ok (.ireturn, 1) := by decide +kernel
theorem dX9_against_23 : decode cX9_against 23 = .ok (.aload_n 0, 1) := by decide +kernel
theorem dX9_against_24 : decode cX9_against 24 = .ok (.getfield 9, 3) := by decide +kernel
theorem dX9_against_27 : decode cX9_against 27 = .ok (.iload_n 1, 1) := by decide +kernel
theorem dX9_against_28 : decode cX9_against 28 = .ok (.iaload, 1) := by decide +kernel
theorem dX9_against_29 : decode cX9_against 29 = .ok (.bipush (-9), 2) := by decide +kernel
theorem dX9_against_31 : decode cX9_against 31 = .ok (.if_icmp .ne 5, 3) := by decide +kernel
theorem dX9_against_34 : decode cX9_against 34 = .ok (.iconst 1, 1) := by decide +kernel
theorem dX9_against_35 : decode cX9_against 35 = .ok (.ireturn, 1) := by decide +kernel
theorem dX9_against_36 : decode cX9_against 36 = .ok (.iload 4, 2) := by decide +kernel
theorem dX9_against_38 : decode cX9_against 38 = .ok (.ifCond .ge 5, 3) := by decide +kernel
theorem dX9_against_41 : decode cX9_against 41 = .ok (.iconst 4, 1) := by decide +kernel
theorem dX9_against_42 : decode cX9_against 42 = .ok (.ireturn, 1) := by decide +kernel
theorem dX9_against_43 : decode cX9_against 43 = .ok (.iload_n 3, 1) := by decide +kernel
theorem dX9_against_44 : decode cX9_against 44 = .ok (.ifCond .lt 26, 3) := by decide +kernel
theorem dX9_against_47 : decode cX9_against 47 = .ok (.iload_n 3, 1) := by decide +kernel
theorem dX9_against_48 : decode cX9_against 48 = .ok (.aload_n 0, 1) := by decide +kernel
theorem dX9_against_49 : decode cX9_against 49 = .ok (.getfield 13, 3) := by decide +kernel
theorem dX9_against_52 : decode cX9_against 52 = .ok (.iload_n 1, 1) := by decide +kernel
theorem dX9_against_53 : decode cX9_against 53 = .ok (.iaload, 1) := by decide +kernel
theorem dX9_against_54 : decode cX9_against 54 = .ok (.if_icmp .gt 16, 3) := by decide +kernel
theorem dX9_against_57 : decode cX9_against 57 = .ok (.iload 4, 2) := by decide +kernel
theorem dX9_against_59 : decode cX9_against 59 = .ok (.aload_n 0, 1) := by decide +kernel
theorem dX9_against_60 : decode cX9_against 60 = .ok (.getfield 13, 3) := by decide +kernel
theorem dX9_against_63 : decode cX9_against 63 = .ok (.iload_n 1, 1) := by decide +kernel
theorem dX9_against_64 : decode cX9_against 64 = .ok (.iaload, 1) := by decide +kernel
theorem dX9_against_65 : decode cX9_against 65 = .ok (.iload_n 3, 1) := by decide +kernel
theorem dX9_against_66 : decode cX9_against 66 = .ok (.isub, 1) := by decide +kernel
theorem dX9_against_67 : decode cX9_against 67 = .ok (.if_icmp .le 7, 3) := by decide +kernel
theorem dX9_against_70 : decode cX9_against 70 = .ok (.iconst 3, 1) := by decide +kernel
theorem dX9_against_71 : decode cX9_against 71 = .ok (.goto 4, 3) := by decide +kernel
theorem dX9_against_74 : decode cX9_against 74 = .ok (.iconst 0, 1) := by decide +kernel
theorem dX9_against_75 : decode cX9_against 75 = .ok (.ireturn, 1) := by decide +kernel
theorem dX9_isDay_0 : decode cX9_isDay 0 = .ok (.iload_n 1, 1) := by decide +kernel
theorem dX9_isDay_1 : decode cX9_isDay 1 = .ok (.ifCond .lt 15, 3) := by decide +kernel
theorem dX9_isDay_4 : decode cX9_isDay 4 = .ok (.iload_n 1, 1) := by decide +kernel
theorem dX9_isDay_5 : decode cX9_isDay 5 = .ok (.aload_n 0, 1) := by decide +kernel
theorem dX9_isDay_6 : decode cX9_isDay 6 = .ok (.getfield 75, 3) := by decide +kernel
theorem dX9_isDay_9 : decode cX9_isDay 9 = .ok (.if_icmp .ge 7, 3) := by decide +kernel
theorem dX9_isDay_12 : decode cX9_isDay 12 = .ok (.iconst 1, 1) := by decide +kernel
theorem dX9_isDay_13 : decode cX9_isDay 13 = .ok (.goto 4, 3) := by decide +kernel
theorem dX9_isDay_16 : decode cX9_isDay 16 = .ok (.iconst 0, 1) := by decide +kernel
theorem dX9_isDay_17 : decode cX9_isDay 17 = .ok (.ireturn, 1) := by decide +kernel
set_option maxRecDepth 20000 in
theorem ggX9_isWord_X9_inside : GoodIn wsX9_isWord wsX9_inside := goodIn_r _ [4] (by decide +kernel) (by decide +kernel)
set_option maxRecDepth 20000 in
theorem gX9_isWord_X9_inside : GoodIn wsX9_isWord (va_wsS RX9 71 yX9_inside wsX9_inside) := goodIn_app (goodIn_of _ (by decide +kernel)) ggX9_isWord_X9_inside
theorem dX9_isWord_0 : decode cX9_isWord 0 = .ok (.iload_n 0, 1) := by decide +kernel
theorem dX9_isWord_1 : decode cX9_isWord 1 = .ok (.iconst 0, 1) := by decide +kernel
theorem dX9_isWord_2 : decode cX9_isWord 2 = .ok (.bipush 7, 2) := by decide +kernel
theorem dX9_isWord_4 : decode cX9_isWord 4 = .ok (.invokestatic 71, 3) := by decide +kernel
theorem dX9_isWord_7 : decode cX9_isWord 7 = .ok (.ireturn, 1) := by decide +kernel
theorem dX9_wordAt_0 : decode cX9_wordAt 0 = .ok (.aload_n 0, 1) := by decide +kernel
theorem dX9_wordAt_1 : decode cX9_wordAt 1 = .ok (.getfield 25, 3) := by decide +kernel
theorem dX9_wordAt_4 : decode cX9_wordAt 4 = .ok (.bipush 14, 2) := by decide +kernel
theorem dX9_wordAt_6 : decode cX9_wordAt 6 = .ok (.iload_n 1, 1) := by decide +kernel
theorem dX9_wordAt_7 : decode cX9_wordAt 7 = .ok (.imul, 1) := by decide +kernel
theorem dX9_wordAt_8 : decode cX9_wordAt 8 = .ok (.iload_n 2, 1) := by decide +kernel
theorem dX9_wordAt_9 : decode cX9_wordAt 9 = .ok (.iadd, 1) := by decide +kernel
theorem dX9_wordAt_10 : decode cX9_wordAt 10 = .ok (.iaload, 1) := by decide +kernel
theorem dX9_wordAt_11 : decode cX9_wordAt 11 = .ok (.ireturn, 1) := by decide +kernel
set_option maxRecDepth 20000 in
theorem ggX9_cries_X9_isSheet : GoodIn wsX9_cries wsX9_isSheet := goodIn_r _ [12, 13, 14, 11, 15] (by decide +kernel) (by decide +kernel)
set_option maxRecDepth 20000 in
theorem gX9_cries_X9_isSheet : GoodIn wsX9_cries (va_wsS RX9 78 yX9_isSheet wsX9_isSheet) := goodIn_app (goodIn_of _ (by decide +kernel)) ggX9_cries_X9_isSheet
set_option maxRecDepth 20000 in
theorem ggX9_cries_X9_isSort : GoodIn wsX9_cries wsX9_isSort := goodIn_r _ [18, 13, 14, 11, 15] (by decide +kernel) (by decide +kernel)
set_option maxRecDepth 20000 in
theorem gX9_cries_X9_isSort : GoodIn wsX9_cries (va_wsS RX9 82 yX9_isSort wsX9_isSort) := goodIn_app (goodIn_of _ (by decide +kernel)) ggX9_cries_X9_isSort
set_option maxRecDepth 20000 in
theorem ggX9_cries_X9_against : GoodIn wsX9_cries wsX9_against := goodIn_r _ [22, 23, 24, 34, 35, 36, 37, 38, 39, 40, 41, 42, 43, 44, 45, 46, 47, 48, 49, 50, 51, 52, 53, 54, 55, 56, 57, 58, 59] (by decide +kernel) (by decide +kernel)
set_option maxRecDepth 20000 in
theorem gX9_cries_X9_against : GoodIn wsX9_cries (wsV RX9 85 RX9 yX9_against wsX9_against) := goodIn_app (goodIn_of _ (by decide +kernel)) ggX9_cries_X9_against
set_option maxRecDepth 20000 in
theorem ggX9_cries_X9_fails : GoodIn wsX9_cries wsX9_fails := goodIn_r _ [28, 1, 34, 35, 36, 37, 38, 39, 40, 41, 42, 43, 44, 45, 46, 47, 48, 49, 50, 51, 52, 53, 54, 55, 56, 57, 58, 59] (by decide +kernel) (by decide +kernel)
set_option maxRecDepth 20000 in
theorem gX9_cries_X9_fails : GoodIn wsX9_cries (wsV RX9 89 RX9 yX9_fails wsX9_fails) := goodIn_app (goodIn_of _ (by decide +kernel)) ggX9_cries_X9_fails
set_option maxRecDepth 20000 in
theorem ggX9_cries_X9_readCries : GoodIn wsX9_cries wsX9_readCries := goodIn_r _ [32, 3, 2, 33, 8, 6, 13, 14, 11, 15, 34, 35, 36, 37, 38, 39, 40, 41, 42, 43, 44, 45, 46, 47, 48, 49, 50, 51, 52, 53, 54, 55, 56, 57, 58, 59] (by decide +kernel) (by decide +kernel)
set_option maxRecDepth 20000 in
theorem gX9_cries_X9_readCries : GoodIn wsX9_cries (wsV RX9 96 RX9 yX9_readCries wsX9_readCries) := goodIn_app (goodIn_of _ (by decide +kernel)) ggX9_cries_X9_readCries
theorem dX9_cries_0 : decode cX9_cries 0 = .ok (.aload_n 0, 1) := by decide +kernel
theorem dX9_cries_1 : decode cX9_cries 1 = .ok (.iconst 0, 1) := by decide +kernel
theorem dX9_cries_2 : decode cX9_cries 2 = .ok (.putfield 65, 3) := by decide +kernel
theorem dX9_cries_5 : decode cX9_cries 5 = .ok (.iload_n 1, 1) := by decide +kernel
theorem dX9_cries_6 : decode cX9_cries 6 = .ok (.invokestatic 78, 3) := by decide +kernel
theorem dX9_cries_9 : decode cX9_cries 9 = .ok (.ifCond .ne 5, 3) := by decide +kernel
theorem dX9_cries_12 : decode cX9_cries 12 = .ok (.iconst (-1), 1) := by decide +kernel
theorem dX9_cries_13 : decode cX9_cries 13 = .ok (.ireturn, 1) := by decide +kernel
theorem dX9_cries_14 : decode cX9_cries 14 = .ok (.iload_n 2, 1) := by decide +kernel
theorem dX9_cries_15 : decode cX9_cries 15 = .ok (.invokestatic 82, 3) := by decide +kernel
theorem dX9_cries_18 : decode cX9_cries 18 = .ok (.ifCond .ne 6, 3) := by decide +kernel
theorem dX9_cries_21 : decode cX9_cries 21 = .ok (.bipush (-2), 2) := by decide +kernel
theorem dX9_cries_23 : decode cX9_cries 23 = .ok (.ireturn, 1) := by decide +kernel
theorem dX9_cries_24 : decode cX9_cries 24 = .ok (.aload_n 0, 1) := by decide +kernel
theorem dX9_cries_25 : decode cX9_cries 25 = .ok (.iload_n 1, 1) := by decide +kernel
theorem dX9_cries_26 : decode cX9_cries 26 = .ok (.iload_n 2, 1) := by decide +kernel
theorem dX9_cries_27 : decode cX9_cries 27 = .ok (.iload_n 3, 1) := by decide +kernel
theorem dX9_cries_28 : decode cX9_cries 28 = .ok (.iload 4, 2) := by decide +kernel
theorem dX9_cries_30 : decode cX9_cries 30 = .ok (.invokevirtual 85, 3) := by decide +kernel
theorem dX9_cries_33 : decode cX9_cries 33 = .ok (.istore 5, 2) := by decide +kernel
theorem dX9_cries_35 : decode cX9_cries 35 = .ok (.iload 5, 2) := by decide +kernel
theorem dX9_cries_37 : decode cX9_cries 37 = .ok (.ifCond .eq 10, 3) := by decide +kernel
theorem dX9_cries_40 : decode cX9_cries 40 = .ok (.aload_n 0, 1) := by decide +kernel
theorem dX9_cries_41 : decode cX9_cries 41 = .ok (.iload 5, 2) := by decide +kernel
theorem dX9_cries_43 : decode cX9_cries 43 = .ok (.invokevirtual 89, 3) := by decide +kernel
theorem dX9_cries_46 : decode cX9_cries 46 = .ok (.ireturn, 1) := by decide +kernel
theorem dX9_cries_47 : decode cX9_cries 47 = .ok (.bipush 80, 2) := by decide +kernel
theorem dX9_cries_49 : decode cX9_cries 49 = .ok (.iload_n 1, 1) := by decide +kernel
theorem dX9_cries_50 : decode cX9_cries 50 = .ok (.imul, 1) := by decide +kernel
theorem dX9_cries_51 : decode cX9_cries 51 = .ok (.iload_n 3, 1) := by decide +kernel
theorem dX9_cries_52 : decode cX9_cries 52 = .ok (.iadd, 1) := by decide +kernel
theorem dX9_cries_53 : decode cX9_cries 53 = .ok (.istore 6, 2) := by decide +kernel
theorem dX9_cries_55 : decode cX9_cries 55 = .ok (.aload_n 0, 1) := by decide +kernel
theorem dX9_cries_56 : decode cX9_cries 56 = .ok (.iload 6, 2) := by decide +kernel
theorem dX9_cries_58 : decode cX9_cries 58 = .ok (.putfield 93, 3) := by decide +kernel
theorem dX9_cries_61 : decode cX9_cries 61 = .ok (.aload_n 0, 1) := by decide +kernel
theorem dX9_cries_62 : decode cX9_cries 62 = .ok (.iload 6, 2) := by decide +kernel
theorem dX9_cries_64 : decode cX9_cries 64 = .ok (.iload 4, 2) := by decide +kernel
theorem dX9_cries_66 : decode cX9_cries 66 = .ok (.iadd, 1) := by decide +kernel
theorem dX9_cries_67 : decode cX9_cries 67 = .ok (.invokevirtual 96, 3) := by decide +kernel
theorem dX9_cries_70 : decode cX9_cries 70 = .ok (.ifCond .ne 14, 3) := by decide +kernel
theorem dX9_cries_73 : decode cX9_cries 73 = .ok (.bipush (-100), 2) := by decide +kernel
theorem dX9_cries_75 : decode cX9_cries 75 = .ok (.aload_n 0, 1) := by decide +kernel
theorem dX9_cries_76 : decode cX9_cries 76 = .ok (.getfield 93, 3) := by decide +kernel
theorem dX9_cries_79 : decode cX9_cries 79 = .ok (.iload 6, 2) := by decide +kernel
theorem dX9_cries_81 : decode cX9_cries 81 = .ok (.isub, 1) := by decide +kernel
theorem dX9_cries_82 : decode cX9_cries 82 = .ok (.isub, 1) := by decide +kernel
theorem dX9_cries_83 : decode cX9_cries 83 = .ok (.ireturn, 1) := by decide +kernel
theorem dX9_cries_84 : decode cX9_cries 84 = .ok (.aload_n 0, 1) := by decide +kernel
theorem dX9_cries_85 : decode cX9_cries 85 = .ok (.aload_n 0, 1) := by decide +kernel
theorem dX9_cries_86 : decode cX9_cries 86 = .ok (.getfield 99, 3) := by decide +kernel
theorem dX9_cries_89 : decode cX9_cries 89 = .ok (.putfield 75, 3) := by decide +kernel
theorem dX9_cries_92 : decode cX9_cries 92 = .ok (.iconst 0, 1) := by decide +kernel
theorem dX9_cries_93 : decode cX9_cries 93 = .ok (.istore 7, 2) := by decide +kernel
theorem dX9_cries_95 : decode cX9_cries 95 = .ok (.iload 7, 2) := by decide +kernel
theorem dX9_cries_97 : decode cX9_cries 97 = .ok (.aload_n 0, 1) := by decide +kernel
theorem dX9_cries_98 : decode cX9_cries 98 = .ok (.getfield 75, 3) := by decide +kernel
theorem dX9_cries_101 : decode cX9_cries 101 = .ok (.if_icmp .ge 70, 3) := by decide +kernel
theorem dX9_cries_104 : decode cX9_cries 104 = .ok (.aload_n 0, 1) := by decide +kernel
theorem dX9_cries_105 : decode cX9_cries 105 = .ok (.getfield 22, 3) := by decide +kernel
theorem dX9_cries_108 : decode cX9_cries 108 = .ok (.iload 7, 2) := by decide +kernel
theorem dX9_cries_110 : decode cX9_cries 110 = .ok (.aload_n 0, 1) := by decide +kernel
theorem dX9_cries_111 : decode cX9_cries 111 = .ok (.getfield 28, 3) := by decide +kernel
theorem dX9_cries_114 : decode cX9_cries 114 = .ok (.iload 7, 2) := by decide +kernel
theorem dX9_cries_116 : decode cX9_cries 116 = .ok (.iaload, 1) := by decide +kernel
theorem dX9_cries_117 : decode cX9_cries 117 = .ok (.iastore, 1) := by decide +kernel
theorem dX9_cries_118 : decode cX9_cries 118 = .ok (.iconst 0, 1) := by decide +kernel
theorem dX9_cries_119 : decode cX9_cries 119 = .ok (.istore 8, 2) := by decide +kernel
theorem dX9_cries_121 : decode cX9_cries 121 = .ok (.iload 8, 2) := by decide +kernel
theorem dX9_cries_123 : decode cX9_cries 123 = .ok (.aload_n 0, 1) := by decide +kernel
theorem dX9_cries_124 : decode cX9_cries 124 = .ok (.getfield 22, 3) := by decide +kernel
theorem dX9_cries_127 : decode cX9_cries 127 = .ok (.iload 7, 2) := by decide +kernel
theorem dX9_cries_129 : decode cX9_cries 129 = .ok (.iaload, 1) := by decide +kernel
theorem dX9_cries_130 : decode cX9_cries 130 = .ok (.if_icmp .ge 35, 3) := by decide +kernel
theorem dX9_cries_133 : decode cX9_cries 133 = .ok (.aload_n 0, 1) := by decide +kernel
theorem dX9_cries_134 : decode cX9_cries 134 = .ok (.getfield 25, 3) := by decide +kernel
theorem dX9_cries_137 : decode cX9_cries 137 = .ok (.bipush 14, 2) := by decide +kernel
theorem dX9_cries_139 : decode cX9_cries 139 = .ok (.iload 7, 2) := by decide +kernel
theorem dX9_cries_141 : decode cX9_cries 141 = .ok (.imul, 1) := by decide +kernel
theorem dX9_cries_142 : decode cX9_cries 142 = .ok (.iload 8, 2) := by decide +kernel
theorem dX9_cries_144 : decode cX9_cries 144 = .ok (.iadd, 1) := by decide +kernel
theorem dX9_cries_145 : decode cX9_cries 145 = .ok (.aload_n 0, 1) := by decide +kernel
theorem dX9_cries_146 : decode cX9_cries 146 = .ok (.getfield 31, 3) := by decide +kernel
theorem dX9_cries_149 : decode cX9_cries 149 = .ok (.bipush 14, 2) := by decide +kernel
theorem dX9_cries_151 : decode cX9_cries 151 = .ok (.iload 7, 2) := by decide +kernel
theorem dX9_cries_153 : decode cX9_cries 153 = .ok (.imul, 1) := by decide +kernel
theorem dX9_cries_154 : decode cX9_cries 154 = .ok (.iload 8, 2) := by decide +kernel
theorem dX9_cries_156 : decode cX9_cries 156 = .ok (.iadd, 1) := by decide +kernel
theorem dX9_cries_157 : decode cX9_cries 157 = .ok (.iaload, 1) := by decide +kernel
theorem dX9_cries_158 : decode cX9_cries 158 = .ok (.iastore, 1) := by decide +kernel
theorem dX9_cries_159 : decode cX9_cries 159 = .ok (.iinc 8 1, 3) := by decide +kernel
theorem dX9_cries_162 : decode cX9_cries 162 = .ok (.goto (-41), 3) := by decide +kernel
theorem dX9_cries_165 : decode cX9_cries 165 = .ok (.iinc 7 1, 3) := by decide +kernel
theorem dX9_cries_168 : decode cX9_cries 168 = .ok (.goto (-73), 3) := by decide +kernel
theorem dX9_cries_171 : decode cX9_cries 171 = .ok (.aload_n 0, 1) := by decide +kernel
theorem dX9_cries_172 : decode cX9_cries 172 = .ok (.getfield 75, 3) := by decide +kernel
theorem dX9_cries_175 : decode cX9_cries 175 = .ok (.ireturn, 1) := by decide +kernel
set_option maxRecDepth 20000 in
theorem ggX9_readCries_X9_inside : GoodIn wsX9_readCries wsX9_inside := goodIn_r _ [9] (by decide +kernel) (by decide +kernel)
set_option maxRecDepth 20000 in
theorem gX9_readCries_X9_inside : GoodIn wsX9_readCries (va_wsS RX9 71 yX9_inside wsX9_inside) := goodIn_app (goodIn_of _ (by decide +kernel)) ggX9_readCries_X9_inside
theorem dX9_readCries_0 : decode cX9_readCries 0 = .ok (.aload_n 0, 1) := by decide +kernel
theorem dX9_readCries_1 : decode cX9_readCries 1 = .ok (.iconst 0, 1) := by decide +kernel
theorem dX9_readCries_2 : decode cX9_readCries 2 = .ok (.putfield 99, 3) := by decide +kernel
theorem dX9_readCries_5 : decode cX9_readCries 5 = .ok (.aload_n 0, 1) := by decide +kernel
theorem dX9_readCries_6 : decode cX9_readCries 6 = .ok (.getfield 99, 3) := by decide +kernel
theorem dX9_readCries_9 : decode cX9_readCries 9 = .ok (.ifCond .eq 11, 3) := by decide +kernel
theorem dX9_readCries_12 : decode cX9_readCries 12 = .ok (.aload_n 0, 1) := by decide +kernel
theorem dX9_readCries_13 : decode cX9_readCries 13 = .ok (.getfield 93, 3) := by decide +kernel
theorem dX9_readCries_16 : decode cX9_readCries 16 = .ok (.iload_n 1, 1) := by decide +kernel
theorem dX9_readCries_17 : decode cX9_readCries 17 = .ok (.if_icmp .ge 151, 3) := by decide +kernel
theorem dX9_readCries_20 : decode cX9_readCries 20 = .ok (.aload_n 0, 1) := by decide +kernel
theorem dX9_readCries_21 : decode cX9_readCries 21 = .ok (.getfield 99, 3) := by decide +kernel
theorem dX9_readCries_24 : decode cX9_readCries 24 = .ok (.ifCond .le 38, 3) := by decide +kernel
theorem dX9_readCries_27 : decode cX9_readCries 27 = .ok (.aload_n 0, 1) := by decide +kernel
theorem dX9_readCries_28 : decode cX9_readCries 28 = .ok (.getfield 99, 3) := by decide +kernel
theorem dX9_readCries_31 : decode cX9_readCries 31 = .ok (.bipush 6, 2) := by decide +kernel
theorem dX9_readCries_33 : decode cX9_readCries 33 = .ok (.if_icmp .eq 17, 3) := by decide +kernel
theorem dX9_readCries_36 : decode cX9_readCries 36 = .ok (.aload_n 0, 1) := by decide +kernel
theorem dX9_readCries_37 : decode cX9_readCries 37 = .ok (.getfield 16, 3) := by decide +kernel
theorem dX9_readCries_40 : decode cX9_readCries 40 = .ok (.aload_n 0, 1) := by decide +kernel
theorem dX9_readCries_41 : decode cX9_readCries 41 = .ok (.getfield 93, 3) := by decide +kernel
theorem dX9_readCries_44 : decode cX9_readCries 44 = .ok (.iaload, 1) := by decide +kernel
theorem dX9_readCries_45 : decode cX9_readCries 45 = .ok (.bipush 59, 2) := by decide +kernel
theorem dX9_readCries_47 : decode cX9_readCries 47 = .ok (.if_icmp .eq 5, 3) := by decide +kernel
theorem dX9_readCries_50 : decode cX9_readCries 50 = .ok (.iconst 0, 1) := by decide +kernel
theorem dX9_readCries_51 : decode cX9_readCries 51 = .ok (.ireturn, 1) := by decide +kernel
theorem dX9_readCries_52 : decode cX9_readCries 52 = .ok (.aload_n 0, 1) := by decide +kernel
theorem dX9_readCries_53 : decode cX9_readCries 53 = .ok (.dup, 1) := by decide +kernel
theorem dX9_readCries_54 : decode cX9_readCries 54 = .ok (.getfield 93, 3) := by decide +kernel
theorem dX9_readCries_57 : decode cX9_readCries 57 = .ok (.iconst 1, 1) := by decide +kernel
theorem dX9_readCries_58 : decode cX9_readCries 58 = .ok (.iadd, 1) := by decide +kernel
theorem dX9_readCries_59 : decode cX9_readCries 59 = .ok (.putfield 93, 3) := by decide +kernel
theorem dX9_readCries_62 : decode cX9_readCries 62 = .ok (.iconst 0, 1) := by decide +kernel
theorem dX9_readCries_63 : decode cX9_readCries 63 = .ok (.istore_n 2, 1) := by decide +kernel
theorem dX9_readCries_64 : decode cX9_readCries 64 = .ok (.iload_n 2, 1) := by decide +kernel
theorem dX9_readCries_65 : decode cX9_readCries 65 = .ok (.bipush 12, 2) := by decide +kernel
theorem dX9_readCries_67 : decode cX9_readCries 67 = .ok (.if_icmp .ge 72, 3) := by decide +kernel
theorem dX9_readCries_70 : decode cX9_readCries 70 = .ok (.aload_n 0, 1) := by decide +kernel
theorem dX9_readCries_71 : decode cX9_readCries 71 = .ok (.getfield 93, 3) := by decide +kernel
theorem dX9_readCries_74 : decode cX9_readCries 74 = .ok (.iload_n 1, 1) := by decide +kernel
theorem dX9_readCries_75 : decode cX9_readCries 75 = .ok (.if_icmp .ge 64, 3) := by decide +kernel
theorem dX9_readCries_78 : decode cX9_readCries 78 = .ok (.aload_n 0, 1) := by decide +kernel
theorem dX9_readCries_79 : decode cX9_readCries 79 = .ok (.getfield 16, 3) := by decide +kernel
theorem dX9_readCries_82 : decode cX9_readCries 82 = .ok (.aload_n 0, 1) := by decide +kernel
theorem dX9_readCries_83 : decode cX9_readCries 83 = .ok (.getfield 93, 3) := by decide +kernel
theorem dX9_readCries_86 : decode cX9_readCries 86 = .ok (.iaload, 1) := by decide +kernel
theorem dX9_readCries_87 : decode cX9_readCries 87 = .ok (.bipush 97, 2) := by decide +kernel
theorem dX9_readCries_89 : decode cX9_readCries 89 = .ok (.bipush 104, 2) := by decide +kernel
theorem dX9_readCries_91 : decode cX9_readCries 91 = .ok (.invokestatic 71, 3) := by decide +kernel
theorem dX9_readCries_94 : decode cX9_readCries 94 = .ok (.ifCond .eq 45, 3) := by decide +kernel
theorem dX9_readCries_97 : decode cX9_readCries 97 = .ok (.aload_n 0, 1) := by decide +kernel
theorem dX9_readCries_98 : decode cX9_readCries 98 = .ok (.getfield 31, 3) := by decide +kernel
theorem dX9_readCries_101 : decode cX9_readCries 101 = .ok (.bipush 14, 2) := by decide +kernel
theorem dX9_readCries_103 : decode cX9_readCries 103 = .ok (.aload_n 0, 1) := by decide +kernel
theorem dX9_readCries_104 : decode cX9_readCries 104 = .ok (.getfield 99, 3) := by decide +kernel
theorem dX9_readCries_107 : decode cX9_readCries 107 = .ok (.imul, 1) := by decide +kernel
theorem dX9_readCries_108 : decode cX9_readCries 108 = .ok (.iload_n 2, 1) := by decide +kernel
theorem dX9_readCries_109 : decode cX9_readCries 109 = .ok (.iadd, 1) := by decide +kernel
theorem dX9_readCries_110 : decode cX9_readCries 110 = .ok (.aload_n 0, 1) := by decide +kernel
theorem dX9_readCries_111 : decode cX9_readCries 111 = .ok (.getfield 16, 3) := by decide +kernel
theorem dX9_readCries_114 : decode cX9_readCries 114 = .ok (.aload_n 0, 1) := by decide +kernel
theorem dX9_readCries_115 : decode cX9_readCries 115 = .ok (.getfield 93, 3) := by decide +kernel
theorem dX9_readCries_118 : decode cX9_readCries 118 = .ok (.iaload, 1) := by decide +kernel
theorem dX9_readCries_119 : decode cX9_readCries 119 = .ok (.bipush 97, 2) := by decide +kernel
theorem dX9_readCries_121 : decode cX9_readCries 121 = .ok (.isub, 1) := by decide +kernel
theorem dX9_readCries_122 : decode cX9_readCries 122 = .ok (.iastore, 1) := by decide +kernel
theorem dX9_readCries_123 : decode cX9_readCries 123 = .ok (.iinc 2 1, 3) := by decide +kernel
theorem dX9_readCries_126 : decode cX9_readCries 126 = .ok (.aload_n 0, 1) := by decide +kernel
theorem dX9_readCries_127 : decode cX9_readCries 127 = .ok (.dup, 1) := by decide +kernel
theorem dX9_readCries_128 : decode cX9_readCries 128 = .ok (.getfield 93, 3) := by decide +kernel
theorem dX9_readCries_131 : decode cX9_readCries 131 = .ok (.iconst 1, 1) := by decide +kernel
theorem dX9_readCries_132 : decode cX9_readCries 132 = .ok (.iadd, 1) := by decide +kernel
theorem dX9_readCries_133 : decode cX9_readCries 133 = .ok (.putfield 93, 3) := by decide +kernel
theorem dX9_readCries_136 : decode cX9_readCries 136 = .ok (.goto (-72), 3) := by decide +kernel
theorem dX9_readCries_139 : decode cX9_readCries 139 = .ok (.iload_n 2, 1) := by decide +kernel
theorem dX9_readCries_140 : decode cX9_readCries 140 = .ok (.ifCond .ne 5, 3) := by decide +kernel
theorem dX9_readCries_143 : decode cX9_readCries 143 = .ok (.iconst 0, 1) := by decide +kernel
theorem dX9_readCries_144 : decode cX9_readCries 144 = .ok (.ireturn, 1) := by decide +kernel
theorem dX9_readCries_145 : decode cX9_readCries 145 = .ok (.aload_n 0, 1) := by decide +kernel
theorem dX9_readCries_146 : decode cX9_readCries 146 = .ok (.getfield 28, 3) := by decide +kernel
theorem dX9_readCries_149 : decode cX9_readCries 149 = .ok (.aload_n 0, 1) := by decide +kernel
theorem dX9_readCries_150 : decode cX9_readCries 150 = .ok (.getfield 99, 3) := by decide +kernel
theorem dX9_readCries_153 : decode cX9_readCries 153 = .ok (.iload_n 2, 1) := by decide +kernel
theorem dX9_readCries_154 : decode cX9_readCries 154 = .ok (.iastore, 1) := by decide +kernel
theorem dX9_readCries_155 : decode cX9_readCries 155 = .ok (.aload_n 0, 1) := by decide +kernel
theorem dX9_readCries_156 : decode cX9_readCries 156 = .ok (.dup, 1) := by decide +kernel
theorem dX9_readCries_157 : decode cX9_readCries 157 = .ok (.getfield 99, 3) := by decide +kernel
theorem dX9_readCries_160 : decode cX9_readCries 160 = .ok (.iconst 1, 1) := by decide +kernel
theorem dX9_readCries_161 : decode cX9_readCries 161 = .ok (.iadd, 1) := by decide +kernel
theorem dX9_readCries_162 : decode cX9_readCries 162 = .ok (.putfield 99, 3) := by decide +kernel
theorem dX9_readCries_165 : decode cX9_readCries 165 = .ok (.goto (-160), 3) := by decide +kernel
theorem dX9_readCries_168 : decode cX9_readCries 168 = .ok (.iconst 1, 1) := by decide +kernel
theorem dX9_readCries_169 : decode cX9_readCries 169 = .ok (.ireturn, 1) := by decide +kernel
set_option maxRecDepth 20000 in
theorem ggX9_kind_X9_isWord : GoodIn wsX9_kind wsX9_isWord := goodIn_r _ [5, 6, 7, 4, 8] (by decide +kernel) (by decide +kernel)
set_option maxRecDepth 20000 in
theorem gX9_kind_X9_isWord : GoodIn wsX9_kind (va_wsS RX9 102 yX9_isWord wsX9_isWord) := goodIn_app (goodIn_of _ (by decide +kernel)) ggX9_kind_X9_isWord
set_option maxRecDepth 20000 in
theorem ggX9_kind_X9_inside : GoodIn wsX9_kind wsX9_inside := goodIn_r _ [8] (by decide +kernel) (by decide +kernel)
set_option maxRecDepth 20000 in
theorem gX9_kind_X9_inside : GoodIn wsX9_kind (va_wsS RX9 71 yX9_inside wsX9_inside) := goodIn_app (goodIn_of _ (by decide +kernel)) ggX9_kind_X9_inside
theorem dX9_kind_0 : decode cX9_kind 0 = .ok (.iload_n 1, 1) := by decide +kernel
theorem dX9_kind_1 : decode cX9_kind 1 = .ok (.invokestatic 102, 3) := by decide +kernel
theorem dX9_kind_4 : decode cX9_kind 4 = .ok (.ifCond .ne 5, 3) := by decide +kernel
theorem dX9_kind_7 : decode cX9_kind 7 = .ok (.iconst (-1), 1) := by decide +kernel
theorem dX9_kind_8 : decode cX9_kind 8 = .ok (.ireturn, 1) := by decide +kernel
theorem dX9_kind_9 : decode cX9_kind 9 = .ok (.iload_n 2, 1) := by decide +kernel
theorem dX9_kind_10 : decode cX9_kind 10 = .ok (.iconst 0, 1) := by decide +kernel
theorem dX9_kind_11 : decode cX9_kind 11 = .ok (.iconst 2, 1) := by decide +kernel
theorem dX9_kind_12 : decode cX9_kind 12 = .ok (.invokestatic 71, 3) := by decide +kernel
theorem dX9_kind_15 : decode cX9_kind 15 = .ok (.ifCond .ne 6, 3) := by decide +kernel
theorem dX9_kind_18 : decode cX9_kind 18 = .ok (.bipush (-2), 2) := by decide +kernel
theorem dX9_kind_20 : decode cX9_kind 20 = .ok (.ireturn, 1) := by decide +kernel
theorem dX9_kind_21 : decode cX9_kind 21 = .ok (.aload_n 0, 1) := by decide +kernel
theorem dX9_kind_22 : decode cX9_kind 22 = .ok (.getfield 19, 3) := by decide +kernel
theorem dX9_kind_25 : decode cX9_kind 25 = .ok (.iload_n 1, 1) := by decide +kernel
theorem dX9_kind_26 : decode cX9_kind 26 = .ok (.iaload, 1) := by decide +kernel
theorem dX9_kind_27 : decode cX9_kind 27 = .ok (.istore_n 3, 1) := by decide +kernel
theorem dX9_kind_28 : decode cX9_kind 28 = .ok (.aload_n 0, 1) := by decide +kernel
theorem dX9_kind_29 : decode cX9_kind 29 = .ok (.getfield 19, 3) := by decide +kernel
theorem dX9_kind_32 : decode cX9_kind 32 = .ok (.iload_n 1, 1) := by decide +kernel
theorem dX9_kind_33 : decode cX9_kind 33 = .ok (.iload_n 2, 1) := by decide +kernel
theorem dX9_kind_34 : decode cX9_kind 34 = .ok (.iastore, 1) := by decide +kernel
theorem dX9_kind_35 : decode cX9_kind 35 = .ok (.iload_n 3, 1) := by decide +kernel
theorem dX9_kind_36 : decode cX9_kind 36 = .ok (.ireturn, 1) := by decide +kernel
set_option maxRecDepth 20000 in
theorem ggX9_ofDay_X9_isDay : GoodIn wsX9_ofDay wsX9_isDay := goodIn_r _ [6, 7, 16, 17, 18, 19, 20, 21, 22, 23, 24, 25, 26, 27, 28, 29, 30, 31, 32, 33, 34, 35, 36, 37, 38, 39, 40, 41] (by decide +kernel) (by decide +kernel)
set_option maxRecDepth 20000 in
theorem gX9_ofDay_X9_isDay : GoodIn wsX9_ofDay (wsV RX9 105 RX9 yX9_isDay wsX9_isDay) := goodIn_app (goodIn_of _ (by decide +kernel)) ggX9_ofDay_X9_isDay
set_option maxRecDepth 20000 in
theorem ggX9_ofDay_X9_inside : GoodIn wsX9_ofDay wsX9_inside := goodIn_r _ [10] (by decide +kernel) (by decide +kernel)
set_option maxRecDepth 20000 in
theorem gX9_ofDay_X9_inside : GoodIn wsX9_ofDay (va_wsS RX9 71 yX9_inside wsX9_inside) := goodIn_app (goodIn_of _ (by decide +kernel)) ggX9_ofDay_X9_inside
set_option maxRecDepth 20000 in
theorem ggX9_ofDay_X9_wordAt : GoodIn wsX9_ofDay wsX9_wordAt := goodIn_r _ [14, 15, 16, 17, 18, 19, 20, 21, 22, 23, 24, 25, 26, 27, 28, 29, 30, 31, 32, 33, 34, 35, 36, 37, 38, 39, 40, 41] (by decide +kernel) (by decide +kernel)
set_option maxRecDepth 20000 in
theorem gX9_ofDay_X9_wordAt : GoodIn wsX9_ofDay (wsV RX9 108 RX9 yX9_wordAt wsX9_wordAt) := goodIn_app (goodIn_of _ (by decide +kernel)) ggX9_ofDay_X9_wordAt
theorem dX9_ofDay_0 : decode cX9_ofDay 0 = .ok (.aload_n 0, 1) := by decide +kernel
theorem dX9_ofDay_1 : decode cX9_ofDay 1 = .ok (.iload_n 1, 1) := by decide +kernel
theorem dX9_ofDay_2 : decode cX9_ofDay 2 = .ok (.invokevirtual 105, 3) := by decide +kernel
theorem dX9_ofDay_5 : decode cX9_ofDay 5 = .ok (.ifCond .eq 19, 3) := by decide +kernel
theorem dX9_ofDay_8 : decode cX9_ofDay 8 = .ok (.iload_n 2, 1) := by decide +kernel
theorem dX9_ofDay_9 : decode cX9_ofDay 9 = .ok (.iconst (-1), 1) := by decide +kernel
theorem dX9_ofDay_10 : decode cX9_ofDay 10 = .ok (.aload_n 0, 1) := by decide +kernel
theorem dX9_ofDay_11 : decode cX9_ofDay 11 = .ok (.getfield 22, 3) := by decide +kernel
theorem dX9_ofDay_14 : decode cX9_ofDay 14 = .ok (.iload_n 1, 1) := by decide +kernel
theorem dX9_ofDay_15 : decode cX9_ofDay 15 = .ok (.iaload, 1) := by decide +kernel
theorem dX9_ofDay_16 : decode cX9_ofDay 16 = .ok (.iconst 1, 1) := by decide +kernel
theorem dX9_ofDay_17 : decode cX9_ofDay 17 = .ok (.isub, 1) := by decide +kernel
theorem dX9_ofDay_18 : decode cX9_ofDay 18 = .ok (.invokestatic 71, 3) := by decide +kernel
theorem dX9_ofDay_21 : decode cX9_ofDay 21 = .ok (.ifCond .ne 5, 3) := by decide +kernel
theorem dX9_ofDay_24 : decode cX9_ofDay 24 = .ok (.iconst (-1), 1) := by decide +kernel
theorem dX9_ofDay_25 : decode cX9_ofDay 25 = .ok (.ireturn, 1) := by decide +kernel
theorem dX9_ofDay_26 : decode cX9_ofDay 26 = .ok (.iload_n 2, 1) := by decide +kernel
theorem dX9_ofDay_27 : decode cX9_ofDay 27 = .ok (.iconst (-1), 1) := by decide +kernel
theorem dX9_ofDay_28 : decode cX9_ofDay 28 = .ok (.if_icmp .ne 12, 3) := by decide +kernel
theorem dX9_ofDay_31 : decode cX9_ofDay 31 = .ok (.aload_n 0, 1) := by decide +kernel
theorem dX9_ofDay_32 : decode cX9_ofDay 32 = .ok (.getfield 22, 3) := by decide +kernel
theorem dX9_ofDay_35 : decode cX9_ofDay 35 = .ok (.iload_n 1, 1) := by decide +kernel
theorem dX9_ofDay_36 : decode cX9_ofDay 36 = .ok (.iaload, 1) := by decide +kernel
theorem dX9_ofDay_37 : decode cX9_ofDay 37 = .ok (.goto 9, 3) := by decide +kernel
theorem dX9_ofDay_40 : decode cX9_ofDay 40 = .ok (.aload_n 0, 1) := by decide +kernel
theorem dX9_ofDay_41 : decode cX9_ofDay 41 = .ok (.iload_n 1, 1) := by decide +kernel
theorem dX9_ofDay_42 : decode cX9_ofDay 42 = .ok (.iload_n 2, 1) := by decide +kernel
theorem dX9_ofDay_43 : decode cX9_ofDay 43 = .ok (.invokevirtual 108, 3) := by decide +kernel
theorem dX9_ofDay_46 : decode cX9_ofDay 46 = .ok (.ireturn, 1) := by decide +kernel
set_option maxRecDepth 20000 in
theorem ggX9_add_X9_isWord : GoodIn wsX9_add wsX9_isWord := goodIn_r _ [7, 8, 9, 6, 10] (by decide +kernel) (by decide +kernel)
set_option maxRecDepth 20000 in
theorem gX9_add_X9_isWord : GoodIn wsX9_add (va_wsS RX9 102 yX9_isWord wsX9_isWord) := goodIn_app (goodIn_of _ (by decide +kernel)) ggX9_add_X9_isWord
set_option maxRecDepth 20000 in
theorem ggX9_add_X9_wordAt : GoodIn wsX9_add wsX9_wordAt := goodIn_r _ [14, 3, 15, 16, 17, 18, 19, 20, 21, 22, 23, 24, 25, 26, 27, 28, 29, 30, 31, 32, 33, 34, 35, 36, 37, 38, 39, 40] (by decide +kernel) (by decide +kernel)
set_option maxRecDepth 20000 in
theorem gX9_add_X9_wordAt : GoodIn wsX9_add (wsV RX9 108 RX9 yX9_wordAt wsX9_wordAt) := goodIn_app (goodIn_of _ (by decide +kernel)) ggX9_add_X9_wordAt
theorem dX9_add_0 : decode cX9_add 0 = .ok (.aload_n 0, 1) := by decide +kernel
theorem dX9_add_1 : decode cX9_add 1 = .ok (.getfield 75, 3) := by decide +kernel
theorem dX9_add_4 : decode cX9_add 4 = .ok (.iconst 1, 1) := by decide +kernel
theorem dX9_add_5 : decode cX9_add 5 = .ok (.isub, 1) := by decide +kernel
theorem dX9_add_6 : decode cX9_add 6 = .ok (.istore_n 3, 1) := by decide +kernel
theorem dX9_add_7 : decode cX9_add 7 = .ok (.iload_n 2, 1) := by decide +kernel
theorem dX9_add_8 : decode cX9_add 8 = .ok (.invokestatic 102, 3) := by decide +kernel
theorem dX9_add_11 : decode cX9_add 11 = .ok (.ifCond .eq 21, 3) := by decide +kernel
theorem dX9_add_14 : decode cX9_add 14 = .ok (.iload_n 1, 1) := by decide +kernel
theorem dX9_add_15 : decode cX9_add 15 = .ok (.ifCond .lt 17, 3) := by decide +kernel
theorem dX9_add_18 : decode cX9_add 18 = .ok (.iload_n 3, 1) := by decide +kernel
theorem dX9_add_19 : decode cX9_add 19 = .ok (.ifCond .lt 15, 3) := by decide +kernel
theorem dX9_add_22 : decode cX9_add 22 = .ok (.iload_n 1, 1) := by decide +kernel
theorem dX9_add_23 : decode cX9_add 23 = .ok (.aload_n 0, 1) := by decide +kernel
theorem dX9_add_24 : decode cX9_add 24 = .ok (.getfield 22, 3) := by decide +kernel
theorem dX9_add_27 : decode cX9_add 27 = .ok (.iload_n 3, 1) := by decide +kernel
theorem dX9_add_28 : decode cX9_add 28 = .ok (.iaload, 1) := by decide +kernel
theorem dX9_add_29 : decode cX9_add 29 = .ok (.if_icmp .le 5, 3) := by decide +kernel
theorem dX9_add_32 : decode cX9_add 32 = .ok (.iconst (-1), 1) := by decide +kernel
theorem dX9_add_33 : decode cX9_add 33 = .ok (.ireturn, 1) := by decide +kernel
theorem dX9_add_34 : decode cX9_add 34 = .ok (.iload_n 3, 1) := by decide +kernel
theorem dX9_add_35 : decode cX9_add 35 = .ok (.ifCond .ge 6, 3) := by decide +kernel
theorem dX9_add_38 : decode cX9_add 38 = .ok (.bipush (-3), 2) := by decide +kernel
theorem dX9_add_40 : decode cX9_add 40 = .ok (.ireturn, 1) := by decide +kernel
theorem dX9_add_41 : decode cX9_add 41 = .ok (.aload_n 0, 1) := by decide +kernel
theorem dX9_add_42 : decode cX9_add 42 = .ok (.getfield 22, 3) := by decide +kernel
theorem dX9_add_45 : decode cX9_add 45 = .ok (.iload_n 3, 1) := by decide +kernel
theorem dX9_add_46 : decode cX9_add 46 = .ok (.iaload, 1) := by decide +kernel
theorem dX9_add_47 : decode cX9_add 47 = .ok (.bipush 12, 2) := by decide +kernel
theorem dX9_add_49 : decode cX9_add 49 = .ok (.if_icmp .ne 6, 3) := by decide +kernel
theorem dX9_add_52 : decode cX9_add 52 = .ok (.bipush (-4), 2) := by decide +kernel
theorem dX9_add_54 : decode cX9_add 54 = .ok (.ireturn, 1) := by decide +kernel
theorem dX9_add_55 : decode cX9_add 55 = .ok (.aload_n 0, 1) := by decide +kernel
theorem dX9_add_56 : decode cX9_add 56 = .ok (.getfield 22, 3) := by decide +kernel
theorem dX9_add_59 : decode cX9_add 59 = .ok (.iload_n 3, 1) := by decide +kernel
theorem dX9_add_60 : decode cX9_add 60 = .ok (.iaload, 1) := by decide +kernel
theorem dX9_add_61 : decode cX9_add 61 = .ok (.istore 4, 2) := by decide +kernel
theorem dX9_add_63 : decode cX9_add 63 = .ok (.iload 4, 2) := by decide +kernel
theorem dX9_add_65 : decode cX9_add 65 = .ok (.iload_n 1, 1) := by decide +kernel
theorem dX9_add_66 : decode cX9_add 66 = .ok (.if_icmp .le 30, 3) := by decide +kernel
theorem dX9_add_69 : decode cX9_add 69 = .ok (.aload_n 0, 1) := by decide +kernel
theorem dX9_add_70 : decode cX9_add 70 = .ok (.getfield 25, 3) := by decide +kernel
theorem dX9_add_73 : decode cX9_add 73 = .ok (.bipush 14, 2) := by decide +kernel
theorem dX9_add_75 : decode cX9_add 75 = .ok (.iload_n 3, 1) := by decide +kernel
theorem dX9_add_76 : decode cX9_add 76 = .ok (.imul, 1) := by decide +kernel
theorem dX9_add_77 : decode cX9_add 77 = .ok (.iload 4, 2) := by decide +kernel
theorem dX9_add_79 : decode cX9_add 79 = .ok (.iadd, 1) := by decide +kernel
theorem dX9_add_80 : decode cX9_add 80 = .ok (.aload_n 0, 1) := by decide +kernel
theorem dX9_add_81 : decode cX9_add 81 = .ok (.iload_n 3, 1) := by decide +kernel
theorem dX9_add_82 : decode cX9_add 82 = .ok (.iload 4, 2) := by decide +kernel
theorem dX9_add_84 : decode cX9_add 84 = .ok (.iconst 1, 1) := by decide +kernel
theorem dX9_add_85 : decode cX9_add 85 = .ok (.isub, 1) := by decide +kernel
theorem dX9_add_86 : decode cX9_add 86 = .ok (.invokevirtual 108, 3) := by decide +kernel
theorem dX9_add_89 : decode cX9_add 89 = .ok (.iastore, 1) := by decide +kernel
theorem dX9_add_90 : decode cX9_add 90 = .ok (.iinc 4 (-1), 3) := by decide +kernel
theorem dX9_add_93 : decode cX9_add 93 = .ok (.goto (-30), 3) := by decide +kernel
theorem dX9_add_96 : decode cX9_add 96 = .ok (.aload_n 0, 1) := by decide +kernel
theorem dX9_add_97 : decode cX9_add 97 = .ok (.getfield 25, 3) := by decide +kernel
theorem dX9_add_100 : decode cX9_add 100 = .ok (.bipush 14, 2) := by decide +kernel
theorem dX9_add_102 : decode cX9_add 102 = .ok (.iload_n 3, 1) := by decide +kernel
theorem dX9_add_103 : decode cX9_add 103 = .ok (.imul, 1) := by decide +kernel
theorem dX9_add_104 : decode cX9_add 104 = .ok (.iload_n 1, 1) := by decide +kernel
theorem dX9_add_105 : decode cX9_add 105 = .ok (.iadd, 1) := by decide +kernel
theorem dX9_add_106 : decode cX9_add 106 = .ok (.iload_n 2, 1) := by decide +kernel
theorem dX9_add_107 : decode cX9_add 107 = .ok (.iastore, 1) := by decide +kernel
theorem dX9_add_108 : decode cX9_add 108 = .ok (.aload_n 0, 1) := by decide +kernel
theorem dX9_add_109 : decode cX9_add 109 = .ok (.getfield 22, 3) := by decide +kernel
theorem dX9_add_112 : decode cX9_add 112 = .ok (.iload_n 3, 1) := by decide +kernel
theorem dX9_add_113 : decode cX9_add 113 = .ok (.dup2, 1) := by decide +kernel
theorem dX9_add_114 : decode cX9_add 114 = .ok (.iaload, 1) := by decide +kernel
theorem dX9_add_115 : decode cX9_add 115 = .ok (.iconst 1, 1) := by decide +kernel
theorem dX9_add_116 : decode cX9_add 116 = .ok (.iadd, 1) := by decide +kernel
theorem dX9_add_117 : decode cX9_add 117 = .ok (.iastore, 1) := by decide +kernel
theorem dX9_add_118 : decode cX9_add 118 = .ok (.aload_n 0, 1) := by decide +kernel
theorem dX9_add_119 : decode cX9_add 119 = .ok (.getfield 22, 3) := by decide +kernel
theorem dX9_add_122 : decode cX9_add 122 = .ok (.iload_n 3, 1) := by decide +kernel
theorem dX9_add_123 : decode cX9_add 123 = .ok (.iaload, 1) := by decide +kernel
theorem dX9_add_124 : decode cX9_add 124 = .ok (.ireturn, 1) := by decide +kernel
set_option maxRecDepth 20000 in
theorem ggX9_isWithin_X9_wordAt : GoodIn wsX9_isWithin wsX9_wordAt := goodIn_r _ [8, 9, 10, 11, 12, 13, 14, 15, 16, 17, 18, 19, 20, 21, 22, 23, 24, 25, 26, 27, 28, 29, 30, 31, 32, 33, 34, 35] (by decide +kernel) (by decide +kernel)
set_option maxRecDepth 20000 in
theorem gX9_isWithin_X9_wordAt : GoodIn wsX9_isWithin (wsV RX9 108 RX9 yX9_wordAt wsX9_wordAt) := goodIn_app (goodIn_of _ (by decide +kernel)) ggX9_isWithin_X9_wordAt
theorem dX9_isWithin_0 : decode cX9_isWithin 0 = .ok (.iconst 0, 1) := by decide +kernel
theorem dX9_isWithin_1 : decode cX9_isWithin 1 = .ok (.istore_n 3, 1) := by decide +kernel
theorem dX9_isWithin_2 : decode cX9_isWithin 2 = .ok (.iconst 0, 1) := by decide +kernel
theorem dX9_isWithin_3 : decode cX9_isWithin 3 = .ok (.istore 4, 2) := by decide +kernel
theorem dX9_isWithin_5 : decode cX9_isWithin 5 = .ok (.iload 4, 2) := by decide +kernel
theorem dX9_isWithin_7 : decode cX9_isWithin 7 = .ok (.aload_n 0, 1) := by decide +kernel
theorem dX9_isWithin_8 : decode cX9_isWithin 8 = .ok (.getfield 22, 3) := by decide +kernel
theorem dX9_isWithin_11 : decode cX9_isWithin 11 = .ok (.iload_n 2, 1) := by decide +kernel
theorem dX9_isWithin_12 : decode cX9_isWithin 12 = .ok (.iaload, 1) := by decide +kernel
theorem dX9_isWithin_13 : decode cX9_isWithin 13 = .ok (.if_icmp .ge 46, 3) := by decide +kernel
theorem dX9_isWithin_16 : decode cX9_isWithin 16 = .ok (.iload_n 3, 1) := by decide +kernel
theorem dX9_isWithin_17 : decode cX9_isWithin 17 = .ok (.aload_n 0, 1) := by decide +kernel
theorem dX9_isWithin_18 : decode cX9_isWithin 18 = .ok (.getfield 22, 3) := by decide +kernel
theorem dX9_isWithin_21 : decode cX9_isWithin 21 = .ok (.iload_n 1, 1) := by decide +kernel
theorem dX9_isWithin_22 : decode cX9_isWithin 22 = .ok (.iaload, 1) := by decide +kernel
theorem dX9_isWithin_23 : decode cX9_isWithin 23 = .ok (.if_icmp .ge 36, 3) := by decide +kernel
theorem dX9_isWithin_26 : decode cX9_isWithin 26 = .ok (.aload_n 0, 1) := by decide +kernel
theorem dX9_isWithin_27 : decode cX9_isWithin 27 = .ok (.iload_n 2, 1) := by decide +kernel
theorem dX9_isWithin_28 : decode cX9_isWithin 28 = .ok (.iload 4, 2) := by decide +kernel
theorem dX9_isWithin_30 : decode cX9_isWithin 30 = .ok (.invokevirtual 108, 3) := by decide +kernel
theorem dX9_isWithin_33 : decode cX9_isWithin 33 = .ok (.aload_n 0, 1) := by decide +kernel
theorem dX9_isWithin_34 : decode cX9_isWithin 34 = .ok (.iload_n 1, 1) := by decide +kernel
theorem dX9_isWithin_35 : decode cX9_isWithin 35 = .ok (.iload_n 3, 1) := by decide +kernel
theorem dX9_isWithin_36 : decode cX9_isWithin 36 = .ok (.invokevirtual 108, 3) := by decide +kernel
theorem dX9_isWithin_39 : decode cX9_isWithin 39 = .ok (.if_icmp .ne 14, 3) := by decide +kernel
theorem dX9_isWithin_42 : decode cX9_isWithin 42 = .ok (.aload_n 0, 1) := by decide +kernel
theorem dX9_isWithin_43 : decode cX9_isWithin 43 = .ok (.getfield 34, 3) := by decide +kernel
theorem dX9_isWithin_46 : decode cX9_isWithin 46 = .ok (.iload_n 3, 1) := by decide +kernel
theorem dX9_isWithin_47 : decode cX9_isWithin 47 = .ok (.iload 4, 2) := by decide +kernel
theorem dX9_isWithin_49 : decode cX9_isWithin 49 = .ok (.iastore, 1) := by decide +kernel
theorem dX9_isWithin_50 : decode cX9_isWithin 50 = .ok (.iinc 3 1, 3) := by decide +kernel
theorem dX9_isWithin_53 : decode cX9_isWithin 53 = .ok (.iinc 4 1, 3) := by decide +kernel
theorem dX9_isWithin_56 : decode cX9_isWithin 56 = .ok (.goto (-51), 3) := by decide +kernel
theorem dX9_isWithin_59 : decode cX9_isWithin 59 = .ok (.iload_n 3, 1) := by decide +kernel
theorem dX9_isWithin_60 : decode cX9_isWithin 60 = .ok (.aload_n 0, 1) := by decide +kernel
theorem dX9_isWithin_61 : decode cX9_isWithin 61 = .ok (.getfield 22, 3) := by decide +kernel
theorem dX9_isWithin_64 : decode cX9_isWithin 64 = .ok (.iload_n 1, 1) := by decide +kernel
theorem dX9_isWithin_65 : decode cX9_isWithin 65 = .ok (.iaload, 1) := by decide +kernel
theorem dX9_isWithin_66 : decode cX9_isWithin 66 = .ok (.if_icmp .ge 5, 3) := by decide +kernel
theorem dX9_isWithin_69 : decode cX9_isWithin 69 = .ok (.iconst 0, 1) := by decide +kernel
theorem dX9_isWithin_70 : decode cX9_isWithin 70 = .ok (.ireturn, 1) := by decide +kernel
theorem dX9_isWithin_71 : decode cX9_isWithin 71 = .ok (.iinc 3 (-1), 3) := by decide +kernel
theorem dX9_isWithin_74 : decode cX9_isWithin 74 = .ok (.aload_n 0, 1) := by decide +kernel
theorem dX9_isWithin_75 : decode cX9_isWithin 75 = .ok (.getfield 22, 3) := by decide +kernel
theorem dX9_isWithin_78 : decode cX9_isWithin 78 = .ok (.iload_n 2, 1) := by decide +kernel
theorem dX9_isWithin_79 : decode cX9_isWithin 79 = .ok (.iaload, 1) := by decide +kernel
theorem dX9_isWithin_80 : decode cX9_isWithin 80 = .ok (.iconst 1, 1) := by decide +kernel
theorem dX9_isWithin_81 : decode cX9_isWithin 81 = .ok (.isub, 1) := by decide +kernel
theorem dX9_isWithin_82 : decode cX9_isWithin 82 = .ok (.istore 4, 2) := by decide +kernel
theorem dX9_isWithin_84 : decode cX9_isWithin 84 = .ok (.iload 4, 2) := by decide +kernel
theorem dX9_isWithin_86 : decode cX9_isWithin 86 = .ok (.ifCond .lt 40, 3) := by decide +kernel
theorem dX9_isWithin_89 : decode cX9_isWithin 89 = .ok (.iload_n 3, 1) := by decide +kernel
theorem dX9_isWithin_90 : decode cX9_isWithin 90 = .ok (.ifCond .lt 36, 3) := by decide +kernel
theorem dX9_isWithin_93 : decode cX9_isWithin 93 = .ok (.aload_n 0, 1) := by decide +kernel
theorem dX9_isWithin_94 : decode cX9_isWithin 94 = .ok (.iload_n 2, 1) := by decide +kernel
theorem dX9_isWithin_95 : decode cX9_isWithin 95 = .ok (.iload 4, 2) := by decide +kernel
theorem dX9_isWithin_97 : decode cX9_isWithin 97 = .ok (.invokevirtual 108, 3) := by decide +kernel
theorem dX9_isWithin_100 : decode cX9_isWithin 100 = .ok (.aload_n 0, 1) := by decide +kernel
theorem dX9_isWithin_101 : decode cX9_isWithin 101 = .ok (.iload_n 1, 1) := by decide +kernel
theorem dX9_isWithin_102 : decode cX9_isWithin 102 = .ok (.iload_n 3, 1) := by decide +kernel
theorem dX9_isWithin_103 : decode cX9_isWithin 103 = .ok (.invokevirtual 108, 3) := by decide +kernel
theorem dX9_isWithin_106 : decode cX9_isWithin 106 = .ok (.if_icmp .ne 14, 3) := by decide +kernel
theorem dX9_isWithin_109 : decode cX9_isWithin 109 = .ok (.aload_n 0, 1) := by decide +kernel
theorem dX9_isWithin_110 : decode cX9_isWithin 110 = .ok (.getfield 37, 3) := by decide +kernel
theorem dX9_isWithin_113 : decode cX9_isWithin 113 = .ok (.iload_n 3, 1) := by decide +kernel
theorem dX9_isWithin_114 : decode cX9_isWithin 114 = .ok (.iload 4, 2) := by decide +kernel
theorem dX9_isWithin_116 : decode cX9_isWithin 116 = .ok (.iastore, 1) := by decide +kernel
theorem dX9_isWithin_117 : decode cX9_isWithin 117 = .ok (.iinc 3 (-1), 3) := by decide +kernel
theorem dX9_isWithin_120 : decode cX9_isWithin 120 = .ok (.iinc 4 (-1), 3) := by decide +kernel
theorem dX9_isWithin_123 : decode cX9_isWithin 123 = .ok (.goto (-39), 3) := by decide +kernel
theorem dX9_isWithin_126 : decode cX9_isWithin 126 = .ok (.iconst 1, 1) := by decide +kernel
theorem dX9_isWithin_127 : decode cX9_isWithin 127 = .ok (.ireturn, 1) := by decide +kernel
set_option maxRecDepth 20000 in
theorem ggX9_within_X9_isDay : GoodIn wsX9_within wsX9_isDay := goodIn_r _ [5, 6, 19, 20, 21, 22, 23, 24, 25, 26, 27, 28, 29, 30, 31, 32, 33, 34, 35, 36, 37, 38, 39, 40, 41, 42, 43, 44] (by decide +kernel) (by decide +kernel)
set_option maxRecDepth 20000 in
theorem gX9_within_X9_isDay : GoodIn wsX9_within (wsV RX9 105 RX9 yX9_isDay wsX9_isDay) := goodIn_app (goodIn_of _ (by decide +kernel)) ggX9_within_X9_isDay
set_option maxRecDepth 20000 in
theorem ggX9_within_X9_isWithin : GoodIn wsX9_within wsX9_isWithin := goodIn_r _ [10, 11, 12, 13, 14, 15, 16, 4, 17, 18, 19, 20, 21, 22, 23, 24, 25, 26, 27, 28, 29, 30, 31, 32, 33, 34, 35, 36, 37, 38, 39, 40, 41, 42, 43, 44] (by decide +kernel) (by decide +kernel)
set_option maxRecDepth 20000 in
theorem gX9_within_X9_isWithin : GoodIn wsX9_within (wsV RX9 112 RX9 yX9_isWithin wsX9_isWithin) := goodIn_app (goodIn_of _ (by decide +kernel)) ggX9_within_X9_isWithin
theorem dX9_within_0 : decode cX9_within 0 = .ok (.aload_n 0, 1) := by decide +kernel
theorem dX9_within_1 : decode cX9_within 1 = .ok (.iload_n 1, 1) := by decide +kernel
theorem dX9_within_2 : decode cX9_within 2 = .ok (.invokevirtual 105, 3) := by decide +kernel
theorem dX9_within_5 : decode cX9_within 5 = .ok (.ifCond .eq 11, 3) := by decide +kernel
theorem dX9_within_8 : decode cX9_within 8 = .ok (.aload_n 0, 1) := by decide +kernel
theorem dX9_within_9 : decode cX9_within 9 = .ok (.iload_n 2, 1) := by decide +kernel
theorem dX9_within_10 : decode cX9_within 10 = .ok (.invokevirtual 105, 3) := by decide +kernel
theorem dX9_within_13 : decode cX9_within 13 = .ok (.ifCond .ne 5, 3) := by decide +kernel
theorem dX9_within_16 : decode cX9_within 16 = .ok (.iconst (-1), 1) := by decide +kernel
theorem dX9_within_17 : decode cX9_within 17 = .ok (.ireturn, 1) := by decide +kernel
theorem dX9_within_18 : decode cX9_within 18 = .ok (.aload_n 0, 1) := by decide +kernel
theorem dX9_within_19 : decode cX9_within 19 = .ok (.iload_n 1, 1) := by decide +kernel
theorem dX9_within_20 : decode cX9_within 20 = .ok (.iload_n 2, 1) := by decide +kernel
theorem dX9_within_21 : decode cX9_within 21 = .ok (.invokevirtual 112, 3) := by decide +kernel
theorem dX9_within_24 : decode cX9_within 24 = .ok (.ifCond .eq 7, 3) := by decide +kernel
theorem dX9_within_27 : decode cX9_within 27 = .ok (.iconst 1, 1) := by decide +kernel
theorem dX9_within_28 : decode cX9_within 28 = .ok (.goto 4, 3) := by decide +kernel
theorem dX9_within_31 : decode cX9_within 31 = .ok (.iconst 0, 1) := by decide +kernel
theorem dX9_within_32 : decode cX9_within 32 = .ok (.ireturn, 1) := by decide +kernel
set_option maxRecDepth 20000 in
theorem ggX9_leftOut_X9_isWithin : GoodIn wsX9_leftOut wsX9_isWithin := goodIn_r _ [6, 7, 8, 9, 10, 11, 12, 5, 13, 14, 15, 16, 17, 18, 19, 20, 21, 22, 23, 24, 25, 26, 27, 28, 29, 30, 31, 32, 33, 34, 35, 36, 37, 38, 39, 40] (by decide +kernel) (by decide +kernel)
set_option maxRecDepth 20000 in
theorem gX9_leftOut_X9_isWithin : GoodIn wsX9_leftOut (wsV RX9 112 RX9 yX9_isWithin wsX9_isWithin) := goodIn_app (goodIn_of _ (by decide +kernel)) ggX9_leftOut_X9_isWithin
theorem dX9_leftOut_0 : decode cX9_leftOut 0 = .ok (.iconst 1, 1) := by decide +kernel
theorem dX9_leftOut_1 : decode cX9_leftOut 1 = .ok (.istore_n 1, 1) := by decide +kernel
theorem dX9_leftOut_2 : decode cX9_leftOut 2 = .ok (.iload_n 1, 1) := by decide +kernel
theorem dX9_leftOut_3 : decode cX9_leftOut 3 = .ok (.aload_n 0, 1) := by decide +kernel
theorem dX9_leftOut_4 : decode cX9_leftOut 4 = .ok (.getfield 75, 3) := by decide +kernel
theorem dX9_leftOut_7 : decode cX9_leftOut 7 = .ok (.if_icmp .ge 22, 3) := by decide +kernel
theorem dX9_leftOut_10 : decode cX9_leftOut 10 = .ok (.aload_n 0, 1) := by decide +kernel
theorem dX9_leftOut_11 : decode cX9_leftOut 11 = .ok (.iload_n 1, 1) := by decide +kernel
theorem dX9_leftOut_12 : decode cX9_leftOut 12 = .ok (.iconst 1, 1) := by decide +kernel
theorem dX9_leftOut_13 : decode cX9_leftOut 13 = .ok (.isub, 1) := by decide +kernel
theorem dX9_leftOut_14 : decode cX9_leftOut 14 = .ok (.iload_n 1, 1) := by decide +kernel
theorem dX9_leftOut_15 : decode cX9_leftOut 15 = .ok (.invokevirtual 112, 3) := by decide +kernel
theorem dX9_leftOut_18 : decode cX9_leftOut 18 = .ok (.ifCond .ne 5, 3) := by decide +kernel
theorem dX9_leftOut_21 : decode cX9_leftOut 21 = .ok (.iload_n 1, 1) := by decide +kernel
theorem dX9_leftOut_22 : decode cX9_leftOut 22 = .ok (.ireturn, 1) := by decide +kernel
theorem dX9_leftOut_23 : decode cX9_leftOut 23 = .ok (.iinc 1 1, 3) := by decide +kernel
theorem dX9_leftOut_26 : decode cX9_leftOut 26 = .ok (.goto (-24), 3) := by decide +kernel
theorem dX9_leftOut_29 : decode cX9_leftOut 29 = .ok (.bipush (-9), 2) := by decide +kernel
theorem dX9_leftOut_31 : decode cX9_leftOut 31 = .ok (.ireturn, 1) := by decide +kernel
theorem dX9_saidBy_0 : decode cX9_saidBy 0 = .ok (.iconst 0, 1) := by decide +kernel
theorem dX9_saidBy_1 : decode cX9_saidBy 1 = .ok (.istore_n 2, 1) := by decide +kernel
theorem dX9_saidBy_2 : decode cX9_saidBy 2 = .ok (.iconst 0, 1) := by decide +kernel
theorem dX9_saidBy_3 : decode cX9_saidBy 3 = .ok (.istore_n 3, 1) := by decide +kernel
theorem dX9_saidBy_4 : decode cX9_saidBy 4 = .ok (.bipush (-9), 2) := by decide +kernel
theorem dX9_saidBy_6 : decode cX9_saidBy 6 = .ok (.istore 4, 2) := by decide +kernel
theorem dX9_saidBy_8 : decode cX9_saidBy 8 = .ok (.iconst 0, 1) := by decide +kernel
theorem dX9_saidBy_9 : decode cX9_saidBy 9 = .ok (.istore 5, 2) := by decide +kernel
theorem dX9_saidBy_11 : decode cX9_saidBy 11 = .ok (.iload 5, 2) := by decide +kernel
theorem dX9_saidBy_13 : decode cX9_saidBy 13 = .ok (.iload_n 1, 1) := by decide +kernel
theorem dX9_saidBy_14 : decode cX9_saidBy 14 = .ok (.if_icmp .ge 100, 3) := by decide +kernel
theorem dX9_saidBy_17 : decode cX9_saidBy 17 = .ok (.aload_n 0, 1) := by decide +kernel
theorem dX9_saidBy_18 : decode cX9_saidBy 18 = .ok (.getfield 40, 3) := by decide +kernel
theorem dX9_saidBy_21 : decode cX9_saidBy 21 = .ok (.iload 5, 2) := by decide +kernel
theorem dX9_saidBy_23 : decode cX9_saidBy 23 = .ok (.iaload, 1) := by decide +kernel
theorem dX9_saidBy_24 : decode cX9_saidBy 24 = .ok (.istore 6, 2) := by decide +kernel
theorem dX9_saidBy_26 : decode cX9_saidBy 26 = .ok (.aload_n 0, 1) := by decide +kernel
theorem dX9_saidBy_27 : decode cX9_saidBy 27 = .ok (.getfield 19, 3) := by decide +kernel
theorem dX9_saidBy_30 : decode cX9_saidBy 30 = .ok (.iload 6, 2) := by decide +kernel
theorem dX9_saidBy_32 : decode cX9_saidBy 32 = .ok (.iaload, 1) := by decide +kernel
theorem dX9_saidBy_33 : decode cX9_saidBy 33 = .ok (.ifCond .ne 36, 3) := by decide +kernel
theorem dX9_saidBy_36 : decode cX9_saidBy 36 = .ok (.iload_n 3, 1) := by decide +kernel
theorem dX9_saidBy_37 : decode cX9_saidBy 37 = .ok (.ifCond .eq 16, 3) := by decide +kernel
theorem dX9_saidBy_40 : decode cX9_saidBy 40 = .ok (.iload_n 2, 1) := by decide +kernel
theorem dX9_saidBy_41 : decode cX9_saidBy 41 = .ok (.sipush 255, 3) := by decide +kernel
theorem dX9_saidBy_44 : decode cX9_saidBy 44 = .ok (.iconst 1, 1) := by decide +kernel
theorem dX9_saidBy_45 : decode cX9_saidBy 45 = .ok (.iload 6, 2) := by decide +kernel
theorem dX9_saidBy_47 : decode cX9_saidBy 47 = .ok (.ishl, 1) := by decide +kernel
theorem dX9_saidBy_48 : decode cX9_saidBy 48 = .ok (.isub, 1) := by decide +kernel
theorem dX9_saidBy_49 : decode cX9_saidBy 49 = .ok (.iand, 1) := by decide +kernel
theorem dX9_saidBy_50 : decode cX9_saidBy 50 = .ok (.goto 9, 3) := by decide +kernel
theorem dX9_saidBy_53 : decode cX9_saidBy 53 = .ok (.iload_n 2, 1) := by decide +kernel
theorem dX9_saidBy_54 : decode cX9_saidBy 54 = .ok (.iconst 1, 1) := by decide +kernel
theorem dX9_saidBy_55 : decode cX9_saidBy 55 = .ok (.iload 6, 2) := by decide +kernel
theorem dX9_saidBy_57 : decode cX9_saidBy 57 = .ok (.ishl, 1) := by decide +kernel
theorem dX9_saidBy_58 : decode cX9_saidBy 58 = .ok (.ior, 1) := by decide +kernel
theorem dX9_saidBy_59 : decode cX9_saidBy 59 = .ok (.istore_n 2, 1) := by decide +kernel
theorem dX9_saidBy_60 : decode cX9_saidBy 60 = .ok (.iconst 0, 1) := by decide +kernel
theorem dX9_saidBy_61 : decode cX9_saidBy 61 = .ok (.istore_n 3, 1) := by decide +kernel
theorem dX9_saidBy_62 : decode cX9_saidBy 62 = .ok (.iload 6, 2) := by decide +kernel
theorem dX9_saidBy_64 : decode cX9_saidBy 64 = .ok (.istore 4, 2) := by decide +kernel
theorem dX9_saidBy_66 : decode cX9_saidBy 66 = .ok (.goto 42, 3) := by decide +kernel
theorem dX9_saidBy_69 : decode cX9_saidBy 69 = .ok (.iload_n 3, 1) := by decide +kernel
theorem dX9_saidBy_70 : decode cX9_saidBy 70 = .ok (.ifCond .ne 7, 3) := by decide +kernel
theorem dX9_saidBy_73 : decode cX9_saidBy 73 = .ok (.iconst 1, 1) := by decide +kernel
theorem dX9_saidBy_74 : decode cX9_saidBy 74 = .ok (.goto 4, 3) := by decide +kernel
theorem dX9_saidBy_77 : decode cX9_saidBy 77 = .ok (.iconst 0, 1) := by decide +kernel
theorem dX9_saidBy_78 : decode cX9_saidBy 78 = .ok (.istore_n 3, 1) := by decide +kernel
theorem dX9_saidBy_79 : decode cX9_saidBy 79 = .ok (.aload_n 0, 1) := by decide +kernel
theorem dX9_saidBy_80 : decode cX9_saidBy 80 = .ok (.getfield 19, 3) := by decide +kernel
theorem dX9_saidBy_83 : decode cX9_saidBy 83 = .ok (.iload 6, 2) := by decide +kernel
theorem dX9_saidBy_85 : decode cX9_saidBy 85 = .ok (.iaload, 1) := by decide +kernel
theorem dX9_saidBy_86 : decode cX9_saidBy 86 = .ok (.iconst 2, 1) := by decide +kernel
theorem dX9_saidBy_87 : decode cX9_saidBy 87 = .ok (.if_icmp .ne 21, 3) := by decide +kernel
theorem dX9_saidBy_90 : decode cX9_saidBy 90 = .ok (.iload 4, 2) := by decide +kernel
theorem dX9_saidBy_92 : decode cX9_saidBy 92 = .ok (.bipush (-9), 2) := by decide +kernel
theorem dX9_saidBy_94 : decode cX9_saidBy 94 = .ok (.if_icmp .eq 14, 3) := by decide +kernel
theorem dX9_saidBy_97 : decode cX9_saidBy 97 = .ok (.iload_n 2, 1) := by decide +kernel
theorem dX9_saidBy_98 : decode cX9_saidBy 98 = .ok (.sipush 255, 3) := by decide +kernel
theorem dX9_saidBy_101 : decode cX9_saidBy 101 = .ok (.iconst 1, 1) := by decide +kernel
theorem dX9_saidBy_102 : decode cX9_saidBy 102 = .ok (.iload 4, 2) := by decide +kernel
theorem dX9_saidBy_104 : decode cX9_saidBy 104 = .ok (.ishl, 1) := by decide +kernel
theorem dX9_saidBy_105 : decode cX9_saidBy 105 = .ok (.isub, 1) := by decide +kernel
theorem dX9_saidBy_106 : decode cX9_saidBy 106 = .ok (.iand, 1) := by decide +kernel
theorem dX9_saidBy_107 : decode cX9_saidBy 107 = .ok (.istore_n 2, 1) := by decide +kernel
theorem dX9_saidBy_108 : decode cX9_saidBy 108 = .ok (.iinc 5 1, 3) := by decide +kernel
theorem dX9_saidBy_111 : decode cX9_saidBy 111 = .ok (.goto (-100), 3) := by decide +kernel
theorem dX9_saidBy_114 : decode cX9_saidBy 114 = .ok (.iload_n 2, 1) := by decide +kernel
theorem dX9_saidBy_115 : decode cX9_saidBy 115 = .ok (.ireturn, 1) := by decide +kernel
set_option maxRecDepth 20000 in
theorem ggX9_said_X9_isDay : GoodIn wsX9_said wsX9_isDay := goodIn_r _ [5, 6, 23, 24, 25, 26, 27, 28, 29, 30, 31, 32, 33, 34, 35, 36, 37, 38, 39, 40, 41, 42, 43, 44, 45, 46, 47, 48] (by decide +kernel) (by decide +kernel)
set_option maxRecDepth 20000 in
theorem gX9_said_X9_isDay : GoodIn wsX9_said (wsV RX9 105 RX9 yX9_isDay wsX9_isDay) := goodIn_app (goodIn_of _ (by decide +kernel)) ggX9_said_X9_isDay
set_option maxRecDepth 20000 in
theorem ggX9_said_X9_saidWith : GoodIn wsX9_said wsX9_saidWith := goodIn_r _ [10, 11, 12, 13, 14, 15, 4, 16, 17, 18, 19, 20, 21, 22, 23, 24, 25, 26, 27, 28, 29, 30, 31, 32, 33, 34, 35, 36, 37, 38, 39, 40, 41, 42, 43, 44, 45, 46, 47, 48] (by decide +kernel) (by decide +kernel)
set_option maxRecDepth 20000 in
theorem gX9_said_X9_saidWith : GoodIn wsX9_said (wsV RX9 116 RX9 yX9_saidWith wsX9_saidWith) := goodIn_app (goodIn_of _ (by decide +kernel)) ggX9_said_X9_saidWith
theorem dX9_said_0 : decode cX9_said 0 = .ok (.aload_n 0, 1) := by decide +kernel
theorem dX9_said_1 : decode cX9_said 1 = .ok (.iload_n 1, 1) := by decide +kernel
theorem dX9_said_2 : decode cX9_said 2 = .ok (.invokevirtual 105, 3) := by decide +kernel
theorem dX9_said_5 : decode cX9_said 5 = .ok (.ifCond .ne 5, 3) := by decide +kernel
theorem dX9_said_8 : decode cX9_said 8 = .ok (.iconst (-1), 1) := by decide +kernel
theorem dX9_said_9 : decode cX9_said 9 = .ok (.ireturn, 1) := by decide +kernel
theorem dX9_said_10 : decode cX9_said 10 = .ok (.aload_n 0, 1) := by decide +kernel
theorem dX9_said_11 : decode cX9_said 11 = .ok (.iload_n 1, 1) := by decide +kernel
theorem dX9_said_12 : decode cX9_said 12 = .ok (.bipush (-9), 2) := by decide +kernel
theorem dX9_said_14 : decode cX9_said 14 = .ok (.bipush (-9), 2) := by decide +kernel
theorem dX9_said_16 : decode cX9_said 16 = .ok (.invokevirtual 116, 3) := by decide +kernel
theorem dX9_said_19 : decode cX9_said 19 = .ok (.ireturn, 1) := by decide +kernel
set_option maxRecDepth 20000 in
theorem ggX9_saidWith_X9_wordAt : GoodIn wsX9_saidWith wsX9_wordAt := goodIn_r _ [7, 8, 14, 15, 16, 17, 18, 19, 20, 21, 22, 23, 24, 25, 26, 27, 28, 29, 30, 31, 32, 33, 34, 35, 36, 37, 38, 39] (by decide +kernel) (by decide +kernel)
set_option maxRecDepth 20000 in
theorem gX9_saidWith_X9_wordAt : GoodIn wsX9_saidWith (wsV RX9 108 RX9 yX9_wordAt wsX9_wordAt) := goodIn_app (goodIn_of _ (by decide +kernel)) ggX9_saidWith_X9_wordAt
set_option maxRecDepth 20000 in
theorem ggX9_saidWith_X9_saidBy : GoodIn wsX9_saidWith wsX9_saidBy := goodIn_r _ [12, 2, 13, 14, 15, 16, 17, 18, 19, 20, 21, 22, 23, 24, 25, 26, 27, 28, 29, 30, 31, 32, 33, 34, 35, 36, 37, 38, 39] (by decide +kernel) (by decide +kernel)
set_option maxRecDepth 20000 in
theorem gX9_saidWith_X9_saidBy : GoodIn wsX9_saidWith (wsV RX9 120 RX9 yX9_saidBy wsX9_saidBy) := goodIn_app (goodIn_of _ (by decide +kernel)) ggX9_saidWith_X9_saidBy
theorem dX9_saidWith_0 : decode cX9_saidWith 0 = .ok (.iconst 0, 1) := by decide +kernel
theorem dX9_saidWith_1 : decode cX9_saidWith 1 = .ok (.istore 4, 2) := by decide +kernel
theorem dX9_saidWith_3 : decode cX9_saidWith 3 = .ok (.iconst 0, 1) := by decide +kernel
theorem dX9_saidWith_4 : decode cX9_saidWith 4 = .ok (.istore 5, 2) := by decide +kernel
theorem dX9_saidWith_6 : decode cX9_saidWith 6 = .ok (.iload 5, 2) := by decide +kernel
theorem dX9_saidWith_8 : decode cX9_saidWith 8 = .ok (.aload_n 0, 1) := by decide +kernel
theorem dX9_saidWith_9 : decode cX9_saidWith 9 = .ok (.getfield 22, 3) := by decide +kernel
theorem dX9_saidWith_12 : decode cX9_saidWith 12 = .ok (.iload_n 1, 1) := by decide +kernel
theorem dX9_saidWith_13 : decode cX9_saidWith 13 = .ok (.iaload, 1) := by decide +kernel
theorem dX9_saidWith_14 : decode cX9_saidWith 14 = .ok (.if_icmp .gt 95, 3) := by decide +kernel
theorem dX9_saidWith_17 : decode cX9_saidWith 17 = .ok (.iload_n 2, 1) := by decide +kernel
theorem dX9_saidWith_18 : decode cX9_saidWith 18 = .ok (.bipush (-9), 2) := by decide +kernel
theorem dX9_saidWith_20 : decode cX9_saidWith 20 = .ok (.if_icmp .eq 26, 3) := by decide +kernel
theorem dX9_saidWith_23 : decode cX9_saidWith 23 = .ok (.iload_n 2, 1) := by decide +kernel
theorem dX9_saidWith_24 : decode cX9_saidWith 24 = .ok (.bipush 10, 2) := by decide +kernel
theorem dX9_saidWith_26 : decode cX9_saidWith 26 = .ok (.idiv, 1) := by decide +kernel
theorem dX9_saidWith_27 : decode cX9_saidWith 27 = .ok (.iload 5, 2) := by decide +kernel
theorem dX9_saidWith_29 : decode cX9_saidWith 29 = .ok (.if_icmp .ne 17, 3) := by decide +kernel
theorem dX9_saidWith_32 : decode cX9_saidWith 32 = .ok (.aload_n 0, 1) := by decide +kernel
theorem dX9_saidWith_33 : decode cX9_saidWith 33 = .ok (.getfield 40, 3) := by decide +kernel
theorem dX9_saidWith_36 : decode cX9_saidWith 36 = .ok (.iload 4, 2) := by decide +kernel
theorem dX9_saidWith_38 : decode cX9_saidWith 38 = .ok (.iload_n 2, 1) := by decide +kernel
theorem dX9_saidWith_39 : decode cX9_saidWith 39 = .ok (.bipush 10, 2) := by decide +kernel
theorem dX9_saidWith_41 : decode cX9_saidWith 41 = .ok (.irem, 1) := by decide +kernel
theorem dX9_saidWith_42 : decode cX9_saidWith 42 = .ok (.iastore, 1) := by decide +kernel
theorem dX9_saidWith_43 : decode cX9_saidWith 43 = .ok (.iinc 4 1, 3) := by decide +kernel
theorem dX9_saidWith_46 : decode cX9_saidWith 46 = .ok (.iload_n 3, 1) := by decide +kernel
theorem dX9_saidWith_47 : decode cX9_saidWith 47 = .ok (.bipush (-9), 2) := by decide +kernel
theorem dX9_saidWith_49 : decode cX9_saidWith 49 = .ok (.if_icmp .eq 26, 3) := by decide +kernel
theorem dX9_saidWith_52 : decode cX9_saidWith 52 = .ok (.iload_n 3, 1) := by decide +kernel
theorem dX9_saidWith_53 : decode cX9_saidWith 53 = .ok (.bipush 10, 2) := by decide +kernel
theorem dX9_saidWith_55 : decode cX9_saidWith 55 = .ok (.idiv, 1) := by decide +kernel
theorem dX9_saidWith_56 : decode cX9_saidWith 56 = .ok (.iload 5, 2) := by decide +kernel
theorem dX9_saidWith_58 : decode cX9_saidWith 58 = .ok (.if_icmp .ne 17, 3) := by decide +kernel
theorem dX9_saidWith_61 : decode cX9_saidWith 61 = .ok (.aload_n 0, 1) := by decide +kernel
theorem dX9_saidWith_62 : decode cX9_saidWith 62 = .ok (.getfield 40, 3) := by decide +kernel
theorem dX9_saidWith_65 : decode cX9_saidWith 65 = .ok (.iload 4, 2) := by decide +kernel
theorem dX9_saidWith_67 : decode cX9_saidWith 67 = .ok (.iload_n 3, 1) := by decide +kernel
theorem dX9_saidWith_68 : decode cX9_saidWith 68 = .ok (.bipush 10, 2) := by decide +kernel
theorem dX9_saidWith_70 : decode cX9_saidWith 70 = .ok (.irem, 1) := by decide +kernel
theorem dX9_saidWith_71 : decode cX9_saidWith 71 = .ok (.iastore, 1) := by decide +kernel
theorem dX9_saidWith_72 : decode cX9_saidWith 72 = .ok (.iinc 4 1, 3) := by decide +kernel
theorem dX9_saidWith_75 : decode cX9_saidWith 75 = .ok (.iload 5, 2) := by decide +kernel
theorem dX9_saidWith_77 : decode cX9_saidWith 77 = .ok (.aload_n 0, 1) := by decide +kernel
theorem dX9_saidWith_78 : decode cX9_saidWith 78 = .ok (.getfield 22, 3) := by decide +kernel
theorem dX9_saidWith_81 : decode cX9_saidWith 81 = .ok (.iload_n 1, 1) := by decide +kernel
theorem dX9_saidWith_82 : decode cX9_saidWith 82 = .ok (.iaload, 1) := by decide +kernel
theorem dX9_saidWith_83 : decode cX9_saidWith 83 = .ok (.if_icmp .ge 20, 3) := by decide +kernel
theorem dX9_saidWith_86 : decode cX9_saidWith 86 = .ok (.aload_n 0, 1) := by decide +kernel
theorem dX9_saidWith_87 : decode cX9_saidWith 87 = .ok (.getfield 40, 3) := by decide +kernel
theorem dX9_saidWith_90 : decode cX9_saidWith 90 = .ok (.iload 4, 2) := by decide +kernel
theorem dX9_saidWith_92 : decode cX9_saidWith 92 = .ok (.aload_n 0, 1) := by decide +kernel
theorem dX9_saidWith_93 : decode cX9_saidWith 93 = .ok (.iload_n 1, 1) := by decide +kernel
theorem dX9_saidWith_94 : decode cX9_saidWith 94 = .ok (.iload 5, 2) := by decide +kernel
theorem dX9_saidWith_96 : decode cX9_saidWith 96 = .ok (.invokevirtual 108, 3) := by decide +kernel
theorem dX9_saidWith_99 : decode cX9_saidWith 99 = .ok (.iastore, 1) := by decide +kernel
theorem dX9_saidWith_100 : decode cX9_saidWith 100 = .ok (.iinc 4 1, 3) := by decide +kernel
theorem dX9_saidWith_103 : decode cX9_saidWith 103 = .ok (.iinc 5 1, 3) := by decide +kernel
theorem dX9_saidWith_106 : decode cX9_saidWith 106 = .ok (.goto (-100), 3) := by decide +kernel
theorem dX9_saidWith_109 : decode cX9_saidWith 109 = .ok (.aload_n 0, 1) := by decide +kernel
theorem dX9_saidWith_110 : decode cX9_saidWith 110 = .ok (.iload 4, 2) := by decide +kernel
theorem dX9_saidWith_112 : decode cX9_saidWith 112 = .ok (.invokevirtual 120, 3) := by decide +kernel
theorem dX9_saidWith_115 : decode cX9_saidWith 115 = .ok (.ireturn, 1) := by decide +kernel
set_option maxRecDepth 20000 in
theorem ggX9_isSo_X9_saidWith : GoodIn wsX9_isSo wsX9_saidWith := goodIn_r _ [5, 6, 7, 8, 9, 10, 4, 11, 12, 13, 14, 15, 16, 17, 18, 19, 20, 21, 22, 23, 24, 25, 26, 27, 28, 29, 30, 31, 32, 33, 34, 35, 36, 37, 38, 39, 40, 41, 42, 43] (by decide +kernel) (by decide +kernel)
set_option maxRecDepth 20000 in
theorem gX9_isSo_X9_saidWith : GoodIn wsX9_isSo (wsV RX9 116 RX9 yX9_saidWith wsX9_saidWith) := goodIn_app (goodIn_of _ (by decide +kernel)) ggX9_isSo_X9_saidWith
theorem dX9_isSo_0 : decode cX9_isSo 0 = .ok (.aload_n 0, 1) := by decide +kernel
theorem dX9_isSo_1 : decode cX9_isSo 1 = .ok (.iload_n 1, 1) := by decide +kernel
theorem dX9_isSo_2 : decode cX9_isSo 2 = .ok (.iload 4, 2) := by decide +kernel
theorem dX9_isSo_4 : decode cX9_isSo 4 = .ok (.iload 5, 2) := by decide +kernel
theorem dX9_isSo_6 : decode cX9_isSo 6 = .ok (.invokevirtual 116, 3) := by decide +kernel
theorem dX9_isSo_9 : decode cX9_isSo 9 = .ok (.iload_n 2, 1) := by decide +kernel
theorem dX9_isSo_10 : decode cX9_isSo 10 = .ok (.ishr, 1) := by decide +kernel
theorem dX9_isSo_11 : decode cX9_isSo 11 = .ok (.iconst 1, 1) := by decide +kernel
theorem dX9_isSo_12 : decode cX9_isSo 12 = .ok (.iand, 1) := by decide +kernel
theorem dX9_isSo_13 : decode cX9_isSo 13 = .ok (.iconst 1, 1) := by decide +kernel
theorem dX9_isSo_14 : decode cX9_isSo 14 = .ok (.if_icmp .ne 7, 3) := by decide +kernel
theorem dX9_isSo_17 : decode cX9_isSo 17 = .ok (.iconst 1, 1) := by decide +kernel
theorem dX9_isSo_18 : decode cX9_isSo 18 = .ok (.goto 4, 3) := by decide +kernel
theorem dX9_isSo_21 : decode cX9_isSo 21 = .ok (.iconst 0, 1) := by decide +kernel
theorem dX9_isSo_22 : decode cX9_isSo 22 = .ok (.iload_n 3, 1) := by decide +kernel
theorem dX9_isSo_23 : decode cX9_isSo 23 = .ok (.if_icmp .ne 7, 3) := by decide +kernel
theorem dX9_isSo_26 : decode cX9_isSo 26 = .ok (.iconst 1, 1) := by decide +kernel
theorem dX9_isSo_27 : decode cX9_isSo 27 = .ok (.goto 4, 3) := by decide +kernel
theorem dX9_isSo_30 : decode cX9_isSo 30 = .ok (.iconst 0, 1) := by decide +kernel
theorem dX9_isSo_31 : decode cX9_isSo 31 = .ok (.ireturn, 1) := by decide +kernel
set_option maxRecDepth 20000 in
theorem ggX9_findPut_X9_isSo : GoodIn wsX9_findPut wsX9_isSo := goodIn_r _ [9, 10, 11, 12, 8, 13, 4, 14, 15, 16, 17, 18, 19, 20, 21, 22, 23, 24, 25, 26, 27, 28, 29, 30, 31, 32, 33, 34, 35, 36, 37, 38, 39, 40, 41, 42, 43, 44, 45, 46, 47, 48, 49, 50] (by decide +kernel) (by decide +kernel)
set_option maxRecDepth 20000 in
theorem gX9_findPut_X9_isSo : GoodIn wsX9_findPut (wsV RX9 123 RX9 yX9_isSo wsX9_isSo) := goodIn_app (goodIn_of _ (by decide +kernel)) ggX9_findPut_X9_isSo
theorem dX9_findPut_0 : decode cX9_findPut 0 = .ok (.aload_n 0, 1) := by decide +kernel
theorem dX9_findPut_1 : decode cX9_findPut 1 = .ok (.aload_n 0, 1) := by decide +kernel
theorem dX9_findPut_2 : decode cX9_findPut 2 = .ok (.iload_n 1, 1) := by decide +kernel
theorem dX9_findPut_3 : decode cX9_findPut 3 = .ok (.iload_n 2, 1) := by decide +kernel
theorem dX9_findPut_4 : decode cX9_findPut 4 = .ok (.iload_n 3, 1) := by decide +kernel
theorem dX9_findPut_5 : decode cX9_findPut 5 = .ok (.bipush (-9), 2) := by decide +kernel
theorem dX9_findPut_7 : decode cX9_findPut 7 = .ok (.bipush (-9), 2) := by decide +kernel
theorem dX9_findPut_9 : decode cX9_findPut 9 = .ok (.invokevirtual 123, 3) := by decide +kernel
theorem dX9_findPut_12 : decode cX9_findPut 12 = .ok (.ifCond .eq 7, 3) := by decide +kernel
theorem dX9_findPut_15 : decode cX9_findPut 15 = .ok (.iconst 0, 1) := by decide +kernel
theorem dX9_findPut_16 : decode cX9_findPut 16 = .ok (.goto 5, 3) := by decide +kernel
theorem dX9_findPut_19 : decode cX9_findPut 19 = .ok (.bipush (-9), 2) := by decide +kernel
theorem dX9_findPut_21 : decode cX9_findPut 21 = .ok (.putfield 127, 3) := by decide +kernel
theorem dX9_findPut_24 : decode cX9_findPut 24 = .ok (.aload_n 0, 1) := by decide +kernel
theorem dX9_findPut_25 : decode cX9_findPut 25 = .ok (.bipush (-9), 2) := by decide +kernel
theorem dX9_findPut_27 : decode cX9_findPut 27 = .ok (.putfield 130, 3) := by decide +kernel
theorem dX9_findPut_30 : decode cX9_findPut 30 = .ok (.aload_n 0, 1) := by decide +kernel
theorem dX9_findPut_31 : decode cX9_findPut 31 = .ok (.bipush (-9), 2) := by decide +kernel
theorem dX9_findPut_33 : decode cX9_findPut 33 = .ok (.putfield 133, 3) := by decide +kernel
theorem dX9_findPut_36 : decode cX9_findPut 36 = .ok (.bipush 10, 2) := by decide +kernel
theorem dX9_findPut_38 : decode cX9_findPut 38 = .ok (.aload_n 0, 1) := by decide +kernel
theorem dX9_findPut_39 : decode cX9_findPut 39 = .ok (.getfield 22, 3) := by decide +kernel
theorem dX9_findPut_42 : decode cX9_findPut 42 = .ok (.iload_n 1, 1) := by decide +kernel
theorem dX9_findPut_43 : decode cX9_findPut 43 = .ok (.iaload, 1) := by decide +kernel
theorem dX9_findPut_44 : decode cX9_findPut 44 = .ok (.imul, 1) := by decide +kernel
theorem dX9_findPut_45 : decode cX9_findPut 45 = .ok (.bipush 8, 2) := by decide +kernel
theorem dX9_findPut_47 : decode cX9_findPut 47 = .ok (.iadd, 1) := by decide +kernel
theorem dX9_findPut_48 : decode cX9_findPut 48 = .ok (.istore 4, 2) := by decide +kernel
theorem dX9_findPut_50 : decode cX9_findPut 50 = .ok (.iconst 0, 1) := by decide +kernel
theorem dX9_findPut_51 : decode cX9_findPut 51 = .ok (.istore 5, 2) := by decide +kernel
theorem dX9_findPut_53 : decode cX9_findPut 53 = .ok (.iload 5, 2) := by decide +kernel
theorem dX9_findPut_55 : decode cX9_findPut 55 = .ok (.iload 4, 2) := by decide +kernel
theorem dX9_findPut_57 : decode cX9_findPut 57 = .ok (.if_icmp .ge 53, 3) := by decide +kernel
theorem dX9_findPut_60 : decode cX9_findPut 60 = .ok (.aload_n 0, 1) := by decide +kernel
theorem dX9_findPut_61 : decode cX9_findPut 61 = .ok (.getfield 127, 3) := by decide +kernel
theorem dX9_findPut_64 : decode cX9_findPut 64 = .ok (.bipush (-9), 2) := by decide +kernel
theorem dX9_findPut_66 : decode cX9_findPut 66 = .ok (.if_icmp .ne 44, 3) := by decide +kernel
theorem dX9_findPut_69 : decode cX9_findPut 69 = .ok (.iload 5, 2) := by decide +kernel
theorem dX9_findPut_71 : decode cX9_findPut 71 = .ok (.bipush 10, 2) := by decide +kernel
theorem dX9_findPut_73 : decode cX9_findPut 73 = .ok (.irem, 1) := by decide +kernel
theorem dX9_findPut_74 : decode cX9_findPut 74 = .ok (.bipush 8, 2) := by decide +kernel
theorem dX9_findPut_76 : decode cX9_findPut 76 = .ok (.if_icmp .ge 28, 3) := by decide +kernel
theorem dX9_findPut_79 : decode cX9_findPut 79 = .ok (.aload_n 0, 1) := by decide +kernel
theorem dX9_findPut_80 : decode cX9_findPut 80 = .ok (.iload_n 1, 1) := by decide +kernel
theorem dX9_findPut_81 : decode cX9_findPut 81 = .ok (.iload_n 2, 1) := by decide +kernel
theorem dX9_findPut_82 : decode cX9_findPut 82 = .ok (.iload_n 3, 1) := by decide +kernel
theorem dX9_findPut_83 : decode cX9_findPut 83 = .ok (.iload 5, 2) := by decide +kernel
theorem dX9_findPut_85 : decode cX9_findPut 85 = .ok (.bipush (-9), 2) := by decide +kernel
theorem dX9_findPut_87 : decode cX9_findPut 87 = .ok (.invokevirtual 123, 3) := by decide +kernel
theorem dX9_findPut_90 : decode cX9_findPut 90 = .ok (.ifCond .eq 14, 3) := by decide +kernel
theorem dX9_findPut_93 : decode cX9_findPut 93 = .ok (.aload_n 0, 1) := by decide +kernel
theorem dX9_findPut_94 : decode cX9_findPut 94 = .ok (.iconst 1, 1) := by decide +kernel
theorem dX9_findPut_95 : decode cX9_findPut 95 = .ok (.putfield 127, 3) := by decide +kernel
theorem dX9_findPut_98 : decode cX9_findPut 98 = .ok (.aload_n 0, 1) := by decide +kernel
theorem dX9_findPut_99 : decode cX9_findPut 99 = .ok (.iload 5, 2) := by decide +kernel
theorem dX9_findPut_101 : decode cX9_findPut 101 = .ok (.putfield 130, 3) := by decide +kernel
theorem dX9_findPut_104 : decode cX9_findPut 104 = .ok (.iinc 5 1, 3) := by decide +kernel
theorem dX9_findPut_107 : decode cX9_findPut 107 = .ok (.goto (-54), 3) := by decide +kernel
theorem dX9_findPut_110 : decode cX9_findPut 110 = .ok (.iconst 0, 1) := by decide +kernel
theorem dX9_findPut_111 : decode cX9_findPut 111 = .ok (.istore 5, 2) := by decide +kernel
theorem dX9_findPut_113 : decode cX9_findPut 113 = .ok (.iload 5, 2) := by decide +kernel
theorem dX9_findPut_115 : decode cX9_findPut 115 = .ok (.iload 4, 2) := by decide +kernel
theorem dX9_findPut_117 : decode cX9_findPut 117 = .ok (.if_icmp .ge 101, 3) := by decide +kernel
theorem dX9_findPut_120 : decode cX9_findPut 120 = .ok (.aload_n 0, 1) := by decide +kernel
theorem dX9_findPut_121 : decode cX9_findPut 121 = .ok (.getfield 127, 3) := by decide +kernel
theorem dX9_findPut_124 : decode cX9_findPut 124 = .ok (.bipush (-9), 2) := by decide +kernel
theorem dX9_findPut_126 : decode cX9_findPut 126 = .ok (.if_icmp .ne 92, 3) := by decide +kernel
theorem dX9_findPut_129 : decode cX9_findPut 129 = .ok (.iload 5, 2) := by decide +kernel
theorem dX9_findPut_131 : decode cX9_findPut 131 = .ok (.bipush 10, 2) := by decide +kernel
theorem dX9_findPut_133 : decode cX9_findPut 133 = .ok (.idiv, 1) := by decide +kernel
theorem dX9_findPut_134 : decode cX9_findPut 134 = .ok (.bipush 10, 2) := by decide +kernel
theorem dX9_findPut_136 : decode cX9_findPut 136 = .ok (.imul, 1) := by decide +kernel
theorem dX9_findPut_137 : decode cX9_findPut 137 = .ok (.istore 6, 2) := by decide +kernel
theorem dX9_findPut_139 : decode cX9_findPut 139 = .ok (.iload 6, 2) := by decide +kernel
theorem dX9_findPut_141 : decode cX9_findPut 141 = .ok (.iload 4, 2) := by decide +kernel
theorem dX9_findPut_143 : decode cX9_findPut 143 = .ok (.if_icmp .ge 69, 3) := by decide +kernel
theorem dX9_findPut_146 : decode cX9_findPut 146 = .ok (.aload_n 0, 1) := by decide +kernel
theorem dX9_findPut_147 : decode cX9_findPut 147 = .ok (.getfield 127, 3) := by decide +kernel
theorem dX9_findPut_150 : decode cX9_findPut 150 = .ok (.bipush (-9), 2) := by decide +kernel
theorem dX9_findPut_152 : decode cX9_findPut 152 = .ok (.if_icmp .ne 60, 3) := by decide +kernel
theorem dX9_findPut_155 : decode cX9_findPut 155 = .ok (.iload 5, 2) := by decide +kernel
theorem dX9_findPut_157 : decode cX9_findPut 157 = .ok (.bipush 10, 2) := by decide +kernel
theorem dX9_findPut_159 : decode cX9_findPut 159 = .ok (.irem, 1) := by decide +kernel
theorem dX9_findPut_160 : decode cX9_findPut 160 = .ok (.bipush 8, 2) := by decide +kernel
theorem dX9_findPut_162 : decode cX9_findPut 162 = .ok (.if_icmp .ge 44, 3) := by decide +kernel
theorem dX9_findPut_165 : decode cX9_findPut 165 = .ok (.iload 6, 2) := by decide +kernel
theorem dX9_findPut_167 : decode cX9_findPut 167 = .ok (.bipush 10, 2) := by decide +kernel
theorem dX9_findPut_169 : decode cX9_findPut 169 = .ok (.irem, 1) := by decide +kernel
theorem dX9_findPut_170 : decode cX9_findPut 170 = .ok (.bipush 8, 2) := by decide +kernel
theorem dX9_findPut_172 : decode cX9_findPut 172 = .ok (.if_icmp .ge 34, 3) := by decide +kernel
theorem dX9_findPut_175 : decode cX9_findPut 175 = .ok (.aload_n 0, 1) := by decide +kernel
theorem dX9_findPut_176 : decode cX9_findPut 176 = .ok (.iload_n 1, 1) := by decide +kernel
theorem dX9_findPut_177 : decode cX9_findPut 177 = .ok (.iload_n 2, 1) := by decide +kernel
theorem dX9_findPut_178 : decode cX9_findPut 178 = .ok (.iload_n 3, 1) := by decide +kernel
theorem dX9_findPut_179 : decode cX9_findPut 179 = .ok (.iload 5, 2) := by decide +kernel
theorem dX9_findPut_181 : decode cX9_findPut 181 = .ok (.iload 6, 2) := by decide +kernel
theorem dX9_findPut_183 : decode cX9_findPut 183 = .ok (.invokevirtual 123, 3) := by decide +kernel
theorem dX9_findPut_186 : decode cX9_findPut 186 = .ok (.ifCond .eq 20, 3) := by decide +kernel
theorem dX9_findPut_189 : decode cX9_findPut 189 = .ok (.aload_n 0, 1) := by decide +kernel
theorem dX9_findPut_190 : decode cX9_findPut 190 = .ok (.iconst 2, 1) := by decide +kernel
theorem dX9_findPut_191 : decode cX9_findPut 191 = .ok (.putfield 127, 3) := by decide +kernel
theorem dX9_findPut_194 : decode cX9_findPut 194 = .ok (.aload_n 0, 1) := by decide +kernel
theorem dX9_findPut_195 : decode cX9_findPut 195 = .ok (.iload 5, 2) := by decide +kernel
theorem dX9_findPut_197 : decode cX9_findPut 197 = .ok (.putfield 130, 3) := by decide +kernel
theorem dX9_findPut_200 : decode cX9_findPut 200 = .ok (.aload_n 0, 1) := by decide +kernel
theorem dX9_findPut_201 : decode cX9_findPut 201 = .ok (.iload 6, 2) := by decide +kernel
theorem dX9_findPut_203 : decode cX9_findPut 203 = .ok (.putfield 133, 3) := by decide +kernel
theorem dX9_findPut_206 : decode cX9_findPut 206 = .ok (.iinc 6 1, 3) := by decide +kernel
theorem dX9_findPut_209 : decode cX9_findPut 209 = .ok (.goto (-70), 3) := by decide +kernel
theorem dX9_findPut_212 : decode cX9_findPut 212 = .ok (.iinc 5 1, 3) := by decide +kernel
theorem dX9_findPut_215 : decode cX9_findPut 215 = .ok (.goto (-102), 3) := by decide +kernel
theorem dX9_findPut_218 : decode cX9_findPut 218 = .ok (.return_, 1) := by decide +kernel
set_option maxRecDepth 20000 in
theorem ggX9_putIn_X9_isDay : GoodIn wsX9_putIn wsX9_isDay := goodIn_r _ [9, 10, 40, 41, 42, 43, 44, 45, 46, 47, 48, 49, 50, 51, 52, 53, 54, 55, 56, 57, 58, 59, 60, 61, 62, 63, 64, 65] (by decide +kernel) (by decide +kernel)
set_option maxRecDepth 20000 in
theorem gX9_putIn_X9_isDay : GoodIn wsX9_putIn (wsV RX9 105 RX9 yX9_isDay wsX9_isDay) := goodIn_app (goodIn_of _ (by decide +kernel)) ggX9_putIn_X9_isDay
set_option maxRecDepth 20000 in
theorem ggX9_putIn_X9_isWord : GoodIn wsX9_putIn wsX9_isWord := goodIn_r _ [13, 14, 15, 8, 16] (by decide +kernel) (by decide +kernel)
set_option maxRecDepth 20000 in
theorem gX9_putIn_X9_isWord : GoodIn wsX9_putIn (va_wsS RX9 102 yX9_isWord wsX9_isWord) := goodIn_app (goodIn_of _ (by decide +kernel)) ggX9_putIn_X9_isWord
set_option maxRecDepth 20000 in
theorem ggX9_putIn_X9_inside : GoodIn wsX9_putIn wsX9_inside := goodIn_r _ [16] (by decide +kernel) (by decide +kernel)
set_option maxRecDepth 20000 in
theorem gX9_putIn_X9_inside : GoodIn wsX9_putIn (va_wsS RX9 71 yX9_inside wsX9_inside) := goodIn_app (goodIn_of _ (by decide +kernel)) ggX9_putIn_X9_inside
set_option maxRecDepth 20000 in
theorem ggX9_putIn_X9_findPut : GoodIn wsX9_putIn wsX9_findPut := goodIn_r _ [20, 2, 3, 4, 21, 22, 23, 24, 8, 25, 26, 27, 28, 29, 30, 31, 32, 33, 34, 35, 36, 37, 38, 39, 1, 40, 41, 42, 43, 44, 45, 46, 47, 48, 49, 50, 51, 52, 53, 54, 55, 56, 57, 58, 59, 60, 61, 62, 63, 64, 65] (by decide +kernel) (by decide +kernel)
set_option maxRecDepth 20000 in
theorem gX9_putIn_X9_findPut : GoodIn wsX9_putIn (wsV RX9 136 RX9 yX9_findPut wsX9_findPut) := goodIn_app (goodIn_of _ (by decide +kernel)) ggX9_putIn_X9_findPut
theorem dX9_putIn_0 : decode cX9_putIn 0 = .ok (.aload_n 0, 1) := by decide +kernel
theorem dX9_putIn_1 : decode cX9_putIn 1 = .ok (.iload_n 1, 1) := by decide +kernel
theorem dX9_putIn_2 : decode cX9_putIn 2 = .ok (.invokevirtual 105, 3) := by decide +kernel
theorem dX9_putIn_5 : decode cX9_putIn 5 = .ok (.ifCond .eq 20, 3) := by decide +kernel
theorem dX9_putIn_8 : decode cX9_putIn 8 = .ok (.iload_n 2, 1) := by decide +kernel
theorem dX9_putIn_9 : decode cX9_putIn 9 = .ok (.invokestatic 102, 3) := by decide +kernel
theorem dX9_putIn_12 : decode cX9_putIn 12 = .ok (.ifCond .eq 13, 3) := by decide +kernel
theorem dX9_putIn_15 : decode cX9_putIn 15 = .ok (.iload 4, 2) := by decide +kernel
theorem dX9_putIn_17 : decode cX9_putIn 17 = .ok (.iconst (-1), 1) := by decide +kernel
theorem dX9_putIn_18 : decode cX9_putIn 18 = .ok (.iconst 1, 1) := by decide +kernel
theorem dX9_putIn_19 : decode cX9_putIn 19 = .ok (.invokestatic 71, 3) := by decide +kernel
theorem dX9_putIn_22 : decode cX9_putIn 22 = .ok (.ifCond .ne 5, 3) := by decide +kernel
theorem dX9_putIn_25 : decode cX9_putIn 25 = .ok (.iconst (-1), 1) := by decide +kernel
theorem dX9_putIn_26 : decode cX9_putIn 26 = .ok (.ireturn, 1) := by decide +kernel
theorem dX9_putIn_27 : decode cX9_putIn 27 = .ok (.aload_n 0, 1) := by decide +kernel
theorem dX9_putIn_28 : decode cX9_putIn 28 = .ok (.getfield 19, 3) := by decide +kernel
theorem dX9_putIn_31 : decode cX9_putIn 31 = .ok (.iload_n 2, 1) := by decide +kernel
theorem dX9_putIn_32 : decode cX9_putIn 32 = .ok (.iaload, 1) := by decide +kernel
theorem dX9_putIn_33 : decode cX9_putIn 33 = .ok (.ifCond .eq 6, 3) := by decide +kernel
theorem dX9_putIn_36 : decode cX9_putIn 36 = .ok (.bipush (-3), 2) := by decide +kernel
theorem dX9_putIn_38 : decode cX9_putIn 38 = .ok (.ireturn, 1) := by decide +kernel
theorem dX9_putIn_39 : decode cX9_putIn 39 = .ok (.aload_n 0, 1) := by decide +kernel
theorem dX9_putIn_40 : decode cX9_putIn 40 = .ok (.iload_n 1, 1) := by decide +kernel
theorem dX9_putIn_41 : decode cX9_putIn 41 = .ok (.iload_n 2, 1) := by decide +kernel
theorem dX9_putIn_42 : decode cX9_putIn 42 = .ok (.iload_n 3, 1) := by decide +kernel
theorem dX9_putIn_43 : decode cX9_putIn 43 = .ok (.invokevirtual 136, 3) := by decide +kernel
theorem dX9_putIn_46 : decode cX9_putIn 46 = .ok (.iload 4, 2) := by decide +kernel
theorem dX9_putIn_48 : decode cX9_putIn 48 = .ok (.iconst (-1), 1) := by decide +kernel
theorem dX9_putIn_49 : decode cX9_putIn 49 = .ok (.if_icmp .ne 10, 3) := by decide +kernel
theorem dX9_putIn_52 : decode cX9_putIn 52 = .ok (.aload_n 0, 1) := by decide +kernel
theorem dX9_putIn_53 : decode cX9_putIn 53 = .ok (.getfield 127, 3) := by decide +kernel
theorem dX9_putIn_56 : decode cX9_putIn 56 = .ok (.goto 19, 3) := by decide +kernel
theorem dX9_putIn_59 : decode cX9_putIn 59 = .ok (.iload 4, 2) := by decide +kernel
theorem dX9_putIn_61 : decode cX9_putIn 61 = .ok (.ifCond .ne 10, 3) := by decide +kernel
theorem dX9_putIn_64 : decode cX9_putIn 64 = .ok (.aload_n 0, 1) := by decide +kernel
theorem dX9_putIn_65 : decode cX9_putIn 65 = .ok (.getfield 130, 3) := by decide +kernel
theorem dX9_putIn_68 : decode cX9_putIn 68 = .ok (.goto 7, 3) := by decide +kernel
theorem dX9_putIn_71 : decode cX9_putIn 71 = .ok (.aload_n 0, 1) := by decide +kernel
theorem dX9_putIn_72 : decode cX9_putIn 72 = .ok (.getfield 133, 3) := by decide +kernel
theorem dX9_putIn_75 : decode cX9_putIn 75 = .ok (.ireturn, 1) := by decide +kernel
theorem dX9_spot_0 : decode cX9_spot 0 = .ok (.bipush 13, 2) := by decide +kernel
theorem dX9_spot_2 : decode cX9_spot 2 = .ok (.iload_n 0, 1) := by decide +kernel
theorem dX9_spot_3 : decode cX9_spot 3 = .ok (.imul, 1) := by decide +kernel
theorem dX9_spot_4 : decode cX9_spot 4 = .ok (.iload_n 1, 1) := by decide +kernel
theorem dX9_spot_5 : decode cX9_spot 5 = .ok (.iadd, 1) := by decide +kernel
theorem dX9_spot_6 : decode cX9_spot 6 = .ok (.ireturn, 1) := by decide +kernel
set_option maxRecDepth 20000 in
theorem ggX9_ways_X9_isDay : GoodIn wsX9_ways wsX9_isDay := goodIn_r _ [8, 9, 18, 19, 20, 21, 22, 23, 24, 25, 26, 27, 28, 29, 30, 31, 32, 33, 34, 35, 36, 37, 38, 39, 40, 41, 42, 43] (by decide +kernel) (by decide +kernel)
set_option maxRecDepth 20000 in
theorem gX9_ways_X9_isDay : GoodIn wsX9_ways (wsV RX9 105 RX9 yX9_isDay wsX9_isDay) := goodIn_app (goodIn_of _ (by decide +kernel)) ggX9_ways_X9_isDay
set_option maxRecDepth 20000 in
theorem ggX9_ways_X9_spot : GoodIn wsX9_ways wsX9_spot := goodIn_r _ [12] (by decide +kernel) (by decide +kernel)
set_option maxRecDepth 20000 in
theorem gX9_ways_X9_spot : GoodIn wsX9_ways (va_wsS RX9 140 yX9_spot wsX9_spot) := goodIn_app (goodIn_of _ (by decide +kernel)) ggX9_ways_X9_spot
set_option maxRecDepth 20000 in
theorem ggX9_ways_X9_wordAt : GoodIn wsX9_ways wsX9_wordAt := goodIn_r _ [16, 17, 18, 19, 20, 21, 22, 23, 24, 25, 26, 27, 28, 29, 30, 31, 32, 33, 34, 35, 36, 37, 38, 39, 40, 41, 42, 43] (by decide +kernel) (by decide +kernel)
set_option maxRecDepth 20000 in
theorem gX9_ways_X9_wordAt : GoodIn wsX9_ways (wsV RX9 108 RX9 yX9_wordAt wsX9_wordAt) := goodIn_app (goodIn_of _ (by decide +kernel)) ggX9_ways_X9_wordAt
theorem dX9_ways_0 : decode cX9_ways 0 = .ok (.aload_n 0, 1) := by decide +kernel
theorem dX9_ways_1 : decode cX9_ways 1 = .ok (.iload_n 1, 1) := by decide +kernel
theorem dX9_ways_2 : decode cX9_ways 2 = .ok (.invokevirtual 105, 3) := by decide +kernel
theorem dX9_ways_5 : decode cX9_ways 5 = .ok (.ifCond .eq 11, 3) := by decide +kernel
theorem dX9_ways_8 : decode cX9_ways 8 = .ok (.aload_n 0, 1) := by decide +kernel
theorem dX9_ways_9 : decode cX9_ways 9 = .ok (.iload_n 2, 1) := by decide +kernel
theorem dX9_ways_10 : decode cX9_ways 10 = .ok (.invokevirtual 105, 3) := by decide +kernel
theorem dX9_ways_13 : decode cX9_ways 13 = .ok (.ifCond .ne 7, 3) := by decide +kernel
theorem dX9_ways_16 : decode cX9_ways 16 = .ok (.ldc2_w 69, 3) := by decide +kernel
theorem dX9_ways_19 : decode cX9_ways 19 = .ok (.lreturn, 1) := by decide +kernel
theorem dX9_ways_20 : decode cX9_ways 20 = .ok (.aload_n 0, 1) := by decide +kernel
theorem dX9_ways_21 : decode cX9_ways 21 = .ok (.getfield 22, 3) := by decide +kernel
theorem dX9_ways_24 : decode cX9_ways 24 = .ok (.iload_n 1, 1) := by decide +kernel
theorem dX9_ways_25 : decode cX9_ways 25 = .ok (.iaload, 1) := by decide +kernel
theorem dX9_ways_26 : decode cX9_ways 26 = .ok (.istore_n 3, 1) := by decide +kernel
theorem dX9_ways_27 : decode cX9_ways 27 = .ok (.iconst 0, 1) := by decide +kernel
theorem dX9_ways_28 : decode cX9_ways 28 = .ok (.istore 4, 2) := by decide +kernel
theorem dX9_ways_30 : decode cX9_ways 30 = .ok (.iload 4, 2) := by decide +kernel
theorem dX9_ways_32 : decode cX9_ways 32 = .ok (.aload_n 0, 1) := by decide +kernel
theorem dX9_ways_33 : decode cX9_ways 33 = .ok (.getfield 22, 3) := by decide +kernel
theorem dX9_ways_36 : decode cX9_ways 36 = .ok (.iload_n 2, 1) := by decide +kernel
theorem dX9_ways_37 : decode cX9_ways 37 = .ok (.iaload, 1) := by decide +kernel
theorem dX9_ways_38 : decode cX9_ways 38 = .ok (.if_icmp .gt 118, 3) := by decide +kernel
theorem dX9_ways_41 : decode cX9_ways 41 = .ok (.iconst 0, 1) := by decide +kernel
theorem dX9_ways_42 : decode cX9_ways 42 = .ok (.istore 5, 2) := by decide +kernel
theorem dX9_ways_44 : decode cX9_ways 44 = .ok (.iload 5, 2) := by decide +kernel
theorem dX9_ways_46 : decode cX9_ways 46 = .ok (.iload_n 3, 1) := by decide +kernel
theorem dX9_ways_47 : decode cX9_ways 47 = .ok (.if_icmp .gt 103, 3) := by decide +kernel
theorem dX9_ways_50 : decode cX9_ways 50 = .ok (.iload 5, 2) := by decide +kernel
theorem dX9_ways_52 : decode cX9_ways 52 = .ok (.ifCond .ne 7, 3) := by decide +kernel
theorem dX9_ways_55 : decode cX9_ways 55 = .ok (.lconst 1, 1) := by decide +kernel
theorem dX9_ways_56 : decode cX9_ways 56 = .ok (.goto 4, 3) := by decide +kernel
theorem dX9_ways_59 : decode cX9_ways 59 = .ok (.lconst 0, 1) := by decide +kernel
theorem dX9_ways_60 : decode cX9_ways 60 = .ok (.lstore 6, 2) := by decide +kernel
theorem dX9_ways_62 : decode cX9_ways 62 = .ok (.iload 5, 2) := by decide +kernel
theorem dX9_ways_64 : decode cX9_ways 64 = .ok (.ifCond .le 66, 3) := by decide +kernel
theorem dX9_ways_67 : decode cX9_ways 67 = .ok (.iload 4, 2) := by decide +kernel
theorem dX9_ways_69 : decode cX9_ways 69 = .ok (.ifCond .le 61, 3) := by decide +kernel
theorem dX9_ways_72 : decode cX9_ways 72 = .ok (.aload_n 0, 1) := by decide +kernel
theorem dX9_ways_73 : decode cX9_ways 73 = .ok (.getfield 43, 3) := by decide +kernel
theorem dX9_ways_76 : decode cX9_ways 76 = .ok (.iload 5, 2) := by decide +kernel
theorem dX9_ways_78 : decode cX9_ways 78 = .ok (.iload 4, 2) := by decide +kernel
theorem dX9_ways_80 : decode cX9_ways 80 = .ok (.iconst 1, 1) := by decide +kernel
theorem dX9_ways_81 : decode cX9_ways 81 = .ok (.isub, 1) := by decide +kernel
theorem dX9_ways_82 : decode cX9_ways 82 = .ok (.invokestatic 140, 3) := by decide +kernel
theorem dX9_ways_85 : decode cX9_ways 85 = .ok (.laload, 1) := by decide +kernel
theorem dX9_ways_86 : decode cX9_ways 86 = .ok (.aload_n 0, 1) := by decide +kernel
theorem dX9_ways_87 : decode cX9_ways 87 = .ok (.iload_n 1, 1) := by decide +kernel
theorem dX9_ways_88 : decode cX9_ways 88 = .ok (.iload 5, 2) := by decide +kernel
theorem dX9_ways_90 : decode cX9_ways 90 = .ok (.iconst 1, 1) := by decide +kernel
theorem dX9_ways_91 : decode cX9_ways 91 = .ok (.isub, 1) := by decide +kernel
theorem dX9_ways_92 : decode cX9_ways 92 = .ok (.invokevirtual 108, 3) := by decide +kernel
theorem dX9_ways_95 : decode cX9_ways 95 = .ok (.aload_n 0, 1) := by decide +kernel
theorem dX9_ways_96 : decode cX9_ways 96 = .ok (.iload_n 2, 1) := by decide +kernel
theorem dX9_ways_97 : decode cX9_ways 97 = .ok (.iload 4, 2) := by decide +kernel
theorem dX9_ways_99 : decode cX9_ways 99 = .ok (.iconst 1, 1) := by decide +kernel
theorem dX9_ways_100 : decode cX9_ways 100 = .ok (.isub, 1) := by decide +kernel
theorem dX9_ways_101 : decode cX9_ways 101 = .ok (.invokevirtual 108, 3) := by decide +kernel
theorem dX9_ways_104 : decode cX9_ways 104 = .ok (.if_icmp .ne 22, 3) := by decide +kernel
theorem dX9_ways_107 : decode cX9_ways 107 = .ok (.aload_n 0, 1) := by decide +kernel
theorem dX9_ways_108 : decode cX9_ways 108 = .ok (.getfield 43, 3) := by decide +kernel
theorem dX9_ways_111 : decode cX9_ways 111 = .ok (.iload 5, 2) := by decide +kernel
theorem dX9_ways_113 : decode cX9_ways 113 = .ok (.iconst 1, 1) := by decide +kernel
theorem dX9_ways_114 : decode cX9_ways 114 = .ok (.isub, 1) := by decide +kernel
theorem dX9_ways_115 : decode cX9_ways 115 = .ok (.iload 4, 2) := by decide +kernel
theorem dX9_ways_117 : decode cX9_ways 117 = .ok (.iconst 1, 1) := by decide +kernel
theorem dX9_ways_118 : decode cX9_ways 118 = .ok (.isub, 1) := by decide +kernel
theorem dX9_ways_119 : decode cX9_ways 119 = .ok (.invokestatic 140, 3) := by decide +kernel
theorem dX9_ways_122 : decode cX9_ways 122 = .ok (.laload, 1) := by decide +kernel
theorem dX9_ways_123 : decode cX9_ways 123 = .ok (.goto 4, 3) := by decide +kernel
theorem dX9_ways_126 : decode cX9_ways 126 = .ok (.lconst 0, 1) := by decide +kernel
theorem dX9_ways_127 : decode cX9_ways 127 = .ok (.ladd, 1) := by decide +kernel
theorem dX9_ways_128 : decode cX9_ways 128 = .ok (.lstore 6, 2) := by decide +kernel
theorem dX9_ways_130 : decode cX9_ways 130 = .ok (.aload_n 0, 1) := by decide +kernel
theorem dX9_ways_131 : decode cX9_ways 131 = .ok (.getfield 43, 3) := by decide +kernel
theorem dX9_ways_134 : decode cX9_ways 134 = .ok (.iload 5, 2) := by decide +kernel
theorem dX9_ways_136 : decode cX9_ways 136 = .ok (.iload 4, 2) := by decide +kernel
theorem dX9_ways_138 : decode cX9_ways 138 = .ok (.invokestatic 140, 3) := by decide +kernel
theorem dX9_ways_141 : decode cX9_ways 141 = .ok (.lload 6, 2) := by decide +kernel
theorem dX9_ways_143 : decode cX9_ways 143 = .ok (.lastore, 1) := by decide +kernel
theorem dX9_ways_144 : decode cX9_ways 144 = .ok (.iinc 5 1, 3) := by decide +kernel
theorem dX9_ways_147 : decode cX9_ways 147 = .ok (.goto (-103), 3) := by decide +kernel
theorem dX9_ways_150 : decode cX9_ways 150 = .ok (.iinc 4 1, 3) := by decide +kernel
theorem dX9_ways_153 : decode cX9_ways 153 = .ok (.goto (-123), 3) := by decide +kernel
theorem dX9_ways_156 : decode cX9_ways 156 = .ok (.aload_n 0, 1) := by decide +kernel
theorem dX9_ways_157 : decode cX9_ways 157 = .ok (.getfield 43, 3) := by decide +kernel
theorem dX9_ways_160 : decode cX9_ways 160 = .ok (.iload_n 3, 1) := by decide +kernel
theorem dX9_ways_161 : decode cX9_ways 161 = .ok (.aload_n 0, 1) := by decide +kernel
theorem dX9_ways_162 : decode cX9_ways 162 = .ok (.getfield 22, 3) := by decide +kernel
theorem dX9_ways_165 : decode cX9_ways 165 = .ok (.iload_n 2, 1) := by decide +kernel
theorem dX9_ways_166 : decode cX9_ways 166 = .ok (.iaload, 1) := by decide +kernel
theorem dX9_ways_167 : decode cX9_ways 167 = .ok (.invokestatic 140, 3) := by decide +kernel
theorem dX9_ways_170 : decode cX9_ways 170 = .ok (.laload, 1) := by decide +kernel
theorem dX9_ways_171 : decode cX9_ways 171 = .ok (.lreturn, 1) := by decide +kernel
set_option maxRecDepth 20000 in
theorem ggX9_place_X9_isDay : GoodIn wsX9_place wsX9_isDay := goodIn_r _ [8, 9, 22, 23, 24, 25, 26, 27, 28, 29, 30, 31, 32, 33, 34, 35, 36, 37, 38, 39, 40, 41, 42, 43, 44, 45, 46, 47] (by decide +kernel) (by decide +kernel)
set_option maxRecDepth 20000 in
theorem gX9_place_X9_isDay : GoodIn wsX9_place (wsV RX9 105 RX9 yX9_isDay wsX9_isDay) := goodIn_app (goodIn_of _ (by decide +kernel)) ggX9_place_X9_isDay
set_option maxRecDepth 20000 in
theorem ggX9_place_X9_inside : GoodIn wsX9_place wsX9_inside := goodIn_r _ [12] (by decide +kernel) (by decide +kernel)
set_option maxRecDepth 20000 in
theorem gX9_place_X9_inside : GoodIn wsX9_place (va_wsS RX9 71 yX9_inside wsX9_inside) := goodIn_app (goodIn_of _ (by decide +kernel)) ggX9_place_X9_inside
set_option maxRecDepth 20000 in
theorem ggX9_place_X9_isWithin : GoodIn wsX9_place wsX9_isWithin := goodIn_r _ [16, 1, 2, 3, 17, 18, 19, 7, 20, 21, 22, 23, 24, 25, 26, 27, 28, 29, 30, 31, 32, 33, 34, 35, 36, 37, 38, 39, 40, 41, 42, 43, 44, 45, 46, 47] (by decide +kernel) (by decide +kernel)
set_option maxRecDepth 20000 in
theorem gX9_place_X9_isWithin : GoodIn wsX9_place (wsV RX9 112 RX9 yX9_isWithin wsX9_isWithin) := goodIn_app (goodIn_of _ (by decide +kernel)) ggX9_place_X9_isWithin
theorem dX9_place_0 : decode cX9_place 0 = .ok (.aload_n 0, 1) := by decide +kernel
theorem dX9_place_1 : decode cX9_place 1 = .ok (.iload_n 1, 1) := by decide +kernel
theorem dX9_place_2 : decode cX9_place 2 = .ok (.invokevirtual 105, 3) := by decide +kernel
theorem dX9_place_5 : decode cX9_place 5 = .ok (.ifCond .eq 27, 3) := by decide +kernel
theorem dX9_place_8 : decode cX9_place 8 = .ok (.aload_n 0, 1) := by decide +kernel
theorem dX9_place_9 : decode cX9_place 9 = .ok (.iload_n 2, 1) := by decide +kernel
theorem dX9_place_10 : decode cX9_place 10 = .ok (.invokevirtual 105, 3) := by decide +kernel
theorem dX9_place_13 : decode cX9_place 13 = .ok (.ifCond .eq 19, 3) := by decide +kernel
theorem dX9_place_16 : decode cX9_place 16 = .ok (.iload_n 3, 1) := by decide +kernel
theorem dX9_place_17 : decode cX9_place 17 = .ok (.iconst 0, 1) := by decide +kernel
theorem dX9_place_18 : decode cX9_place 18 = .ok (.aload_n 0, 1) := by decide +kernel
theorem dX9_place_19 : decode cX9_place 19 = .ok (.getfield 22, 3) := by decide +kernel
theorem dX9_place_22 : decode cX9_place 22 = .ok (.iload_n 1, 1) := by decide +kernel
theorem dX9_place_23 : decode cX9_place 23 = .ok (.iaload, 1) := by decide +kernel
theorem dX9_place_24 : decode cX9_place 24 = .ok (.iconst 1, 1) := by decide +kernel
theorem dX9_place_25 : decode cX9_place 25 = .ok (.isub, 1) := by decide +kernel
theorem dX9_place_26 : decode cX9_place 26 = .ok (.invokestatic 71, 3) := by decide +kernel
theorem dX9_place_29 : decode cX9_place 29 = .ok (.ifCond .ne 5, 3) := by decide +kernel
theorem dX9_place_32 : decode cX9_place 32 = .ok (.iconst (-1), 1) := by decide +kernel
theorem dX9_place_33 : decode cX9_place 33 = .ok (.ireturn, 1) := by decide +kernel
theorem dX9_place_34 : decode cX9_place 34 = .ok (.iload 4, 2) := by decide +kernel
theorem dX9_place_36 : decode cX9_place 36 = .ok (.iconst 0, 1) := by decide +kernel
theorem dX9_place_37 : decode cX9_place 37 = .ok (.iconst 1, 1) := by decide +kernel
theorem dX9_place_38 : decode cX9_place 38 = .ok (.invokestatic 71, 3) := by decide +kernel
theorem dX9_place_41 : decode cX9_place 41 = .ok (.ifCond .ne 6, 3) := by decide +kernel
theorem dX9_place_44 : decode cX9_place 44 = .ok (.bipush (-2), 2) := by decide +kernel
theorem dX9_place_46 : decode cX9_place 46 = .ok (.ireturn, 1) := by decide +kernel
theorem dX9_place_47 : decode cX9_place 47 = .ok (.aload_n 0, 1) := by decide +kernel
theorem dX9_place_48 : decode cX9_place 48 = .ok (.iload_n 1, 1) := by decide +kernel
theorem dX9_place_49 : decode cX9_place 49 = .ok (.iload_n 2, 1) := by decide +kernel
theorem dX9_place_50 : decode cX9_place 50 = .ok (.invokevirtual 112, 3) := by decide +kernel
theorem dX9_place_53 : decode cX9_place 53 = .ok (.ifCond .ne 8, 3) := by decide +kernel
theorem dX9_place_56 : decode cX9_place 56 = .ok (.bipush (-9), 2) := by decide +kernel
theorem dX9_place_58 : decode cX9_place 58 = .ok (.goto 23, 3) := by decide +kernel
theorem dX9_place_61 : decode cX9_place 61 = .ok (.iload 4, 2) := by decide +kernel
theorem dX9_place_63 : decode cX9_place 63 = .ok (.ifCond .ne 12, 3) := by decide +kernel
theorem dX9_place_66 : decode cX9_place 66 = .ok (.aload_n 0, 1) := by decide +kernel
theorem dX9_place_67 : decode cX9_place 67 = .ok (.getfield 34, 3) := by decide +kernel
theorem dX9_place_70 : decode cX9_place 70 = .ok (.iload_n 3, 1) := by decide +kernel
theorem dX9_place_71 : decode cX9_place 71 = .ok (.iaload, 1) := by decide +kernel
theorem dX9_place_72 : decode cX9_place 72 = .ok (.goto 9, 3) := by decide +kernel
theorem dX9_place_75 : decode cX9_place 75 = .ok (.aload_n 0, 1) := by decide +kernel
theorem dX9_place_76 : decode cX9_place 76 = .ok (.getfield 37, 3) := by decide +kernel
theorem dX9_place_79 : decode cX9_place 79 = .ok (.iload_n 3, 1) := by decide +kernel
theorem dX9_place_80 : decode cX9_place 80 = .ok (.iaload, 1) := by decide +kernel
theorem dX9_place_81 : decode cX9_place 81 = .ok (.ireturn, 1) := by decide +kernel
set_option maxRecDepth 20000 in
theorem ggX9_mayStand_X9_isWithin : GoodIn wsX9_mayStand wsX9_isWithin := goodIn_r _ [8, 1, 2, 3, 9, 10, 11, 7, 12, 13, 14, 15, 16, 17, 18, 19, 20, 21, 22, 23, 24, 25, 26, 27, 28, 29, 30, 31, 32, 33, 34, 35, 36, 37, 38, 39] (by decide +kernel) (by decide +kernel)
set_option maxRecDepth 20000 in
theorem gX9_mayStand_X9_isWithin : GoodIn wsX9_mayStand (wsV RX9 112 RX9 yX9_isWithin wsX9_isWithin) := goodIn_app (goodIn_of _ (by decide +kernel)) ggX9_mayStand_X9_isWithin
set_option maxRecDepth 20000 in
theorem ggX9_mayStand_X9_wordAt : GoodIn wsX9_mayStand wsX9_wordAt := goodIn_r _ [12, 13, 14, 15, 16, 17, 18, 19, 20, 21, 22, 23, 24, 25, 26, 27, 28, 29, 30, 31, 32, 33, 34, 35, 36, 37, 38, 39] (by decide +kernel) (by decide +kernel)
set_option maxRecDepth 20000 in
theorem gX9_mayStand_X9_wordAt : GoodIn wsX9_mayStand (wsV RX9 108 RX9 yX9_wordAt wsX9_wordAt) := goodIn_app (goodIn_of _ (by decide +kernel)) ggX9_mayStand_X9_wordAt
theorem dX9_mayStand_0 : decode cX9_mayStand 0 = .ok (.aload_n 0, 1) := by decide +kernel
theorem dX9_mayStand_1 : decode cX9_mayStand 1 = .ok (.iload_n 1, 1) := by decide +kernel
theorem dX9_mayStand_2 : decode cX9_mayStand 2 = .ok (.iload_n 2, 1) := by decide +kernel
theorem dX9_mayStand_3 : decode cX9_mayStand 3 = .ok (.invokevirtual 112, 3) := by decide +kernel
theorem dX9_mayStand_6 : decode cX9_mayStand 6 = .ok (.ifCond .ne 5, 3) := by decide +kernel
theorem dX9_mayStand_9 : decode cX9_mayStand 9 = .ok (.iconst 0, 1) := by decide +kernel
theorem dX9_mayStand_10 : decode cX9_mayStand 10 = .ok (.ireturn, 1) := by decide +kernel
theorem dX9_mayStand_11 : decode cX9_mayStand 11 = .ok (.iconst 0, 1) := by decide +kernel
theorem dX9_mayStand_12 : decode cX9_mayStand 12 = .ok (.istore 4, 2) := by decide +kernel
theorem dX9_mayStand_14 : decode cX9_mayStand 14 = .ok (.iload 4, 2) := by decide +kernel
theorem dX9_mayStand_16 : decode cX9_mayStand 16 = .ok (.aload_n 0, 1) := by decide +kernel
theorem dX9_mayStand_17 : decode cX9_mayStand 17 = .ok (.getfield 22, 3) := by decide +kernel
theorem dX9_mayStand_20 : decode cX9_mayStand 20 = .ok (.iload_n 1, 1) := by decide +kernel
theorem dX9_mayStand_21 : decode cX9_mayStand 21 = .ok (.iaload, 1) := by decide +kernel
theorem dX9_mayStand_22 : decode cX9_mayStand 22 = .ok (.if_icmp .ge 95, 3) := by decide +kernel
theorem dX9_mayStand_25 : decode cX9_mayStand 25 = .ok (.iload 4, 2) := by decide +kernel
theorem dX9_mayStand_27 : decode cX9_mayStand 27 = .ok (.ifCond .eq 16, 3) := by decide +kernel
theorem dX9_mayStand_30 : decode cX9_mayStand 30 = .ok (.aload_n 0, 1) := by decide +kernel
theorem dX9_mayStand_31 : decode cX9_mayStand 31 = .ok (.getfield 34, 3) := by decide +kernel
theorem dX9_mayStand_34 : decode cX9_mayStand 34 = .ok (.iload 4, 2) := by decide +kernel
theorem dX9_mayStand_36 : decode cX9_mayStand 36 = .ok (.iconst 1, 1) := by decide +kernel
theorem dX9_mayStand_37 : decode cX9_mayStand 37 = .ok (.isub, 1) := by decide +kernel
theorem dX9_mayStand_38 : decode cX9_mayStand 38 = .ok (.iaload, 1) := by decide +kernel
theorem dX9_mayStand_39 : decode cX9_mayStand 39 = .ok (.iload_n 3, 1) := by decide +kernel
theorem dX9_mayStand_40 : decode cX9_mayStand 40 = .ok (.if_icmp .ge 7, 3) := by decide +kernel
theorem dX9_mayStand_43 : decode cX9_mayStand 43 = .ok (.iconst 1, 1) := by decide +kernel
theorem dX9_mayStand_44 : decode cX9_mayStand 44 = .ok (.goto 4, 3) := by decide +kernel
theorem dX9_mayStand_47 : decode cX9_mayStand 47 = .ok (.iconst 0, 1) := by decide +kernel
theorem dX9_mayStand_48 : decode cX9_mayStand 48 = .ok (.istore 5, 2) := by decide +kernel
theorem dX9_mayStand_50 : decode cX9_mayStand 50 = .ok (.iload 4, 2) := by decide +kernel
theorem dX9_mayStand_52 : decode cX9_mayStand 52 = .ok (.aload_n 0, 1) := by decide +kernel
theorem dX9_mayStand_53 : decode cX9_mayStand 53 = .ok (.getfield 22, 3) := by decide +kernel
theorem dX9_mayStand_56 : decode cX9_mayStand 56 = .ok (.iload_n 1, 1) := by decide +kernel
theorem dX9_mayStand_57 : decode cX9_mayStand 57 = .ok (.iaload, 1) := by decide +kernel
theorem dX9_mayStand_58 : decode cX9_mayStand 58 = .ok (.iconst 1, 1) := by decide +kernel
theorem dX9_mayStand_59 : decode cX9_mayStand 59 = .ok (.isub, 1) := by decide +kernel
theorem dX9_mayStand_60 : decode cX9_mayStand 60 = .ok (.if_icmp .eq 16, 3) := by decide +kernel
theorem dX9_mayStand_63 : decode cX9_mayStand 63 = .ok (.aload_n 0, 1) := by decide +kernel
theorem dX9_mayStand_64 : decode cX9_mayStand 64 = .ok (.getfield 37, 3) := by decide +kernel
theorem dX9_mayStand_67 : decode cX9_mayStand 67 = .ok (.iload 4, 2) := by decide +kernel
theorem dX9_mayStand_69 : decode cX9_mayStand 69 = .ok (.iconst 1, 1) := by decide +kernel
theorem dX9_mayStand_70 : decode cX9_mayStand 70 = .ok (.iadd, 1) := by decide +kernel
theorem dX9_mayStand_71 : decode cX9_mayStand 71 = .ok (.iaload, 1) := by decide +kernel
theorem dX9_mayStand_72 : decode cX9_mayStand 72 = .ok (.iload_n 3, 1) := by decide +kernel
theorem dX9_mayStand_73 : decode cX9_mayStand 73 = .ok (.if_icmp .le 7, 3) := by decide +kernel
theorem dX9_mayStand_76 : decode cX9_mayStand 76 = .ok (.iconst 1, 1) := by decide +kernel
theorem dX9_mayStand_77 : decode cX9_mayStand 77 = .ok (.goto 4, 3) := by decide +kernel
theorem dX9_mayStand_80 : decode cX9_mayStand 80 = .ok (.iconst 0, 1) := by decide +kernel
theorem dX9_mayStand_81 : decode cX9_mayStand 81 = .ok (.istore 6, 2) := by decide +kernel
theorem dX9_mayStand_83 : decode cX9_mayStand 83 = .ok (.aload_n 0, 1) := by decide +kernel
theorem dX9_mayStand_84 : decode cX9_mayStand 84 = .ok (.iload_n 1, 1) := by decide +kernel
theorem dX9_mayStand_85 : decode cX9_mayStand 85 = .ok (.iload 4, 2) := by decide +kernel
theorem dX9_mayStand_87 : decode cX9_mayStand 87 = .ok (.invokevirtual 108, 3) := by decide +kernel
theorem dX9_mayStand_90 : decode cX9_mayStand 90 = .ok (.aload_n 0, 1) := by decide +kernel
theorem dX9_mayStand_91 : decode cX9_mayStand 91 = .ok (.iload_n 2, 1) := by decide +kernel
theorem dX9_mayStand_92 : decode cX9_mayStand 92 = .ok (.iload_n 3, 1) := by decide +kernel
theorem dX9_mayStand_93 : decode cX9_mayStand 93 = .ok (.invokevirtual 108, 3) := by decide +kernel
theorem dX9_mayStand_96 : decode cX9_mayStand 96 = .ok (.if_icmp .ne 15, 3) := by decide +kernel
theorem dX9_mayStand_99 : decode cX9_mayStand 99 = .ok (.iload 5, 2) := by decide +kernel
theorem dX9_mayStand_101 : decode cX9_mayStand 101 = .ok (.ifCond .eq 10, 3) := by decide +kernel
theorem dX9_mayStand_104 : decode cX9_mayStand 104 = .ok (.iload 6, 2) := by decide +kernel
theorem dX9_mayStand_106 : decode cX9_mayStand 106 = .ok (.ifCond .eq 5, 3) := by decide +kernel
theorem dX9_mayStand_109 : decode cX9_mayStand 109 = .ok (.iconst 1, 1) := by decide +kernel
theorem dX9_mayStand_110 : decode cX9_mayStand 110 = .ok (.ireturn, 1) := by decide +kernel
theorem dX9_mayStand_111 : decode cX9_mayStand 111 = .ok (.iinc 4 1, 3) := by decide +kernel
theorem dX9_mayStand_114 : decode cX9_mayStand 114 = .ok (.goto (-100), 3) := by decide +kernel
theorem dX9_mayStand_117 : decode cX9_mayStand 117 = .ok (.iconst 0, 1) := by decide +kernel
theorem dX9_mayStand_118 : decode cX9_mayStand 118 = .ok (.ireturn, 1) := by decide +kernel
set_option maxRecDepth 20000 in
theorem ggX9_mayBe_X9_inside : GoodIn wsX9_mayBe wsX9_inside := goodIn_r _ [6] (by decide +kernel) (by decide +kernel)
set_option maxRecDepth 20000 in
theorem gX9_mayBe_X9_inside : GoodIn wsX9_mayBe (va_wsS RX9 71 yX9_inside wsX9_inside) := goodIn_app (goodIn_of _ (by decide +kernel)) ggX9_mayBe_X9_inside
set_option maxRecDepth 20000 in
theorem ggX9_mayBe_X9_mayStand : GoodIn wsX9_mayBe wsX9_mayStand := goodIn_r _ [10, 2, 11, 12, 13, 14, 15, 5, 16, 17, 18, 19, 20, 21, 22, 23, 24, 25, 26, 27, 28, 29, 30, 31, 32, 33, 34, 35, 36, 37, 38, 39, 40, 41, 42, 43, 44, 45, 46, 47] (by decide +kernel) (by decide +kernel)
set_option maxRecDepth 20000 in
theorem gX9_mayBe_X9_mayStand : GoodIn wsX9_mayBe (wsV RX9 143 RX9 yX9_mayStand wsX9_mayStand) := goodIn_app (goodIn_of _ (by decide +kernel)) ggX9_mayBe_X9_mayStand
theorem dX9_mayBe_0 : decode cX9_mayBe 0 = .ok (.aload_n 0, 1) := by decide +kernel
theorem dX9_mayBe_1 : decode cX9_mayBe 1 = .ok (.getfield 75, 3) := by decide +kernel
theorem dX9_mayBe_4 : decode cX9_mayBe 4 = .ok (.ifCond .eq 24, 3) := by decide +kernel
theorem dX9_mayBe_7 : decode cX9_mayBe 7 = .ok (.iload_n 1, 1) := by decide +kernel
theorem dX9_mayBe_8 : decode cX9_mayBe 8 = .ok (.iconst 0, 1) := by decide +kernel
theorem dX9_mayBe_9 : decode cX9_mayBe 9 = .ok (.aload_n 0, 1) := by decide +kernel
theorem dX9_mayBe_10 : decode cX9_mayBe 10 = .ok (.getfield 22, 3) := by decide +kernel
theorem dX9_mayBe_13 : decode cX9_mayBe 13 = .ok (.aload_n 0, 1) := by decide +kernel
theorem dX9_mayBe_14 : decode cX9_mayBe 14 = .ok (.getfield 75, 3) := by decide +kernel
theorem dX9_mayBe_17 : decode cX9_mayBe 17 = .ok (.iconst 1, 1) := by decide +kernel
theorem dX9_mayBe_18 : decode cX9_mayBe 18 = .ok (.isub, 1) := by decide +kernel
theorem dX9_mayBe_19 : decode cX9_mayBe 19 = .ok (.iaload, 1) := by decide +kernel
theorem dX9_mayBe_20 : decode cX9_mayBe 20 = .ok (.iconst 1, 1) := by decide +kernel
theorem dX9_mayBe_21 : decode cX9_mayBe 21 = .ok (.isub, 1) := by decide +kernel
theorem dX9_mayBe_22 : decode cX9_mayBe 22 = .ok (.invokestatic 71, 3) := by decide +kernel
theorem dX9_mayBe_25 : decode cX9_mayBe 25 = .ok (.ifCond .ne 5, 3) := by decide +kernel
theorem dX9_mayBe_28 : decode cX9_mayBe 28 = .ok (.iconst (-1), 1) := by decide +kernel
theorem dX9_mayBe_29 : decode cX9_mayBe 29 = .ok (.ireturn, 1) := by decide +kernel
theorem dX9_mayBe_30 : decode cX9_mayBe 30 = .ok (.iconst 0, 1) := by decide +kernel
theorem dX9_mayBe_31 : decode cX9_mayBe 31 = .ok (.istore_n 2, 1) := by decide +kernel
theorem dX9_mayBe_32 : decode cX9_mayBe 32 = .ok (.iconst 0, 1) := by decide +kernel
theorem dX9_mayBe_33 : decode cX9_mayBe 33 = .ok (.istore_n 3, 1) := by decide +kernel
theorem dX9_mayBe_34 : decode cX9_mayBe 34 = .ok (.iload_n 3, 1) := by decide +kernel
theorem dX9_mayBe_35 : decode cX9_mayBe 35 = .ok (.aload_n 0, 1) := by decide +kernel
theorem dX9_mayBe_36 : decode cX9_mayBe 36 = .ok (.getfield 75, 3) := by decide +kernel
theorem dX9_mayBe_39 : decode cX9_mayBe 39 = .ok (.if_icmp .ge 34, 3) := by decide +kernel
theorem dX9_mayBe_42 : decode cX9_mayBe 42 = .ok (.iload_n 2, 1) := by decide +kernel
theorem dX9_mayBe_43 : decode cX9_mayBe 43 = .ok (.aload_n 0, 1) := by decide +kernel
theorem dX9_mayBe_44 : decode cX9_mayBe 44 = .ok (.iload_n 3, 1) := by decide +kernel
theorem dX9_mayBe_45 : decode cX9_mayBe 45 = .ok (.aload_n 0, 1) := by decide +kernel
theorem dX9_mayBe_46 : decode cX9_mayBe 46 = .ok (.getfield 75, 3) := by decide +kernel
theorem dX9_mayBe_49 : decode cX9_mayBe 49 = .ok (.iconst 1, 1) := by decide +kernel
theorem dX9_mayBe_50 : decode cX9_mayBe 50 = .ok (.isub, 1) := by decide +kernel
theorem dX9_mayBe_51 : decode cX9_mayBe 51 = .ok (.iload_n 1, 1) := by decide +kernel
theorem dX9_mayBe_52 : decode cX9_mayBe 52 = .ok (.invokevirtual 143, 3) := by decide +kernel
theorem dX9_mayBe_55 : decode cX9_mayBe 55 = .ok (.ifCond .eq 9, 3) := by decide +kernel
theorem dX9_mayBe_58 : decode cX9_mayBe 58 = .ok (.iconst 1, 1) := by decide +kernel
theorem dX9_mayBe_59 : decode cX9_mayBe 59 = .ok (.iload_n 3, 1) := by decide +kernel
theorem dX9_mayBe_60 : decode cX9_mayBe 60 = .ok (.ishl, 1) := by decide +kernel
theorem dX9_mayBe_61 : decode cX9_mayBe 61 = .ok (.goto 4, 3) := by decide +kernel
theorem dX9_mayBe_64 : decode cX9_mayBe 64 = .ok (.iconst 0, 1) := by decide +kernel
theorem dX9_mayBe_65 : decode cX9_mayBe 65 = .ok (.ior, 1) := by decide +kernel
theorem dX9_mayBe_66 : decode cX9_mayBe 66 = .ok (.istore_n 2, 1) := by decide +kernel
theorem dX9_mayBe_67 : decode cX9_mayBe 67 = .ok (.iinc 3 1, 3) := by decide +kernel
theorem dX9_mayBe_70 : decode cX9_mayBe 70 = .ok (.goto (-36), 3) := by decide +kernel
theorem dX9_mayBe_73 : decode cX9_mayBe 73 = .ok (.iload_n 2, 1) := by decide +kernel
theorem dX9_mayBe_74 : decode cX9_mayBe 74 = .ok (.ireturn, 1) := by decide +kernel
set_option maxRecDepth 20000 in
theorem ggX9_layYet_X9_layOne : GoodIn wsX9_layYet wsX9_layOne := goodIn_r _ [6, 1, 7, 8, 9, 10, 5, 11, 12, 13, 14, 15, 16, 17, 18, 19, 20, 21, 22, 23, 24, 25, 26, 27, 28, 29, 30, 31, 32, 33, 34, 35, 36, 37, 38, 39, 40, 41, 42] (by decide +kernel) (by decide +kernel)
set_option maxRecDepth 20000 in
theorem gX9_layYet_X9_layOne : GoodIn wsX9_layYet (wsV RX9 146 RX9 yX9_layOne wsX9_layOne) := goodIn_app (goodIn_of _ (by decide +kernel)) ggX9_layYet_X9_layOne
theorem dX9_layYet_0 : decode cX9_layYet 0 = .ok (.aload_n 0, 1) := by decide +kernel
theorem dX9_layYet_1 : decode cX9_layYet 1 = .ok (.getfield 22, 3) := by decide +kernel
theorem dX9_layYet_4 : decode cX9_layYet 4 = .ok (.iload_n 1, 1) := by decide +kernel
theorem dX9_layYet_5 : decode cX9_layYet 5 = .ok (.iaload, 1) := by decide +kernel
theorem dX9_layYet_6 : decode cX9_layYet 6 = .ok (.istore_n 3, 1) := by decide +kernel
theorem dX9_layYet_7 : decode cX9_layYet 7 = .ok (.iload_n 3, 1) := by decide +kernel
theorem dX9_layYet_8 : decode cX9_layYet 8 = .ok (.ifCond .lt 37, 3) := by decide +kernel
theorem dX9_layYet_11 : decode cX9_layYet 11 = .ok (.aload_n 0, 1) := by decide +kernel
theorem dX9_layYet_12 : decode cX9_layYet 12 = .ok (.getfield 22, 3) := by decide +kernel
theorem dX9_layYet_15 : decode cX9_layYet 15 = .ok (.iload_n 2, 1) := by decide +kernel
theorem dX9_layYet_16 : decode cX9_layYet 16 = .ok (.iaload, 1) := by decide +kernel
theorem dX9_layYet_17 : decode cX9_layYet 17 = .ok (.istore 4, 2) := by decide +kernel
theorem dX9_layYet_19 : decode cX9_layYet 19 = .ok (.iload 4, 2) := by decide +kernel
theorem dX9_layYet_21 : decode cX9_layYet 21 = .ok (.ifCond .lt 18, 3) := by decide +kernel
theorem dX9_layYet_24 : decode cX9_layYet 24 = .ok (.aload_n 0, 1) := by decide +kernel
theorem dX9_layYet_25 : decode cX9_layYet 25 = .ok (.iload_n 1, 1) := by decide +kernel
theorem dX9_layYet_26 : decode cX9_layYet 26 = .ok (.iload_n 2, 1) := by decide +kernel
theorem dX9_layYet_27 : decode cX9_layYet 27 = .ok (.iload_n 3, 1) := by decide +kernel
theorem dX9_layYet_28 : decode cX9_layYet 28 = .ok (.iload 4, 2) := by decide +kernel
theorem dX9_layYet_30 : decode cX9_layYet 30 = .ok (.invokevirtual 146, 3) := by decide +kernel
theorem dX9_layYet_33 : decode cX9_layYet 33 = .ok (.iinc 4 (-1), 3) := by decide +kernel
theorem dX9_layYet_36 : decode cX9_layYet 36 = .ok (.goto (-17), 3) := by decide +kernel
theorem dX9_layYet_39 : decode cX9_layYet 39 = .ok (.iinc 3 (-1), 3) := by decide +kernel
theorem dX9_layYet_42 : decode cX9_layYet 42 = .ok (.goto (-35), 3) := by decide +kernel
theorem dX9_layYet_45 : decode cX9_layYet 45 = .ok (.return_, 1) := by decide +kernel
set_option maxRecDepth 20000 in
theorem ggX9_layOne_X9_spot : GoodIn wsX9_layOne wsX9_spot := goodIn_r _ [7] (by decide +kernel) (by decide +kernel)
set_option maxRecDepth 20000 in
theorem gX9_layOne_X9_spot : GoodIn wsX9_layOne (va_wsS RX9 140 yX9_spot wsX9_spot) := goodIn_app (goodIn_of _ (by decide +kernel)) ggX9_layOne_X9_spot
set_option maxRecDepth 20000 in
theorem ggX9_layOne_X9_wordAt : GoodIn wsX9_layOne wsX9_wordAt := goodIn_r _ [11, 12, 13, 14, 15, 16, 17, 18, 19, 20, 21, 22, 23, 24, 25, 26, 27, 28, 29, 30, 31, 32, 33, 34, 35, 36, 37, 38] (by decide +kernel) (by decide +kernel)
set_option maxRecDepth 20000 in
theorem gX9_layOne_X9_wordAt : GoodIn wsX9_layOne (wsV RX9 108 RX9 yX9_wordAt wsX9_wordAt) := goodIn_app (goodIn_of _ (by decide +kernel)) ggX9_layOne_X9_wordAt
theorem dX9_layOne_0 : decode cX9_layOne 0 = .ok (.iload_n 3, 1) := by decide +kernel
theorem dX9_layOne_1 : decode cX9_layOne 1 = .ok (.iload 4, 2) := by decide +kernel
theorem dX9_layOne_3 : decode cX9_layOne 3 = .ok (.invokestatic 140, 3) := by decide +kernel
theorem dX9_layOne_6 : decode cX9_layOne 6 = .ok (.istore 5, 2) := by decide +kernel
theorem dX9_layOne_8 : decode cX9_layOne 8 = .ok (.iload_n 3, 1) := by decide +kernel
theorem dX9_layOne_9 : decode cX9_layOne 9 = .ok (.aload_n 0, 1) := by decide +kernel
theorem dX9_layOne_10 : decode cX9_layOne 10 = .ok (.getfield 22, 3) := by decide +kernel
theorem dX9_layOne_13 : decode cX9_layOne 13 = .ok (.iload_n 1, 1) := by decide +kernel
theorem dX9_layOne_14 : decode cX9_layOne 14 = .ok (.iaload, 1) := by decide +kernel
theorem dX9_layOne_15 : decode cX9_layOne 15 = .ok (.if_icmp .eq 14, 3) := by decide +kernel
theorem dX9_layOne_18 : decode cX9_layOne 18 = .ok (.iload 4, 2) := by decide +kernel
theorem dX9_layOne_20 : decode cX9_layOne 20 = .ok (.aload_n 0, 1) := by decide +kernel
theorem dX9_layOne_21 : decode cX9_layOne 21 = .ok (.getfield 22, 3) := by decide +kernel
theorem dX9_layOne_24 : decode cX9_layOne 24 = .ok (.iload_n 2, 1) := by decide +kernel
theorem dX9_layOne_25 : decode cX9_layOne 25 = .ok (.iaload, 1) := by decide +kernel
theorem dX9_layOne_26 : decode cX9_layOne 26 = .ok (.if_icmp .ne 37, 3) := by decide +kernel
theorem dX9_layOne_29 : decode cX9_layOne 29 = .ok (.aload_n 0, 1) := by decide +kernel
theorem dX9_layOne_30 : decode cX9_layOne 30 = .ok (.getfield 47, 3) := by decide +kernel
theorem dX9_layOne_33 : decode cX9_layOne 33 = .ok (.iload 5, 2) := by decide +kernel
theorem dX9_layOne_35 : decode cX9_layOne 35 = .ok (.aload_n 0, 1) := by decide +kernel
theorem dX9_layOne_36 : decode cX9_layOne 36 = .ok (.getfield 22, 3) := by decide +kernel
theorem dX9_layOne_39 : decode cX9_layOne 39 = .ok (.iload_n 1, 1) := by decide +kernel
theorem dX9_layOne_40 : decode cX9_layOne 40 = .ok (.iaload, 1) := by decide +kernel
theorem dX9_layOne_41 : decode cX9_layOne 41 = .ok (.iload_n 3, 1) := by decide +kernel
theorem dX9_layOne_42 : decode cX9_layOne 42 = .ok (.isub, 1) := by decide +kernel
theorem dX9_layOne_43 : decode cX9_layOne 43 = .ok (.aload_n 0, 1) := by decide +kernel
theorem dX9_layOne_44 : decode cX9_layOne 44 = .ok (.getfield 22, 3) := by decide +kernel
theorem dX9_layOne_47 : decode cX9_layOne 47 = .ok (.iload_n 2, 1) := by decide +kernel
theorem dX9_layOne_48 : decode cX9_layOne 48 = .ok (.iaload, 1) := by decide +kernel
theorem dX9_layOne_49 : decode cX9_layOne 49 = .ok (.iadd, 1) := by decide +kernel
theorem dX9_layOne_50 : decode cX9_layOne 50 = .ok (.iload 4, 2) := by decide +kernel
theorem dX9_layOne_52 : decode cX9_layOne 52 = .ok (.isub, 1) := by decide +kernel
theorem dX9_layOne_53 : decode cX9_layOne 53 = .ok (.iastore, 1) := by decide +kernel
theorem dX9_layOne_54 : decode cX9_layOne 54 = .ok (.aload_n 0, 1) := by decide +kernel
theorem dX9_layOne_55 : decode cX9_layOne 55 = .ok (.getfield 50, 3) := by decide +kernel
theorem dX9_layOne_58 : decode cX9_layOne 58 = .ok (.iload 5, 2) := by decide +kernel
theorem dX9_layOne_60 : decode cX9_layOne 60 = .ok (.lconst 1, 1) := by decide +kernel
theorem dX9_layOne_61 : decode cX9_layOne 61 = .ok (.lastore, 1) := by decide +kernel
theorem dX9_layOne_62 : decode cX9_layOne 62 = .ok (.return_, 1) := by decide +kernel
theorem dX9_layOne_63 : decode cX9_layOne 63 = .ok (.aload_n 0, 1) := by decide +kernel
theorem dX9_layOne_64 : decode cX9_layOne 64 = .ok (.iload_n 1, 1) := by decide +kernel
theorem dX9_layOne_65 : decode cX9_layOne 65 = .ok (.iload_n 3, 1) := by decide +kernel
theorem dX9_layOne_66 : decode cX9_layOne 66 = .ok (.invokevirtual 108, 3) := by decide +kernel
theorem dX9_layOne_69 : decode cX9_layOne 69 = .ok (.aload_n 0, 1) := by decide +kernel
theorem dX9_layOne_70 : decode cX9_layOne 70 = .ok (.iload_n 2, 1) := by decide +kernel
theorem dX9_layOne_71 : decode cX9_layOne 71 = .ok (.iload 4, 2) := by decide +kernel
theorem dX9_layOne_73 : decode cX9_layOne 73 = .ok (.invokevirtual 108, 3) := by decide +kernel
theorem dX9_layOne_76 : decode cX9_layOne 76 = .ok (.if_icmp .ne 50, 3) := by decide +kernel
theorem dX9_layOne_79 : decode cX9_layOne 79 = .ok (.aload_n 0, 1) := by decide +kernel
theorem dX9_layOne_80 : decode cX9_layOne 80 = .ok (.getfield 47, 3) := by decide +kernel
theorem dX9_layOne_83 : decode cX9_layOne 83 = .ok (.iload 5, 2) := by decide +kernel
theorem dX9_layOne_85 : decode cX9_layOne 85 = .ok (.iconst 1, 1) := by decide +kernel
theorem dX9_layOne_86 : decode cX9_layOne 86 = .ok (.aload_n 0, 1) := by decide +kernel
theorem dX9_layOne_87 : decode cX9_layOne 87 = .ok (.getfield 47, 3) := by decide +kernel
theorem dX9_layOne_90 : decode cX9_layOne 90 = .ok (.iload_n 3, 1) := by decide +kernel
theorem dX9_layOne_91 : decode cX9_layOne 91 = .ok (.iconst 1, 1) := by decide +kernel
theorem dX9_layOne_92 : decode cX9_layOne 92 = .ok (.iadd, 1) := by decide +kernel
theorem dX9_layOne_93 : decode cX9_layOne 93 = .ok (.iload 4, 2) := by decide +kernel
theorem dX9_layOne_95 : decode cX9_layOne 95 = .ok (.iconst 1, 1) := by decide +kernel
theorem dX9_layOne_96 : decode cX9_layOne 96 = .ok (.iadd, 1) := by decide +kernel
theorem dX9_layOne_97 : decode cX9_layOne 97 = .ok (.invokestatic 140, 3) := by decide +kernel
theorem dX9_layOne_100 : decode cX9_layOne 100 = .ok (.iaload, 1) := by decide +kernel
theorem dX9_layOne_101 : decode cX9_layOne 101 = .ok (.iadd, 1) := by decide +kernel
theorem dX9_layOne_102 : decode cX9_layOne 102 = .ok (.iastore, 1) := by decide +kernel
theorem dX9_layOne_103 : decode cX9_layOne 103 = .ok (.aload_n 0, 1) := by decide +kernel
theorem dX9_layOne_104 : decode cX9_layOne 104 = .ok (.getfield 50, 3) := by decide +kernel
theorem dX9_layOne_107 : decode cX9_layOne 107 = .ok (.iload 5, 2) := by decide +kernel
theorem dX9_layOne_109 : decode cX9_layOne 109 = .ok (.aload_n 0, 1) := by decide +kernel
theorem dX9_layOne_110 : decode cX9_layOne 110 = .ok (.getfield 50, 3) := by decide +kernel
theorem dX9_layOne_113 : decode cX9_layOne 113 = .ok (.iload_n 3, 1) := by decide +kernel
theorem dX9_layOne_114 : decode cX9_layOne 114 = .ok (.iconst 1, 1) := by decide +kernel
theorem dX9_layOne_115 : decode cX9_layOne 115 = .ok (.iadd, 1) := by decide +kernel
theorem dX9_layOne_116 : decode cX9_layOne 116 = .ok (.iload 4, 2) := by decide +kernel
theorem dX9_layOne_118 : decode cX9_layOne 118 = .ok (.iconst 1, 1) := by decide +kernel
theorem dX9_layOne_119 : decode cX9_layOne 119 = .ok (.iadd, 1) := by decide +kernel
theorem dX9_layOne_120 : decode cX9_layOne 120 = .ok (.invokestatic 140, 3) := by decide +kernel
theorem dX9_layOne_123 : decode cX9_layOne 123 = .ok (.laload, 1) := by decide +kernel
theorem dX9_layOne_124 : decode cX9_layOne 124 = .ok (.lastore, 1) := by decide +kernel
theorem dX9_layOne_125 : decode cX9_layOne 125 = .ok (.return_, 1) := by decide +kernel
theorem dX9_layOne_126 : decode cX9_layOne 126 = .ok (.aload_n 0, 1) := by decide +kernel
theorem dX9_layOne_127 : decode cX9_layOne 127 = .ok (.getfield 47, 3) := by decide +kernel
theorem dX9_layOne_130 : decode cX9_layOne 130 = .ok (.iload_n 3, 1) := by decide +kernel
theorem dX9_layOne_131 : decode cX9_layOne 131 = .ok (.iconst 1, 1) := by decide +kernel
theorem dX9_layOne_132 : decode cX9_layOne 132 = .ok (.iadd, 1) := by decide +kernel
theorem dX9_layOne_133 : decode cX9_layOne 133 = .ok (.iload 4, 2) := by decide +kernel
theorem dX9_layOne_135 : decode cX9_layOne 135 = .ok (.invokestatic 140, 3) := by decide +kernel
theorem dX9_layOne_138 : decode cX9_layOne 138 = .ok (.iaload, 1) := by decide +kernel
theorem dX9_layOne_139 : decode cX9_layOne 139 = .ok (.istore 6, 2) := by decide +kernel
theorem dX9_layOne_141 : decode cX9_layOne 141 = .ok (.aload_n 0, 1) := by decide +kernel
theorem dX9_layOne_142 : decode cX9_layOne 142 = .ok (.getfield 47, 3) := by decide +kernel
theorem dX9_layOne_145 : decode cX9_layOne 145 = .ok (.iload_n 3, 1) := by decide +kernel
theorem dX9_layOne_146 : decode cX9_layOne 146 = .ok (.iload 4, 2) := by decide +kernel
theorem dX9_layOne_148 : decode cX9_layOne 148 = .ok (.iconst 1, 1) := by decide +kernel
theorem dX9_layOne_149 : decode cX9_layOne 149 = .ok (.iadd, 1) := by decide +kernel
theorem dX9_layOne_150 : decode cX9_layOne 150 = .ok (.invokestatic 140, 3) := by decide +kernel
theorem dX9_layOne_153 : decode cX9_layOne 153 = .ok (.iaload, 1) := by decide +kernel
theorem dX9_layOne_154 : decode cX9_layOne 154 = .ok (.istore 7, 2) := by decide +kernel
theorem dX9_layOne_156 : decode cX9_layOne 156 = .ok (.aload_n 0, 1) := by decide +kernel
theorem dX9_layOne_157 : decode cX9_layOne 157 = .ok (.getfield 47, 3) := by decide +kernel
theorem dX9_layOne_160 : decode cX9_layOne 160 = .ok (.iload 5, 2) := by decide +kernel
theorem dX9_layOne_162 : decode cX9_layOne 162 = .ok (.iconst 1, 1) := by decide +kernel
theorem dX9_layOne_163 : decode cX9_layOne 163 = .ok (.iload 6, 2) := by decide +kernel
theorem dX9_layOne_165 : decode cX9_layOne 165 = .ok (.iload 7, 2) := by decide +kernel
theorem dX9_layOne_167 : decode cX9_layOne 167 = .ok (.if_icmp .ge 8, 3) := by decide +kernel
theorem dX9_layOne_170 : decode cX9_layOne 170 = .ok (.iload 6, 2) := by decide +kernel
theorem dX9_layOne_172 : decode cX9_layOne 172 = .ok (.goto 5, 3) := by decide +kernel
theorem dX9_layOne_175 : decode cX9_layOne 175 = .ok (.iload 7, 2) := by decide +kernel
theorem dX9_layOne_177 : decode cX9_layOne 177 = .ok (.iadd, 1) := by decide +kernel
theorem dX9_layOne_178 : decode cX9_layOne 178 = .ok (.iastore, 1) := by decide +kernel
theorem dX9_layOne_179 : decode cX9_layOne 179 = .ok (.aload_n 0, 1) := by decide +kernel
theorem dX9_layOne_180 : decode cX9_layOne 180 = .ok (.getfield 50, 3) := by decide +kernel
theorem dX9_layOne_183 : decode cX9_layOne 183 = .ok (.iload 5, 2) := by decide +kernel
theorem dX9_layOne_185 : decode cX9_layOne 185 = .ok (.iload 6, 2) := by decide +kernel
theorem dX9_layOne_187 : decode cX9_layOne 187 = .ok (.iload 7, 2) := by decide +kernel
theorem dX9_layOne_189 : decode cX9_layOne 189 = .ok (.if_icmp .gt 19, 3) := by decide +kernel
theorem dX9_layOne_192 : decode cX9_layOne 192 = .ok (.aload_n 0, 1) := by decide +kernel
theorem dX9_layOne_193 : decode cX9_layOne 193 = .ok (.getfield 50, 3) := by decide +kernel
theorem dX9_layOne_196 : decode cX9_layOne 196 = .ok (.iload_n 3, 1) := by decide +kernel
theorem dX9_layOne_197 : decode cX9_layOne 197 = .ok (.iconst 1, 1) := by decide +kernel
theorem dX9_layOne_198 : decode cX9_layOne 198 = .ok (.iadd, 1) := by decide +kernel
theorem dX9_layOne_199 : decode cX9_layOne 199 = .ok (.iload 4, 2) := by decide +kernel
theorem dX9_layOne_201 : decode cX9_layOne 201 = .ok (.invokestatic 140, 3) := by decide +kernel
theorem dX9_layOne_204 : decode cX9_layOne 204 = .ok (.laload, 1) := by decide +kernel
theorem dX9_layOne_205 : decode cX9_layOne 205 = .ok (.goto 4, 3) := by decide +kernel
theorem dX9_layOne_208 : decode cX9_layOne 208 = .ok (.lconst 0, 1) := by decide +kernel
theorem dX9_layOne_209 : decode cX9_layOne 209 = .ok (.iload 7, 2) := by decide +kernel
theorem dX9_layOne_211 : decode cX9_layOne 211 = .ok (.iload 6, 2) := by decide +kernel
theorem dX9_layOne_213 : decode cX9_layOne 213 = .ok (.if_icmp .gt 19, 3) := by decide +kernel
theorem dX9_layOne_216 : decode cX9_layOne 216 = .ok (.aload_n 0, 1) := by decide +kernel
theorem dX9_layOne_217 : decode cX9_layOne 217 = .ok (.getfield 50, 3) := by decide +kernel
theorem dX9_layOne_220 : decode cX9_layOne 220 = .ok (.iload_n 3, 1) := by decide +kernel
theorem dX9_layOne_221 : decode cX9_layOne 221 = .ok (.iload 4, 2) := by decide +kernel
theorem dX9_layOne_223 : decode cX9_layOne 223 = .ok (.iconst 1, 1) := by decide +kernel
theorem dX9_layOne_224 : decode cX9_layOne 224 = .ok (.iadd, 1) := by decide +kernel
theorem dX9_layOne_225 : decode cX9_layOne 225 = .ok (.invokestatic 140, 3) := by decide +kernel
theorem dX9_layOne_228 : decode cX9_layOne 228 = .ok (.laload, 1) := by decide +kernel
theorem dX9_layOne_229 : decode cX9_layOne 229 = .ok (.goto 4, 3) := by decide +kernel
theorem dX9_layOne_232 : decode cX9_layOne 232 = .ok (.lconst 0, 1) := by decide +kernel
theorem dX9_layOne_233 : decode cX9_layOne 233 = .ok (.ladd, 1) := by decide +kernel
theorem dX9_layOne_234 : decode cX9_layOne 234 = .ok (.lastore, 1) := by decide +kernel
theorem dX9_layOne_235 : decode cX9_layOne 235 = .ok (.return_, 1) := by decide +kernel
set_option maxRecDepth 20000 in
theorem ggX9_both_X9_isDay : GoodIn wsX9_both wsX9_isDay := goodIn_r _ [7, 8, 29, 30, 31, 32, 33, 34, 35, 36, 37, 38, 39, 40, 41, 42, 43, 44, 45, 46, 47, 48, 49, 50, 51, 52, 53, 54] (by decide +kernel) (by decide +kernel)
set_option maxRecDepth 20000 in
theorem gX9_both_X9_isDay : GoodIn wsX9_both (wsV RX9 105 RX9 yX9_isDay wsX9_isDay) := goodIn_app (goodIn_of _ (by decide +kernel)) ggX9_both_X9_isDay
set_option maxRecDepth 20000 in
theorem ggX9_both_X9_inside : GoodIn wsX9_both wsX9_inside := goodIn_r _ [11] (by decide +kernel) (by decide +kernel)
set_option maxRecDepth 20000 in
theorem gX9_both_X9_inside : GoodIn wsX9_both (va_wsS RX9 71 yX9_inside wsX9_inside) := goodIn_app (goodIn_of _ (by decide +kernel)) ggX9_both_X9_inside
set_option maxRecDepth 20000 in
theorem ggX9_both_X9_layYet : GoodIn wsX9_both wsX9_layYet := goodIn_r _ [15, 2, 16, 17, 18, 6, 19, 1, 20, 21, 22, 23, 24, 25, 26, 27, 28, 29, 30, 31, 32, 33, 34, 35, 36, 37, 38, 39, 40, 41, 42, 43, 44, 45, 46, 47, 48, 49, 50, 51, 52, 53, 54] (by decide +kernel) (by decide +kernel)
set_option maxRecDepth 20000 in
theorem gX9_both_X9_layYet : GoodIn wsX9_both (wsV RX9 150 RX9 yX9_layYet wsX9_layYet) := goodIn_app (goodIn_of _ (by decide +kernel)) ggX9_both_X9_layYet
theorem dX9_both_0 : decode cX9_both 0 = .ok (.aload_n 0, 1) := by decide +kernel
theorem dX9_both_1 : decode cX9_both 1 = .ok (.iload_n 1, 1) := by decide +kernel
theorem dX9_both_2 : decode cX9_both 2 = .ok (.invokevirtual 105, 3) := by decide +kernel
end
section
theorem dX9_both_5 : decode cX9_both 5 = .ok (.ifCond .eq 11, 3) := by decide +kernel
theorem dX9_both_8 : decode cX9_both 8 = .ok (.aload_n 0, 1) := by decide +kernel
theorem dX9_both_9 : decode cX9_both 9 = .ok (.iload_n 2, 1) := by decide +kernel
theorem dX9_both_10 : decode cX9_both 10 = .ok (.invokevirtual 105, 3) := by decide +kernel
theorem dX9_both_13 : decode cX9_both 13 = .ok (.ifCond .ne 5, 3) := by decide +kernel
theorem dX9_both_16 : decode cX9_both 16 = .ok (.iconst (-1), 1) := by decide +kernel
theorem dX9_both_17 : decode cX9_both 17 = .ok (.ireturn, 1) := by decide +kernel
theorem dX9_both_18 : decode cX9_both 18 = .ok (.iload_n 3, 1) := by decide +kernel
theorem dX9_both_19 : decode cX9_both 19 = .ok (.iconst 0, 1) := by decide +kernel
theorem dX9_both_20 : decode cX9_both 20 = .ok (.iconst 1, 1) := by decide +kernel
theorem dX9_both_21 : decode cX9_both 21 = .ok (.invokestatic 71, 3) := by decide +kernel
theorem dX9_both_24 : decode cX9_both 24 = .ok (.ifCond .ne 6, 3) := by decide +kernel
theorem dX9_both_27 : decode cX9_both 27 = .ok (.bipush (-2), 2) := by decide +kernel
theorem dX9_both_29 : decode cX9_both 29 = .ok (.ireturn, 1) := by decide +kernel
theorem dX9_both_30 : decode cX9_both 30 = .ok (.aload_n 0, 1) := by decide +kernel
theorem dX9_both_31 : decode cX9_both 31 = .ok (.iload_n 1, 1) := by decide +kernel
theorem dX9_both_32 : decode cX9_both 32 = .ok (.iload_n 2, 1) := by decide +kernel
theorem dX9_both_33 : decode cX9_both 33 = .ok (.invokevirtual 150, 3) := by decide +kernel
theorem dX9_both_36 : decode cX9_both 36 = .ok (.iload_n 3, 1) := by decide +kernel
theorem dX9_both_37 : decode cX9_both 37 = .ok (.iconst 1, 1) := by decide +kernel
theorem dX9_both_38 : decode cX9_both 38 = .ok (.if_icmp .ne 12, 3) := by decide +kernel
theorem dX9_both_41 : decode cX9_both 41 = .ok (.aload_n 0, 1) := by decide +kernel
theorem dX9_both_42 : decode cX9_both 42 = .ok (.getfield 47, 3) := by decide +kernel
theorem dX9_both_45 : decode cX9_both 45 = .ok (.iconst 0, 1) := by decide +kernel
theorem dX9_both_46 : decode cX9_both 46 = .ok (.iaload, 1) := by decide +kernel
theorem dX9_both_47 : decode cX9_both 47 = .ok (.goto 23, 3) := by decide +kernel
theorem dX9_both_50 : decode cX9_both 50 = .ok (.aload_n 0, 1) := by decide +kernel
theorem dX9_both_51 : decode cX9_both 51 = .ok (.getfield 22, 3) := by decide +kernel
theorem dX9_both_54 : decode cX9_both 54 = .ok (.iload_n 1, 1) := by decide +kernel
theorem dX9_both_55 : decode cX9_both 55 = .ok (.iaload, 1) := by decide +kernel
theorem dX9_both_56 : decode cX9_both 56 = .ok (.aload_n 0, 1) := by decide +kernel
theorem dX9_both_57 : decode cX9_both 57 = .ok (.getfield 22, 3) := by decide +kernel
theorem dX9_both_60 : decode cX9_both 60 = .ok (.iload_n 2, 1) := by decide +kernel
theorem dX9_both_61 : decode cX9_both 61 = .ok (.iaload, 1) := by decide +kernel
theorem dX9_both_62 : decode cX9_both 62 = .ok (.iadd, 1) := by decide +kernel
theorem dX9_both_63 : decode cX9_both 63 = .ok (.aload_n 0, 1) := by decide +kernel
theorem dX9_both_64 : decode cX9_both 64 = .ok (.getfield 47, 3) := by decide +kernel
theorem dX9_both_67 : decode cX9_both 67 = .ok (.iconst 0, 1) := by decide +kernel
theorem dX9_both_68 : decode cX9_both 68 = .ok (.iaload, 1) := by decide +kernel
theorem dX9_both_69 : decode cX9_both 69 = .ok (.isub, 1) := by decide +kernel
theorem dX9_both_70 : decode cX9_both 70 = .ok (.ireturn, 1) := by decide +kernel
set_option maxRecDepth 20000 in
theorem ggX9_wordOf_X9_wordAt : GoodIn wsX9_wordOf wsX9_wordAt := goodIn_r _ [7, 8, 12, 13, 14, 15, 16, 17, 18, 19, 20, 21, 22, 23, 24, 25, 26, 27, 28, 29, 30, 31, 32, 33, 34, 35, 36, 37] (by decide +kernel) (by decide +kernel)
set_option maxRecDepth 20000 in
theorem gX9_wordOf_X9_wordAt : GoodIn wsX9_wordOf (wsV RX9 108 RX9 yX9_wordAt wsX9_wordAt) := goodIn_app (goodIn_of _ (by decide +kernel)) ggX9_wordOf_X9_wordAt
set_option maxRecDepth 20000 in
theorem ggX9_wordOf_X9_spot : GoodIn wsX9_wordOf wsX9_spot := goodIn_r _ [11] (by decide +kernel) (by decide +kernel)
set_option maxRecDepth 20000 in
theorem gX9_wordOf_X9_spot : GoodIn wsX9_wordOf (va_wsS RX9 140 yX9_spot wsX9_spot) := goodIn_app (goodIn_of _ (by decide +kernel)) ggX9_wordOf_X9_spot
theorem dX9_wordOf_0 : decode cX9_wordOf 0 = .ok (.iconst 0, 1) := by decide +kernel
theorem dX9_wordOf_1 : decode cX9_wordOf 1 = .ok (.istore 4, 2) := by decide +kernel
theorem dX9_wordOf_3 : decode cX9_wordOf 3 = .ok (.iconst 0, 1) := by decide +kernel
theorem dX9_wordOf_4 : decode cX9_wordOf 4 = .ok (.istore 5, 2) := by decide +kernel
theorem dX9_wordOf_6 : decode cX9_wordOf 6 = .ok (.iconst 0, 1) := by decide +kernel
theorem dX9_wordOf_7 : decode cX9_wordOf 7 = .ok (.istore 6, 2) := by decide +kernel
theorem dX9_wordOf_9 : decode cX9_wordOf 9 = .ok (.iconst 0, 1) := by decide +kernel
theorem dX9_wordOf_10 : decode cX9_wordOf 10 = .ok (.istore 7, 2) := by decide +kernel
theorem dX9_wordOf_12 : decode cX9_wordOf 12 = .ok (.iload 7, 2) := by decide +kernel
theorem dX9_wordOf_14 : decode cX9_wordOf 14 = .ok (.iload_n 3, 1) := by decide +kernel
theorem dX9_wordOf_15 : decode cX9_wordOf 15 = .ok (.if_icmp .gt 295, 3) := by decide +kernel
theorem dX9_wordOf_18 : decode cX9_wordOf 18 = .ok (.iload 4, 2) := by decide +kernel
theorem dX9_wordOf_20 : decode cX9_wordOf 20 = .ok (.aload_n 0, 1) := by decide +kernel
theorem dX9_wordOf_21 : decode cX9_wordOf 21 = .ok (.getfield 22, 3) := by decide +kernel
theorem dX9_wordOf_24 : decode cX9_wordOf 24 = .ok (.iload_n 1, 1) := by decide +kernel
theorem dX9_wordOf_25 : decode cX9_wordOf 25 = .ok (.iaload, 1) := by decide +kernel
theorem dX9_wordOf_26 : decode cX9_wordOf 26 = .ok (.if_icmp .ge 64, 3) := by decide +kernel
theorem dX9_wordOf_29 : decode cX9_wordOf 29 = .ok (.iload 5, 2) := by decide +kernel
theorem dX9_wordOf_31 : decode cX9_wordOf 31 = .ok (.aload_n 0, 1) := by decide +kernel
theorem dX9_wordOf_32 : decode cX9_wordOf 32 = .ok (.getfield 22, 3) := by decide +kernel
theorem dX9_wordOf_35 : decode cX9_wordOf 35 = .ok (.iload_n 2, 1) := by decide +kernel
theorem dX9_wordOf_36 : decode cX9_wordOf 36 = .ok (.iaload, 1) := by decide +kernel
theorem dX9_wordOf_37 : decode cX9_wordOf 37 = .ok (.if_icmp .eq 49, 3) := by decide +kernel
theorem dX9_wordOf_40 : decode cX9_wordOf 40 = .ok (.aload_n 0, 1) := by decide +kernel
theorem dX9_wordOf_41 : decode cX9_wordOf 41 = .ok (.iload_n 1, 1) := by decide +kernel
theorem dX9_wordOf_42 : decode cX9_wordOf 42 = .ok (.iload 4, 2) := by decide +kernel
theorem dX9_wordOf_44 : decode cX9_wordOf 44 = .ok (.invokevirtual 108, 3) := by decide +kernel
theorem dX9_wordOf_47 : decode cX9_wordOf 47 = .ok (.aload_n 0, 1) := by decide +kernel
theorem dX9_wordOf_48 : decode cX9_wordOf 48 = .ok (.iload_n 2, 1) := by decide +kernel
theorem dX9_wordOf_49 : decode cX9_wordOf 49 = .ok (.iload 5, 2) := by decide +kernel
theorem dX9_wordOf_51 : decode cX9_wordOf 51 = .ok (.invokevirtual 108, 3) := by decide +kernel
theorem dX9_wordOf_54 : decode cX9_wordOf 54 = .ok (.if_icmp .eq 32, 3) := by decide +kernel
theorem dX9_wordOf_57 : decode cX9_wordOf 57 = .ok (.aload_n 0, 1) := by decide +kernel
theorem dX9_wordOf_58 : decode cX9_wordOf 58 = .ok (.getfield 47, 3) := by decide +kernel
theorem dX9_wordOf_61 : decode cX9_wordOf 61 = .ok (.iload 4, 2) := by decide +kernel
theorem dX9_wordOf_63 : decode cX9_wordOf 63 = .ok (.iconst 1, 1) := by decide +kernel
theorem dX9_wordOf_64 : decode cX9_wordOf 64 = .ok (.iadd, 1) := by decide +kernel
theorem dX9_wordOf_65 : decode cX9_wordOf 65 = .ok (.iload 5, 2) := by decide +kernel
theorem dX9_wordOf_67 : decode cX9_wordOf 67 = .ok (.invokestatic 140, 3) := by decide +kernel
theorem dX9_wordOf_70 : decode cX9_wordOf 70 = .ok (.iaload, 1) := by decide +kernel
theorem dX9_wordOf_71 : decode cX9_wordOf 71 = .ok (.aload_n 0, 1) := by decide +kernel
theorem dX9_wordOf_72 : decode cX9_wordOf 72 = .ok (.getfield 47, 3) := by decide +kernel
theorem dX9_wordOf_75 : decode cX9_wordOf 75 = .ok (.iload 4, 2) := by decide +kernel
theorem dX9_wordOf_77 : decode cX9_wordOf 77 = .ok (.iload 5, 2) := by decide +kernel
theorem dX9_wordOf_79 : decode cX9_wordOf 79 = .ok (.invokestatic 140, 3) := by decide +kernel
theorem dX9_wordOf_82 : decode cX9_wordOf 82 = .ok (.iaload, 1) := by decide +kernel
theorem dX9_wordOf_83 : decode cX9_wordOf 83 = .ok (.if_icmp .ge 7, 3) := by decide +kernel
theorem dX9_wordOf_86 : decode cX9_wordOf 86 = .ok (.iconst 1, 1) := by decide +kernel
theorem dX9_wordOf_87 : decode cX9_wordOf 87 = .ok (.goto 4, 3) := by decide +kernel
theorem dX9_wordOf_90 : decode cX9_wordOf 90 = .ok (.iconst 0, 1) := by decide +kernel
theorem dX9_wordOf_91 : decode cX9_wordOf 91 = .ok (.istore 8, 2) := by decide +kernel
theorem dX9_wordOf_93 : decode cX9_wordOf 93 = .ok (.iload 5, 2) := by decide +kernel
theorem dX9_wordOf_95 : decode cX9_wordOf 95 = .ok (.aload_n 0, 1) := by decide +kernel
theorem dX9_wordOf_96 : decode cX9_wordOf 96 = .ok (.getfield 22, 3) := by decide +kernel
theorem dX9_wordOf_99 : decode cX9_wordOf 99 = .ok (.iload_n 2, 1) := by decide +kernel
theorem dX9_wordOf_100 : decode cX9_wordOf 100 = .ok (.iaload, 1) := by decide +kernel
theorem dX9_wordOf_101 : decode cX9_wordOf 101 = .ok (.if_icmp .ge 64, 3) := by decide +kernel
theorem dX9_wordOf_104 : decode cX9_wordOf 104 = .ok (.iload 4, 2) := by decide +kernel
theorem dX9_wordOf_106 : decode cX9_wordOf 106 = .ok (.aload_n 0, 1) := by decide +kernel
theorem dX9_wordOf_107 : decode cX9_wordOf 107 = .ok (.getfield 22, 3) := by decide +kernel
theorem dX9_wordOf_110 : decode cX9_wordOf 110 = .ok (.iload_n 1, 1) := by decide +kernel
theorem dX9_wordOf_111 : decode cX9_wordOf 111 = .ok (.iaload, 1) := by decide +kernel
theorem dX9_wordOf_112 : decode cX9_wordOf 112 = .ok (.if_icmp .eq 49, 3) := by decide +kernel
theorem dX9_wordOf_115 : decode cX9_wordOf 115 = .ok (.aload_n 0, 1) := by decide +kernel
theorem dX9_wordOf_116 : decode cX9_wordOf 116 = .ok (.iload_n 1, 1) := by decide +kernel
theorem dX9_wordOf_117 : decode cX9_wordOf 117 = .ok (.iload 4, 2) := by decide +kernel
theorem dX9_wordOf_119 : decode cX9_wordOf 119 = .ok (.invokevirtual 108, 3) := by decide +kernel
theorem dX9_wordOf_122 : decode cX9_wordOf 122 = .ok (.aload_n 0, 1) := by decide +kernel
theorem dX9_wordOf_123 : decode cX9_wordOf 123 = .ok (.iload_n 2, 1) := by decide +kernel
theorem dX9_wordOf_124 : decode cX9_wordOf 124 = .ok (.iload 5, 2) := by decide +kernel
theorem dX9_wordOf_126 : decode cX9_wordOf 126 = .ok (.invokevirtual 108, 3) := by decide +kernel
theorem dX9_wordOf_129 : decode cX9_wordOf 129 = .ok (.if_icmp .eq 32, 3) := by decide +kernel
theorem dX9_wordOf_132 : decode cX9_wordOf 132 = .ok (.aload_n 0, 1) := by decide +kernel
theorem dX9_wordOf_133 : decode cX9_wordOf 133 = .ok (.getfield 47, 3) := by decide +kernel
theorem dX9_wordOf_136 : decode cX9_wordOf 136 = .ok (.iload 4, 2) := by decide +kernel
theorem dX9_wordOf_138 : decode cX9_wordOf 138 = .ok (.iload 5, 2) := by decide +kernel
theorem dX9_wordOf_140 : decode cX9_wordOf 140 = .ok (.iconst 1, 1) := by decide +kernel
theorem dX9_wordOf_141 : decode cX9_wordOf 141 = .ok (.iadd, 1) := by decide +kernel
theorem dX9_wordOf_142 : decode cX9_wordOf 142 = .ok (.invokestatic 140, 3) := by decide +kernel
theorem dX9_wordOf_145 : decode cX9_wordOf 145 = .ok (.iaload, 1) := by decide +kernel
theorem dX9_wordOf_146 : decode cX9_wordOf 146 = .ok (.aload_n 0, 1) := by decide +kernel
theorem dX9_wordOf_147 : decode cX9_wordOf 147 = .ok (.getfield 47, 3) := by decide +kernel
theorem dX9_wordOf_150 : decode cX9_wordOf 150 = .ok (.iload 4, 2) := by decide +kernel
theorem dX9_wordOf_152 : decode cX9_wordOf 152 = .ok (.iload 5, 2) := by decide +kernel
theorem dX9_wordOf_154 : decode cX9_wordOf 154 = .ok (.invokestatic 140, 3) := by decide +kernel
theorem dX9_wordOf_157 : decode cX9_wordOf 157 = .ok (.iaload, 1) := by decide +kernel
theorem dX9_wordOf_158 : decode cX9_wordOf 158 = .ok (.if_icmp .ge 7, 3) := by decide +kernel
theorem dX9_wordOf_161 : decode cX9_wordOf 161 = .ok (.iconst 1, 1) := by decide +kernel
theorem dX9_wordOf_162 : decode cX9_wordOf 162 = .ok (.goto 4, 3) := by decide +kernel
theorem dX9_wordOf_165 : decode cX9_wordOf 165 = .ok (.iconst 0, 1) := by decide +kernel
theorem dX9_wordOf_166 : decode cX9_wordOf 166 = .ok (.istore 9, 2) := by decide +kernel
theorem dX9_wordOf_168 : decode cX9_wordOf 168 = .ok (.iload 8, 2) := by decide +kernel
theorem dX9_wordOf_170 : decode cX9_wordOf 170 = .ok (.ifCond .eq 35, 3) := by decide +kernel
theorem dX9_wordOf_173 : decode cX9_wordOf 173 = .ok (.iload 9, 2) := by decide +kernel
theorem dX9_wordOf_175 : decode cX9_wordOf 175 = .ok (.ifCond .eq 20, 3) := by decide +kernel
theorem dX9_wordOf_178 : decode cX9_wordOf 178 = .ok (.aload_n 0, 1) := by decide +kernel
theorem dX9_wordOf_179 : decode cX9_wordOf 179 = .ok (.iload_n 1, 1) := by decide +kernel
theorem dX9_wordOf_180 : decode cX9_wordOf 180 = .ok (.iload 4, 2) := by decide +kernel
theorem dX9_wordOf_182 : decode cX9_wordOf 182 = .ok (.invokevirtual 108, 3) := by decide +kernel
theorem dX9_wordOf_185 : decode cX9_wordOf 185 = .ok (.aload_n 0, 1) := by decide +kernel
theorem dX9_wordOf_186 : decode cX9_wordOf 186 = .ok (.iload_n 2, 1) := by decide +kernel
theorem dX9_wordOf_187 : decode cX9_wordOf 187 = .ok (.iload 5, 2) := by decide +kernel
theorem dX9_wordOf_189 : decode cX9_wordOf 189 = .ok (.invokevirtual 108, 3) := by decide +kernel
theorem dX9_wordOf_192 : decode cX9_wordOf 192 = .ok (.if_icmp .gt 13, 3) := by decide +kernel
theorem dX9_wordOf_195 : decode cX9_wordOf 195 = .ok (.aload_n 0, 1) := by decide +kernel
theorem dX9_wordOf_196 : decode cX9_wordOf 196 = .ok (.iload_n 1, 1) := by decide +kernel
theorem dX9_wordOf_197 : decode cX9_wordOf 197 = .ok (.iload 4, 2) := by decide +kernel
theorem dX9_wordOf_199 : decode cX9_wordOf 199 = .ok (.invokevirtual 108, 3) := by decide +kernel
theorem dX9_wordOf_202 : decode cX9_wordOf 202 = .ok (.goto 10, 3) := by decide +kernel
theorem dX9_wordOf_205 : decode cX9_wordOf 205 = .ok (.aload_n 0, 1) := by decide +kernel
theorem dX9_wordOf_206 : decode cX9_wordOf 206 = .ok (.iload_n 2, 1) := by decide +kernel
theorem dX9_wordOf_207 : decode cX9_wordOf 207 = .ok (.iload 5, 2) := by decide +kernel
theorem dX9_wordOf_209 : decode cX9_wordOf 209 = .ok (.invokevirtual 108, 3) := by decide +kernel
theorem dX9_wordOf_212 : decode cX9_wordOf 212 = .ok (.istore 6, 2) := by decide +kernel
theorem dX9_wordOf_214 : decode cX9_wordOf 214 = .ok (.iload 4, 2) := by decide +kernel
theorem dX9_wordOf_216 : decode cX9_wordOf 216 = .ok (.aload_n 0, 1) := by decide +kernel
theorem dX9_wordOf_217 : decode cX9_wordOf 217 = .ok (.getfield 22, 3) := by decide +kernel
theorem dX9_wordOf_220 : decode cX9_wordOf 220 = .ok (.iload_n 1, 1) := by decide +kernel
theorem dX9_wordOf_221 : decode cX9_wordOf 221 = .ok (.iaload, 1) := by decide +kernel
theorem dX9_wordOf_222 : decode cX9_wordOf 222 = .ok (.if_icmp .ge 19, 3) := by decide +kernel
theorem dX9_wordOf_225 : decode cX9_wordOf 225 = .ok (.aload_n 0, 1) := by decide +kernel
theorem dX9_wordOf_226 : decode cX9_wordOf 226 = .ok (.iload_n 1, 1) := by decide +kernel
theorem dX9_wordOf_227 : decode cX9_wordOf 227 = .ok (.iload 4, 2) := by decide +kernel
theorem dX9_wordOf_229 : decode cX9_wordOf 229 = .ok (.invokevirtual 108, 3) := by decide +kernel
theorem dX9_wordOf_232 : decode cX9_wordOf 232 = .ok (.iload 6, 2) := by decide +kernel
theorem dX9_wordOf_234 : decode cX9_wordOf 234 = .ok (.if_icmp .ne 7, 3) := by decide +kernel
theorem dX9_wordOf_237 : decode cX9_wordOf 237 = .ok (.iconst 1, 1) := by decide +kernel
theorem dX9_wordOf_238 : decode cX9_wordOf 238 = .ok (.goto 4, 3) := by decide +kernel
theorem dX9_wordOf_241 : decode cX9_wordOf 241 = .ok (.iconst 0, 1) := by decide +kernel
theorem dX9_wordOf_242 : decode cX9_wordOf 242 = .ok (.istore 10, 2) := by decide +kernel
theorem dX9_wordOf_244 : decode cX9_wordOf 244 = .ok (.iload 5, 2) := by decide +kernel
theorem dX9_wordOf_246 : decode cX9_wordOf 246 = .ok (.aload_n 0, 1) := by decide +kernel
theorem dX9_wordOf_247 : decode cX9_wordOf 247 = .ok (.getfield 22, 3) := by decide +kernel
theorem dX9_wordOf_250 : decode cX9_wordOf 250 = .ok (.iload_n 2, 1) := by decide +kernel
theorem dX9_wordOf_251 : decode cX9_wordOf 251 = .ok (.iaload, 1) := by decide +kernel
theorem dX9_wordOf_252 : decode cX9_wordOf 252 = .ok (.if_icmp .ge 19, 3) := by decide +kernel
theorem dX9_wordOf_255 : decode cX9_wordOf 255 = .ok (.aload_n 0, 1) := by decide +kernel
theorem dX9_wordOf_256 : decode cX9_wordOf 256 = .ok (.iload_n 2, 1) := by decide +kernel
theorem dX9_wordOf_257 : decode cX9_wordOf 257 = .ok (.iload 5, 2) := by decide +kernel
theorem dX9_wordOf_259 : decode cX9_wordOf 259 = .ok (.invokevirtual 108, 3) := by decide +kernel
theorem dX9_wordOf_262 : decode cX9_wordOf 262 = .ok (.iload 6, 2) := by decide +kernel
theorem dX9_wordOf_264 : decode cX9_wordOf 264 = .ok (.if_icmp .ne 7, 3) := by decide +kernel
theorem dX9_wordOf_267 : decode cX9_wordOf 267 = .ok (.iconst 1, 1) := by decide +kernel
theorem dX9_wordOf_268 : decode cX9_wordOf 268 = .ok (.goto 4, 3) := by decide +kernel
theorem dX9_wordOf_271 : decode cX9_wordOf 271 = .ok (.iconst 0, 1) := by decide +kernel
theorem dX9_wordOf_272 : decode cX9_wordOf 272 = .ok (.istore 11, 2) := by decide +kernel
theorem dX9_wordOf_274 : decode cX9_wordOf 274 = .ok (.iload 4, 2) := by decide +kernel
theorem dX9_wordOf_276 : decode cX9_wordOf 276 = .ok (.iload 10, 2) := by decide +kernel
theorem dX9_wordOf_278 : decode cX9_wordOf 278 = .ok (.ifCond .eq 7, 3) := by decide +kernel
theorem dX9_wordOf_281 : decode cX9_wordOf 281 = .ok (.iconst 1, 1) := by decide +kernel
theorem dX9_wordOf_282 : decode cX9_wordOf 282 = .ok (.goto 4, 3) := by decide +kernel
theorem dX9_wordOf_285 : decode cX9_wordOf 285 = .ok (.iconst 0, 1) := by decide +kernel
theorem dX9_wordOf_286 : decode cX9_wordOf 286 = .ok (.iadd, 1) := by decide +kernel
theorem dX9_wordOf_287 : decode cX9_wordOf 287 = .ok (.istore 4, 2) := by decide +kernel
theorem dX9_wordOf_289 : decode cX9_wordOf 289 = .ok (.iload 5, 2) := by decide +kernel
theorem dX9_wordOf_291 : decode cX9_wordOf 291 = .ok (.iload 11, 2) := by decide +kernel
theorem dX9_wordOf_293 : decode cX9_wordOf 293 = .ok (.ifCond .eq 7, 3) := by decide +kernel
theorem dX9_wordOf_296 : decode cX9_wordOf 296 = .ok (.iconst 1, 1) := by decide +kernel
theorem dX9_wordOf_297 : decode cX9_wordOf 297 = .ok (.goto 4, 3) := by decide +kernel
theorem dX9_wordOf_300 : decode cX9_wordOf 300 = .ok (.iconst 0, 1) := by decide +kernel
theorem dX9_wordOf_301 : decode cX9_wordOf 301 = .ok (.iadd, 1) := by decide +kernel
theorem dX9_wordOf_302 : decode cX9_wordOf 302 = .ok (.istore 5, 2) := by decide +kernel
theorem dX9_wordOf_304 : decode cX9_wordOf 304 = .ok (.iinc 7 1, 3) := by decide +kernel
theorem dX9_wordOf_307 : decode cX9_wordOf 307 = .ok (.goto (-295), 3) := by decide +kernel
theorem dX9_wordOf_310 : decode cX9_wordOf 310 = .ok (.iload 6, 2) := by decide +kernel
theorem dX9_wordOf_312 : decode cX9_wordOf 312 = .ok (.ireturn, 1) := by decide +kernel
set_option maxRecDepth 20000 in
theorem ggX9_shortest_X9_isDay : GoodIn wsX9_shortest wsX9_isDay := goodIn_r _ [8, 9, 31, 32, 33, 34, 35, 36, 37, 38, 39, 40, 41, 42, 43, 44, 45, 46, 47, 48, 49, 50, 51, 52, 53, 54, 55, 56] (by decide +kernel) (by decide +kernel)
set_option maxRecDepth 20000 in
theorem gX9_shortest_X9_isDay : GoodIn wsX9_shortest (wsV RX9 105 RX9 yX9_isDay wsX9_isDay) := goodIn_app (goodIn_of _ (by decide +kernel)) ggX9_shortest_X9_isDay
set_option maxRecDepth 20000 in
theorem ggX9_shortest_X9_layYet : GoodIn wsX9_shortest wsX9_layYet := goodIn_r _ [13, 14, 15, 16, 17, 7, 18, 2, 3, 19, 20, 21, 22, 23, 24, 25, 26, 31, 32, 33, 34, 35, 36, 37, 38, 39, 40, 41, 42, 43, 44, 45, 46, 47, 48, 49, 50, 51, 52, 53, 54, 55, 56] (by decide +kernel) (by decide +kernel)
set_option maxRecDepth 20000 in
theorem gX9_shortest_X9_layYet : GoodIn wsX9_shortest (wsV RX9 150 RX9 yX9_layYet wsX9_layYet) := goodIn_app (goodIn_of _ (by decide +kernel)) ggX9_shortest_X9_layYet
set_option maxRecDepth 20000 in
theorem ggX9_shortest_X9_wordOf : GoodIn wsX9_shortest wsX9_wordOf := goodIn_r _ [30, 14, 2, 22, 23, 24, 7, 25, 26, 19, 20, 21, 31, 32, 33, 34, 35, 36, 37, 38, 39, 40, 41, 42, 43, 44, 45, 46, 47, 48, 49, 50, 51, 52, 53, 54, 55, 56] (by decide +kernel) (by decide +kernel)
set_option maxRecDepth 20000 in
theorem gX9_shortest_X9_wordOf : GoodIn wsX9_shortest (wsV RX9 154 RX9 yX9_wordOf wsX9_wordOf) := goodIn_app (goodIn_of _ (by decide +kernel)) ggX9_shortest_X9_wordOf
theorem dX9_shortest_0 : decode cX9_shortest 0 = .ok (.aload_n 0, 1) := by decide +kernel
theorem dX9_shortest_1 : decode cX9_shortest 1 = .ok (.iload_n 1, 1) := by decide +kernel
theorem dX9_shortest_2 : decode cX9_shortest 2 = .ok (.invokevirtual 105, 3) := by decide +kernel
theorem dX9_shortest_5 : decode cX9_shortest 5 = .ok (.ifCond .eq 16, 3) := by decide +kernel
theorem dX9_shortest_8 : decode cX9_shortest 8 = .ok (.aload_n 0, 1) := by decide +kernel
theorem dX9_shortest_9 : decode cX9_shortest 9 = .ok (.iload_n 2, 1) := by decide +kernel
theorem dX9_shortest_10 : decode cX9_shortest 10 = .ok (.invokevirtual 105, 3) := by decide +kernel
theorem dX9_shortest_13 : decode cX9_shortest 13 = .ok (.ifCond .eq 8, 3) := by decide +kernel
theorem dX9_shortest_16 : decode cX9_shortest 16 = .ok (.iload_n 3, 1) := by decide +kernel
theorem dX9_shortest_17 : decode cX9_shortest 17 = .ok (.iconst (-1), 1) := by decide +kernel
theorem dX9_shortest_18 : decode cX9_shortest 18 = .ok (.if_icmp .ge 7, 3) := by decide +kernel
theorem dX9_shortest_21 : decode cX9_shortest 21 = .ok (.ldc2_w 69, 3) := by decide +kernel
theorem dX9_shortest_24 : decode cX9_shortest 24 = .ok (.lreturn, 1) := by decide +kernel
theorem dX9_shortest_25 : decode cX9_shortest 25 = .ok (.aload_n 0, 1) := by decide +kernel
theorem dX9_shortest_26 : decode cX9_shortest 26 = .ok (.iload_n 1, 1) := by decide +kernel
theorem dX9_shortest_27 : decode cX9_shortest 27 = .ok (.iload_n 2, 1) := by decide +kernel
theorem dX9_shortest_28 : decode cX9_shortest 28 = .ok (.invokevirtual 150, 3) := by decide +kernel
theorem dX9_shortest_31 : decode cX9_shortest 31 = .ok (.iload_n 3, 1) := by decide +kernel
theorem dX9_shortest_32 : decode cX9_shortest 32 = .ok (.aload_n 0, 1) := by decide +kernel
theorem dX9_shortest_33 : decode cX9_shortest 33 = .ok (.getfield 47, 3) := by decide +kernel
theorem dX9_shortest_36 : decode cX9_shortest 36 = .ok (.iconst 0, 1) := by decide +kernel
theorem dX9_shortest_37 : decode cX9_shortest 37 = .ok (.iaload, 1) := by decide +kernel
theorem dX9_shortest_38 : decode cX9_shortest 38 = .ok (.if_icmp .lt 7, 3) := by decide +kernel
theorem dX9_shortest_41 : decode cX9_shortest 41 = .ok (.ldc2_w 69, 3) := by decide +kernel
theorem dX9_shortest_44 : decode cX9_shortest 44 = .ok (.lreturn, 1) := by decide +kernel
theorem dX9_shortest_45 : decode cX9_shortest 45 = .ok (.iload_n 3, 1) := by decide +kernel
theorem dX9_shortest_46 : decode cX9_shortest 46 = .ok (.iconst (-1), 1) := by decide +kernel
theorem dX9_shortest_47 : decode cX9_shortest 47 = .ok (.if_icmp .ne 12, 3) := by decide +kernel
theorem dX9_shortest_50 : decode cX9_shortest 50 = .ok (.aload_n 0, 1) := by decide +kernel
theorem dX9_shortest_51 : decode cX9_shortest 51 = .ok (.getfield 50, 3) := by decide +kernel
theorem dX9_shortest_54 : decode cX9_shortest 54 = .ok (.iconst 0, 1) := by decide +kernel
theorem dX9_shortest_55 : decode cX9_shortest 55 = .ok (.laload, 1) := by decide +kernel
theorem dX9_shortest_56 : decode cX9_shortest 56 = .ok (.goto 11, 3) := by decide +kernel
theorem dX9_shortest_59 : decode cX9_shortest 59 = .ok (.aload_n 0, 1) := by decide +kernel
theorem dX9_shortest_60 : decode cX9_shortest 60 = .ok (.iload_n 1, 1) := by decide +kernel
theorem dX9_shortest_61 : decode cX9_shortest 61 = .ok (.iload_n 2, 1) := by decide +kernel
theorem dX9_shortest_62 : decode cX9_shortest 62 = .ok (.iload_n 3, 1) := by decide +kernel
theorem dX9_shortest_63 : decode cX9_shortest 63 = .ok (.invokevirtual 154, 3) := by decide +kernel
theorem dX9_shortest_66 : decode cX9_shortest 66 = .ok (.i2l, 1) := by decide +kernel
theorem dX9_shortest_67 : decode cX9_shortest 67 = .ok (.lreturn, 1) := by decide +kernel
set_option maxRecDepth 20000 in
theorem ggX9_threeYet_X9_wordAt : GoodIn wsX9_threeYet wsX9_wordAt := goodIn_r _ [7, 8, 9, 10, 11, 12, 13, 14, 15, 16, 17, 18, 19, 20, 21, 22, 23, 24, 25, 26, 27, 28, 29, 30, 31, 32, 33, 34] (by decide +kernel) (by decide +kernel)
set_option maxRecDepth 20000 in
theorem gX9_threeYet_X9_wordAt : GoodIn wsX9_threeYet (wsV RX9 108 RX9 yX9_wordAt wsX9_wordAt) := goodIn_app (goodIn_of _ (by decide +kernel)) ggX9_threeYet_X9_wordAt
theorem dX9_threeYet_0 : decode cX9_threeYet 0 = .ok (.iload 4, 2) := by decide +kernel
theorem dX9_threeYet_2 : decode cX9_threeYet 2 = .ok (.aload_n 0, 1) := by decide +kernel
theorem dX9_threeYet_3 : decode cX9_threeYet 3 = .ok (.getfield 22, 3) := by decide +kernel
theorem dX9_threeYet_6 : decode cX9_threeYet 6 = .ok (.iload_n 1, 1) := by decide +kernel
theorem dX9_threeYet_7 : decode cX9_threeYet 7 = .ok (.iaload, 1) := by decide +kernel
theorem dX9_threeYet_8 : decode cX9_threeYet 8 = .ok (.if_icmp .ne 29, 3) := by decide +kernel
theorem dX9_threeYet_11 : decode cX9_threeYet 11 = .ok (.iload 5, 2) := by decide +kernel
theorem dX9_threeYet_13 : decode cX9_threeYet 13 = .ok (.aload_n 0, 1) := by decide +kernel
theorem dX9_threeYet_14 : decode cX9_threeYet 14 = .ok (.getfield 22, 3) := by decide +kernel
theorem dX9_threeYet_17 : decode cX9_threeYet 17 = .ok (.iload_n 2, 1) := by decide +kernel
theorem dX9_threeYet_18 : decode cX9_threeYet 18 = .ok (.iaload, 1) := by decide +kernel
theorem dX9_threeYet_19 : decode cX9_threeYet 19 = .ok (.if_icmp .ne 18, 3) := by decide +kernel
theorem dX9_threeYet_22 : decode cX9_threeYet 22 = .ok (.iload 6, 2) := by decide +kernel
theorem dX9_threeYet_24 : decode cX9_threeYet 24 = .ok (.aload_n 0, 1) := by decide +kernel
theorem dX9_threeYet_25 : decode cX9_threeYet 25 = .ok (.getfield 22, 3) := by decide +kernel
theorem dX9_threeYet_28 : decode cX9_threeYet 28 = .ok (.iload_n 3, 1) := by decide +kernel
theorem dX9_threeYet_29 : decode cX9_threeYet 29 = .ok (.iaload, 1) := by decide +kernel
theorem dX9_threeYet_30 : decode cX9_threeYet 30 = .ok (.if_icmp .ne 7, 3) := by decide +kernel
theorem dX9_threeYet_33 : decode cX9_threeYet 33 = .ok (.iconst 1, 1) := by decide +kernel
theorem dX9_threeYet_34 : decode cX9_threeYet 34 = .ok (.goto 4, 3) := by decide +kernel
theorem dX9_threeYet_37 : decode cX9_threeYet 37 = .ok (.iconst 0, 1) := by decide +kernel
theorem dX9_threeYet_38 : decode cX9_threeYet 38 = .ok (.istore 7, 2) := by decide +kernel
theorem dX9_threeYet_40 : decode cX9_threeYet 40 = .ok (.iload 7, 2) := by decide +kernel
theorem dX9_threeYet_42 : decode cX9_threeYet 42 = .ok (.ifCond .eq 5, 3) := by decide +kernel
theorem dX9_threeYet_45 : decode cX9_threeYet 45 = .ok (.iconst 0, 1) := by decide +kernel
theorem dX9_threeYet_46 : decode cX9_threeYet 46 = .ok (.ireturn, 1) := by decide +kernel
theorem dX9_threeYet_47 : decode cX9_threeYet 47 = .ok (.bipush 99, 2) := by decide +kernel
theorem dX9_threeYet_49 : decode cX9_threeYet 49 = .ok (.istore 8, 2) := by decide +kernel
theorem dX9_threeYet_51 : decode cX9_threeYet 51 = .ok (.iconst 0, 1) := by decide +kernel
theorem dX9_threeYet_52 : decode cX9_threeYet 52 = .ok (.istore 9, 2) := by decide +kernel
theorem dX9_threeYet_54 : decode cX9_threeYet 54 = .ok (.iload 9, 2) := by decide +kernel
theorem dX9_threeYet_56 : decode cX9_threeYet 56 = .ok (.bipush 8, 2) := by decide +kernel
theorem dX9_threeYet_58 : decode cX9_threeYet 58 = .ok (.if_icmp .ge 167, 3) := by decide +kernel
theorem dX9_threeYet_61 : decode cX9_threeYet 61 = .ok (.iload 4, 2) := by decide +kernel
theorem dX9_threeYet_63 : decode cX9_threeYet 63 = .ok (.iload 4, 2) := by decide +kernel
theorem dX9_threeYet_65 : decode cX9_threeYet 65 = .ok (.aload_n 0, 1) := by decide +kernel
theorem dX9_threeYet_66 : decode cX9_threeYet 66 = .ok (.getfield 22, 3) := by decide +kernel
theorem dX9_threeYet_69 : decode cX9_threeYet 69 = .ok (.iload_n 1, 1) := by decide +kernel
theorem dX9_threeYet_70 : decode cX9_threeYet 70 = .ok (.iaload, 1) := by decide +kernel
theorem dX9_threeYet_71 : decode cX9_threeYet 71 = .ok (.if_icmp .ge 19, 3) := by decide +kernel
theorem dX9_threeYet_74 : decode cX9_threeYet 74 = .ok (.aload_n 0, 1) := by decide +kernel
theorem dX9_threeYet_75 : decode cX9_threeYet 75 = .ok (.iload_n 1, 1) := by decide +kernel
theorem dX9_threeYet_76 : decode cX9_threeYet 76 = .ok (.iload 4, 2) := by decide +kernel
theorem dX9_threeYet_78 : decode cX9_threeYet 78 = .ok (.invokevirtual 108, 3) := by decide +kernel
theorem dX9_threeYet_81 : decode cX9_threeYet 81 = .ok (.iload 9, 2) := by decide +kernel
theorem dX9_threeYet_83 : decode cX9_threeYet 83 = .ok (.if_icmp .ne 7, 3) := by decide +kernel
theorem dX9_threeYet_86 : decode cX9_threeYet 86 = .ok (.iconst 1, 1) := by decide +kernel
theorem dX9_threeYet_87 : decode cX9_threeYet 87 = .ok (.goto 4, 3) := by decide +kernel
theorem dX9_threeYet_90 : decode cX9_threeYet 90 = .ok (.iconst 0, 1) := by decide +kernel
theorem dX9_threeYet_91 : decode cX9_threeYet 91 = .ok (.iadd, 1) := by decide +kernel
theorem dX9_threeYet_92 : decode cX9_threeYet 92 = .ok (.istore 10, 2) := by decide +kernel
theorem dX9_threeYet_94 : decode cX9_threeYet 94 = .ok (.iload 5, 2) := by decide +kernel
theorem dX9_threeYet_96 : decode cX9_threeYet 96 = .ok (.iload 5, 2) := by decide +kernel
theorem dX9_threeYet_98 : decode cX9_threeYet 98 = .ok (.aload_n 0, 1) := by decide +kernel
theorem dX9_threeYet_99 : decode cX9_threeYet 99 = .ok (.getfield 22, 3) := by decide +kernel
theorem dX9_threeYet_102 : decode cX9_threeYet 102 = .ok (.iload_n 2, 1) := by decide +kernel
theorem dX9_threeYet_103 : decode cX9_threeYet 103 = .ok (.iaload, 1) := by decide +kernel
theorem dX9_threeYet_104 : decode cX9_threeYet 104 = .ok (.if_icmp .ge 19, 3) := by decide +kernel
theorem dX9_threeYet_107 : decode cX9_threeYet 107 = .ok (.aload_n 0, 1) := by decide +kernel
theorem dX9_threeYet_108 : decode cX9_threeYet 108 = .ok (.iload_n 2, 1) := by decide +kernel
theorem dX9_threeYet_109 : decode cX9_threeYet 109 = .ok (.iload 5, 2) := by decide +kernel
theorem dX9_threeYet_111 : decode cX9_threeYet 111 = .ok (.invokevirtual 108, 3) := by decide +kernel
theorem dX9_threeYet_114 : decode cX9_threeYet 114 = .ok (.iload 9, 2) := by decide +kernel
theorem dX9_threeYet_116 : decode cX9_threeYet 116 = .ok (.if_icmp .ne 7, 3) := by decide +kernel
theorem dX9_threeYet_119 : decode cX9_threeYet 119 = .ok (.iconst 1, 1) := by decide +kernel
theorem dX9_threeYet_120 : decode cX9_threeYet 120 = .ok (.goto 4, 3) := by decide +kernel
theorem dX9_threeYet_123 : decode cX9_threeYet 123 = .ok (.iconst 0, 1) := by decide +kernel
theorem dX9_threeYet_124 : decode cX9_threeYet 124 = .ok (.iadd, 1) := by decide +kernel
theorem dX9_threeYet_125 : decode cX9_threeYet 125 = .ok (.istore 11, 2) := by decide +kernel
theorem dX9_threeYet_127 : decode cX9_threeYet 127 = .ok (.iload 6, 2) := by decide +kernel
theorem dX9_threeYet_129 : decode cX9_threeYet 129 = .ok (.iload 6, 2) := by decide +kernel
theorem dX9_threeYet_131 : decode cX9_threeYet 131 = .ok (.aload_n 0, 1) := by decide +kernel
theorem dX9_threeYet_132 : decode cX9_threeYet 132 = .ok (.getfield 22, 3) := by decide +kernel
theorem dX9_threeYet_135 : decode cX9_threeYet 135 = .ok (.iload_n 3, 1) := by decide +kernel
theorem dX9_threeYet_136 : decode cX9_threeYet 136 = .ok (.iaload, 1) := by decide +kernel
theorem dX9_threeYet_137 : decode cX9_threeYet 137 = .ok (.if_icmp .ge 19, 3) := by decide +kernel
theorem dX9_threeYet_140 : decode cX9_threeYet 140 = .ok (.aload_n 0, 1) := by decide +kernel
theorem dX9_threeYet_141 : decode cX9_threeYet 141 = .ok (.iload_n 3, 1) := by decide +kernel
theorem dX9_threeYet_142 : decode cX9_threeYet 142 = .ok (.iload 6, 2) := by decide +kernel
theorem dX9_threeYet_144 : decode cX9_threeYet 144 = .ok (.invokevirtual 108, 3) := by decide +kernel
theorem dX9_threeYet_147 : decode cX9_threeYet 147 = .ok (.iload 9, 2) := by decide +kernel
theorem dX9_threeYet_149 : decode cX9_threeYet 149 = .ok (.if_icmp .ne 7, 3) := by decide +kernel
theorem dX9_threeYet_152 : decode cX9_threeYet 152 = .ok (.iconst 1, 1) := by decide +kernel
theorem dX9_threeYet_153 : decode cX9_threeYet 153 = .ok (.goto 4, 3) := by decide +kernel
theorem dX9_threeYet_156 : decode cX9_threeYet 156 = .ok (.iconst 0, 1) := by decide +kernel
theorem dX9_threeYet_157 : decode cX9_threeYet 157 = .ok (.iadd, 1) := by decide +kernel
theorem dX9_threeYet_158 : decode cX9_threeYet 158 = .ok (.istore 12, 2) := by decide +kernel
theorem dX9_threeYet_160 : decode cX9_threeYet 160 = .ok (.iload 10, 2) := by decide +kernel
theorem dX9_threeYet_162 : decode cX9_threeYet 162 = .ok (.iload 11, 2) := by decide +kernel
theorem dX9_threeYet_164 : decode cX9_threeYet 164 = .ok (.iadd, 1) := by decide +kernel
theorem dX9_threeYet_165 : decode cX9_threeYet 165 = .ok (.iload 12, 2) := by decide +kernel
theorem dX9_threeYet_167 : decode cX9_threeYet 167 = .ok (.iadd, 1) := by decide +kernel
theorem dX9_threeYet_168 : decode cX9_threeYet 168 = .ok (.iload 4, 2) := by decide +kernel
theorem dX9_threeYet_170 : decode cX9_threeYet 170 = .ok (.iload 5, 2) := by decide +kernel
theorem dX9_threeYet_172 : decode cX9_threeYet 172 = .ok (.iadd, 1) := by decide +kernel
theorem dX9_threeYet_173 : decode cX9_threeYet 173 = .ok (.iload 6, 2) := by decide +kernel
theorem dX9_threeYet_175 : decode cX9_threeYet 175 = .ok (.iadd, 1) := by decide +kernel
theorem dX9_threeYet_176 : decode cX9_threeYet 176 = .ok (.if_icmp .le 43, 3) := by decide +kernel
theorem dX9_threeYet_179 : decode cX9_threeYet 179 = .ok (.iconst 1, 1) := by decide +kernel
theorem dX9_threeYet_180 : decode cX9_threeYet 180 = .ok (.aload_n 0, 1) := by decide +kernel
theorem dX9_threeYet_181 : decode cX9_threeYet 181 = .ok (.getfield 53, 3) := by decide +kernel
theorem dX9_threeYet_184 : decode cX9_threeYet 184 = .ok (.sipush 169, 3) := by decide +kernel
theorem dX9_threeYet_187 : decode cX9_threeYet 187 = .ok (.iload 10, 2) := by decide +kernel
theorem dX9_threeYet_189 : decode cX9_threeYet 189 = .ok (.imul, 1) := by decide +kernel
theorem dX9_threeYet_190 : decode cX9_threeYet 190 = .ok (.bipush 13, 2) := by decide +kernel
theorem dX9_threeYet_192 : decode cX9_threeYet 192 = .ok (.iload 11, 2) := by decide +kernel
theorem dX9_threeYet_194 : decode cX9_threeYet 194 = .ok (.imul, 1) := by decide +kernel
theorem dX9_threeYet_195 : decode cX9_threeYet 195 = .ok (.iadd, 1) := by decide +kernel
theorem dX9_threeYet_196 : decode cX9_threeYet 196 = .ok (.iload 12, 2) := by decide +kernel
theorem dX9_threeYet_198 : decode cX9_threeYet 198 = .ok (.iadd, 1) := by decide +kernel
theorem dX9_threeYet_199 : decode cX9_threeYet 199 = .ok (.iaload, 1) := by decide +kernel
theorem dX9_threeYet_200 : decode cX9_threeYet 200 = .ok (.iadd, 1) := by decide +kernel
theorem dX9_threeYet_201 : decode cX9_threeYet 201 = .ok (.istore 13, 2) := by decide +kernel
theorem dX9_threeYet_203 : decode cX9_threeYet 203 = .ok (.iload 13, 2) := by decide +kernel
theorem dX9_threeYet_205 : decode cX9_threeYet 205 = .ok (.iload 8, 2) := by decide +kernel
theorem dX9_threeYet_207 : decode cX9_threeYet 207 = .ok (.if_icmp .ge 8, 3) := by decide +kernel
theorem dX9_threeYet_210 : decode cX9_threeYet 210 = .ok (.iload 13, 2) := by decide +kernel
theorem dX9_threeYet_212 : decode cX9_threeYet 212 = .ok (.goto 5, 3) := by decide +kernel
theorem dX9_threeYet_215 : decode cX9_threeYet 215 = .ok (.iload 8, 2) := by decide +kernel
theorem dX9_threeYet_217 : decode cX9_threeYet 217 = .ok (.istore 8, 2) := by decide +kernel
theorem dX9_threeYet_219 : decode cX9_threeYet 219 = .ok (.iinc 9 1, 3) := by decide +kernel
theorem dX9_threeYet_222 : decode cX9_threeYet 222 = .ok (.goto (-168), 3) := by decide +kernel
theorem dX9_threeYet_225 : decode cX9_threeYet 225 = .ok (.iload 8, 2) := by decide +kernel
theorem dX9_threeYet_227 : decode cX9_threeYet 227 = .ok (.ireturn, 1) := by decide +kernel
set_option maxRecDepth 20000 in
theorem ggX9_three_X9_isDay : GoodIn wsX9_three wsX9_isDay := goodIn_r _ [7, 8, 18, 19, 20, 21, 22, 23, 24, 25, 26, 27, 28, 29, 30, 31, 32, 33, 34, 35, 36, 37, 38, 39, 40, 41, 42, 43] (by decide +kernel) (by decide +kernel)
set_option maxRecDepth 20000 in
theorem gX9_three_X9_isDay : GoodIn wsX9_three (wsV RX9 105 RX9 yX9_isDay wsX9_isDay) := goodIn_app (goodIn_of _ (by decide +kernel)) ggX9_three_X9_isDay
set_option maxRecDepth 20000 in
theorem ggX9_three_X9_threeYet : GoodIn wsX9_three wsX9_threeYet := goodIn_r _ [12, 1, 2, 13, 14, 15, 6, 16, 17, 18, 19, 20, 21, 22, 23, 24, 25, 26, 27, 28, 29, 30, 31, 32, 33, 34, 35, 36, 37, 38, 39, 40, 41, 42, 43] (by decide +kernel) (by decide +kernel)
set_option maxRecDepth 20000 in
theorem gX9_three_X9_threeYet : GoodIn wsX9_three (wsV RX9 157 RX9 yX9_threeYet wsX9_threeYet) := goodIn_app (goodIn_of _ (by decide +kernel)) ggX9_three_X9_threeYet
theorem dX9_three_0 : decode cX9_three 0 = .ok (.aload_n 0, 1) := by decide +kernel
theorem dX9_three_1 : decode cX9_three 1 = .ok (.iload_n 1, 1) := by decide +kernel
theorem dX9_three_2 : decode cX9_three 2 = .ok (.invokevirtual 105, 3) := by decide +kernel
theorem dX9_three_5 : decode cX9_three 5 = .ok (.ifCond .eq 19, 3) := by decide +kernel
theorem dX9_three_8 : decode cX9_three 8 = .ok (.aload_n 0, 1) := by decide +kernel
theorem dX9_three_9 : decode cX9_three 9 = .ok (.iload_n 2, 1) := by decide +kernel
theorem dX9_three_10 : decode cX9_three 10 = .ok (.invokevirtual 105, 3) := by decide +kernel
theorem dX9_three_13 : decode cX9_three 13 = .ok (.ifCond .eq 11, 3) := by decide +kernel
theorem dX9_three_16 : decode cX9_three 16 = .ok (.aload_n 0, 1) := by decide +kernel
theorem dX9_three_17 : decode cX9_three 17 = .ok (.iload_n 3, 1) := by decide +kernel
theorem dX9_three_18 : decode cX9_three 18 = .ok (.invokevirtual 105, 3) := by decide +kernel
theorem dX9_three_21 : decode cX9_three 21 = .ok (.ifCond .ne 5, 3) := by decide +kernel
theorem dX9_three_24 : decode cX9_three 24 = .ok (.iconst (-1), 1) := by decide +kernel
theorem dX9_three_25 : decode cX9_three 25 = .ok (.ireturn, 1) := by decide +kernel
theorem dX9_three_26 : decode cX9_three 26 = .ok (.aload_n 0, 1) := by decide +kernel
theorem dX9_three_27 : decode cX9_three 27 = .ok (.getfield 22, 3) := by decide +kernel
theorem dX9_three_30 : decode cX9_three 30 = .ok (.iload_n 1, 1) := by decide +kernel
theorem dX9_three_31 : decode cX9_three 31 = .ok (.iaload, 1) := by decide +kernel
theorem dX9_three_32 : decode cX9_three 32 = .ok (.istore 4, 2) := by decide +kernel
theorem dX9_three_34 : decode cX9_three 34 = .ok (.iload 4, 2) := by decide +kernel
theorem dX9_three_36 : decode cX9_three 36 = .ok (.ifCond .lt 80, 3) := by decide +kernel
theorem dX9_three_39 : decode cX9_three 39 = .ok (.aload_n 0, 1) := by decide +kernel
theorem dX9_three_40 : decode cX9_three 40 = .ok (.getfield 22, 3) := by decide +kernel
theorem dX9_three_43 : decode cX9_three 43 = .ok (.iload_n 2, 1) := by decide +kernel
theorem dX9_three_44 : decode cX9_three 44 = .ok (.iaload, 1) := by decide +kernel
theorem dX9_three_45 : decode cX9_three 45 = .ok (.istore 5, 2) := by decide +kernel
theorem dX9_three_47 : decode cX9_three 47 = .ok (.iload 5, 2) := by decide +kernel
theorem dX9_three_49 : decode cX9_three 49 = .ok (.ifCond .lt 61, 3) := by decide +kernel
theorem dX9_three_52 : decode cX9_three 52 = .ok (.aload_n 0, 1) := by decide +kernel
theorem dX9_three_53 : decode cX9_three 53 = .ok (.getfield 22, 3) := by decide +kernel
theorem dX9_three_56 : decode cX9_three 56 = .ok (.iload_n 3, 1) := by decide +kernel
theorem dX9_three_57 : decode cX9_three 57 = .ok (.iaload, 1) := by decide +kernel
theorem dX9_three_58 : decode cX9_three 58 = .ok (.istore 6, 2) := by decide +kernel
theorem dX9_three_60 : decode cX9_three 60 = .ok (.iload 6, 2) := by decide +kernel
theorem dX9_three_62 : decode cX9_three 62 = .ok (.ifCond .lt 42, 3) := by decide +kernel
theorem dX9_three_65 : decode cX9_three 65 = .ok (.aload_n 0, 1) := by decide +kernel
theorem dX9_three_66 : decode cX9_three 66 = .ok (.getfield 53, 3) := by decide +kernel
theorem dX9_three_69 : decode cX9_three 69 = .ok (.sipush 169, 3) := by decide +kernel
theorem dX9_three_72 : decode cX9_three 72 = .ok (.iload 4, 2) := by decide +kernel
theorem dX9_three_74 : decode cX9_three 74 = .ok (.imul, 1) := by decide +kernel
theorem dX9_three_75 : decode cX9_three 75 = .ok (.bipush 13, 2) := by decide +kernel
theorem dX9_three_77 : decode cX9_three 77 = .ok (.iload 5, 2) := by decide +kernel
theorem dX9_three_79 : decode cX9_three 79 = .ok (.imul, 1) := by decide +kernel
theorem dX9_three_80 : decode cX9_three 80 = .ok (.iadd, 1) := by decide +kernel
theorem dX9_three_81 : decode cX9_three 81 = .ok (.iload 6, 2) := by decide +kernel
theorem dX9_three_83 : decode cX9_three 83 = .ok (.iadd, 1) := by decide +kernel
theorem dX9_three_84 : decode cX9_three 84 = .ok (.aload_n 0, 1) := by decide +kernel
theorem dX9_three_85 : decode cX9_three 85 = .ok (.iload_n 1, 1) := by decide +kernel
theorem dX9_three_86 : decode cX9_three 86 = .ok (.iload_n 2, 1) := by decide +kernel
theorem dX9_three_87 : decode cX9_three 87 = .ok (.iload_n 3, 1) := by decide +kernel
theorem dX9_three_88 : decode cX9_three 88 = .ok (.iload 4, 2) := by decide +kernel
theorem dX9_three_90 : decode cX9_three 90 = .ok (.iload 5, 2) := by decide +kernel
theorem dX9_three_92 : decode cX9_three 92 = .ok (.iload 6, 2) := by decide +kernel
theorem dX9_three_94 : decode cX9_three 94 = .ok (.invokevirtual 157, 3) := by decide +kernel
theorem dX9_three_97 : decode cX9_three 97 = .ok (.iastore, 1) := by decide +kernel
theorem dX9_three_98 : decode cX9_three 98 = .ok (.iinc 6 (-1), 3) := by decide +kernel
theorem dX9_three_101 : decode cX9_three 101 = .ok (.goto (-41), 3) := by decide +kernel
theorem dX9_three_104 : decode cX9_three 104 = .ok (.iinc 5 (-1), 3) := by decide +kernel
theorem dX9_three_107 : decode cX9_three 107 = .ok (.goto (-60), 3) := by decide +kernel
theorem dX9_three_110 : decode cX9_three 110 = .ok (.iinc 4 (-1), 3) := by decide +kernel
theorem dX9_three_113 : decode cX9_three 113 = .ok (.goto (-79), 3) := by decide +kernel
theorem dX9_three_116 : decode cX9_three 116 = .ok (.aload_n 0, 1) := by decide +kernel
theorem dX9_three_117 : decode cX9_three 117 = .ok (.getfield 53, 3) := by decide +kernel
theorem dX9_three_120 : decode cX9_three 120 = .ok (.iconst 0, 1) := by decide +kernel
theorem dX9_three_121 : decode cX9_three 121 = .ok (.iaload, 1) := by decide +kernel
theorem dX9_three_122 : decode cX9_three 122 = .ok (.ireturn, 1) := by decide +kernel
set_option maxRecDepth 20000 in
theorem ggX9_behind_X9_wordAt : GoodIn wsX9_behind wsX9_wordAt := goodIn_r _ [6, 7, 8, 9, 10, 11, 12, 13, 14, 15, 16, 17, 18, 19, 20, 21, 22, 23, 24, 25, 26, 27, 28, 29, 30, 31, 32, 33] (by decide +kernel) (by decide +kernel)
set_option maxRecDepth 20000 in
theorem gX9_behind_X9_wordAt : GoodIn wsX9_behind (wsV RX9 108 RX9 yX9_wordAt wsX9_wordAt) := goodIn_app (goodIn_of _ (by decide +kernel)) ggX9_behind_X9_wordAt
theorem dX9_behind_0 : decode cX9_behind 0 = .ok (.iload_n 2, 1) := by decide +kernel
theorem dX9_behind_1 : decode cX9_behind 1 = .ok (.istore 4, 2) := by decide +kernel
theorem dX9_behind_3 : decode cX9_behind 3 = .ok (.iload 4, 2) := by decide +kernel
theorem dX9_behind_5 : decode cX9_behind 5 = .ok (.aload_n 0, 1) := by decide +kernel
theorem dX9_behind_6 : decode cX9_behind 6 = .ok (.getfield 22, 3) := by decide +kernel
theorem dX9_behind_9 : decode cX9_behind 9 = .ok (.iload_n 1, 1) := by decide +kernel
theorem dX9_behind_10 : decode cX9_behind 10 = .ok (.iaload, 1) := by decide +kernel
theorem dX9_behind_11 : decode cX9_behind 11 = .ok (.if_icmp .ge 25, 3) := by decide +kernel
theorem dX9_behind_14 : decode cX9_behind 14 = .ok (.aload_n 0, 1) := by decide +kernel
theorem dX9_behind_15 : decode cX9_behind 15 = .ok (.iload_n 1, 1) := by decide +kernel
theorem dX9_behind_16 : decode cX9_behind 16 = .ok (.iload 4, 2) := by decide +kernel
theorem dX9_behind_18 : decode cX9_behind 18 = .ok (.invokevirtual 108, 3) := by decide +kernel
theorem dX9_behind_21 : decode cX9_behind 21 = .ok (.iload_n 3, 1) := by decide +kernel
theorem dX9_behind_22 : decode cX9_behind 22 = .ok (.if_icmp .ne 8, 3) := by decide +kernel
theorem dX9_behind_25 : decode cX9_behind 25 = .ok (.iload 4, 2) := by decide +kernel
theorem dX9_behind_27 : decode cX9_behind 27 = .ok (.iconst 1, 1) := by decide +kernel
theorem dX9_behind_28 : decode cX9_behind 28 = .ok (.iadd, 1) := by decide +kernel
theorem dX9_behind_29 : decode cX9_behind 29 = .ok (.ireturn, 1) := by decide +kernel
theorem dX9_behind_30 : decode cX9_behind 30 = .ok (.iinc 4 1, 3) := by decide +kernel
theorem dX9_behind_33 : decode cX9_behind 33 = .ok (.goto (-30), 3) := by decide +kernel
theorem dX9_behind_36 : decode cX9_behind 36 = .ok (.bipush (-9), 2) := by decide +kernel
theorem dX9_behind_38 : decode cX9_behind 38 = .ok (.ireturn, 1) := by decide +kernel
set_option maxRecDepth 20000 in
theorem ggX9_lengthen_X9_behind : GoodIn wsX9_lengthen wsX9_behind := goodIn_r _ [8, 1, 9, 10, 11, 7, 12, 13, 17, 18, 19, 20, 21, 22, 23, 24, 25, 26, 27, 28, 29, 30, 31, 32, 33, 34, 35, 36, 37, 38, 39, 40, 41, 42] (by decide +kernel) (by decide +kernel)
set_option maxRecDepth 20000 in
theorem gX9_lengthen_X9_behind : GoodIn wsX9_lengthen (wsV RX9 161 RX9 yX9_behind wsX9_behind) := goodIn_app (goodIn_of _ (by decide +kernel)) ggX9_lengthen_X9_behind
set_option maxRecDepth 20000 in
theorem ggX9_lengthen_X9_wordAt : GoodIn wsX9_lengthen wsX9_wordAt := goodIn_r _ [12, 13, 17, 18, 19, 20, 21, 22, 23, 24, 25, 26, 27, 28, 29, 30, 31, 32, 33, 34, 35, 36, 37, 38, 39, 40, 41, 42] (by decide +kernel) (by decide +kernel)
set_option maxRecDepth 20000 in
theorem gX9_lengthen_X9_wordAt : GoodIn wsX9_lengthen (wsV RX9 108 RX9 yX9_wordAt wsX9_wordAt) := goodIn_app (goodIn_of _ (by decide +kernel)) ggX9_lengthen_X9_wordAt
set_option maxRecDepth 20000 in
theorem ggX9_lengthen_X9_spot : GoodIn wsX9_lengthen wsX9_spot := goodIn_r _ [16] (by decide +kernel) (by decide +kernel)
set_option maxRecDepth 20000 in
theorem gX9_lengthen_X9_spot : GoodIn wsX9_lengthen (va_wsS RX9 140 yX9_spot wsX9_spot) := goodIn_app (goodIn_of _ (by decide +kernel)) ggX9_lengthen_X9_spot
theorem dX9_lengthen_0 : decode cX9_lengthen 0 = .ok (.iconst 0, 1) := by decide +kernel
theorem dX9_lengthen_1 : decode cX9_lengthen 1 = .ok (.istore 4, 2) := by decide +kernel
theorem dX9_lengthen_3 : decode cX9_lengthen 3 = .ok (.iload 4, 2) := by decide +kernel
theorem dX9_lengthen_5 : decode cX9_lengthen 5 = .ok (.iload_n 3, 1) := by decide +kernel
theorem dX9_lengthen_6 : decode cX9_lengthen 6 = .ok (.if_icmp .gt 130, 3) := by decide +kernel
theorem dX9_lengthen_9 : decode cX9_lengthen 9 = .ok (.iconst 0, 1) := by decide +kernel
theorem dX9_lengthen_10 : decode cX9_lengthen 10 = .ok (.istore 5, 2) := by decide +kernel
theorem dX9_lengthen_12 : decode cX9_lengthen 12 = .ok (.iload 5, 2) := by decide +kernel
theorem dX9_lengthen_14 : decode cX9_lengthen 14 = .ok (.aload_n 0, 1) := by decide +kernel
theorem dX9_lengthen_15 : decode cX9_lengthen 15 = .ok (.getfield 22, 3) := by decide +kernel
theorem dX9_lengthen_18 : decode cX9_lengthen 18 = .ok (.iload_n 2, 1) := by decide +kernel
theorem dX9_lengthen_19 : decode cX9_lengthen 19 = .ok (.iaload, 1) := by decide +kernel
theorem dX9_lengthen_20 : decode cX9_lengthen 20 = .ok (.if_icmp .gt 110, 3) := by decide +kernel
theorem dX9_lengthen_23 : decode cX9_lengthen 23 = .ok (.lconst 0, 1) := by decide +kernel
theorem dX9_lengthen_24 : decode cX9_lengthen 24 = .ok (.lstore 6, 2) := by decide +kernel
theorem dX9_lengthen_26 : decode cX9_lengthen 26 = .ok (.iconst 0, 1) := by decide +kernel
theorem dX9_lengthen_27 : decode cX9_lengthen 27 = .ok (.istore 8, 2) := by decide +kernel
theorem dX9_lengthen_29 : decode cX9_lengthen 29 = .ok (.iload 8, 2) := by decide +kernel
theorem dX9_lengthen_31 : decode cX9_lengthen 31 = .ok (.bipush 8, 2) := by decide +kernel
theorem dX9_lengthen_33 : decode cX9_lengthen 33 = .ok (.if_icmp .ge 77, 3) := by decide +kernel
theorem dX9_lengthen_36 : decode cX9_lengthen 36 = .ok (.aload_n 0, 1) := by decide +kernel
theorem dX9_lengthen_37 : decode cX9_lengthen 37 = .ok (.iload_n 2, 1) := by decide +kernel
theorem dX9_lengthen_38 : decode cX9_lengthen 38 = .ok (.iload 5, 2) := by decide +kernel
theorem dX9_lengthen_40 : decode cX9_lengthen 40 = .ok (.iload 8, 2) := by decide +kernel
theorem dX9_lengthen_42 : decode cX9_lengthen 42 = .ok (.invokevirtual 161, 3) := by decide +kernel
theorem dX9_lengthen_45 : decode cX9_lengthen 45 = .ok (.istore 9, 2) := by decide +kernel
theorem dX9_lengthen_47 : decode cX9_lengthen 47 = .ok (.iload 4, 2) := by decide +kernel
theorem dX9_lengthen_49 : decode cX9_lengthen 49 = .ok (.iload_n 3, 1) := by decide +kernel
theorem dX9_lengthen_50 : decode cX9_lengthen 50 = .ok (.if_icmp .ge 22, 3) := by decide +kernel
theorem dX9_lengthen_53 : decode cX9_lengthen 53 = .ok (.aload_n 0, 1) := by decide +kernel
theorem dX9_lengthen_54 : decode cX9_lengthen 54 = .ok (.iload_n 1, 1) := by decide +kernel
theorem dX9_lengthen_55 : decode cX9_lengthen 55 = .ok (.iload 4, 2) := by decide +kernel
theorem dX9_lengthen_57 : decode cX9_lengthen 57 = .ok (.invokevirtual 108, 3) := by decide +kernel
theorem dX9_lengthen_60 : decode cX9_lengthen 60 = .ok (.iload 8, 2) := by decide +kernel
theorem dX9_lengthen_62 : decode cX9_lengthen 62 = .ok (.if_icmp .ne 10, 3) := by decide +kernel
theorem dX9_lengthen_65 : decode cX9_lengthen 65 = .ok (.iload 4, 2) := by decide +kernel
theorem dX9_lengthen_67 : decode cX9_lengthen 67 = .ok (.iconst 1, 1) := by decide +kernel
theorem dX9_lengthen_68 : decode cX9_lengthen 68 = .ok (.iadd, 1) := by decide +kernel
theorem dX9_lengthen_69 : decode cX9_lengthen 69 = .ok (.goto 5, 3) := by decide +kernel
theorem dX9_lengthen_72 : decode cX9_lengthen 72 = .ok (.iload 4, 2) := by decide +kernel
theorem dX9_lengthen_74 : decode cX9_lengthen 74 = .ok (.istore 10, 2) := by decide +kernel
theorem dX9_lengthen_76 : decode cX9_lengthen 76 = .ok (.lload 6, 2) := by decide +kernel
theorem dX9_lengthen_78 : decode cX9_lengthen 78 = .ok (.iload 9, 2) := by decide +kernel
theorem dX9_lengthen_80 : decode cX9_lengthen 80 = .ok (.bipush (-9), 2) := by decide +kernel
theorem dX9_lengthen_82 : decode cX9_lengthen 82 = .ok (.if_icmp .ne 7, 3) := by decide +kernel
theorem dX9_lengthen_85 : decode cX9_lengthen 85 = .ok (.lconst 0, 1) := by decide +kernel
theorem dX9_lengthen_86 : decode cX9_lengthen 86 = .ok (.goto 15, 3) := by decide +kernel
theorem dX9_lengthen_89 : decode cX9_lengthen 89 = .ok (.aload_n 0, 1) := by decide +kernel
theorem dX9_lengthen_90 : decode cX9_lengthen 90 = .ok (.getfield 56, 3) := by decide +kernel
theorem dX9_lengthen_93 : decode cX9_lengthen 93 = .ok (.iload 10, 2) := by decide +kernel
theorem dX9_lengthen_95 : decode cX9_lengthen 95 = .ok (.iload 9, 2) := by decide +kernel
theorem dX9_lengthen_97 : decode cX9_lengthen 97 = .ok (.invokestatic 140, 3) := by decide +kernel
theorem dX9_lengthen_100 : decode cX9_lengthen 100 = .ok (.laload, 1) := by decide +kernel
theorem dX9_lengthen_101 : decode cX9_lengthen 101 = .ok (.ladd, 1) := by decide +kernel
theorem dX9_lengthen_102 : decode cX9_lengthen 102 = .ok (.lstore 6, 2) := by decide +kernel
theorem dX9_lengthen_104 : decode cX9_lengthen 104 = .ok (.iinc 8 1, 3) := by decide +kernel
theorem dX9_lengthen_107 : decode cX9_lengthen 107 = .ok (.goto (-78), 3) := by decide +kernel
theorem dX9_lengthen_110 : decode cX9_lengthen 110 = .ok (.aload_n 0, 1) := by decide +kernel
theorem dX9_lengthen_111 : decode cX9_lengthen 111 = .ok (.getfield 59, 3) := by decide +kernel
theorem dX9_lengthen_114 : decode cX9_lengthen 114 = .ok (.iload 4, 2) := by decide +kernel
theorem dX9_lengthen_116 : decode cX9_lengthen 116 = .ok (.iload 5, 2) := by decide +kernel
theorem dX9_lengthen_118 : decode cX9_lengthen 118 = .ok (.invokestatic 140, 3) := by decide +kernel
theorem dX9_lengthen_121 : decode cX9_lengthen 121 = .ok (.lload 6, 2) := by decide +kernel
theorem dX9_lengthen_123 : decode cX9_lengthen 123 = .ok (.lastore, 1) := by decide +kernel
theorem dX9_lengthen_124 : decode cX9_lengthen 124 = .ok (.iinc 5 1, 3) := by decide +kernel
theorem dX9_lengthen_127 : decode cX9_lengthen 127 = .ok (.goto (-115), 3) := by decide +kernel
theorem dX9_lengthen_130 : decode cX9_lengthen 130 = .ok (.iinc 4 1, 3) := by decide +kernel
theorem dX9_lengthen_133 : decode cX9_lengthen 133 = .ok (.goto (-130), 3) := by decide +kernel
theorem dX9_lengthen_136 : decode cX9_lengthen 136 = .ok (.iconst 0, 1) := by decide +kernel
theorem dX9_lengthen_137 : decode cX9_lengthen 137 = .ok (.istore 4, 2) := by decide +kernel
theorem dX9_lengthen_139 : decode cX9_lengthen 139 = .ok (.iload 4, 2) := by decide +kernel
theorem dX9_lengthen_141 : decode cX9_lengthen 141 = .ok (.sipush 169, 3) := by decide +kernel
theorem dX9_lengthen_144 : decode cX9_lengthen 144 = .ok (.if_icmp .ge 23, 3) := by decide +kernel
theorem dX9_lengthen_147 : decode cX9_lengthen 147 = .ok (.aload_n 0, 1) := by decide +kernel
theorem dX9_lengthen_148 : decode cX9_lengthen 148 = .ok (.getfield 56, 3) := by decide +kernel
theorem dX9_lengthen_151 : decode cX9_lengthen 151 = .ok (.iload 4, 2) := by decide +kernel
theorem dX9_lengthen_153 : decode cX9_lengthen 153 = .ok (.aload_n 0, 1) := by decide +kernel
theorem dX9_lengthen_154 : decode cX9_lengthen 154 = .ok (.getfield 59, 3) := by decide +kernel
theorem dX9_lengthen_157 : decode cX9_lengthen 157 = .ok (.iload 4, 2) := by decide +kernel
theorem dX9_lengthen_159 : decode cX9_lengthen 159 = .ok (.laload, 1) := by decide +kernel
theorem dX9_lengthen_160 : decode cX9_lengthen 160 = .ok (.lastore, 1) := by decide +kernel
theorem dX9_lengthen_161 : decode cX9_lengthen 161 = .ok (.iinc 4 1, 3) := by decide +kernel
theorem dX9_lengthen_164 : decode cX9_lengthen 164 = .ok (.goto (-25), 3) := by decide +kernel
theorem dX9_lengthen_167 : decode cX9_lengthen 167 = .ok (.return_, 1) := by decide +kernel
set_option maxRecDepth 20000 in
theorem ggX9_between_X9_lengthen : GoodIn wsX9_between wsX9_lengthen := goodIn_r _ [6, 7, 1, 8, 9, 10, 11, 5, 12, 13, 14, 15, 16, 17, 18, 19, 20, 21, 22, 23, 24, 25, 26, 27, 28, 29, 30, 31, 32, 33, 34, 35, 36, 37, 38, 39, 40, 41, 42, 43, 44, 45, 46] (by decide +kernel) (by decide +kernel)
set_option maxRecDepth 20000 in
theorem gX9_between_X9_lengthen : GoodIn wsX9_between (wsV RX9 164 RX9 yX9_lengthen wsX9_lengthen) := goodIn_app (goodIn_of _ (by decide +kernel)) ggX9_between_X9_lengthen
theorem dX9_between_0 : decode cX9_between 0 = .ok (.iconst 0, 1) := by decide +kernel
theorem dX9_between_1 : decode cX9_between 1 = .ok (.istore 5, 2) := by decide +kernel
theorem dX9_between_3 : decode cX9_between 3 = .ok (.iload 5, 2) := by decide +kernel
theorem dX9_between_5 : decode cX9_between 5 = .ok (.sipush 169, 3) := by decide +kernel
theorem dX9_between_8 : decode cX9_between 8 = .ok (.if_icmp .ge 30, 3) := by decide +kernel
theorem dX9_between_11 : decode cX9_between 11 = .ok (.aload_n 0, 1) := by decide +kernel
theorem dX9_between_12 : decode cX9_between 12 = .ok (.getfield 56, 3) := by decide +kernel
theorem dX9_between_15 : decode cX9_between 15 = .ok (.iload 5, 2) := by decide +kernel
theorem dX9_between_17 : decode cX9_between 17 = .ok (.iload 5, 2) := by decide +kernel
theorem dX9_between_19 : decode cX9_between 19 = .ok (.bipush 13, 2) := by decide +kernel
theorem dX9_between_21 : decode cX9_between 21 = .ok (.idiv, 1) := by decide +kernel
theorem dX9_between_22 : decode cX9_between 22 = .ok (.iload_n 3, 1) := by decide +kernel
theorem dX9_between_23 : decode cX9_between 23 = .ok (.if_icmp .ne 7, 3) := by decide +kernel
theorem dX9_between_26 : decode cX9_between 26 = .ok (.lconst 1, 1) := by decide +kernel
theorem dX9_between_27 : decode cX9_between 27 = .ok (.goto 4, 3) := by decide +kernel
theorem dX9_between_30 : decode cX9_between 30 = .ok (.lconst 0, 1) := by decide +kernel
theorem dX9_between_31 : decode cX9_between 31 = .ok (.lastore, 1) := by decide +kernel
theorem dX9_between_32 : decode cX9_between 32 = .ok (.iinc 5 1, 3) := by decide +kernel
theorem dX9_between_35 : decode cX9_between 35 = .ok (.goto (-32), 3) := by decide +kernel
theorem dX9_between_38 : decode cX9_between 38 = .ok (.iconst 0, 1) := by decide +kernel
theorem dX9_between_39 : decode cX9_between 39 = .ok (.istore 5, 2) := by decide +kernel
theorem dX9_between_41 : decode cX9_between 41 = .ok (.iload 5, 2) := by decide +kernel
theorem dX9_between_43 : decode cX9_between 43 = .ok (.iload 4, 2) := by decide +kernel
theorem dX9_between_45 : decode cX9_between 45 = .ok (.if_icmp .ge 16, 3) := by decide +kernel
theorem dX9_between_48 : decode cX9_between 48 = .ok (.aload_n 0, 1) := by decide +kernel
theorem dX9_between_49 : decode cX9_between 49 = .ok (.iload_n 1, 1) := by decide +kernel
theorem dX9_between_50 : decode cX9_between 50 = .ok (.iload_n 2, 1) := by decide +kernel
theorem dX9_between_51 : decode cX9_between 51 = .ok (.iload_n 3, 1) := by decide +kernel
theorem dX9_between_52 : decode cX9_between 52 = .ok (.invokevirtual 164, 3) := by decide +kernel
theorem dX9_between_55 : decode cX9_between 55 = .ok (.iinc 5 1, 3) := by decide +kernel
theorem dX9_between_58 : decode cX9_between 58 = .ok (.goto (-17), 3) := by decide +kernel
theorem dX9_between_61 : decode cX9_between 61 = .ok (.aload_n 0, 1) := by decide +kernel
theorem dX9_between_62 : decode cX9_between 62 = .ok (.getfield 56, 3) := by decide +kernel
theorem dX9_between_65 : decode cX9_between 65 = .ok (.iconst 0, 1) := by decide +kernel
theorem dX9_between_66 : decode cX9_between 66 = .ok (.laload, 1) := by decide +kernel
theorem dX9_between_67 : decode cX9_between 67 = .ok (.lreturn, 1) := by decide +kernel
set_option maxRecDepth 20000 in
theorem ggX9_lostDay_X9_isDay : GoodIn wsX9_lostDay wsX9_isDay := goodIn_r _ [7, 8, 34, 35, 36, 37, 38, 39, 40, 41, 42, 43, 44, 45, 46, 47, 48, 49, 50, 51, 52, 53, 54, 55, 56, 57, 58, 59] (by decide +kernel) (by decide +kernel)
set_option maxRecDepth 20000 in
theorem gX9_lostDay_X9_isDay : GoodIn wsX9_lostDay (wsV RX9 105 RX9 yX9_isDay wsX9_isDay) := goodIn_app (goodIn_of _ (by decide +kernel)) ggX9_lostDay_X9_isDay
set_option maxRecDepth 20000 in
theorem ggX9_lostDay_X9_inside : GoodIn wsX9_lostDay wsX9_inside := goodIn_r _ [11] (by decide +kernel) (by decide +kernel)
set_option maxRecDepth 20000 in
theorem gX9_lostDay_X9_inside : GoodIn wsX9_lostDay (va_wsS RX9 71 yX9_inside wsX9_inside) := goodIn_app (goodIn_of _ (by decide +kernel)) ggX9_lostDay_X9_inside
set_option maxRecDepth 20000 in
theorem ggX9_lostDay_X9_between : GoodIn wsX9_lostDay wsX9_between := goodIn_r _ [15, 16, 17, 18, 19, 6, 20, 2, 21, 22, 23, 24, 25, 26, 27, 28, 29, 30, 31, 32, 33, 34, 35, 36, 37, 38, 39, 40, 41, 42, 43, 44, 45, 46, 47, 48, 49, 50, 51, 52, 53, 54, 55, 56, 57, 58, 59] (by decide +kernel) (by decide +kernel)
set_option maxRecDepth 20000 in
theorem gX9_lostDay_X9_between : GoodIn wsX9_lostDay (wsV RX9 168 RX9 yX9_between wsX9_between) := goodIn_app (goodIn_of _ (by decide +kernel)) ggX9_lostDay_X9_between
theorem dX9_lostDay_0 : decode cX9_lostDay 0 = .ok (.aload_n 0, 1) := by decide +kernel
theorem dX9_lostDay_1 : decode cX9_lostDay 1 = .ok (.iload_n 1, 1) := by decide +kernel
theorem dX9_lostDay_2 : decode cX9_lostDay 2 = .ok (.invokevirtual 105, 3) := by decide +kernel
theorem dX9_lostDay_5 : decode cX9_lostDay 5 = .ok (.ifCond .eq 21, 3) := by decide +kernel
theorem dX9_lostDay_8 : decode cX9_lostDay 8 = .ok (.aload_n 0, 1) := by decide +kernel
theorem dX9_lostDay_9 : decode cX9_lostDay 9 = .ok (.iload_n 2, 1) := by decide +kernel
theorem dX9_lostDay_10 : decode cX9_lostDay 10 = .ok (.invokevirtual 105, 3) := by decide +kernel
theorem dX9_lostDay_13 : decode cX9_lostDay 13 = .ok (.ifCond .eq 13, 3) := by decide +kernel
theorem dX9_lostDay_16 : decode cX9_lostDay 16 = .ok (.iload_n 3, 1) := by decide +kernel
theorem dX9_lostDay_17 : decode cX9_lostDay 17 = .ok (.iconst 0, 1) := by decide +kernel
theorem dX9_lostDay_18 : decode cX9_lostDay 18 = .ok (.bipush 12, 2) := by decide +kernel
theorem dX9_lostDay_20 : decode cX9_lostDay 20 = .ok (.invokestatic 71, 3) := by decide +kernel
theorem dX9_lostDay_23 : decode cX9_lostDay 23 = .ok (.ifCond .ne 7, 3) := by decide +kernel
theorem dX9_lostDay_26 : decode cX9_lostDay 26 = .ok (.ldc2_w 69, 3) := by decide +kernel
theorem dX9_lostDay_29 : decode cX9_lostDay 29 = .ok (.lreturn, 1) := by decide +kernel
theorem dX9_lostDay_30 : decode cX9_lostDay 30 = .ok (.aload_n 0, 1) := by decide +kernel
theorem dX9_lostDay_31 : decode cX9_lostDay 31 = .ok (.iload_n 1, 1) := by decide +kernel
theorem dX9_lostDay_32 : decode cX9_lostDay 32 = .ok (.iload_n 2, 1) := by decide +kernel
theorem dX9_lostDay_33 : decode cX9_lostDay 33 = .ok (.aload_n 0, 1) := by decide +kernel
theorem dX9_lostDay_34 : decode cX9_lostDay 34 = .ok (.getfield 22, 3) := by decide +kernel
theorem dX9_lostDay_37 : decode cX9_lostDay 37 = .ok (.iload_n 1, 1) := by decide +kernel
theorem dX9_lostDay_38 : decode cX9_lostDay 38 = .ok (.iaload, 1) := by decide +kernel
theorem dX9_lostDay_39 : decode cX9_lostDay 39 = .ok (.iload_n 3, 1) := by decide +kernel
theorem dX9_lostDay_40 : decode cX9_lostDay 40 = .ok (.invokevirtual 168, 3) := by decide +kernel
theorem dX9_lostDay_43 : decode cX9_lostDay 43 = .ok (.lreturn, 1) := by decide +kernel
set_option maxRecDepth 20000 in
theorem ggX9_roots_X9_isDay : GoodIn wsX9_roots wsX9_isDay := goodIn_r _ [6, 7, 34, 35, 36, 37, 38, 39, 40, 41, 42, 43, 44, 45, 46, 47, 48, 49, 50, 51, 52, 53, 54, 55, 56, 57, 58, 59] (by decide +kernel) (by decide +kernel)
set_option maxRecDepth 20000 in
theorem gX9_roots_X9_isDay : GoodIn wsX9_roots (wsV RX9 105 RX9 yX9_isDay wsX9_isDay) := goodIn_app (goodIn_of _ (by decide +kernel)) ggX9_roots_X9_isDay
set_option maxRecDepth 20000 in
theorem ggX9_roots_X9_inside : GoodIn wsX9_roots wsX9_inside := goodIn_r _ [10] (by decide +kernel) (by decide +kernel)
set_option maxRecDepth 20000 in
theorem gX9_roots_X9_inside : GoodIn wsX9_roots (va_wsS RX9 71 yX9_inside wsX9_inside) := goodIn_app (goodIn_of _ (by decide +kernel)) ggX9_roots_X9_inside
set_option maxRecDepth 20000 in
theorem ggX9_roots_X9_between : GoodIn wsX9_roots wsX9_between := goodIn_r _ [14, 15, 16, 17, 18, 5, 19, 20, 21, 22, 23, 24, 25, 26, 27, 28, 29, 30, 31, 32, 33, 34, 35, 36, 37, 38, 39, 40, 41, 42, 43, 44, 45, 46, 47, 48, 49, 50, 51, 52, 53, 54, 55, 56, 57, 58, 59] (by decide +kernel) (by decide +kernel)
set_option maxRecDepth 20000 in
theorem gX9_roots_X9_between : GoodIn wsX9_roots (wsV RX9 168 RX9 yX9_between wsX9_between) := goodIn_app (goodIn_of _ (by decide +kernel)) ggX9_roots_X9_between
theorem dX9_roots_0 : decode cX9_roots 0 = .ok (.aload_n 0, 1) := by decide +kernel
theorem dX9_roots_1 : decode cX9_roots 1 = .ok (.iload_n 1, 1) := by decide +kernel
theorem dX9_roots_2 : decode cX9_roots 2 = .ok (.invokevirtual 105, 3) := by decide +kernel
theorem dX9_roots_5 : decode cX9_roots 5 = .ok (.ifCond .eq 24, 3) := by decide +kernel
theorem dX9_roots_8 : decode cX9_roots 8 = .ok (.iload_n 2, 1) := by decide +kernel
theorem dX9_roots_9 : decode cX9_roots 9 = .ok (.iconst 0, 1) := by decide +kernel
theorem dX9_roots_10 : decode cX9_roots 10 = .ok (.bipush 12, 2) := by decide +kernel
theorem dX9_roots_12 : decode cX9_roots 12 = .ok (.invokestatic 71, 3) := by decide +kernel
theorem dX9_roots_15 : decode cX9_roots 15 = .ok (.ifCond .eq 14, 3) := by decide +kernel
theorem dX9_roots_18 : decode cX9_roots 18 = .ok (.aload_n 0, 1) := by decide +kernel
theorem dX9_roots_19 : decode cX9_roots 19 = .ok (.iload_n 1, 1) := by decide +kernel
theorem dX9_roots_20 : decode cX9_roots 20 = .ok (.iload_n 1, 1) := by decide +kernel
theorem dX9_roots_21 : decode cX9_roots 21 = .ok (.iconst 0, 1) := by decide +kernel
theorem dX9_roots_22 : decode cX9_roots 22 = .ok (.iload_n 2, 1) := by decide +kernel
theorem dX9_roots_23 : decode cX9_roots 23 = .ok (.invokevirtual 168, 3) := by decide +kernel
theorem dX9_roots_26 : decode cX9_roots 26 = .ok (.goto 6, 3) := by decide +kernel
theorem dX9_roots_29 : decode cX9_roots 29 = .ok (.ldc2_w 69, 3) := by decide +kernel
theorem dX9_roots_32 : decode cX9_roots 32 = .ok (.lreturn, 1) := by decide +kernel
set_option maxRecDepth 20000 in
theorem ggX9_breaths_X9_isDay : GoodIn wsX9_breaths wsX9_isDay := goodIn_r _ [8, 9, 18, 19, 20, 21, 22, 23, 24, 25, 26, 27, 28, 29, 30, 31, 32, 33, 34, 35, 36, 37, 38, 39, 40, 41, 42, 43] (by decide +kernel) (by decide +kernel)
set_option maxRecDepth 20000 in
theorem gX9_breaths_X9_isDay : GoodIn wsX9_breaths (wsV RX9 105 RX9 yX9_isDay wsX9_isDay) := goodIn_app (goodIn_of _ (by decide +kernel)) ggX9_breaths_X9_isDay
set_option maxRecDepth 20000 in
theorem ggX9_breaths_X9_inside : GoodIn wsX9_breaths wsX9_inside := goodIn_r _ [12] (by decide +kernel) (by decide +kernel)
set_option maxRecDepth 20000 in
theorem gX9_breaths_X9_inside : GoodIn wsX9_breaths (va_wsS RX9 71 yX9_inside wsX9_inside) := goodIn_app (goodIn_of _ (by decide +kernel)) ggX9_breaths_X9_inside
set_option maxRecDepth 20000 in
theorem ggX9_breaths_X9_wordAt : GoodIn wsX9_breaths wsX9_wordAt := goodIn_r _ [16, 17, 18, 19, 20, 21, 22, 23, 24, 25, 26, 27, 28, 29, 30, 31, 32, 33, 34, 35, 36, 37, 38, 39, 40, 41, 42, 43] (by decide +kernel) (by decide +kernel)
set_option maxRecDepth 20000 in
theorem gX9_breaths_X9_wordAt : GoodIn wsX9_breaths (wsV RX9 108 RX9 yX9_wordAt wsX9_wordAt) := goodIn_app (goodIn_of _ (by decide +kernel)) ggX9_breaths_X9_wordAt
theorem dX9_breaths_0 : decode cX9_breaths 0 = .ok (.aload_n 0, 1) := by decide +kernel
theorem dX9_breaths_1 : decode cX9_breaths 1 = .ok (.iload_n 1, 1) := by decide +kernel
theorem dX9_breaths_2 : decode cX9_breaths 2 = .ok (.invokevirtual 105, 3) := by decide +kernel
theorem dX9_breaths_5 : decode cX9_breaths 5 = .ok (.ifCond .ne 5, 3) := by decide +kernel
theorem dX9_breaths_8 : decode cX9_breaths 8 = .ok (.iconst (-1), 1) := by decide +kernel
theorem dX9_breaths_9 : decode cX9_breaths 9 = .ok (.ireturn, 1) := by decide +kernel
theorem dX9_breaths_10 : decode cX9_breaths 10 = .ok (.iload_n 2, 1) := by decide +kernel
theorem dX9_breaths_11 : decode cX9_breaths 11 = .ok (.iconst 1, 1) := by decide +kernel
theorem dX9_breaths_12 : decode cX9_breaths 12 = .ok (.bipush 12, 2) := by decide +kernel
theorem dX9_breaths_14 : decode cX9_breaths 14 = .ok (.invokestatic 71, 3) := by decide +kernel
theorem dX9_breaths_17 : decode cX9_breaths 17 = .ok (.ifCond .ne 6, 3) := by decide +kernel
theorem dX9_breaths_20 : decode cX9_breaths 20 = .ok (.bipush (-2), 2) := by decide +kernel
theorem dX9_breaths_22 : decode cX9_breaths 22 = .ok (.ireturn, 1) := by decide +kernel
theorem dX9_breaths_23 : decode cX9_breaths 23 = .ok (.aload_n 0, 1) := by decide +kernel
theorem dX9_breaths_24 : decode cX9_breaths 24 = .ok (.getfield 22, 3) := by decide +kernel
theorem dX9_breaths_27 : decode cX9_breaths 27 = .ok (.iload_n 1, 1) := by decide +kernel
theorem dX9_breaths_28 : decode cX9_breaths 28 = .ok (.iaload, 1) := by decide +kernel
theorem dX9_breaths_29 : decode cX9_breaths 29 = .ok (.istore_n 3, 1) := by decide +kernel
theorem dX9_breaths_30 : decode cX9_breaths 30 = .ok (.aload_n 0, 1) := by decide +kernel
theorem dX9_breaths_31 : decode cX9_breaths 31 = .ok (.getfield 62, 3) := by decide +kernel
theorem dX9_breaths_34 : decode cX9_breaths 34 = .ok (.iconst 0, 1) := by decide +kernel
theorem dX9_breaths_35 : decode cX9_breaths 35 = .ok (.iconst 0, 1) := by decide +kernel
theorem dX9_breaths_36 : decode cX9_breaths 36 = .ok (.iastore, 1) := by decide +kernel
theorem dX9_breaths_37 : decode cX9_breaths 37 = .ok (.iconst 1, 1) := by decide +kernel
theorem dX9_breaths_38 : decode cX9_breaths 38 = .ok (.istore 4, 2) := by decide +kernel
theorem dX9_breaths_40 : decode cX9_breaths 40 = .ok (.iload 4, 2) := by decide +kernel
theorem dX9_breaths_42 : decode cX9_breaths 42 = .ok (.iload_n 3, 1) := by decide +kernel
theorem dX9_breaths_43 : decode cX9_breaths 43 = .ok (.if_icmp .gt 164, 3) := by decide +kernel
theorem dX9_breaths_46 : decode cX9_breaths 46 = .ok (.aload_n 0, 1) := by decide +kernel
theorem dX9_breaths_47 : decode cX9_breaths 47 = .ok (.getfield 62, 3) := by decide +kernel
theorem dX9_breaths_50 : decode cX9_breaths 50 = .ok (.iload 4, 2) := by decide +kernel
theorem dX9_breaths_52 : decode cX9_breaths 52 = .ok (.bipush (-9), 2) := by decide +kernel
theorem dX9_breaths_54 : decode cX9_breaths 54 = .ok (.iastore, 1) := by decide +kernel
theorem dX9_breaths_55 : decode cX9_breaths 55 = .ok (.iload 4, 2) := by decide +kernel
theorem dX9_breaths_57 : decode cX9_breaths 57 = .ok (.iload_n 3, 1) := by decide +kernel
theorem dX9_breaths_58 : decode cX9_breaths 58 = .ok (.if_icmp .eq 20, 3) := by decide +kernel
theorem dX9_breaths_61 : decode cX9_breaths 61 = .ok (.aload_n 0, 1) := by decide +kernel
theorem dX9_breaths_62 : decode cX9_breaths 62 = .ok (.getfield 19, 3) := by decide +kernel
theorem dX9_breaths_65 : decode cX9_breaths 65 = .ok (.aload_n 0, 1) := by decide +kernel
theorem dX9_breaths_66 : decode cX9_breaths 66 = .ok (.iload_n 1, 1) := by decide +kernel
theorem dX9_breaths_67 : decode cX9_breaths 67 = .ok (.iload 4, 2) := by decide +kernel
theorem dX9_breaths_69 : decode cX9_breaths 69 = .ok (.iconst 1, 1) := by decide +kernel
theorem dX9_breaths_70 : decode cX9_breaths 70 = .ok (.isub, 1) := by decide +kernel
theorem dX9_breaths_71 : decode cX9_breaths 71 = .ok (.invokevirtual 108, 3) := by decide +kernel
theorem dX9_breaths_74 : decode cX9_breaths 74 = .ok (.iaload, 1) := by decide +kernel
theorem dX9_breaths_75 : decode cX9_breaths 75 = .ok (.ifCond .ne 7, 3) := by decide +kernel
theorem dX9_breaths_78 : decode cX9_breaths 78 = .ok (.iconst 1, 1) := by decide +kernel
theorem dX9_breaths_79 : decode cX9_breaths 79 = .ok (.goto 4, 3) := by decide +kernel
theorem dX9_breaths_82 : decode cX9_breaths 82 = .ok (.iconst 0, 1) := by decide +kernel
theorem dX9_breaths_83 : decode cX9_breaths 83 = .ok (.istore 5, 2) := by decide +kernel
theorem dX9_breaths_85 : decode cX9_breaths 85 = .ok (.iload 4, 2) := by decide +kernel
theorem dX9_breaths_87 : decode cX9_breaths 87 = .ok (.iload_n 2, 1) := by decide +kernel
theorem dX9_breaths_88 : decode cX9_breaths 88 = .ok (.isub, 1) := by decide +kernel
theorem dX9_breaths_89 : decode cX9_breaths 89 = .ok (.ifCond .ge 7, 3) := by decide +kernel
theorem dX9_breaths_92 : decode cX9_breaths 92 = .ok (.iconst 0, 1) := by decide +kernel
theorem dX9_breaths_93 : decode cX9_breaths 93 = .ok (.goto 7, 3) := by decide +kernel
theorem dX9_breaths_96 : decode cX9_breaths 96 = .ok (.iload 4, 2) := by decide +kernel
theorem dX9_breaths_98 : decode cX9_breaths 98 = .ok (.iload_n 2, 1) := by decide +kernel
theorem dX9_breaths_99 : decode cX9_breaths 99 = .ok (.isub, 1) := by decide +kernel
theorem dX9_breaths_100 : decode cX9_breaths 100 = .ok (.istore 6, 2) := by decide +kernel
theorem dX9_breaths_102 : decode cX9_breaths 102 = .ok (.iload 6, 2) := by decide +kernel
theorem dX9_breaths_104 : decode cX9_breaths 104 = .ok (.iload 4, 2) := by decide +kernel
theorem dX9_breaths_106 : decode cX9_breaths 106 = .ok (.if_icmp .ge 95, 3) := by decide +kernel
theorem dX9_breaths_109 : decode cX9_breaths 109 = .ok (.iload 5, 2) := by decide +kernel
theorem dX9_breaths_111 : decode cX9_breaths 111 = .ok (.ifCond .eq 90, 3) := by decide +kernel
theorem dX9_breaths_114 : decode cX9_breaths 114 = .ok (.aload_n 0, 1) := by decide +kernel
theorem dX9_breaths_115 : decode cX9_breaths 115 = .ok (.getfield 62, 3) := by decide +kernel
theorem dX9_breaths_118 : decode cX9_breaths 118 = .ok (.iload 6, 2) := by decide +kernel
theorem dX9_breaths_120 : decode cX9_breaths 120 = .ok (.iaload, 1) := by decide +kernel
theorem dX9_breaths_121 : decode cX9_breaths 121 = .ok (.bipush (-9), 2) := by decide +kernel
theorem dX9_breaths_123 : decode cX9_breaths 123 = .ok (.if_icmp .eq 38, 3) := by decide +kernel
theorem dX9_breaths_126 : decode cX9_breaths 126 = .ok (.aload_n 0, 1) := by decide +kernel
theorem dX9_breaths_127 : decode cX9_breaths 127 = .ok (.getfield 62, 3) := by decide +kernel
theorem dX9_breaths_130 : decode cX9_breaths 130 = .ok (.iload 4, 2) := by decide +kernel
theorem dX9_breaths_132 : decode cX9_breaths 132 = .ok (.iaload, 1) := by decide +kernel
theorem dX9_breaths_133 : decode cX9_breaths 133 = .ok (.bipush (-9), 2) := by decide +kernel
theorem dX9_breaths_135 : decode cX9_breaths 135 = .ok (.if_icmp .eq 22, 3) := by decide +kernel
theorem dX9_breaths_138 : decode cX9_breaths 138 = .ok (.aload_n 0, 1) := by decide +kernel
theorem dX9_breaths_139 : decode cX9_breaths 139 = .ok (.getfield 62, 3) := by decide +kernel
theorem dX9_breaths_142 : decode cX9_breaths 142 = .ok (.iload 6, 2) := by decide +kernel
theorem dX9_breaths_144 : decode cX9_breaths 144 = .ok (.iaload, 1) := by decide +kernel
theorem dX9_breaths_145 : decode cX9_breaths 145 = .ok (.iconst 1, 1) := by decide +kernel
theorem dX9_breaths_146 : decode cX9_breaths 146 = .ok (.iadd, 1) := by decide +kernel
theorem dX9_breaths_147 : decode cX9_breaths 147 = .ok (.aload_n 0, 1) := by decide +kernel
theorem dX9_breaths_148 : decode cX9_breaths 148 = .ok (.getfield 62, 3) := by decide +kernel
theorem dX9_breaths_151 : decode cX9_breaths 151 = .ok (.iload 4, 2) := by decide +kernel
theorem dX9_breaths_153 : decode cX9_breaths 153 = .ok (.iaload, 1) := by decide +kernel
theorem dX9_breaths_154 : decode cX9_breaths 154 = .ok (.if_icmp .ge 7, 3) := by decide +kernel
theorem dX9_breaths_157 : decode cX9_breaths 157 = .ok (.iconst 1, 1) := by decide +kernel
theorem dX9_breaths_158 : decode cX9_breaths 158 = .ok (.goto 4, 3) := by decide +kernel
theorem dX9_breaths_161 : decode cX9_breaths 161 = .ok (.iconst 0, 1) := by decide +kernel
theorem dX9_breaths_162 : decode cX9_breaths 162 = .ok (.istore 7, 2) := by decide +kernel
theorem dX9_breaths_164 : decode cX9_breaths 164 = .ok (.aload_n 0, 1) := by decide +kernel
theorem dX9_breaths_165 : decode cX9_breaths 165 = .ok (.getfield 62, 3) := by decide +kernel
theorem dX9_breaths_168 : decode cX9_breaths 168 = .ok (.iload 4, 2) := by decide +kernel
theorem dX9_breaths_170 : decode cX9_breaths 170 = .ok (.iload 7, 2) := by decide +kernel
theorem dX9_breaths_172 : decode cX9_breaths 172 = .ok (.ifCond .eq 15, 3) := by decide +kernel
theorem dX9_breaths_175 : decode cX9_breaths 175 = .ok (.aload_n 0, 1) := by decide +kernel
theorem dX9_breaths_176 : decode cX9_breaths 176 = .ok (.getfield 62, 3) := by decide +kernel
theorem dX9_breaths_179 : decode cX9_breaths 179 = .ok (.iload 6, 2) := by decide +kernel
theorem dX9_breaths_181 : decode cX9_breaths 181 = .ok (.iaload, 1) := by decide +kernel
theorem dX9_breaths_182 : decode cX9_breaths 182 = .ok (.iconst 1, 1) := by decide +kernel
theorem dX9_breaths_183 : decode cX9_breaths 183 = .ok (.iadd, 1) := by decide +kernel
theorem dX9_breaths_184 : decode cX9_breaths 184 = .ok (.goto 10, 3) := by decide +kernel
theorem dX9_breaths_187 : decode cX9_breaths 187 = .ok (.aload_n 0, 1) := by decide +kernel
theorem dX9_breaths_188 : decode cX9_breaths 188 = .ok (.getfield 62, 3) := by decide +kernel
theorem dX9_breaths_191 : decode cX9_breaths 191 = .ok (.iload 4, 2) := by decide +kernel
theorem dX9_breaths_193 : decode cX9_breaths 193 = .ok (.iaload, 1) := by decide +kernel
theorem dX9_breaths_194 : decode cX9_breaths 194 = .ok (.iastore, 1) := by decide +kernel
theorem dX9_breaths_195 : decode cX9_breaths 195 = .ok (.iinc 6 1, 3) := by decide +kernel
theorem dX9_breaths_198 : decode cX9_breaths 198 = .ok (.goto (-96), 3) := by decide +kernel
theorem dX9_breaths_201 : decode cX9_breaths 201 = .ok (.iinc 4 1, 3) := by decide +kernel
theorem dX9_breaths_204 : decode cX9_breaths 204 = .ok (.goto (-164), 3) := by decide +kernel
theorem dX9_breaths_207 : decode cX9_breaths 207 = .ok (.aload_n 0, 1) := by decide +kernel
theorem dX9_breaths_208 : decode cX9_breaths 208 = .ok (.getfield 62, 3) := by decide +kernel
theorem dX9_breaths_211 : decode cX9_breaths 211 = .ok (.iload_n 3, 1) := by decide +kernel
theorem dX9_breaths_212 : decode cX9_breaths 212 = .ok (.iaload, 1) := by decide +kernel
theorem dX9_breaths_213 : decode cX9_breaths 213 = .ok (.ireturn, 1) := by decide +kernel
set_option maxRecDepth 20000 in
theorem ggX9_alikeFrom_X9_wordAt : GoodIn wsX9_alikeFrom wsX9_wordAt := goodIn_r _ [6, 7, 8, 9, 10, 11, 12, 13, 14, 15, 16, 17, 18, 19, 20, 21, 22, 23, 24, 25, 26, 27, 28, 29, 30, 31, 32, 33] (by decide +kernel) (by decide +kernel)
set_option maxRecDepth 20000 in
theorem gX9_alikeFrom_X9_wordAt : GoodIn wsX9_alikeFrom (wsV RX9 108 RX9 yX9_wordAt wsX9_wordAt) := goodIn_app (goodIn_of _ (by decide +kernel)) ggX9_alikeFrom_X9_wordAt
theorem dX9_alikeFrom_0 : decode cX9_alikeFrom 0 = .ok (.iconst 0, 1) := by decide +kernel
theorem dX9_alikeFrom_1 : decode cX9_alikeFrom 1 = .ok (.istore 5, 2) := by decide +kernel
theorem dX9_alikeFrom_3 : decode cX9_alikeFrom 3 = .ok (.iload_n 2, 1) := by decide +kernel
theorem dX9_alikeFrom_4 : decode cX9_alikeFrom 4 = .ok (.iload 5, 2) := by decide +kernel
theorem dX9_alikeFrom_6 : decode cX9_alikeFrom 6 = .ok (.iadd, 1) := by decide +kernel
theorem dX9_alikeFrom_7 : decode cX9_alikeFrom 7 = .ok (.aload_n 0, 1) := by decide +kernel
theorem dX9_alikeFrom_8 : decode cX9_alikeFrom 8 = .ok (.getfield 22, 3) := by decide +kernel
theorem dX9_alikeFrom_11 : decode cX9_alikeFrom 11 = .ok (.iload_n 1, 1) := by decide +kernel
theorem dX9_alikeFrom_12 : decode cX9_alikeFrom 12 = .ok (.iaload, 1) := by decide +kernel
theorem dX9_alikeFrom_13 : decode cX9_alikeFrom 13 = .ok (.if_icmp .ge 45, 3) := by decide +kernel
theorem dX9_alikeFrom_16 : decode cX9_alikeFrom 16 = .ok (.iload 4, 2) := by decide +kernel
theorem dX9_alikeFrom_18 : decode cX9_alikeFrom 18 = .ok (.iload 5, 2) := by decide +kernel
theorem dX9_alikeFrom_20 : decode cX9_alikeFrom 20 = .ok (.iadd, 1) := by decide +kernel
theorem dX9_alikeFrom_21 : decode cX9_alikeFrom 21 = .ok (.aload_n 0, 1) := by decide +kernel
theorem dX9_alikeFrom_22 : decode cX9_alikeFrom 22 = .ok (.getfield 22, 3) := by decide +kernel
theorem dX9_alikeFrom_25 : decode cX9_alikeFrom 25 = .ok (.iload_n 3, 1) := by decide +kernel
theorem dX9_alikeFrom_26 : decode cX9_alikeFrom 26 = .ok (.iaload, 1) := by decide +kernel
theorem dX9_alikeFrom_27 : decode cX9_alikeFrom 27 = .ok (.if_icmp .ge 31, 3) := by decide +kernel
theorem dX9_alikeFrom_30 : decode cX9_alikeFrom 30 = .ok (.aload_n 0, 1) := by decide +kernel
theorem dX9_alikeFrom_31 : decode cX9_alikeFrom 31 = .ok (.iload_n 1, 1) := by decide +kernel
theorem dX9_alikeFrom_32 : decode cX9_alikeFrom 32 = .ok (.iload_n 2, 1) := by decide +kernel
theorem dX9_alikeFrom_33 : decode cX9_alikeFrom 33 = .ok (.iload 5, 2) := by decide +kernel
theorem dX9_alikeFrom_35 : decode cX9_alikeFrom 35 = .ok (.iadd, 1) := by decide +kernel
theorem dX9_alikeFrom_36 : decode cX9_alikeFrom 36 = .ok (.invokevirtual 108, 3) := by decide +kernel
theorem dX9_alikeFrom_39 : decode cX9_alikeFrom 39 = .ok (.aload_n 0, 1) := by decide +kernel
theorem dX9_alikeFrom_40 : decode cX9_alikeFrom 40 = .ok (.iload_n 3, 1) := by decide +kernel
theorem dX9_alikeFrom_41 : decode cX9_alikeFrom 41 = .ok (.iload 4, 2) := by decide +kernel
theorem dX9_alikeFrom_43 : decode cX9_alikeFrom 43 = .ok (.iload 5, 2) := by decide +kernel
theorem dX9_alikeFrom_45 : decode cX9_alikeFrom 45 = .ok (.iadd, 1) := by decide +kernel
theorem dX9_alikeFrom_46 : decode cX9_alikeFrom 46 = .ok (.invokevirtual 108, 3) := by decide +kernel
theorem dX9_alikeFrom_49 : decode cX9_alikeFrom 49 = .ok (.if_icmp .ne 9, 3) := by decide +kernel
theorem dX9_alikeFrom_52 : decode cX9_alikeFrom 52 = .ok (.iinc 5 1, 3) := by decide +kernel
theorem dX9_alikeFrom_55 : decode cX9_alikeFrom 55 = .ok (.goto (-52), 3) := by decide +kernel
theorem dX9_alikeFrom_58 : decode cX9_alikeFrom 58 = .ok (.iload 5, 2) := by decide +kernel
theorem dX9_alikeFrom_60 : decode cX9_alikeFrom 60 = .ok (.ireturn, 1) := by decide +kernel
set_option maxRecDepth 20000 in
theorem ggX9_once_X9_isDay : GoodIn wsX9_once wsX9_isDay := goodIn_r _ [6, 7, 20, 21, 22, 23, 24, 25, 26, 27, 28, 29, 30, 31, 32, 33, 34, 35, 36, 37, 38, 39, 40, 41, 42, 43, 44, 45] (by decide +kernel) (by decide +kernel)
set_option maxRecDepth 20000 in
theorem gX9_once_X9_isDay : GoodIn wsX9_once (wsV RX9 105 RX9 yX9_isDay wsX9_isDay) := goodIn_app (goodIn_of _ (by decide +kernel)) ggX9_once_X9_isDay
set_option maxRecDepth 20000 in
theorem ggX9_once_X9_inside : GoodIn wsX9_once wsX9_inside := goodIn_r _ [10] (by decide +kernel) (by decide +kernel)
set_option maxRecDepth 20000 in
theorem gX9_once_X9_inside : GoodIn wsX9_once (va_wsS RX9 71 yX9_inside wsX9_inside) := goodIn_app (goodIn_of _ (by decide +kernel)) ggX9_once_X9_inside
set_option maxRecDepth 20000 in
theorem ggX9_once_X9_alikeFrom : GoodIn wsX9_once wsX9_alikeFrom := goodIn_r _ [14, 1, 15, 16, 17, 5, 18, 19, 20, 21, 22, 23, 24, 25, 26, 27, 28, 29, 30, 31, 32, 33, 34, 35, 36, 37, 38, 39, 40, 41, 42, 43, 44, 45] (by decide +kernel) (by decide +kernel)
set_option maxRecDepth 20000 in
theorem gX9_once_X9_alikeFrom : GoodIn wsX9_once (wsV RX9 172 RX9 yX9_alikeFrom wsX9_alikeFrom) := goodIn_app (goodIn_of _ (by decide +kernel)) ggX9_once_X9_alikeFrom
theorem dX9_once_0 : decode cX9_once 0 = .ok (.aload_n 0, 1) := by decide +kernel
theorem dX9_once_1 : decode cX9_once 1 = .ok (.iload_n 1, 1) := by decide +kernel
theorem dX9_once_2 : decode cX9_once 2 = .ok (.invokevirtual 105, 3) := by decide +kernel
theorem dX9_once_5 : decode cX9_once 5 = .ok (.ifCond .eq 11, 3) := by decide +kernel
theorem dX9_once_8 : decode cX9_once 8 = .ok (.aload_n 0, 1) := by decide +kernel
theorem dX9_once_9 : decode cX9_once 9 = .ok (.iload_n 2, 1) := by decide +kernel
theorem dX9_once_10 : decode cX9_once 10 = .ok (.invokevirtual 105, 3) := by decide +kernel
theorem dX9_once_13 : decode cX9_once 13 = .ok (.ifCond .ne 5, 3) := by decide +kernel
theorem dX9_once_16 : decode cX9_once 16 = .ok (.iconst (-1), 1) := by decide +kernel
theorem dX9_once_17 : decode cX9_once 17 = .ok (.ireturn, 1) := by decide +kernel
theorem dX9_once_18 : decode cX9_once 18 = .ok (.iload_n 3, 1) := by decide +kernel
theorem dX9_once_19 : decode cX9_once 19 = .ok (.iconst 0, 1) := by decide +kernel
theorem dX9_once_20 : decode cX9_once 20 = .ok (.iconst 1, 1) := by decide +kernel
theorem dX9_once_21 : decode cX9_once 21 = .ok (.invokestatic 71, 3) := by decide +kernel
theorem dX9_once_24 : decode cX9_once 24 = .ok (.ifCond .ne 6, 3) := by decide +kernel
theorem dX9_once_27 : decode cX9_once 27 = .ok (.bipush (-2), 2) := by decide +kernel
theorem dX9_once_29 : decode cX9_once 29 = .ok (.ireturn, 1) := by decide +kernel
theorem dX9_once_30 : decode cX9_once 30 = .ok (.iconst 0, 1) := by decide +kernel
theorem dX9_once_31 : decode cX9_once 31 = .ok (.istore 4, 2) := by decide +kernel
theorem dX9_once_33 : decode cX9_once 33 = .ok (.bipush (-9), 2) := by decide +kernel
theorem dX9_once_35 : decode cX9_once 35 = .ok (.istore 5, 2) := by decide +kernel
theorem dX9_once_37 : decode cX9_once 37 = .ok (.iconst 0, 1) := by decide +kernel
theorem dX9_once_38 : decode cX9_once 38 = .ok (.istore 6, 2) := by decide +kernel
theorem dX9_once_40 : decode cX9_once 40 = .ok (.iload 6, 2) := by decide +kernel
theorem dX9_once_42 : decode cX9_once 42 = .ok (.aload_n 0, 1) := by decide +kernel
theorem dX9_once_43 : decode cX9_once 43 = .ok (.getfield 22, 3) := by decide +kernel
theorem dX9_once_46 : decode cX9_once 46 = .ok (.iload_n 1, 1) := by decide +kernel
theorem dX9_once_47 : decode cX9_once 47 = .ok (.iaload, 1) := by decide +kernel
theorem dX9_once_48 : decode cX9_once 48 = .ok (.if_icmp .ge 56, 3) := by decide +kernel
theorem dX9_once_51 : decode cX9_once 51 = .ok (.iconst 0, 1) := by decide +kernel
theorem dX9_once_52 : decode cX9_once 52 = .ok (.istore 7, 2) := by decide +kernel
theorem dX9_once_54 : decode cX9_once 54 = .ok (.iload 7, 2) := by decide +kernel
theorem dX9_once_56 : decode cX9_once 56 = .ok (.aload_n 0, 1) := by decide +kernel
theorem dX9_once_57 : decode cX9_once 57 = .ok (.getfield 22, 3) := by decide +kernel
theorem dX9_once_60 : decode cX9_once 60 = .ok (.iload_n 2, 1) := by decide +kernel
theorem dX9_once_61 : decode cX9_once 61 = .ok (.iaload, 1) := by decide +kernel
theorem dX9_once_62 : decode cX9_once 62 = .ok (.if_icmp .ge 36, 3) := by decide +kernel
theorem dX9_once_65 : decode cX9_once 65 = .ok (.aload_n 0, 1) := by decide +kernel
theorem dX9_once_66 : decode cX9_once 66 = .ok (.iload_n 1, 1) := by decide +kernel
theorem dX9_once_67 : decode cX9_once 67 = .ok (.iload 6, 2) := by decide +kernel
theorem dX9_once_69 : decode cX9_once 69 = .ok (.iload_n 2, 1) := by decide +kernel
theorem dX9_once_70 : decode cX9_once 70 = .ok (.iload 7, 2) := by decide +kernel
theorem dX9_once_72 : decode cX9_once 72 = .ok (.invokevirtual 172, 3) := by decide +kernel
theorem dX9_once_75 : decode cX9_once 75 = .ok (.istore 8, 2) := by decide +kernel
theorem dX9_once_77 : decode cX9_once 77 = .ok (.iload 8, 2) := by decide +kernel
theorem dX9_once_79 : decode cX9_once 79 = .ok (.iload 4, 2) := by decide +kernel
theorem dX9_once_81 : decode cX9_once 81 = .ok (.if_icmp .le 11, 3) := by decide +kernel
theorem dX9_once_84 : decode cX9_once 84 = .ok (.iload 8, 2) := by decide +kernel
theorem dX9_once_86 : decode cX9_once 86 = .ok (.istore 4, 2) := by decide +kernel
theorem dX9_once_88 : decode cX9_once 88 = .ok (.iload 6, 2) := by decide +kernel
theorem dX9_once_90 : decode cX9_once 90 = .ok (.istore 5, 2) := by decide +kernel
theorem dX9_once_92 : decode cX9_once 92 = .ok (.iinc 7 1, 3) := by decide +kernel
theorem dX9_once_95 : decode cX9_once 95 = .ok (.goto (-41), 3) := by decide +kernel
theorem dX9_once_98 : decode cX9_once 98 = .ok (.iinc 6 1, 3) := by decide +kernel
theorem dX9_once_101 : decode cX9_once 101 = .ok (.goto (-61), 3) := by decide +kernel
theorem dX9_once_104 : decode cX9_once 104 = .ok (.iload_n 3, 1) := by decide +kernel
theorem dX9_once_105 : decode cX9_once 105 = .ok (.ifCond .ne 8, 3) := by decide +kernel
theorem dX9_once_108 : decode cX9_once 108 = .ok (.iload 4, 2) := by decide +kernel
theorem dX9_once_110 : decode cX9_once 110 = .ok (.goto 5, 3) := by decide +kernel
theorem dX9_once_113 : decode cX9_once 113 = .ok (.iload 5, 2) := by decide +kernel
theorem dX9_once_115 : decode cX9_once 115 = .ok (.ireturn, 1) := by decide +kernel
set_option maxRecDepth 20000 in
theorem ggX9_isIn_X9_wordAt : GoodIn wsX9_isIn wsX9_wordAt := goodIn_r _ [5, 6, 7, 8, 9, 10, 11, 12, 13, 14, 15, 16, 17, 18, 19, 20, 21, 22, 23, 24, 25, 26, 27, 28, 29, 30, 31, 32] (by decide +kernel) (by decide +kernel)
set_option maxRecDepth 20000 in
theorem gX9_isIn_X9_wordAt : GoodIn wsX9_isIn (wsV RX9 108 RX9 yX9_wordAt wsX9_wordAt) := goodIn_app (goodIn_of _ (by decide +kernel)) ggX9_isIn_X9_wordAt
theorem dX9_isIn_0 : decode cX9_isIn 0 = .ok (.iconst 0, 1) := by decide +kernel
theorem dX9_isIn_1 : decode cX9_isIn 1 = .ok (.istore 4, 2) := by decide +kernel
theorem dX9_isIn_3 : decode cX9_isIn 3 = .ok (.iload 4, 2) := by decide +kernel
theorem dX9_isIn_5 : decode cX9_isIn 5 = .ok (.iload_n 3, 1) := by decide +kernel
theorem dX9_isIn_6 : decode cX9_isIn 6 = .ok (.if_icmp .ge 22, 3) := by decide +kernel
theorem dX9_isIn_9 : decode cX9_isIn 9 = .ok (.aload_n 0, 1) := by decide +kernel
theorem dX9_isIn_10 : decode cX9_isIn 10 = .ok (.iload_n 1, 1) := by decide +kernel
theorem dX9_isIn_11 : decode cX9_isIn 11 = .ok (.iload 4, 2) := by decide +kernel
theorem dX9_isIn_13 : decode cX9_isIn 13 = .ok (.invokevirtual 108, 3) := by decide +kernel
theorem dX9_isIn_16 : decode cX9_isIn 16 = .ok (.iload_n 2, 1) := by decide +kernel
theorem dX9_isIn_17 : decode cX9_isIn 17 = .ok (.if_icmp .ne 5, 3) := by decide +kernel
theorem dX9_isIn_20 : decode cX9_isIn 20 = .ok (.iconst 1, 1) := by decide +kernel
theorem dX9_isIn_21 : decode cX9_isIn 21 = .ok (.ireturn, 1) := by decide +kernel
theorem dX9_isIn_22 : decode cX9_isIn 22 = .ok (.iinc 4 1, 3) := by decide +kernel
theorem dX9_isIn_25 : decode cX9_isIn 25 = .ok (.goto (-22), 3) := by decide +kernel
theorem dX9_isIn_28 : decode cX9_isIn 28 = .ok (.iconst 0, 1) := by decide +kernel
theorem dX9_isIn_29 : decode cX9_isIn 29 = .ok (.ireturn, 1) := by decide +kernel
set_option maxRecDepth 20000 in
theorem ggX9_twice_X9_isDay : GoodIn wsX9_twice wsX9_isDay := goodIn_r _ [6, 7, 17, 18, 19, 20, 21, 22, 23, 24, 25, 26, 27, 28, 29, 30, 31, 32, 33, 34, 35, 36, 37, 38, 39, 40, 41, 42] (by decide +kernel) (by decide +kernel)
set_option maxRecDepth 20000 in
theorem gX9_twice_X9_isDay : GoodIn wsX9_twice (wsV RX9 105 RX9 yX9_isDay wsX9_isDay) := goodIn_app (goodIn_of _ (by decide +kernel)) ggX9_twice_X9_isDay
set_option maxRecDepth 20000 in
theorem ggX9_twice_X9_wordAt : GoodIn wsX9_twice wsX9_wordAt := goodIn_r _ [11, 12, 17, 18, 19, 20, 21, 22, 23, 24, 25, 26, 27, 28, 29, 30, 31, 32, 33, 34, 35, 36, 37, 38, 39, 40, 41, 42] (by decide +kernel) (by decide +kernel)
set_option maxRecDepth 20000 in
theorem gX9_twice_X9_wordAt : GoodIn wsX9_twice (wsV RX9 108 RX9 yX9_wordAt wsX9_wordAt) := goodIn_app (goodIn_of _ (by decide +kernel)) ggX9_twice_X9_wordAt
set_option maxRecDepth 20000 in
theorem ggX9_twice_X9_isIn : GoodIn wsX9_twice wsX9_isIn := goodIn_r _ [16, 8, 9, 10, 5, 11, 12, 17, 18, 19, 20, 21, 22, 23, 24, 25, 26, 27, 28, 29, 30, 31, 32, 33, 34, 35, 36, 37, 38, 39, 40, 41, 42] (by decide +kernel) (by decide +kernel)
set_option maxRecDepth 20000 in
theorem gX9_twice_X9_isIn : GoodIn wsX9_twice (wsV RX9 175 RX9 yX9_isIn wsX9_isIn) := goodIn_app (goodIn_of _ (by decide +kernel)) ggX9_twice_X9_isIn
theorem dX9_twice_0 : decode cX9_twice 0 = .ok (.aload_n 0, 1) := by decide +kernel
theorem dX9_twice_1 : decode cX9_twice 1 = .ok (.iload_n 1, 1) := by decide +kernel
theorem dX9_twice_2 : decode cX9_twice 2 = .ok (.invokevirtual 105, 3) := by decide +kernel
theorem dX9_twice_5 : decode cX9_twice 5 = .ok (.ifCond .ne 5, 3) := by decide +kernel
theorem dX9_twice_8 : decode cX9_twice 8 = .ok (.iconst (-1), 1) := by decide +kernel
theorem dX9_twice_9 : decode cX9_twice 9 = .ok (.ireturn, 1) := by decide +kernel
theorem dX9_twice_10 : decode cX9_twice 10 = .ok (.iconst 0, 1) := by decide +kernel
theorem dX9_twice_11 : decode cX9_twice 11 = .ok (.istore_n 2, 1) := by decide +kernel
theorem dX9_twice_12 : decode cX9_twice 12 = .ok (.iconst 0, 1) := by decide +kernel
theorem dX9_twice_13 : decode cX9_twice 13 = .ok (.istore_n 3, 1) := by decide +kernel
theorem dX9_twice_14 : decode cX9_twice 14 = .ok (.iload_n 3, 1) := by decide +kernel
theorem dX9_twice_15 : decode cX9_twice 15 = .ok (.aload_n 0, 1) := by decide +kernel
theorem dX9_twice_16 : decode cX9_twice 16 = .ok (.getfield 22, 3) := by decide +kernel
theorem dX9_twice_19 : decode cX9_twice 19 = .ok (.iload_n 1, 1) := by decide +kernel
theorem dX9_twice_20 : decode cX9_twice 20 = .ok (.iaload, 1) := by decide +kernel
theorem dX9_twice_21 : decode cX9_twice 21 = .ok (.if_icmp .ge 32, 3) := by decide +kernel
theorem dX9_twice_24 : decode cX9_twice 24 = .ok (.iload_n 2, 1) := by decide +kernel
theorem dX9_twice_25 : decode cX9_twice 25 = .ok (.aload_n 0, 1) := by decide +kernel
theorem dX9_twice_26 : decode cX9_twice 26 = .ok (.iload_n 1, 1) := by decide +kernel
theorem dX9_twice_27 : decode cX9_twice 27 = .ok (.aload_n 0, 1) := by decide +kernel
theorem dX9_twice_28 : decode cX9_twice 28 = .ok (.iload_n 1, 1) := by decide +kernel
theorem dX9_twice_29 : decode cX9_twice 29 = .ok (.iload_n 3, 1) := by decide +kernel
theorem dX9_twice_30 : decode cX9_twice 30 = .ok (.invokevirtual 108, 3) := by decide +kernel
theorem dX9_twice_33 : decode cX9_twice 33 = .ok (.iload_n 3, 1) := by decide +kernel
theorem dX9_twice_34 : decode cX9_twice 34 = .ok (.invokevirtual 175, 3) := by decide +kernel
theorem dX9_twice_37 : decode cX9_twice 37 = .ok (.ifCond .eq 7, 3) := by decide +kernel
theorem dX9_twice_40 : decode cX9_twice 40 = .ok (.iconst 1, 1) := by decide +kernel
theorem dX9_twice_41 : decode cX9_twice 41 = .ok (.goto 4, 3) := by decide +kernel
theorem dX9_twice_44 : decode cX9_twice 44 = .ok (.iconst 0, 1) := by decide +kernel
theorem dX9_twice_45 : decode cX9_twice 45 = .ok (.iadd, 1) := by decide +kernel
theorem dX9_twice_46 : decode cX9_twice 46 = .ok (.istore_n 2, 1) := by decide +kernel
theorem dX9_twice_47 : decode cX9_twice 47 = .ok (.iinc 3 1, 3) := by decide +kernel
theorem dX9_twice_50 : decode cX9_twice 50 = .ok (.goto (-36), 3) := by decide +kernel
theorem dX9_twice_53 : decode cX9_twice 53 = .ok (.iload_n 2, 1) := by decide +kernel
theorem dX9_twice_54 : decode cX9_twice 54 = .ok (.ireturn, 1) := by decide +kernel
set_option maxRecDepth 20000 in
theorem ggX9_sheet_X9_isSheet : GoodIn wsX9_sheet wsX9_isSheet := goodIn_r _ [8, 9, 10, 7, 11] (by decide +kernel) (by decide +kernel)
set_option maxRecDepth 20000 in
theorem gX9_sheet_X9_isSheet : GoodIn wsX9_sheet (va_wsS RX9 78 yX9_isSheet wsX9_isSheet) := goodIn_app (goodIn_of _ (by decide +kernel)) ggX9_sheet_X9_isSheet
set_option maxRecDepth 20000 in
theorem ggX9_sheet_X9_isSort : GoodIn wsX9_sheet wsX9_isSort := goodIn_r _ [14, 9, 10, 7, 11] (by decide +kernel) (by decide +kernel)
set_option maxRecDepth 20000 in
theorem gX9_sheet_X9_isSort : GoodIn wsX9_sheet (va_wsS RX9 82 yX9_isSort wsX9_isSort) := goodIn_app (goodIn_of _ (by decide +kernel)) ggX9_sheet_X9_isSort
set_option maxRecDepth 20000 in
theorem ggX9_sheet_X9_fails : GoodIn wsX9_sheet wsX9_fails := goodIn_r _ [18, 1, 19, 20, 21, 22, 23, 24, 25, 26, 27, 28, 29, 30, 31, 32, 33, 34, 35, 36, 37, 38, 39, 40, 41, 42, 43, 44] (by decide +kernel) (by decide +kernel)
set_option maxRecDepth 20000 in
theorem gX9_sheet_X9_fails : GoodIn wsX9_sheet (wsV RX9 89 RX9 yX9_fails wsX9_fails) := goodIn_app (goodIn_of _ (by decide +kernel)) ggX9_sheet_X9_fails
theorem dX9_sheet_0 : decode cX9_sheet 0 = .ok (.aload_n 0, 1) := by decide +kernel
theorem dX9_sheet_1 : decode cX9_sheet 1 = .ok (.iconst 0, 1) := by decide +kernel
theorem dX9_sheet_2 : decode cX9_sheet 2 = .ok (.putfield 65, 3) := by decide +kernel
theorem dX9_sheet_5 : decode cX9_sheet 5 = .ok (.iload_n 1, 1) := by decide +kernel
theorem dX9_sheet_6 : decode cX9_sheet 6 = .ok (.invokestatic 78, 3) := by decide +kernel
theorem dX9_sheet_9 : decode cX9_sheet 9 = .ok (.ifCond .ne 5, 3) := by decide +kernel
theorem dX9_sheet_12 : decode cX9_sheet 12 = .ok (.iconst (-1), 1) := by decide +kernel
theorem dX9_sheet_13 : decode cX9_sheet 13 = .ok (.ireturn, 1) := by decide +kernel
theorem dX9_sheet_14 : decode cX9_sheet 14 = .ok (.iload_n 2, 1) := by decide +kernel
theorem dX9_sheet_15 : decode cX9_sheet 15 = .ok (.invokestatic 82, 3) := by decide +kernel
theorem dX9_sheet_18 : decode cX9_sheet 18 = .ok (.ifCond .eq 9, 3) := by decide +kernel
theorem dX9_sheet_21 : decode cX9_sheet 21 = .ok (.iload_n 3, 1) := by decide +kernel
theorem dX9_sheet_22 : decode cX9_sheet 22 = .ok (.bipush 80, 2) := by decide +kernel
theorem dX9_sheet_24 : decode cX9_sheet 24 = .ok (.if_icmp .le 6, 3) := by decide +kernel
theorem dX9_sheet_27 : decode cX9_sheet 27 = .ok (.bipush (-2), 2) := by decide +kernel
theorem dX9_sheet_29 : decode cX9_sheet 29 = .ok (.ireturn, 1) := by decide +kernel
theorem dX9_sheet_30 : decode cX9_sheet 30 = .ok (.iload_n 3, 1) := by decide +kernel
theorem dX9_sheet_31 : decode cX9_sheet 31 = .ok (.ifCond .ge 9, 3) := by decide +kernel
theorem dX9_sheet_34 : decode cX9_sheet 34 = .ok (.aload_n 0, 1) := by decide +kernel
theorem dX9_sheet_35 : decode cX9_sheet 35 = .ok (.iconst 4, 1) := by decide +kernel
theorem dX9_sheet_36 : decode cX9_sheet 36 = .ok (.invokevirtual 89, 3) := by decide +kernel
theorem dX9_sheet_39 : decode cX9_sheet 39 = .ok (.ireturn, 1) := by decide +kernel
theorem dX9_sheet_40 : decode cX9_sheet 40 = .ok (.aload_n 0, 1) := by decide +kernel
theorem dX9_sheet_41 : decode cX9_sheet 41 = .ok (.getfield 9, 3) := by decide +kernel
theorem dX9_sheet_44 : decode cX9_sheet 44 = .ok (.iload_n 1, 1) := by decide +kernel
theorem dX9_sheet_45 : decode cX9_sheet 45 = .ok (.iload_n 2, 1) := by decide +kernel
theorem dX9_sheet_46 : decode cX9_sheet 46 = .ok (.iastore, 1) := by decide +kernel
theorem dX9_sheet_47 : decode cX9_sheet 47 = .ok (.aload_n 0, 1) := by decide +kernel
theorem dX9_sheet_48 : decode cX9_sheet 48 = .ok (.getfield 13, 3) := by decide +kernel
theorem dX9_sheet_51 : decode cX9_sheet 51 = .ok (.iload_n 1, 1) := by decide +kernel
theorem dX9_sheet_52 : decode cX9_sheet 52 = .ok (.iload_n 3, 1) := by decide +kernel
theorem dX9_sheet_53 : decode cX9_sheet 53 = .ok (.iastore, 1) := by decide +kernel
theorem dX9_sheet_54 : decode cX9_sheet 54 = .ok (.iconst 0, 1) := by decide +kernel
theorem dX9_sheet_55 : decode cX9_sheet 55 = .ok (.istore 4, 2) := by decide +kernel
theorem dX9_sheet_57 : decode cX9_sheet 57 = .ok (.iload 4, 2) := by decide +kernel
theorem dX9_sheet_59 : decode cX9_sheet 59 = .ok (.bipush 80, 2) := by decide +kernel
theorem dX9_sheet_61 : decode cX9_sheet 61 = .ok (.if_icmp .ge 22, 3) := by decide +kernel
theorem dX9_sheet_64 : decode cX9_sheet 64 = .ok (.aload_n 0, 1) := by decide +kernel
theorem dX9_sheet_65 : decode cX9_sheet 65 = .ok (.getfield 16, 3) := by decide +kernel
theorem dX9_sheet_68 : decode cX9_sheet 68 = .ok (.bipush 80, 2) := by decide +kernel
theorem dX9_sheet_70 : decode cX9_sheet 70 = .ok (.iload_n 1, 1) := by decide +kernel
theorem dX9_sheet_71 : decode cX9_sheet 71 = .ok (.imul, 1) := by decide +kernel
theorem dX9_sheet_72 : decode cX9_sheet 72 = .ok (.iload 4, 2) := by decide +kernel
theorem dX9_sheet_74 : decode cX9_sheet 74 = .ok (.iadd, 1) := by decide +kernel
theorem dX9_sheet_75 : decode cX9_sheet 75 = .ok (.iconst 0, 1) := by decide +kernel
theorem dX9_sheet_76 : decode cX9_sheet 76 = .ok (.iastore, 1) := by decide +kernel
theorem dX9_sheet_77 : decode cX9_sheet 77 = .ok (.iinc 4 1, 3) := by decide +kernel
theorem dX9_sheet_80 : decode cX9_sheet 80 = .ok (.goto (-23), 3) := by decide +kernel
theorem dX9_sheet_83 : decode cX9_sheet 83 = .ok (.iconst 1, 1) := by decide +kernel
theorem dX9_sheet_84 : decode cX9_sheet 84 = .ok (.ireturn, 1) := by decide +kernel
set_option maxRecDepth 20000 in
theorem ggX9_lose_X9_isSheet : GoodIn wsX9_lose wsX9_isSheet := goodIn_r _ [5, 6, 7, 4, 8] (by decide +kernel) (by decide +kernel)
set_option maxRecDepth 20000 in
theorem gX9_lose_X9_isSheet : GoodIn wsX9_lose (va_wsS RX9 78 yX9_isSheet wsX9_isSheet) := goodIn_app (goodIn_of _ (by decide +kernel)) ggX9_lose_X9_isSheet
theorem dX9_lose_0 : decode cX9_lose 0 = .ok (.iload_n 1, 1) := by decide +kernel
theorem dX9_lose_1 : decode cX9_lose 1 = .ok (.invokestatic 78, 3) := by decide +kernel
theorem dX9_lose_4 : decode cX9_lose 4 = .ok (.ifCond .ne 5, 3) := by decide +kernel
theorem dX9_lose_7 : decode cX9_lose 7 = .ok (.iconst (-1), 1) := by decide +kernel
theorem dX9_lose_8 : decode cX9_lose 8 = .ok (.ireturn, 1) := by decide +kernel
theorem dX9_lose_9 : decode cX9_lose 9 = .ok (.aload_n 0, 1) := by decide +kernel
theorem dX9_lose_10 : decode cX9_lose 10 = .ok (.getfield 9, 3) := by decide +kernel
theorem dX9_lose_13 : decode cX9_lose 13 = .ok (.iload_n 1, 1) := by decide +kernel
theorem dX9_lose_14 : decode cX9_lose 14 = .ok (.iaload, 1) := by decide +kernel
theorem dX9_lose_15 : decode cX9_lose 15 = .ok (.bipush (-9), 2) := by decide +kernel
theorem dX9_lose_17 : decode cX9_lose 17 = .ok (.if_icmp .ne 7, 3) := by decide +kernel
theorem dX9_lose_20 : decode cX9_lose 20 = .ok (.iconst 0, 1) := by decide +kernel
theorem dX9_lose_21 : decode cX9_lose 21 = .ok (.goto 4, 3) := by decide +kernel
theorem dX9_lose_24 : decode cX9_lose 24 = .ok (.iconst 1, 1) := by decide +kernel
theorem dX9_lose_25 : decode cX9_lose 25 = .ok (.istore_n 2, 1) := by decide +kernel
theorem dX9_lose_26 : decode cX9_lose 26 = .ok (.aload_n 0, 1) := by decide +kernel
theorem dX9_lose_27 : decode cX9_lose 27 = .ok (.getfield 9, 3) := by decide +kernel
theorem dX9_lose_30 : decode cX9_lose 30 = .ok (.iload_n 1, 1) := by decide +kernel
theorem dX9_lose_31 : decode cX9_lose 31 = .ok (.bipush (-9), 2) := by decide +kernel
theorem dX9_lose_33 : decode cX9_lose 33 = .ok (.iastore, 1) := by decide +kernel
theorem dX9_lose_34 : decode cX9_lose 34 = .ok (.iload_n 2, 1) := by decide +kernel
theorem dX9_lose_35 : decode cX9_lose 35 = .ok (.ireturn, 1) := by decide +kernel
set_option maxRecDepth 20000 in
theorem ggX9_put_X9_isSheet : GoodIn wsX9_put wsX9_isSheet := goodIn_r _ [8, 9, 10, 7, 11] (by decide +kernel) (by decide +kernel)
set_option maxRecDepth 20000 in
theorem gX9_put_X9_isSheet : GoodIn wsX9_put (va_wsS RX9 78 yX9_isSheet wsX9_isSheet) := goodIn_app (goodIn_of _ (by decide +kernel)) ggX9_put_X9_isSheet
set_option maxRecDepth 20000 in
theorem ggX9_put_X9_fails : GoodIn wsX9_put wsX9_fails := goodIn_r _ [15, 1, 16, 17, 18, 19, 20, 21, 22, 23, 24, 25, 26, 27, 28, 29, 30, 31, 32, 33, 34, 35, 36, 37, 38, 39, 40, 41] (by decide +kernel) (by decide +kernel)
set_option maxRecDepth 20000 in
theorem gX9_put_X9_fails : GoodIn wsX9_put (wsV RX9 89 RX9 yX9_fails wsX9_fails) := goodIn_app (goodIn_of _ (by decide +kernel)) ggX9_put_X9_fails
set_option maxRecDepth 20000 in
theorem ggX9_put_X9_inside : GoodIn wsX9_put wsX9_inside := goodIn_r _ [11] (by decide +kernel) (by decide +kernel)
set_option maxRecDepth 20000 in
theorem gX9_put_X9_inside : GoodIn wsX9_put (va_wsS RX9 71 yX9_inside wsX9_inside) := goodIn_app (goodIn_of _ (by decide +kernel)) ggX9_put_X9_inside
theorem dX9_put_0 : decode cX9_put 0 = .ok (.aload_n 0, 1) := by decide +kernel
theorem dX9_put_1 : decode cX9_put 1 = .ok (.iconst 0, 1) := by decide +kernel
theorem dX9_put_2 : decode cX9_put 2 = .ok (.putfield 65, 3) := by decide +kernel
theorem dX9_put_5 : decode cX9_put 5 = .ok (.iload_n 1, 1) := by decide +kernel
theorem dX9_put_6 : decode cX9_put 6 = .ok (.invokestatic 78, 3) := by decide +kernel
theorem dX9_put_9 : decode cX9_put 9 = .ok (.ifCond .ne 5, 3) := by decide +kernel
theorem dX9_put_12 : decode cX9_put 12 = .ok (.iconst (-1), 1) := by decide +kernel
theorem dX9_put_13 : decode cX9_put 13 = .ok (.ireturn, 1) := by decide +kernel
theorem dX9_put_14 : decode cX9_put 14 = .ok (.aload_n 0, 1) := by decide +kernel
theorem dX9_put_15 : decode cX9_put 15 = .ok (.getfield 9, 3) := by decide +kernel
theorem dX9_put_18 : decode cX9_put 18 = .ok (.iload_n 1, 1) := by decide +kernel
theorem dX9_put_19 : decode cX9_put 19 = .ok (.iaload, 1) := by decide +kernel
theorem dX9_put_20 : decode cX9_put 20 = .ok (.bipush (-9), 2) := by decide +kernel
theorem dX9_put_22 : decode cX9_put 22 = .ok (.if_icmp .ne 9, 3) := by decide +kernel
theorem dX9_put_25 : decode cX9_put 25 = .ok (.aload_n 0, 1) := by decide +kernel
theorem dX9_put_26 : decode cX9_put 26 = .ok (.iconst 1, 1) := by decide +kernel
theorem dX9_put_27 : decode cX9_put 27 = .ok (.invokevirtual 89, 3) := by decide +kernel
theorem dX9_put_30 : decode cX9_put 30 = .ok (.ireturn, 1) := by decide +kernel
theorem dX9_put_31 : decode cX9_put 31 = .ok (.iload_n 2, 1) := by decide +kernel
theorem dX9_put_32 : decode cX9_put 32 = .ok (.iconst 0, 1) := by decide +kernel
theorem dX9_put_33 : decode cX9_put 33 = .ok (.aload_n 0, 1) := by decide +kernel
theorem dX9_put_34 : decode cX9_put 34 = .ok (.getfield 13, 3) := by decide +kernel
theorem dX9_put_37 : decode cX9_put 37 = .ok (.iload_n 1, 1) := by decide +kernel
theorem dX9_put_38 : decode cX9_put 38 = .ok (.iaload, 1) := by decide +kernel
theorem dX9_put_39 : decode cX9_put 39 = .ok (.iconst 1, 1) := by decide +kernel
theorem dX9_put_40 : decode cX9_put 40 = .ok (.isub, 1) := by decide +kernel
theorem dX9_put_41 : decode cX9_put 41 = .ok (.invokestatic 71, 3) := by decide +kernel
theorem dX9_put_44 : decode cX9_put 44 = .ok (.ifCond .ne 9, 3) := by decide +kernel
theorem dX9_put_47 : decode cX9_put 47 = .ok (.aload_n 0, 1) := by decide +kernel
theorem dX9_put_48 : decode cX9_put 48 = .ok (.iconst 3, 1) := by decide +kernel
theorem dX9_put_49 : decode cX9_put 49 = .ok (.invokevirtual 89, 3) := by decide +kernel
theorem dX9_put_52 : decode cX9_put 52 = .ok (.ireturn, 1) := by decide +kernel
theorem dX9_put_53 : decode cX9_put 53 = .ok (.aload_n 0, 1) := by decide +kernel
theorem dX9_put_54 : decode cX9_put 54 = .ok (.getfield 16, 3) := by decide +kernel
theorem dX9_put_57 : decode cX9_put 57 = .ok (.bipush 80, 2) := by decide +kernel
theorem dX9_put_59 : decode cX9_put 59 = .ok (.iload_n 1, 1) := by decide +kernel
theorem dX9_put_60 : decode cX9_put 60 = .ok (.imul, 1) := by decide +kernel
theorem dX9_put_61 : decode cX9_put 61 = .ok (.iload_n 2, 1) := by decide +kernel
theorem dX9_put_62 : decode cX9_put 62 = .ok (.iadd, 1) := by decide +kernel
theorem dX9_put_63 : decode cX9_put 63 = .ok (.aload_n 0, 1) := by decide +kernel
theorem dX9_put_64 : decode cX9_put 64 = .ok (.getfield 9, 3) := by decide +kernel
theorem dX9_put_67 : decode cX9_put 67 = .ok (.iload_n 1, 1) := by decide +kernel
theorem dX9_put_68 : decode cX9_put 68 = .ok (.iaload, 1) := by decide +kernel
theorem dX9_put_69 : decode cX9_put 69 = .ok (.ifCond .ne 8, 3) := by decide +kernel
theorem dX9_put_72 : decode cX9_put 72 = .ok (.iload_n 3, 1) := by decide +kernel
theorem dX9_put_73 : decode cX9_put 73 = .ok (.i2b, 1) := by decide +kernel
theorem dX9_put_74 : decode cX9_put 74 = .ok (.goto 19, 3) := by decide +kernel
theorem dX9_put_77 : decode cX9_put 77 = .ok (.aload_n 0, 1) := by decide +kernel
theorem dX9_put_78 : decode cX9_put 78 = .ok (.getfield 9, 3) := by decide +kernel
theorem dX9_put_81 : decode cX9_put 81 = .ok (.iload_n 1, 1) := by decide +kernel
theorem dX9_put_82 : decode cX9_put 82 = .ok (.iaload, 1) := by decide +kernel
theorem dX9_put_83 : decode cX9_put 83 = .ok (.iconst 1, 1) := by decide +kernel
theorem dX9_put_84 : decode cX9_put 84 = .ok (.if_icmp .ne 8, 3) := by decide +kernel
theorem dX9_put_87 : decode cX9_put 87 = .ok (.iload_n 3, 1) := by decide +kernel
theorem dX9_put_88 : decode cX9_put 88 = .ok (.i2s, 1) := by decide +kernel
theorem dX9_put_89 : decode cX9_put 89 = .ok (.goto 4, 3) := by decide +kernel
theorem dX9_put_92 : decode cX9_put 92 = .ok (.iload_n 3, 1) := by decide +kernel
theorem dX9_put_93 : decode cX9_put 93 = .ok (.iastore, 1) := by decide +kernel
theorem dX9_put_94 : decode cX9_put 94 = .ok (.iconst 1, 1) := by decide +kernel
theorem dX9_put_95 : decode cX9_put 95 = .ok (.ireturn, 1) := by decide +kernel
set_option maxRecDepth 20000 in
theorem ggX9_cell_X9_isSheet : GoodIn wsX9_cell wsX9_isSheet := goodIn_r _ [9, 10, 11, 8, 12] (by decide +kernel) (by decide +kernel)
set_option maxRecDepth 20000 in
theorem gX9_cell_X9_isSheet : GoodIn wsX9_cell (va_wsS RX9 78 yX9_isSheet wsX9_isSheet) := goodIn_app (goodIn_of _ (by decide +kernel)) ggX9_cell_X9_isSheet
set_option maxRecDepth 20000 in
theorem ggX9_cell_X9_isSort : GoodIn wsX9_cell wsX9_isSort := goodIn_r _ [15, 10, 11, 8, 12] (by decide +kernel) (by decide +kernel)
set_option maxRecDepth 20000 in
theorem gX9_cell_X9_isSort : GoodIn wsX9_cell (va_wsS RX9 82 yX9_isSort wsX9_isSort) := goodIn_app (goodIn_of _ (by decide +kernel)) ggX9_cell_X9_isSort
set_option maxRecDepth 20000 in
theorem ggX9_cell_X9_lost : GoodIn wsX9_cell wsX9_lost := goodIn_r _ [19, 1, 2, 20, 21, 22, 23, 24, 25, 26, 27, 28, 29, 30, 31, 32, 33, 34, 35, 36, 37, 38, 39, 40, 41, 42, 43, 44, 45] (by decide +kernel) (by decide +kernel)
set_option maxRecDepth 20000 in
theorem gX9_cell_X9_lost : GoodIn wsX9_cell (wsV RX9 178 RX9 yX9_lost wsX9_lost) := goodIn_app (goodIn_of _ (by decide +kernel)) ggX9_cell_X9_lost
set_option maxRecDepth 20000 in
theorem ggX9_cell_X9_inside : GoodIn wsX9_cell wsX9_inside := goodIn_r _ [12] (by decide +kernel) (by decide +kernel)
set_option maxRecDepth 20000 in
theorem gX9_cell_X9_inside : GoodIn wsX9_cell (va_wsS RX9 71 yX9_inside wsX9_inside) := goodIn_app (goodIn_of _ (by decide +kernel)) ggX9_cell_X9_inside
theorem dX9_cell_0 : decode cX9_cell 0 = .ok (.aload_n 0, 1) := by decide +kernel
theorem dX9_cell_1 : decode cX9_cell 1 = .ok (.iconst 0, 1) := by decide +kernel
theorem dX9_cell_2 : decode cX9_cell 2 = .ok (.putfield 65, 3) := by decide +kernel
theorem dX9_cell_5 : decode cX9_cell 5 = .ok (.iload_n 1, 1) := by decide +kernel
theorem dX9_cell_6 : decode cX9_cell 6 = .ok (.invokestatic 78, 3) := by decide +kernel
theorem dX9_cell_9 : decode cX9_cell 9 = .ok (.ifCond .eq 10, 3) := by decide +kernel
theorem dX9_cell_12 : decode cX9_cell 12 = .ok (.iload_n 3, 1) := by decide +kernel
theorem dX9_cell_13 : decode cX9_cell 13 = .ok (.invokestatic 82, 3) := by decide +kernel
theorem dX9_cell_16 : decode cX9_cell 16 = .ok (.ifCond .ne 7, 3) := by decide +kernel
theorem dX9_cell_19 : decode cX9_cell 19 = .ok (.ldc2_w 69, 3) := by decide +kernel
theorem dX9_cell_22 : decode cX9_cell 22 = .ok (.lreturn, 1) := by decide +kernel
theorem dX9_cell_23 : decode cX9_cell 23 = .ok (.aload_n 0, 1) := by decide +kernel
theorem dX9_cell_24 : decode cX9_cell 24 = .ok (.getfield 9, 3) := by decide +kernel
theorem dX9_cell_27 : decode cX9_cell 27 = .ok (.iload_n 1, 1) := by decide +kernel
theorem dX9_cell_28 : decode cX9_cell 28 = .ok (.iaload, 1) := by decide +kernel
theorem dX9_cell_29 : decode cX9_cell 29 = .ok (.bipush (-9), 2) := by decide +kernel
theorem dX9_cell_31 : decode cX9_cell 31 = .ok (.if_icmp .eq 19, 3) := by decide +kernel
theorem dX9_cell_34 : decode cX9_cell 34 = .ok (.aload_n 0, 1) := by decide +kernel
theorem dX9_cell_35 : decode cX9_cell 35 = .ok (.getfield 9, 3) := by decide +kernel
theorem dX9_cell_38 : decode cX9_cell 38 = .ok (.iload_n 1, 1) := by decide +kernel
theorem dX9_cell_39 : decode cX9_cell 39 = .ok (.iaload, 1) := by decide +kernel
theorem dX9_cell_40 : decode cX9_cell 40 = .ok (.iload_n 3, 1) := by decide +kernel
theorem dX9_cell_41 : decode cX9_cell 41 = .ok (.if_icmp .eq 9, 3) := by decide +kernel
theorem dX9_cell_44 : decode cX9_cell 44 = .ok (.aload_n 0, 1) := by decide +kernel
theorem dX9_cell_45 : decode cX9_cell 45 = .ok (.iconst 2, 1) := by decide +kernel
theorem dX9_cell_46 : decode cX9_cell 46 = .ok (.invokevirtual 178, 3) := by decide +kernel
theorem dX9_cell_49 : decode cX9_cell 49 = .ok (.lreturn, 1) := by decide +kernel
theorem dX9_cell_50 : decode cX9_cell 50 = .ok (.aload_n 0, 1) := by decide +kernel
theorem dX9_cell_51 : decode cX9_cell 51 = .ok (.getfield 9, 3) := by decide +kernel
theorem dX9_cell_54 : decode cX9_cell 54 = .ok (.iload_n 1, 1) := by decide +kernel
theorem dX9_cell_55 : decode cX9_cell 55 = .ok (.iaload, 1) := by decide +kernel
theorem dX9_cell_56 : decode cX9_cell 56 = .ok (.bipush (-9), 2) := by decide +kernel
theorem dX9_cell_58 : decode cX9_cell 58 = .ok (.if_icmp .ne 9, 3) := by decide +kernel
theorem dX9_cell_61 : decode cX9_cell 61 = .ok (.aload_n 0, 1) := by decide +kernel
theorem dX9_cell_62 : decode cX9_cell 62 = .ok (.iconst 1, 1) := by decide +kernel
theorem dX9_cell_63 : decode cX9_cell 63 = .ok (.invokevirtual 178, 3) := by decide +kernel
theorem dX9_cell_66 : decode cX9_cell 66 = .ok (.lreturn, 1) := by decide +kernel
theorem dX9_cell_67 : decode cX9_cell 67 = .ok (.iload_n 2, 1) := by decide +kernel
theorem dX9_cell_68 : decode cX9_cell 68 = .ok (.iconst 0, 1) := by decide +kernel
theorem dX9_cell_69 : decode cX9_cell 69 = .ok (.aload_n 0, 1) := by decide +kernel
theorem dX9_cell_70 : decode cX9_cell 70 = .ok (.getfield 13, 3) := by decide +kernel
theorem dX9_cell_73 : decode cX9_cell 73 = .ok (.iload_n 1, 1) := by decide +kernel
theorem dX9_cell_74 : decode cX9_cell 74 = .ok (.iaload, 1) := by decide +kernel
theorem dX9_cell_75 : decode cX9_cell 75 = .ok (.iconst 1, 1) := by decide +kernel
theorem dX9_cell_76 : decode cX9_cell 76 = .ok (.isub, 1) := by decide +kernel
theorem dX9_cell_77 : decode cX9_cell 77 = .ok (.invokestatic 71, 3) := by decide +kernel
theorem dX9_cell_80 : decode cX9_cell 80 = .ok (.ifCond .ne 9, 3) := by decide +kernel
theorem dX9_cell_83 : decode cX9_cell 83 = .ok (.aload_n 0, 1) := by decide +kernel
theorem dX9_cell_84 : decode cX9_cell 84 = .ok (.iconst 3, 1) := by decide +kernel
theorem dX9_cell_85 : decode cX9_cell 85 = .ok (.invokevirtual 178, 3) := by decide +kernel
theorem dX9_cell_88 : decode cX9_cell 88 = .ok (.lreturn, 1) := by decide +kernel
theorem dX9_cell_89 : decode cX9_cell 89 = .ok (.aload_n 0, 1) := by decide +kernel
theorem dX9_cell_90 : decode cX9_cell 90 = .ok (.getfield 16, 3) := by decide +kernel
theorem dX9_cell_93 : decode cX9_cell 93 = .ok (.bipush 80, 2) := by decide +kernel
theorem dX9_cell_95 : decode cX9_cell 95 = .ok (.iload_n 1, 1) := by decide +kernel
theorem dX9_cell_96 : decode cX9_cell 96 = .ok (.imul, 1) := by decide +kernel
theorem dX9_cell_97 : decode cX9_cell 97 = .ok (.iload_n 2, 1) := by decide +kernel
theorem dX9_cell_98 : decode cX9_cell 98 = .ok (.iadd, 1) := by decide +kernel
theorem dX9_cell_99 : decode cX9_cell 99 = .ok (.iaload, 1) := by decide +kernel
theorem dX9_cell_100 : decode cX9_cell 100 = .ok (.i2l, 1) := by decide +kernel
theorem dX9_cell_101 : decode cX9_cell 101 = .ok (.lreturn, 1) := by decide +kernel
set_option maxRecDepth 20000 in
theorem ggX9_copy_X9_isSheet : GoodIn wsX9_copy wsX9_isSheet := goodIn_r _ [8, 9, 10, 7, 11] (by decide +kernel) (by decide +kernel)
set_option maxRecDepth 20000 in
theorem gX9_copy_X9_isSheet : GoodIn wsX9_copy (va_wsS RX9 78 yX9_isSheet wsX9_isSheet) := goodIn_app (goodIn_of _ (by decide +kernel)) ggX9_copy_X9_isSheet
set_option maxRecDepth 20000 in
theorem ggX9_copy_X9_fails : GoodIn wsX9_copy wsX9_fails := goodIn_r _ [15, 1, 16, 17, 18, 19, 20, 21, 22, 23, 24, 25, 26, 27, 28, 29, 30, 31, 32, 33, 34, 35, 36, 37, 38, 39, 40, 41] (by decide +kernel) (by decide +kernel)
set_option maxRecDepth 20000 in
theorem gX9_copy_X9_fails : GoodIn wsX9_copy (wsV RX9 89 RX9 yX9_fails wsX9_fails) := goodIn_app (goodIn_of _ (by decide +kernel)) ggX9_copy_X9_fails
theorem dX9_copy_0 : decode cX9_copy 0 = .ok (.aload_n 0, 1) := by decide +kernel
theorem dX9_copy_1 : decode cX9_copy 1 = .ok (.iconst 0, 1) := by decide +kernel
theorem dX9_copy_2 : decode cX9_copy 2 = .ok (.putfield 65, 3) := by decide +kernel
theorem dX9_copy_5 : decode cX9_copy 5 = .ok (.iload_n 1, 1) := by decide +kernel
theorem dX9_copy_6 : decode cX9_copy 6 = .ok (.invokestatic 78, 3) := by decide +kernel
theorem dX9_copy_9 : decode cX9_copy 9 = .ok (.ifCond .eq 10, 3) := by decide +kernel
theorem dX9_copy_12 : decode cX9_copy 12 = .ok (.iload_n 3, 1) := by decide +kernel
theorem dX9_copy_13 : decode cX9_copy 13 = .ok (.invokestatic 78, 3) := by decide +kernel
theorem dX9_copy_16 : decode cX9_copy 16 = .ok (.ifCond .ne 5, 3) := by decide +kernel
theorem dX9_copy_19 : decode cX9_copy 19 = .ok (.iconst (-1), 1) := by decide +kernel
theorem dX9_copy_20 : decode cX9_copy 20 = .ok (.ireturn, 1) := by decide +kernel
theorem dX9_copy_21 : decode cX9_copy 21 = .ok (.aload_n 0, 1) := by decide +kernel
theorem dX9_copy_22 : decode cX9_copy 22 = .ok (.getfield 9, 3) := by decide +kernel
theorem dX9_copy_25 : decode cX9_copy 25 = .ok (.iload_n 1, 1) := by decide +kernel
theorem dX9_copy_26 : decode cX9_copy 26 = .ok (.iaload, 1) := by decide +kernel
theorem dX9_copy_27 : decode cX9_copy 27 = .ok (.bipush (-9), 2) := by decide +kernel
theorem dX9_copy_29 : decode cX9_copy 29 = .ok (.if_icmp .eq 14, 3) := by decide +kernel
theorem dX9_copy_32 : decode cX9_copy 32 = .ok (.aload_n 0, 1) := by decide +kernel
theorem dX9_copy_33 : decode cX9_copy 33 = .ok (.getfield 9, 3) := by decide +kernel
theorem dX9_copy_36 : decode cX9_copy 36 = .ok (.iload_n 3, 1) := by decide +kernel
theorem dX9_copy_37 : decode cX9_copy 37 = .ok (.iaload, 1) := by decide +kernel
theorem dX9_copy_38 : decode cX9_copy 38 = .ok (.bipush (-9), 2) := by decide +kernel
theorem dX9_copy_40 : decode cX9_copy 40 = .ok (.if_icmp .ne 9, 3) := by decide +kernel
theorem dX9_copy_43 : decode cX9_copy 43 = .ok (.aload_n 0, 1) := by decide +kernel
theorem dX9_copy_44 : decode cX9_copy 44 = .ok (.iconst 1, 1) := by decide +kernel
theorem dX9_copy_45 : decode cX9_copy 45 = .ok (.invokevirtual 89, 3) := by decide +kernel
theorem dX9_copy_48 : decode cX9_copy 48 = .ok (.ireturn, 1) := by decide +kernel
theorem dX9_copy_49 : decode cX9_copy 49 = .ok (.aload_n 0, 1) := by decide +kernel
theorem dX9_copy_50 : decode cX9_copy 50 = .ok (.getfield 9, 3) := by decide +kernel
theorem dX9_copy_53 : decode cX9_copy 53 = .ok (.iload_n 1, 1) := by decide +kernel
theorem dX9_copy_54 : decode cX9_copy 54 = .ok (.iaload, 1) := by decide +kernel
theorem dX9_copy_55 : decode cX9_copy 55 = .ok (.aload_n 0, 1) := by decide +kernel
theorem dX9_copy_56 : decode cX9_copy 56 = .ok (.getfield 9, 3) := by decide +kernel
theorem dX9_copy_59 : decode cX9_copy 59 = .ok (.iload_n 3, 1) := by decide +kernel
theorem dX9_copy_60 : decode cX9_copy 60 = .ok (.iaload, 1) := by decide +kernel
theorem dX9_copy_61 : decode cX9_copy 61 = .ok (.if_icmp .eq 9, 3) := by decide +kernel
theorem dX9_copy_64 : decode cX9_copy 64 = .ok (.aload_n 0, 1) := by decide +kernel
theorem dX9_copy_65 : decode cX9_copy 65 = .ok (.iconst 2, 1) := by decide +kernel
theorem dX9_copy_66 : decode cX9_copy 66 = .ok (.invokevirtual 89, 3) := by decide +kernel
theorem dX9_copy_69 : decode cX9_copy 69 = .ok (.ireturn, 1) := by decide +kernel
theorem dX9_copy_70 : decode cX9_copy 70 = .ok (.iload_n 2, 1) := by decide +kernel
theorem dX9_copy_71 : decode cX9_copy 71 = .ok (.ifCond .lt 38, 3) := by decide +kernel
theorem dX9_copy_74 : decode cX9_copy 74 = .ok (.iload 4, 2) := by decide +kernel
theorem dX9_copy_76 : decode cX9_copy 76 = .ok (.ifCond .lt 33, 3) := by decide +kernel
theorem dX9_copy_79 : decode cX9_copy 79 = .ok (.iload 5, 2) := by decide +kernel
theorem dX9_copy_81 : decode cX9_copy 81 = .ok (.ifCond .lt 28, 3) := by decide +kernel
theorem dX9_copy_84 : decode cX9_copy 84 = .ok (.iload_n 2, 1) := by decide +kernel
theorem dX9_copy_85 : decode cX9_copy 85 = .ok (.aload_n 0, 1) := by decide +kernel
theorem dX9_copy_86 : decode cX9_copy 86 = .ok (.getfield 13, 3) := by decide +kernel
theorem dX9_copy_89 : decode cX9_copy 89 = .ok (.iload_n 1, 1) := by decide +kernel
theorem dX9_copy_90 : decode cX9_copy 90 = .ok (.iaload, 1) := by decide +kernel
theorem dX9_copy_91 : decode cX9_copy 91 = .ok (.if_icmp .gt 18, 3) := by decide +kernel
theorem dX9_copy_94 : decode cX9_copy 94 = .ok (.iload 4, 2) := by decide +kernel
theorem dX9_copy_96 : decode cX9_copy 96 = .ok (.aload_n 0, 1) := by decide +kernel
theorem dX9_copy_97 : decode cX9_copy 97 = .ok (.getfield 13, 3) := by decide +kernel
theorem dX9_copy_100 : decode cX9_copy 100 = .ok (.iload_n 3, 1) := by decide +kernel
theorem dX9_copy_101 : decode cX9_copy 101 = .ok (.iaload, 1) := by decide +kernel
theorem dX9_copy_102 : decode cX9_copy 102 = .ok (.if_icmp .gt 7, 3) := by decide +kernel
theorem dX9_copy_105 : decode cX9_copy 105 = .ok (.iconst 1, 1) := by decide +kernel
theorem dX9_copy_106 : decode cX9_copy 106 = .ok (.goto 4, 3) := by decide +kernel
theorem dX9_copy_109 : decode cX9_copy 109 = .ok (.iconst 0, 1) := by decide +kernel
theorem dX9_copy_110 : decode cX9_copy 110 = .ok (.istore 6, 2) := by decide +kernel
theorem dX9_copy_112 : decode cX9_copy 112 = .ok (.iload 6, 2) := by decide +kernel
theorem dX9_copy_114 : decode cX9_copy 114 = .ok (.ifCond .eq 30, 3) := by decide +kernel
theorem dX9_copy_117 : decode cX9_copy 117 = .ok (.iload 5, 2) := by decide +kernel
theorem dX9_copy_119 : decode cX9_copy 119 = .ok (.aload_n 0, 1) := by decide +kernel
theorem dX9_copy_120 : decode cX9_copy 120 = .ok (.getfield 13, 3) := by decide +kernel
theorem dX9_copy_123 : decode cX9_copy 123 = .ok (.iload_n 1, 1) := by decide +kernel
theorem dX9_copy_124 : decode cX9_copy 124 = .ok (.iaload, 1) := by decide +kernel
theorem dX9_copy_125 : decode cX9_copy 125 = .ok (.iload_n 2, 1) := by decide +kernel
theorem dX9_copy_126 : decode cX9_copy 126 = .ok (.isub, 1) := by decide +kernel
theorem dX9_copy_127 : decode cX9_copy 127 = .ok (.if_icmp .gt 17, 3) := by decide +kernel
theorem dX9_copy_130 : decode cX9_copy 130 = .ok (.iload 5, 2) := by decide +kernel
theorem dX9_copy_132 : decode cX9_copy 132 = .ok (.aload_n 0, 1) := by decide +kernel
theorem dX9_copy_133 : decode cX9_copy 133 = .ok (.getfield 13, 3) := by decide +kernel
theorem dX9_copy_136 : decode cX9_copy 136 = .ok (.iload_n 3, 1) := by decide +kernel
theorem dX9_copy_137 : decode cX9_copy 137 = .ok (.iaload, 1) := by decide +kernel
theorem dX9_copy_138 : decode cX9_copy 138 = .ok (.iload 4, 2) := by decide +kernel
theorem dX9_copy_140 : decode cX9_copy 140 = .ok (.isub, 1) := by decide +kernel
theorem dX9_copy_141 : decode cX9_copy 141 = .ok (.if_icmp .le 9, 3) := by decide +kernel
theorem dX9_copy_144 : decode cX9_copy 144 = .ok (.aload_n 0, 1) := by decide +kernel
theorem dX9_copy_145 : decode cX9_copy 145 = .ok (.iconst 3, 1) := by decide +kernel
theorem dX9_copy_146 : decode cX9_copy 146 = .ok (.invokevirtual 89, 3) := by decide +kernel
theorem dX9_copy_149 : decode cX9_copy 149 = .ok (.ireturn, 1) := by decide +kernel
theorem dX9_copy_150 : decode cX9_copy 150 = .ok (.iload_n 2, 1) := by decide +kernel
theorem dX9_copy_151 : decode cX9_copy 151 = .ok (.iload 4, 2) := by decide +kernel
theorem dX9_copy_153 : decode cX9_copy 153 = .ok (.if_icmp .ge 7, 3) := by decide +kernel
theorem dX9_copy_156 : decode cX9_copy 156 = .ok (.iconst 1, 1) := by decide +kernel
theorem dX9_copy_157 : decode cX9_copy 157 = .ok (.goto 4, 3) := by decide +kernel
theorem dX9_copy_160 : decode cX9_copy 160 = .ok (.iconst 0, 1) := by decide +kernel
theorem dX9_copy_161 : decode cX9_copy 161 = .ok (.istore 7, 2) := by decide +kernel
theorem dX9_copy_163 : decode cX9_copy 163 = .ok (.iconst 0, 1) := by decide +kernel
theorem dX9_copy_164 : decode cX9_copy 164 = .ok (.istore 8, 2) := by decide +kernel
theorem dX9_copy_166 : decode cX9_copy 166 = .ok (.iload 8, 2) := by decide +kernel
theorem dX9_copy_168 : decode cX9_copy 168 = .ok (.iload 5, 2) := by decide +kernel
theorem dX9_copy_170 : decode cX9_copy 170 = .ok (.if_icmp .ge 57, 3) := by decide +kernel
theorem dX9_copy_173 : decode cX9_copy 173 = .ok (.iload 7, 2) := by decide +kernel
theorem dX9_copy_175 : decode cX9_copy 175 = .ok (.ifCond .eq 13, 3) := by decide +kernel
theorem dX9_copy_178 : decode cX9_copy 178 = .ok (.iload 5, 2) := by decide +kernel
theorem dX9_copy_180 : decode cX9_copy 180 = .ok (.iconst 1, 1) := by decide +kernel
theorem dX9_copy_181 : decode cX9_copy 181 = .ok (.isub, 1) := by decide +kernel
theorem dX9_copy_182 : decode cX9_copy 182 = .ok (.iload 8, 2) := by decide +kernel
theorem dX9_copy_184 : decode cX9_copy 184 = .ok (.isub, 1) := by decide +kernel
theorem dX9_copy_185 : decode cX9_copy 185 = .ok (.goto 5, 3) := by decide +kernel
theorem dX9_copy_188 : decode cX9_copy 188 = .ok (.iload 8, 2) := by decide +kernel
theorem dX9_copy_190 : decode cX9_copy 190 = .ok (.istore 9, 2) := by decide +kernel
theorem dX9_copy_192 : decode cX9_copy 192 = .ok (.aload_n 0, 1) := by decide +kernel
theorem dX9_copy_193 : decode cX9_copy 193 = .ok (.getfield 16, 3) := by decide +kernel
theorem dX9_copy_196 : decode cX9_copy 196 = .ok (.bipush 80, 2) := by decide +kernel
theorem dX9_copy_198 : decode cX9_copy 198 = .ok (.iload_n 3, 1) := by decide +kernel
theorem dX9_copy_199 : decode cX9_copy 199 = .ok (.imul, 1) := by decide +kernel
theorem dX9_copy_200 : decode cX9_copy 200 = .ok (.iload 4, 2) := by decide +kernel
theorem dX9_copy_202 : decode cX9_copy 202 = .ok (.iadd, 1) := by decide +kernel
theorem dX9_copy_203 : decode cX9_copy 203 = .ok (.iload 9, 2) := by decide +kernel
theorem dX9_copy_205 : decode cX9_copy 205 = .ok (.iadd, 1) := by decide +kernel
theorem dX9_copy_206 : decode cX9_copy 206 = .ok (.aload_n 0, 1) := by decide +kernel
theorem dX9_copy_207 : decode cX9_copy 207 = .ok (.getfield 16, 3) := by decide +kernel
theorem dX9_copy_210 : decode cX9_copy 210 = .ok (.bipush 80, 2) := by decide +kernel
theorem dX9_copy_212 : decode cX9_copy 212 = .ok (.iload_n 1, 1) := by decide +kernel
theorem dX9_copy_213 : decode cX9_copy 213 = .ok (.imul, 1) := by decide +kernel
theorem dX9_copy_214 : decode cX9_copy 214 = .ok (.iload_n 2, 1) := by decide +kernel
theorem dX9_copy_215 : decode cX9_copy 215 = .ok (.iadd, 1) := by decide +kernel
theorem dX9_copy_216 : decode cX9_copy 216 = .ok (.iload 9, 2) := by decide +kernel
theorem dX9_copy_218 : decode cX9_copy 218 = .ok (.iadd, 1) := by decide +kernel
theorem dX9_copy_219 : decode cX9_copy 219 = .ok (.iaload, 1) := by decide +kernel
theorem dX9_copy_220 : decode cX9_copy 220 = .ok (.iastore, 1) := by decide +kernel
theorem dX9_copy_221 : decode cX9_copy 221 = .ok (.iinc 8 1, 3) := by decide +kernel
theorem dX9_copy_224 : decode cX9_copy 224 = .ok (.goto (-58), 3) := by decide +kernel
theorem dX9_copy_227 : decode cX9_copy 227 = .ok (.iload 5, 2) := by decide +kernel
theorem dX9_copy_229 : decode cX9_copy 229 = .ok (.ireturn, 1) := by decide +kernel
theorem dX9_begins_0 : decode cX9_begins 0 = .ok (.aload_n 0, 1) := by decide +kernel
theorem dX9_begins_1 : decode cX9_begins 1 = .ok (.bipush 31, 2) := by decide +kernel
theorem dX9_begins_3 : decode cX9_begins 3 = .ok (.aload_n 0, 1) := by decide +kernel
theorem dX9_begins_4 : decode cX9_begins 4 = .ok (.getfield 182, 3) := by decide +kernel
theorem dX9_begins_7 : decode cX9_begins 7 = .ok (.imul, 1) := by decide +kernel
theorem dX9_begins_8 : decode cX9_begins 8 = .ok (.iload_n 1, 1) := by decide +kernel
theorem dX9_begins_9 : decode cX9_begins 9 = .ok (.iadd, 1) := by decide +kernel
theorem dX9_begins_10 : decode cX9_begins 10 = .ok (.putfield 182, 3) := by decide +kernel
theorem dX9_begins_13 : decode cX9_begins 13 = .ok (.return_, 1) := by decide +kernel
set_option maxRecDepth 20000 in
theorem ggX9_inCries_X9_isIn : GoodIn wsX9_inCries wsX9_isIn := goodIn_r _ [7, 8, 9, 10, 6, 11, 12, 13, 14, 15, 16, 17, 18, 19, 20, 21, 22, 23, 24, 25, 26, 27, 28, 29, 30, 31, 32, 33, 34, 35, 36, 37, 38] (by decide +kernel) (by decide +kernel)
set_option maxRecDepth 20000 in
theorem gX9_inCries_X9_isIn : GoodIn wsX9_inCries (wsV RX9 175 RX9 yX9_isIn wsX9_isIn) := goodIn_app (goodIn_of _ (by decide +kernel)) ggX9_inCries_X9_isIn
theorem dX9_inCries_0 : decode cX9_inCries 0 = .ok (.iconst 0, 1) := by decide +kernel
theorem dX9_inCries_1 : decode cX9_inCries 1 = .ok (.istore_n 2, 1) := by decide +kernel
theorem dX9_inCries_2 : decode cX9_inCries 2 = .ok (.iconst 0, 1) := by decide +kernel
theorem dX9_inCries_3 : decode cX9_inCries 3 = .ok (.istore_n 3, 1) := by decide +kernel
theorem dX9_inCries_4 : decode cX9_inCries 4 = .ok (.iload_n 3, 1) := by decide +kernel
theorem dX9_inCries_5 : decode cX9_inCries 5 = .ok (.aload_n 0, 1) := by decide +kernel
theorem dX9_inCries_6 : decode cX9_inCries 6 = .ok (.getfield 75, 3) := by decide +kernel
theorem dX9_inCries_9 : decode cX9_inCries 9 = .ok (.if_icmp .ge 32, 3) := by decide +kernel
theorem dX9_inCries_12 : decode cX9_inCries 12 = .ok (.iload_n 2, 1) := by decide +kernel
theorem dX9_inCries_13 : decode cX9_inCries 13 = .ok (.aload_n 0, 1) := by decide +kernel
theorem dX9_inCries_14 : decode cX9_inCries 14 = .ok (.iload_n 3, 1) := by decide +kernel
theorem dX9_inCries_15 : decode cX9_inCries 15 = .ok (.iload_n 1, 1) := by decide +kernel
theorem dX9_inCries_16 : decode cX9_inCries 16 = .ok (.aload_n 0, 1) := by decide +kernel
theorem dX9_inCries_17 : decode cX9_inCries 17 = .ok (.getfield 22, 3) := by decide +kernel
theorem dX9_inCries_20 : decode cX9_inCries 20 = .ok (.iload_n 3, 1) := by decide +kernel
theorem dX9_inCries_21 : decode cX9_inCries 21 = .ok (.iaload, 1) := by decide +kernel
theorem dX9_inCries_22 : decode cX9_inCries 22 = .ok (.invokevirtual 175, 3) := by decide +kernel
theorem dX9_inCries_25 : decode cX9_inCries 25 = .ok (.ifCond .eq 7, 3) := by decide +kernel
theorem dX9_inCries_28 : decode cX9_inCries 28 = .ok (.iconst 1, 1) := by decide +kernel
theorem dX9_inCries_29 : decode cX9_inCries 29 = .ok (.goto 4, 3) := by decide +kernel
theorem dX9_inCries_32 : decode cX9_inCries 32 = .ok (.iconst 0, 1) := by decide +kernel
theorem dX9_inCries_33 : decode cX9_inCries 33 = .ok (.iadd, 1) := by decide +kernel
theorem dX9_inCries_34 : decode cX9_inCries 34 = .ok (.istore_n 2, 1) := by decide +kernel
theorem dX9_inCries_35 : decode cX9_inCries 35 = .ok (.iinc 3 1, 3) := by decide +kernel
theorem dX9_inCries_38 : decode cX9_inCries 38 = .ok (.goto (-34), 3) := by decide +kernel
theorem dX9_inCries_41 : decode cX9_inCries 41 = .ok (.iload_n 2, 1) := by decide +kernel
theorem dX9_inCries_42 : decode cX9_inCries 42 = .ok (.ireturn, 1) := by decide +kernel
set_option maxRecDepth 20000 in
theorem ggX9_tell_X9_isWord : GoodIn wsX9_tell wsX9_isWord := goodIn_r _ [5, 6, 7, 4, 8] (by decide +kernel) (by decide +kernel)
set_option maxRecDepth 20000 in
theorem gX9_tell_X9_isWord : GoodIn wsX9_tell (va_wsS RX9 102 yX9_isWord wsX9_isWord) := goodIn_app (goodIn_of _ (by decide +kernel)) ggX9_tell_X9_isWord
set_option maxRecDepth 20000 in
theorem ggX9_tell_X9_inCries : GoodIn wsX9_tell wsX9_inCries := goodIn_r _ [12, 13, 14, 15, 16, 17, 4, 18, 19, 20, 21, 22, 23, 29, 30, 31, 32, 33, 34, 35, 36, 37, 38, 39, 40, 41, 42, 43, 44, 45, 46, 47, 48, 49, 50, 51, 52, 53, 54] (by decide +kernel) (by decide +kernel)
set_option maxRecDepth 20000 in
theorem gX9_tell_X9_inCries : GoodIn wsX9_tell (wsV RX9 185 RX9 yX9_inCries wsX9_inCries) := goodIn_app (goodIn_of _ (by decide +kernel)) ggX9_tell_X9_inCries
set_option maxRecDepth 20000 in
theorem ggX9_tell_X9_begins : GoodIn wsX9_tell wsX9_begins := goodIn_r _ [27, 28, 29, 30, 31, 32, 33, 34, 35, 36, 37, 38, 39, 40, 41, 42, 43, 44, 45, 46, 47, 48, 49, 50, 51, 52, 53, 54] (by decide +kernel) (by decide +kernel)
set_option maxRecDepth 20000 in
theorem gX9_tell_X9_begins : GoodIn wsX9_tell (wsV RX9 188 RX9 yX9_begins wsX9_begins) := goodIn_app (goodIn_of _ (by decide +kernel)) ggX9_tell_X9_begins
theorem dX9_tell_0 : decode cX9_tell 0 = .ok (.iload_n 1, 1) := by decide +kernel
theorem dX9_tell_1 : decode cX9_tell 1 = .ok (.invokestatic 102, 3) := by decide +kernel
theorem dX9_tell_4 : decode cX9_tell 4 = .ok (.ifCond .ne 5, 3) := by decide +kernel
theorem dX9_tell_7 : decode cX9_tell 7 = .ok (.iconst (-1), 1) := by decide +kernel
theorem dX9_tell_8 : decode cX9_tell 8 = .ok (.ireturn, 1) := by decide +kernel
theorem dX9_tell_9 : decode cX9_tell 9 = .ok (.aload_n 0, 1) := by decide +kernel
theorem dX9_tell_10 : decode cX9_tell 10 = .ok (.iload_n 1, 1) := by decide +kernel
theorem dX9_tell_11 : decode cX9_tell 11 = .ok (.invokevirtual 185, 3) := by decide +kernel
theorem dX9_tell_14 : decode cX9_tell 14 = .ok (.istore_n 2, 1) := by decide +kernel
theorem dX9_tell_15 : decode cX9_tell 15 = .ok (.aload_n 0, 1) := by decide +kernel
theorem dX9_tell_16 : decode cX9_tell 16 = .ok (.getfield 19, 3) := by decide +kernel
theorem dX9_tell_19 : decode cX9_tell 19 = .ok (.iload_n 1, 1) := by decide +kernel
theorem dX9_tell_20 : decode cX9_tell 20 = .ok (.iaload, 1) := by decide +kernel
theorem dX9_tell_21 : decode cX9_tell 21 = .ok (.lookupswitch 69 #[(1, 27), (2, 42)], 27) := by decide +kernel
theorem dX9_tell_48 : decode cX9_tell 48 = .ok (.aload_n 0, 1) := by decide +kernel
theorem dX9_tell_49 : decode cX9_tell 49 = .ok (.iconst 2, 1) := by decide +kernel
theorem dX9_tell_50 : decode cX9_tell 50 = .ok (.invokevirtual 188, 3) := by decide +kernel
theorem dX9_tell_53 : decode cX9_tell 53 = .ok (.aload_n 0, 1) := by decide +kernel
theorem dX9_tell_54 : decode cX9_tell 54 = .ok (.iconst 1, 1) := by decide +kernel
theorem dX9_tell_55 : decode cX9_tell 55 = .ok (.invokevirtual 188, 3) := by decide +kernel
theorem dX9_tell_58 : decode cX9_tell 58 = .ok (.iload_n 2, 1) := by decide +kernel
theorem dX9_tell_59 : decode cX9_tell 59 = .ok (.bipush 100, 2) := by decide +kernel
theorem dX9_tell_61 : decode cX9_tell 61 = .ok (.iadd, 1) := by decide +kernel
theorem dX9_tell_62 : decode cX9_tell 62 = .ok (.ireturn, 1) := by decide +kernel
theorem dX9_tell_63 : decode cX9_tell 63 = .ok (.aload_n 0, 1) := by decide +kernel
theorem dX9_tell_64 : decode cX9_tell 64 = .ok (.iconst 3, 1) := by decide +kernel
theorem dX9_tell_65 : decode cX9_tell 65 = .ok (.invokevirtual 188, 3) := by decide +kernel
theorem dX9_tell_68 : decode cX9_tell 68 = .ok (.aload_n 0, 1) := by decide +kernel
theorem dX9_tell_69 : decode cX9_tell 69 = .ok (.iconst 2, 1) := by decide +kernel
theorem dX9_tell_70 : decode cX9_tell 70 = .ok (.invokevirtual 188, 3) := by decide +kernel
theorem dX9_tell_73 : decode cX9_tell 73 = .ok (.aload_n 0, 1) := by decide +kernel
theorem dX9_tell_74 : decode cX9_tell 74 = .ok (.iconst 1, 1) := by decide +kernel
theorem dX9_tell_75 : decode cX9_tell 75 = .ok (.invokevirtual 188, 3) := by decide +kernel
theorem dX9_tell_78 : decode cX9_tell 78 = .ok (.aload_n 0, 1) := by decide +kernel
theorem dX9_tell_79 : decode cX9_tell 79 = .ok (.iconst 1, 1) := by decide +kernel
theorem dX9_tell_80 : decode cX9_tell 80 = .ok (.invokevirtual 188, 3) := by decide +kernel
theorem dX9_tell_83 : decode cX9_tell 83 = .ok (.iconst 2, 1) := by decide +kernel
theorem dX9_tell_84 : decode cX9_tell 84 = .ok (.iload_n 2, 1) := by decide +kernel
theorem dX9_tell_85 : decode cX9_tell 85 = .ok (.imul, 1) := by decide +kernel
theorem dX9_tell_86 : decode cX9_tell 86 = .ok (.bipush 100, 2) := by decide +kernel
theorem dX9_tell_88 : decode cX9_tell 88 = .ok (.iadd, 1) := by decide +kernel
theorem dX9_tell_89 : decode cX9_tell 89 = .ok (.ireturn, 1) := by decide +kernel
theorem dX9_tell_90 : decode cX9_tell 90 = .ok (.aload_n 0, 1) := by decide +kernel
theorem dX9_tell_91 : decode cX9_tell 91 = .ok (.iconst 1, 1) := by decide +kernel
theorem dX9_tell_92 : decode cX9_tell 92 = .ok (.invokevirtual 188, 3) := by decide +kernel
theorem dX9_tell_95 : decode cX9_tell 95 = .ok (.iload_n 2, 1) := by decide +kernel
theorem dX9_tell_96 : decode cX9_tell 96 = .ok (.ireturn, 1) := by decide +kernel
set_option maxRecDepth 20000 in
theorem ggX9_sing_X9_isWord : GoodIn wsX9_sing wsX9_isWord := goodIn_r _ [5, 6, 7, 4, 8] (by decide +kernel) (by decide +kernel)
set_option maxRecDepth 20000 in
theorem gX9_sing_X9_isWord : GoodIn wsX9_sing (va_wsS RX9 102 yX9_isWord wsX9_isWord) := goodIn_app (goodIn_of _ (by decide +kernel)) ggX9_sing_X9_isWord
set_option maxRecDepth 20000 in
theorem ggX9_sing_X9_begins : GoodIn wsX9_sing wsX9_begins := goodIn_r _ [12, 13, 14, 15, 16, 17, 18, 19, 20, 21, 22, 23, 24, 25, 26, 27, 28, 29, 30, 31, 32, 33, 34, 35, 36, 37, 38, 39] (by decide +kernel) (by decide +kernel)
set_option maxRecDepth 20000 in
theorem gX9_sing_X9_begins : GoodIn wsX9_sing (wsV RX9 188 RX9 yX9_begins wsX9_begins) := goodIn_app (goodIn_of _ (by decide +kernel)) ggX9_sing_X9_begins
theorem dX9_sing_0 : decode cX9_sing 0 = .ok (.iload_n 1, 1) := by decide +kernel
theorem dX9_sing_1 : decode cX9_sing 1 = .ok (.invokestatic 102, 3) := by decide +kernel
theorem dX9_sing_4 : decode cX9_sing 4 = .ok (.ifCond .ne 5, 3) := by decide +kernel
theorem dX9_sing_7 : decode cX9_sing 7 = .ok (.iconst (-1), 1) := by decide +kernel
theorem dX9_sing_8 : decode cX9_sing 8 = .ok (.ireturn, 1) := by decide +kernel
theorem dX9_sing_9 : decode cX9_sing 9 = .ok (.aload_n 0, 1) := by decide +kernel
theorem dX9_sing_10 : decode cX9_sing 10 = .ok (.aload_n 0, 1) := by decide +kernel
theorem dX9_sing_11 : decode cX9_sing 11 = .ok (.getfield 19, 3) := by decide +kernel
theorem dX9_sing_14 : decode cX9_sing 14 = .ok (.iload_n 1, 1) := by decide +kernel
theorem dX9_sing_15 : decode cX9_sing 15 = .ok (.iaload, 1) := by decide +kernel
theorem dX9_sing_16 : decode cX9_sing 16 = .ok (.iconst 2, 1) := by decide +kernel
theorem dX9_sing_17 : decode cX9_sing 17 = .ok (.if_icmp .ne 7, 3) := by decide +kernel
theorem dX9_sing_20 : decode cX9_sing 20 = .ok (.iconst 5, 1) := by decide +kernel
theorem dX9_sing_21 : decode cX9_sing 21 = .ok (.goto 4, 3) := by decide +kernel
theorem dX9_sing_24 : decode cX9_sing 24 = .ok (.iconst 4, 1) := by decide +kernel
theorem dX9_sing_25 : decode cX9_sing 25 = .ok (.invokevirtual 188, 3) := by decide +kernel
theorem dX9_sing_28 : decode cX9_sing 28 = .ok (.aload_n 0, 1) := by decide +kernel
theorem dX9_sing_29 : decode cX9_sing 29 = .ok (.getfield 19, 3) := by decide +kernel
theorem dX9_sing_32 : decode cX9_sing 32 = .ok (.iload_n 1, 1) := by decide +kernel
theorem dX9_sing_33 : decode cX9_sing 33 = .ok (.iaload, 1) := by decide +kernel
theorem dX9_sing_34 : decode cX9_sing 34 = .ok (.iconst 2, 1) := by decide +kernel
theorem dX9_sing_35 : decode cX9_sing 35 = .ok (.if_icmp .ne 8, 3) := by decide +kernel
theorem dX9_sing_38 : decode cX9_sing 38 = .ok (.bipush 40, 2) := by decide +kernel
theorem dX9_sing_40 : decode cX9_sing 40 = .ok (.goto 4, 3) := by decide +kernel
theorem dX9_sing_43 : decode cX9_sing 43 = .ok (.iload_n 1, 1) := by decide +kernel
theorem dX9_sing_44 : decode cX9_sing 44 = .ok (.ireturn, 1) := by decide +kernel
set_option maxRecDepth 20000 in
theorem ggX9_as_X9_isWord : GoodIn wsX9_as wsX9_isWord := goodIn_r _ [6, 7, 8, 5, 9] (by decide +kernel) (by decide +kernel)
set_option maxRecDepth 20000 in
theorem gX9_as_X9_isWord : GoodIn wsX9_as (va_wsS RX9 102 yX9_isWord wsX9_isWord) := goodIn_app (goodIn_of _ (by decide +kernel)) ggX9_as_X9_isWord
set_option maxRecDepth 20000 in
theorem ggX9_as_X9_inside : GoodIn wsX9_as wsX9_inside := goodIn_r _ [9] (by decide +kernel) (by decide +kernel)
set_option maxRecDepth 20000 in
theorem gX9_as_X9_inside : GoodIn wsX9_as (va_wsS RX9 71 yX9_inside wsX9_inside) := goodIn_app (goodIn_of _ (by decide +kernel)) ggX9_as_X9_inside
set_option maxRecDepth 20000 in
theorem ggX9_as_X9_fails : GoodIn wsX9_as wsX9_fails := goodIn_r _ [13, 1, 14, 15, 16, 17, 18, 19, 20, 21, 22, 23, 24, 25, 26, 27, 28, 29, 30, 31, 32, 33, 34, 35, 36, 37, 38, 39] (by decide +kernel) (by decide +kernel)
set_option maxRecDepth 20000 in
theorem gX9_as_X9_fails : GoodIn wsX9_as (wsV RX9 89 RX9 yX9_fails wsX9_fails) := goodIn_app (goodIn_of _ (by decide +kernel)) ggX9_as_X9_fails
theorem dX9_as_0 : decode cX9_as 0 = .ok (.aload_n 0, 1) := by decide +kernel
theorem dX9_as_1 : decode cX9_as 1 = .ok (.iconst 0, 1) := by decide +kernel
theorem dX9_as_2 : decode cX9_as 2 = .ok (.putfield 65, 3) := by decide +kernel
theorem dX9_as_5 : decode cX9_as 5 = .ok (.iload_n 1, 1) := by decide +kernel
theorem dX9_as_6 : decode cX9_as 6 = .ok (.invokestatic 102, 3) := by decide +kernel
theorem dX9_as_9 : decode cX9_as 9 = .ok (.ifCond .ne 5, 3) := by decide +kernel
theorem dX9_as_12 : decode cX9_as 12 = .ok (.iconst (-1), 1) := by decide +kernel
theorem dX9_as_13 : decode cX9_as 13 = .ok (.ireturn, 1) := by decide +kernel
theorem dX9_as_14 : decode cX9_as 14 = .ok (.iload_n 2, 1) := by decide +kernel
theorem dX9_as_15 : decode cX9_as 15 = .ok (.iconst 0, 1) := by decide +kernel
theorem dX9_as_16 : decode cX9_as 16 = .ok (.iconst 2, 1) := by decide +kernel
theorem dX9_as_17 : decode cX9_as 17 = .ok (.invokestatic 71, 3) := by decide +kernel
theorem dX9_as_20 : decode cX9_as 20 = .ok (.ifCond .ne 6, 3) := by decide +kernel
theorem dX9_as_23 : decode cX9_as 23 = .ok (.bipush (-2), 2) := by decide +kernel
theorem dX9_as_25 : decode cX9_as 25 = .ok (.ireturn, 1) := by decide +kernel
theorem dX9_as_26 : decode cX9_as 26 = .ok (.aload_n 0, 1) := by decide +kernel
theorem dX9_as_27 : decode cX9_as 27 = .ok (.getfield 19, 3) := by decide +kernel
theorem dX9_as_30 : decode cX9_as 30 = .ok (.iload_n 1, 1) := by decide +kernel
theorem dX9_as_31 : decode cX9_as 31 = .ok (.iaload, 1) := by decide +kernel
theorem dX9_as_32 : decode cX9_as 32 = .ok (.iload_n 2, 1) := by decide +kernel
theorem dX9_as_33 : decode cX9_as 33 = .ok (.if_icmp .lt 7, 3) := by decide +kernel
theorem dX9_as_36 : decode cX9_as 36 = .ok (.iconst 1, 1) := by decide +kernel
theorem dX9_as_37 : decode cX9_as 37 = .ok (.goto 8, 3) := by decide +kernel
theorem dX9_as_40 : decode cX9_as 40 = .ok (.aload_n 0, 1) := by decide +kernel
theorem dX9_as_41 : decode cX9_as 41 = .ok (.iconst 2, 1) := by decide +kernel
theorem dX9_as_42 : decode cX9_as 42 = .ok (.invokevirtual 89, 3) := by decide +kernel
theorem dX9_as_45 : decode cX9_as 45 = .ok (.ireturn, 1) := by decide +kernel
theorem dX9_trace_0 : decode cX9_trace 0 = .ok (.aload_n 0, 1) := by decide +kernel
theorem dX9_trace_1 : decode cX9_trace 1 = .ok (.getfield 182, 3) := by decide +kernel
theorem dX9_trace_4 : decode cX9_trace 4 = .ok (.ireturn, 1) := by decide +kernel
theorem dX9_fault_0 : decode cX9_fault 0 = .ok (.aload_n 0, 1) := by decide +kernel
theorem dX9_fault_1 : decode cX9_fault 1 = .ok (.getfield 65, 3) := by decide +kernel
theorem dX9_fault_4 : decode cX9_fault 4 = .ok (.ireturn, 1) := by decide +kernel
theorem dX9_many_0 : decode cX9_many 0 = .ok (.aload_n 0, 1) := by decide +kernel
theorem dX9_many_1 : decode cX9_many 1 = .ok (.getfield 75, 3) := by decide +kernel
theorem dX9_many_4 : decode cX9_many 4 = .ok (.ireturn, 1) := by decide +kernel
theorem dJ9_max_7cf53_0 : decode cJ9_max_7cf53 0 = .ok (.iload_n 0, 1) := by decide +kernel
theorem dJ9_max_7cf53_1 : decode cJ9_max_7cf53 1 = .ok (.iload_n 1, 1) := by decide +kernel
theorem dJ9_max_7cf53_2 : decode cJ9_max_7cf53 2 = .ok (.if_icmp .lt 7, 3) := by decide +kernel
theorem dJ9_max_7cf53_5 : decode cJ9_max_7cf53 5 = .ok (.iload_n 0, 1) := by decide +kernel
theorem dJ9_max_7cf53_6 : decode cJ9_max_7cf53 6 = .ok (.goto 4, 3) := by decide +kernel
theorem dJ9_max_7cf53_9 : decode cJ9_max_7cf53 9 = .ok (.iload_n 1, 1) := by decide +kernel
theorem dJ9_max_7cf53_10 : decode cJ9_max_7cf53 10 = .ok (.ireturn, 1) := by decide +kernel
theorem dJ9_max_f86c9_0 : decode cJ9_max_f86c9 0 = .ok (.lload_n 0, 1) := by decide +kernel
theorem dJ9_max_f86c9_1 : decode cJ9_max_f86c9 1 = .ok (.lload_n 2, 1) := by decide +kernel
theorem dJ9_max_f86c9_2 : decode cJ9_max_f86c9 2 = .ok (.lcmp, 1) := by decide +kernel
theorem dJ9_max_f86c9_3 : decode cJ9_max_f86c9 3 = .ok (.ifCond .lt 7, 3) := by decide +kernel
theorem dJ9_max_f86c9_6 : decode cJ9_max_f86c9 6 = .ok (.lload_n 0, 1) := by decide +kernel
theorem dJ9_max_f86c9_7 : decode cJ9_max_f86c9 7 = .ok (.goto 4, 3) := by decide +kernel
theorem dJ9_max_f86c9_10 : decode cJ9_max_f86c9 10 = .ok (.lload_n 2, 1) := by decide +kernel
theorem dJ9_max_f86c9_11 : decode cJ9_max_f86c9 11 = .ok (.lreturn, 1) := by decide +kernel
theorem dJ9_min_7cf53_0 : decode cJ9_min_7cf53 0 = .ok (.iload_n 0, 1) := by decide +kernel
theorem dJ9_min_7cf53_1 : decode cJ9_min_7cf53 1 = .ok (.iload_n 1, 1) := by decide +kernel
theorem dJ9_min_7cf53_2 : decode cJ9_min_7cf53 2 = .ok (.if_icmp .gt 7, 3) := by decide +kernel
theorem dJ9_min_7cf53_5 : decode cJ9_min_7cf53 5 = .ok (.iload_n 0, 1) := by decide +kernel
theorem dJ9_min_7cf53_6 : decode cJ9_min_7cf53 6 = .ok (.goto 4, 3) := by decide +kernel
theorem dJ9_min_7cf53_9 : decode cJ9_min_7cf53 9 = .ok (.iload_n 1, 1) := by decide +kernel
theorem dJ9_min_7cf53_10 : decode cJ9_min_7cf53 10 = .ok (.ireturn, 1) := by decide +kernel
theorem dJ9_min_f86c9_0 : decode cJ9_min_f86c9 0 = .ok (.lload_n 0, 1) := by decide +kernel
theorem dJ9_min_f86c9_1 : decode cJ9_min_f86c9 1 = .ok (.lload_n 2, 1) := by decide +kernel
theorem dJ9_min_f86c9_2 : decode cJ9_min_f86c9 2 = .ok (.lcmp, 1) := by decide +kernel
theorem dJ9_min_f86c9_3 : decode cJ9_min_f86c9 3 = .ok (.ifCond .gt 7, 3) := by decide +kernel
theorem dJ9_min_f86c9_6 : decode cJ9_min_f86c9 6 = .ok (.lload_n 0, 1) := by decide +kernel
theorem dJ9_min_f86c9_7 : decode cJ9_min_f86c9 7 = .ok (.goto 4, 3) := by decide +kernel
theorem dJ9_min_f86c9_10 : decode cJ9_min_f86c9 10 = .ok (.lload_n 2, 1) := by decide +kernel
theorem dJ9_min_f86c9_11 : decode cJ9_min_f86c9 11 = .ok (.lreturn, 1) := by decide +kernel
theorem dJ7_fill_d0a16_0 : decode cJ7_fill_d0a16 0 = .ok (.iconst 0, 1) := by decide +kernel
theorem dJ7_fill_d0a16_1 : decode cJ7_fill_d0a16 1 = .ok (.istore_n 3, 1) := by decide +kernel
theorem dJ7_fill_d0a16_2 : decode cJ7_fill_d0a16 2 = .ok (.aload_n 0, 1) := by decide +kernel
theorem dJ7_fill_d0a16_3 : decode cJ7_fill_d0a16 3 = .ok (.arraylength, 1) := by decide +kernel
theorem dJ7_fill_d0a16_4 : decode cJ7_fill_d0a16 4 = .ok (.istore 4, 2) := by decide +kernel
theorem dJ7_fill_d0a16_6 : decode cJ7_fill_d0a16 6 = .ok (.iload_n 3, 1) := by decide +kernel
theorem dJ7_fill_d0a16_7 : decode cJ7_fill_d0a16 7 = .ok (.iload 4, 2) := by decide +kernel
theorem dJ7_fill_d0a16_9 : decode cJ7_fill_d0a16 9 = .ok (.if_icmp .ge 13, 3) := by decide +kernel
theorem dJ7_fill_d0a16_12 : decode cJ7_fill_d0a16 12 = .ok (.aload_n 0, 1) := by decide +kernel
theorem dJ7_fill_d0a16_13 : decode cJ7_fill_d0a16 13 = .ok (.iload_n 3, 1) := by decide +kernel
theorem dJ7_fill_d0a16_14 : decode cJ7_fill_d0a16 14 = .ok (.lload_n 1, 1) := by decide +kernel
theorem dJ7_fill_d0a16_15 : decode cJ7_fill_d0a16 15 = .ok (.lastore, 1) := by decide +kernel
theorem dJ7_fill_d0a16_16 : decode cJ7_fill_d0a16 16 = .ok (.iinc 3 1, 3) := by decide +kernel
theorem dJ7_fill_d0a16_19 : decode cJ7_fill_d0a16 19 = .ok (.goto (-13), 3) := by decide +kernel
theorem dJ7_fill_d0a16_22 : decode cJ7_fill_d0a16 22 = .ok (.return_, 1) := by decide +kernel
theorem dJ7_fill_53178_0 : decode cJ7_fill_53178 0 = .ok (.iconst 0, 1) := by decide +kernel
theorem dJ7_fill_53178_1 : decode cJ7_fill_53178 1 = .ok (.istore_n 2, 1) := by decide +kernel
theorem dJ7_fill_53178_2 : decode cJ7_fill_53178 2 = .ok (.aload_n 0, 1) := by decide +kernel
theorem dJ7_fill_53178_3 : decode cJ7_fill_53178 3 = .ok (.arraylength, 1) := by decide +kernel
theorem dJ7_fill_53178_4 : decode cJ7_fill_53178 4 = .ok (.istore_n 3, 1) := by decide +kernel
theorem dJ7_fill_53178_5 : decode cJ7_fill_53178 5 = .ok (.iload_n 2, 1) := by decide +kernel
theorem dJ7_fill_53178_6 : decode cJ7_fill_53178 6 = .ok (.iload_n 3, 1) := by decide +kernel
theorem dJ7_fill_53178_7 : decode cJ7_fill_53178 7 = .ok (.if_icmp .ge 13, 3) := by decide +kernel
theorem dJ7_fill_53178_10 : decode cJ7_fill_53178 10 = .ok (.aload_n 0, 1) := by decide +kernel
theorem dJ7_fill_53178_11 : decode cJ7_fill_53178 11 = .ok (.iload_n 2, 1) := by decide +kernel
theorem dJ7_fill_53178_12 : decode cJ7_fill_53178 12 = .ok (.iload_n 1, 1) := by decide +kernel
theorem dJ7_fill_53178_13 : decode cJ7_fill_53178 13 = .ok (.iastore, 1) := by decide +kernel
theorem dJ7_fill_53178_14 : decode cJ7_fill_53178 14 = .ok (.iinc 2 1, 3) := by decide +kernel
theorem dJ7_fill_53178_17 : decode cJ7_fill_53178 17 = .ok (.goto (-12), 3) := by decide +kernel
theorem dJ7_fill_53178_20 : decode cJ7_fill_53178 20 = .ok (.return_, 1) := by decide +kernel
end
section
abbrev tt_cl : List vw_C := [(RX0, TX0, 2), (RX1, TX1, 2), (RX2, TX2, 2), (RX3, TX3, 3), (RX4, TX4, 1), (RX5, TX5, 2), (RX6, TX6, 3), (RX7, TX7, 2), (RX8, TX8, 13), (RX9, TX9, 26)]
/-- a method that makes no cell, by its body's walk -/
theorem tt_M.of0 {cl : List vw_C} {l : Launch} {y : MethodName} {ws ws' : List Cond} {rm : Room} {vs : List Value} {h : tt_H} {P : Option Value → tt_H → Prop} {cc : ByteArray} {maxL : Nat} {ret : Option FieldType} (hy : plainName y.cls = true) (hw : ws = Cond.code y cc maxL ret :: ws') (hsl : (lg_sl vs).length ≤ maxL)
    (body : ∀ (p : Program) (e : Env) (s : State) (m : MethodId) (args : Array Value) (below : List Frame) (meth : Method) (c : Code) (D : va_G) (ca ad : Nat → Nat) (n sz : Nat), tt_wf n h → s.heap.size = sz → tt_X cl (p, l, e, rm, s, m, args, below, meth, c, MQ below (tt_Q cl D ca ad n sz false P) args s 0 0 (tt_A ad n sz), D, ca, tt_A ad n sz, maxL, some n) cc y.cls ret ws → (y.name = "<init>" → meth.name = "<init>") →
      tt_T cl (p, l, e, rm, s, m, args, below, meth, c, MQ below (tt_Q cl D ca ad n sz false P) args s 0 0 (tt_A ad n sz), D, ca, tt_A ad n sz, maxL, some n) ad 0 0 0 (tt_args 0 vs) [] h) : tt_M cl l y ws rm 0 0 false vs h P :=
  tt_M.of hy hw hsl (fun p e s m args below meth c D ca ad n sz h1 h2 h3 h4 => body p e s m args below meth c D ca ad n sz h1 h2 h3 h4)
theorem gg_opt_none {α : Type} (a : α) (f : Nat → α) : gg_opt none a f = a := rfl
theorem gg_opt_some {α : Type} (b : Nat) (a : α) (f : Nat → α) : gg_opt (some b) a f = f b := rfl
/-- an answer that is a boolean: 0 or 1 -/
def gg_b (x : Int32) : Option Unit := if x = 0 ∨ x = 1 then some () else none
theorem gg_b_ok {x : Int32} {u : Unit} (e : gg_b x = some u) : narrow .boolean (.int x) = .int x := by
  unfold gg_b at e
  by_cases hc : x = 0 ∨ x = 1
  · rcases hc with rfl | rfl <;> rfl
  · rw [if_neg hc] at e; cases e
theorem tt_rf_or (r : Option Nat) : va_rf r = .null ∨ ∃ a, va_rf r = .ref a := by
  cases r with
  | none => exact Or.inl rfl
  | some a => exact Or.inr ⟨a, rfl⟩
end
section
def s_J7_fill_53178_L5 : Nat → Nat → Int32 → Int32 → Int32 → tt_H → Option (Unit × tt_H)
  | 0, _, _, _, _, _ => none
  | n + 1, b0, x1, x2, x3, h =>
    if x3 ≤ x2 then
      some ((), h)
    else
    (gg_is h b0 x2 x1).bind fun h13 =>
    s_J7_fill_53178_L5 n b0 x1 (x2 + 1) x3 h13
def s_J7_fill_53178 (b0 : Nat) (x1 : Int32) (h : tt_H) : Option (Unit × tt_H) :=
  (gg_len h b0).bind fun z3 =>
  s_J7_fill_53178_L5 1000 b0 x1 0 z3 h
abbrev rm_J7_fill_53178 : Room := { frames := 0, cells := 0, slots := 0, locals := 0 }
set_option maxHeartbeats 4000000 in
set_option maxRecDepth 100000 in
theorem c_J7_fill_53178 (l : Launch) {b0 : Nat} {x1 : Int32} {h : tt_H} {ρ : Unit × tt_H} (hs : s_J7_fill_53178 b0 x1 h = some ρ) : tt_M tt_cl l yJ7_fill_53178 wsJ7_fill_53178 rm_J7_fill_53178 0 0 false [.ref b0, .int x1] h (tt_ret (none) ρ.2) := by
  refine tt_M.of0 (cc := cJ7_fill_53178) (maxL := 4) (ret := none) (by decide +kernel) rfl (Nat.le_of_ble_eq_true rfl) ?_
  intro p e s m args below meth c D ca ad n0 sz hwf hsz X hini
  unfold s_J7_fill_53178 at hs
  have t_5 : ∀ (fu : Nat) (b0 : Nat) (x1 : Int32) (x2 : Int32) (x3 : Int32) (h : tt_H), s_J7_fill_53178_L5 fu b0 x1 x2 x3 h = some ρ → tt_T tt_cl (p, l, e, rm_J7_fill_53178, s, m, args, below, meth, c, MQ below (tt_Q tt_cl D ca ad n0 sz false (tt_ret (none) ρ.2)) args s 0 0 (tt_A ad n0 sz), D, ca, tt_A ad n0 sz, 4, some n0) ad 0 0 5 [(0, .ref b0), (1, .int x1), (2, .int x2), (3, .int x3)] [] h := by
    intro fu
    induction fu with
    | zero => intro b0 x1 x2 x3 h hs; exact absurd hs (by rw [s_J7_fill_53178_L5]; exact fun q => by cases q)
    | succ n ih =>
      intro b0 x1 x2 x3 h hs
      rw [s_J7_fill_53178_L5] at hs
      have t_5 := ih
      refine tt_iload_n X dJ7_fill_53178_5 rfl ?_
      refine tt_iload_n X dJ7_fill_53178_6 rfl ?_
      refine tt_icmp_ge (tgt := 20) X dJ7_fill_53178_7 (by decide) (fun c7 => ?_) (fun c7 => ?_)
      · rw [if_pos c7] at hs
        cases hs
        exact tt_vret X rfl dJ7_fill_53178_20 ⟨rfl, rfl⟩
      · rw [if_neg c7] at hs
        refine tt_aload_n X dJ7_fill_53178_10 rfl ?_
        refine tt_iload_n X dJ7_fill_53178_11 rfl ?_
        refine tt_iload_n X dJ7_fill_53178_12 rfl ?_
        obtain ⟨h13, e13, hs⟩ := gg_bind hs
        refine zr_is X e13 dJ7_fill_53178_13 ?_
        refine tt_iinc (v := x2 + 1) X dJ7_fill_53178_14 rfl rfl (Nat.le_of_ble_eq_true rfl) ?_
        refine tt_goto (tgt := 5) X dJ7_fill_53178_17 (by decide) ?_
        refine tt_drop [0, 1, 2, 3] ?_
        exact t_5 b0 x1 (x2 + 1) x3 h13 hs
  refine tt_iconst (v := 0) X dJ7_fill_53178_0 (by decide) ?_
  refine tt_istore_n X dJ7_fill_53178_1 (Nat.le_of_ble_eq_true rfl) ?_
  refine tt_aload_n X dJ7_fill_53178_2 rfl ?_
  obtain ⟨z3, e3, hs⟩ := gg_bind hs
  refine zr_len X e3 dJ7_fill_53178_3 ?_
  refine tt_istore_n X dJ7_fill_53178_4 (Nat.le_of_ble_eq_true rfl) ?_
  refine tt_drop [0, 1, 2, 3] ?_
  exact t_5 1000 b0 x1 0 z3 h hs

def s_J7_fill_d0a16_L6 : Nat → Nat → Int64 → Int32 → Int32 → tt_H → Option (Unit × tt_H)
  | 0, _, _, _, _, _ => none
  | n + 1, b0, y1, x3, x4, h =>
    if x4 ≤ x3 then
      some ((), h)
    else
    (gg_js h b0 x3 y1).bind fun h15 =>
    s_J7_fill_d0a16_L6 n b0 y1 (x3 + 1) x4 h15
def s_J7_fill_d0a16 (b0 : Nat) (y1 : Int64) (h : tt_H) : Option (Unit × tt_H) :=
  (gg_len h b0).bind fun z3 =>
  s_J7_fill_d0a16_L6 1000 b0 y1 0 z3 h
abbrev rm_J7_fill_d0a16 : Room := { frames := 0, cells := 0, slots := 0, locals := 0 }
set_option maxHeartbeats 4000000 in
set_option maxRecDepth 100000 in
theorem c_J7_fill_d0a16 (l : Launch) {b0 : Nat} {y1 : Int64} {h : tt_H} {ρ : Unit × tt_H} (hs : s_J7_fill_d0a16 b0 y1 h = some ρ) : tt_M tt_cl l yJ7_fill_d0a16 wsJ7_fill_d0a16 rm_J7_fill_d0a16 0 0 false [.ref b0, .long y1] h (tt_ret (none) ρ.2) := by
  refine tt_M.of0 (cc := cJ7_fill_d0a16) (maxL := 5) (ret := none) (by decide +kernel) rfl (Nat.le_of_ble_eq_true rfl) ?_
  intro p e s m args below meth c D ca ad n0 sz hwf hsz X hini
  unfold s_J7_fill_d0a16 at hs
  have t_6 : ∀ (fu : Nat) (b0 : Nat) (y1 : Int64) (x3 : Int32) (x4 : Int32) (h : tt_H), s_J7_fill_d0a16_L6 fu b0 y1 x3 x4 h = some ρ → tt_T tt_cl (p, l, e, rm_J7_fill_d0a16, s, m, args, below, meth, c, MQ below (tt_Q tt_cl D ca ad n0 sz false (tt_ret (none) ρ.2)) args s 0 0 (tt_A ad n0 sz), D, ca, tt_A ad n0 sz, 5, some n0) ad 0 0 6 [(0, .ref b0), (1, .long y1), (3, .int x3), (4, .int x4)] [] h := by
    intro fu
    induction fu with
    | zero => intro b0 y1 x3 x4 h hs; exact absurd hs (by rw [s_J7_fill_d0a16_L6]; exact fun q => by cases q)
    | succ n ih =>
      intro b0 y1 x3 x4 h hs
      rw [s_J7_fill_d0a16_L6] at hs
      have t_6 := ih
      refine tt_iload_n X dJ7_fill_d0a16_6 rfl ?_
      refine tt_iload X dJ7_fill_d0a16_7 rfl ?_
      refine tt_icmp_ge (tgt := 22) X dJ7_fill_d0a16_9 (by decide) (fun c9 => ?_) (fun c9 => ?_)
      · rw [if_pos c9] at hs
        cases hs
        exact tt_vret X rfl dJ7_fill_d0a16_22 ⟨rfl, rfl⟩
      · rw [if_neg c9] at hs
        refine tt_aload_n X dJ7_fill_d0a16_12 rfl ?_
        refine tt_iload_n X dJ7_fill_d0a16_13 rfl ?_
        refine tt_lload_n X dJ7_fill_d0a16_14 rfl ?_
        obtain ⟨h15, e15, hs⟩ := gg_bind hs
        refine zr_js X e15 dJ7_fill_d0a16_15 ?_
        refine tt_iinc (v := x3 + 1) X dJ7_fill_d0a16_16 rfl rfl (Nat.le_of_ble_eq_true rfl) ?_
        refine tt_goto (tgt := 6) X dJ7_fill_d0a16_19 (by decide) ?_
        refine tt_drop [0, 1, 3, 4] ?_
        exact t_6 b0 y1 (x3 + 1) x4 h15 hs
  refine tt_iconst (v := 0) X dJ7_fill_d0a16_0 (by decide) ?_
  refine tt_istore_n X dJ7_fill_d0a16_1 (Nat.le_of_ble_eq_true rfl) ?_
  refine tt_aload_n X dJ7_fill_d0a16_2 rfl ?_
  obtain ⟨z3, e3, hs⟩ := gg_bind hs
  refine zr_len X e3 dJ7_fill_d0a16_3 ?_
  refine tt_istore X dJ7_fill_d0a16_4 (Nat.le_of_ble_eq_true rfl) ?_
  refine tt_drop [0, 1, 3, 4] ?_
  exact t_6 1000 b0 y1 0 z3 h hs

theorem in_X4_clear_X4 : ∀ w ∈ u_ws RX4 TX4 1, w ∈ wsX4_clear := by decide +kernel
def s_X4_clear (b0 : Nat) (h : tt_H) : Option (Unit × tt_H) :=
  (gg_fr h b0 4 0).bind fun o1 =>
  (s_J7_fill_d0a16 o1 0 h).bind fun w5 =>
  some ((), w5.2)
abbrev rm_X4_clear : Room := { frames := 1, cells := 0, slots := 0, locals := 24 }
set_option maxHeartbeats 4000000 in
set_option maxRecDepth 100000 in
theorem c_X4_clear (l : Launch) {b0 : Nat} {h : tt_H} {ρ : Unit × tt_H} (hs : s_X4_clear b0 h = some ρ) : tt_M tt_cl l yX4_clear wsX4_clear rm_X4_clear 0 0 false [.ref b0] h (tt_ret (none) ρ.2) := by
  refine tt_M.of0 (cc := cX4_clear) (maxL := 1) (ret := none) (by decide +kernel) rfl (Nat.le_of_ble_eq_true rfl) ?_
  intro p e s m args below meth c D ca ad n0 sz hwf hsz X hini
  unfold s_X4_clear at hs
  refine tt_aload_n X dX4_clear_0 rfl ?_
  obtain ⟨o1, e1, hs⟩ := gg_bind hs
  refine zr_fr X e1 rfl in_X4_clear_X4 (by decide) (by decide +kernel) rfl dX4_clear_1 ?_
  refine tt_lconst (v := 0) X dX4_clear_4 (by decide) ?_
  obtain ⟨w5, e5, hs⟩ := gg_bind hs
  refine zr_callS X (c_J7_fill_d0a16 l e5) (fun hts => va_cwS 2 hts gX4_clear_J7_fill_d0a16 rfl rfl rfl (by decide +kernel) ⟨by decide, by decide⟩) rfl rfl (Nat.le_of_ble_eq_true rfl) dX4_clear_5 ⟨Nat.zero_le _, Nat.zero_le _⟩ ?_
  cases hs
  exact tt_vret X rfl dX4_clear_8 ⟨rfl, rfl⟩

def s_X4_isInside (x0 : Int32) (x1 : Int32) (h : tt_H) : Option (Int32 × tt_H) :=
  if x0 < 0 then
    some (0, h)
  else
  if 13 ≤ x0 then
    some (0, h)
  else
  if x1 < 0 then
    some (0, h)
  else
  if 13 ≤ x1 then
    some (0, h)
  else
  some (1, h)
abbrev rm_X4_isInside : Room := { frames := 0, cells := 0, slots := 0, locals := 0 }
set_option maxHeartbeats 4000000 in
set_option maxRecDepth 100000 in
theorem c_X4_isInside (l : Launch) {x0 : Int32} {x1 : Int32} {h : tt_H} {ρ : Int32 × tt_H} (hs : s_X4_isInside x0 x1 h = some ρ) : tt_M tt_cl l yX4_isInside wsX4_isInside rm_X4_isInside 0 0 false [.int x0, .int x1] h (tt_ret (some (.int ρ.1)) ρ.2) := by
  refine tt_M.of0 (cc := cX4_isInside) (maxL := 2) (ret := (some .boolean)) (by decide +kernel) rfl (Nat.le_of_ble_eq_true rfl) ?_
  intro p e s m args below meth c D ca ad n0 sz hwf hsz X hini
  unfold s_X4_isInside at hs
  refine tt_iload_n X dX4_isInside_0 rfl ?_
  refine tt_if_lt (tgt := 24) X dX4_isInside_1 (by decide) (fun c1 => ?_) (fun c1 => ?_)
  · rw [if_pos c1] at hs
    refine tt_iconst (v := 0) X dX4_isInside_24 (by decide) ?_
    cases hs
    exact tt_zret X rfl rfl dX4_isInside_25 ⟨rfl, rfl⟩
  · rw [if_neg c1] at hs
    refine tt_iload_n X dX4_isInside_4 rfl ?_
    refine tt_bipush (v := 13) X dX4_isInside_5 (by decide) ?_
    refine tt_icmp_ge (tgt := 24) X dX4_isInside_7 (by decide) (fun c7 => ?_) (fun c7 => ?_)
    · rw [if_pos c7] at hs
      refine tt_iconst (v := 0) X dX4_isInside_24 (by decide) ?_
      cases hs
      exact tt_zret X rfl rfl dX4_isInside_25 ⟨rfl, rfl⟩
    · rw [if_neg c7] at hs
      refine tt_iload_n X dX4_isInside_10 rfl ?_
      refine tt_if_lt (tgt := 24) X dX4_isInside_11 (by decide) (fun c11 => ?_) (fun c11 => ?_)
      · rw [if_pos c11] at hs
        refine tt_iconst (v := 0) X dX4_isInside_24 (by decide) ?_
        cases hs
        exact tt_zret X rfl rfl dX4_isInside_25 ⟨rfl, rfl⟩
      · rw [if_neg c11] at hs
        refine tt_iload_n X dX4_isInside_14 rfl ?_
        refine tt_bipush (v := 13) X dX4_isInside_15 (by decide) ?_
        refine tt_icmp_ge (tgt := 24) X dX4_isInside_17 (by decide) (fun c17 => ?_) (fun c17 => ?_)
        · rw [if_pos c17] at hs
          refine tt_iconst (v := 0) X dX4_isInside_24 (by decide) ?_
          cases hs
          exact tt_zret X rfl rfl dX4_isInside_25 ⟨rfl, rfl⟩
        · rw [if_neg c17] at hs
          refine tt_iconst (v := 1) X dX4_isInside_20 (by decide) ?_
          refine tt_goto (tgt := 25) X dX4_isInside_21 (by decide) ?_
          cases hs
          exact tt_zret X rfl rfl dX4_isInside_25 ⟨rfl, rfl⟩

theorem in_X4_write_X4 : ∀ w ∈ u_ws RX4 TX4 1, w ∈ wsX4_write := by decide +kernel
def s_X4_write (b0 : Nat) (x1 : Int32) (x2 : Int32) (y3 : Int64) (h : tt_H) : Option (Unit × tt_H) :=
  (s_X4_isInside x1 x2 h).bind fun w2 =>
  if w2.1 = 0 then
    some ((), w2.2)
  else
  (gg_fr w2.2 b0 4 0).bind fun o9 =>
  (gg_js w2.2 o9 ((x1 * 13) + x2) y3).bind fun h19 =>
  some ((), h19)
abbrev rm_X4_write : Room := { frames := 1, cells := 0, slots := 0, locals := 21 }
set_option maxHeartbeats 4000000 in
set_option maxRecDepth 100000 in
theorem c_X4_write (l : Launch) {b0 : Nat} {x1 : Int32} {x2 : Int32} {y3 : Int64} {h : tt_H} {ρ : Unit × tt_H} (hs : s_X4_write b0 x1 x2 y3 h = some ρ) : tt_M tt_cl l yX4_write wsX4_write rm_X4_write 0 0 false [.ref b0, .int x1, .int x2, .long y3] h (tt_ret (none) ρ.2) := by
  refine tt_M.of0 (cc := cX4_write) (maxL := 5) (ret := none) (by decide +kernel) rfl (Nat.le_of_ble_eq_true rfl) ?_
  intro p e s m args below meth c D ca ad n0 sz hwf hsz X hini
  unfold s_X4_write at hs
  refine tt_iload_n X dX4_write_0 rfl ?_
  refine tt_iload_n X dX4_write_1 rfl ?_
  obtain ⟨w2, e2, hs⟩ := gg_bind hs
  refine zr_callS X (c_X4_isInside l e2) (fun hts => va_cwS 2 hts gX4_write_X4_isInside rfl rfl rfl (by decide +kernel) ⟨by decide, by decide⟩) rfl rfl (Nat.le_of_ble_eq_true rfl) dX4_write_2 ⟨Nat.zero_le _, Nat.zero_le _⟩ ?_
  refine tt_if_eq (tgt := 20) X dX4_write_5 (by decide) (fun c5 => ?_) (fun c5 => ?_)
  · rw [if_pos c5] at hs
    cases hs
    exact tt_vret X rfl dX4_write_20 ⟨rfl, rfl⟩
  · rw [if_neg c5] at hs
    refine tt_aload_n X dX4_write_8 rfl ?_
    obtain ⟨o9, e9, hs⟩ := gg_bind hs
    refine zr_fr X e9 rfl in_X4_write_X4 (by decide) (by decide +kernel) rfl dX4_write_9 ?_
    refine tt_iload_n X dX4_write_12 rfl ?_
    refine tt_bipush (v := 13) X dX4_write_13 (by decide) ?_
    refine tt_imul X dX4_write_15 ?_
    refine tt_iload_n X dX4_write_16 rfl ?_
    refine tt_iadd X dX4_write_17 ?_
    refine tt_lload_n X dX4_write_18 rfl ?_
    obtain ⟨h19, e19, hs⟩ := gg_bind hs
    refine zr_js X e19 dX4_write_19 ?_
    cases hs
    exact tt_vret X rfl dX4_write_20 ⟨rfl, rfl⟩

theorem in_X2_size_X2 : ∀ w ∈ u_ws RX2 TX2 2, w ∈ wsX2_size := by decide +kernel
def s_X2_size (b0 : Nat) (h : tt_H) : Option (Int32 × tt_H) :=
  (gg_fi h b0 2 1).bind fun z1 =>
  some (z1, h)
abbrev rm_X2_size : Room := { frames := 0, cells := 0, slots := 0, locals := 0 }
set_option maxHeartbeats 4000000 in
set_option maxRecDepth 100000 in
theorem c_X2_size (l : Launch) {b0 : Nat} {h : tt_H} {ρ : Int32 × tt_H} (hs : s_X2_size b0 h = some ρ) : tt_M tt_cl l yX2_size wsX2_size rm_X2_size 0 0 false [.ref b0] h (tt_ret (some (.int ρ.1)) ρ.2) := by
  refine tt_M.of0 (cc := cX2_size) (maxL := 1) (ret := (some .int)) (by decide +kernel) rfl (Nat.le_of_ble_eq_true rfl) ?_
  intro p e s m args below meth c D ca ad n0 sz hwf hsz X hini
  unfold s_X2_size at hs
  refine tt_aload_n X dX2_size_0 rfl ?_
  obtain ⟨z1, e1, hs⟩ := gg_bind hs
  refine zr_fi X e1 rfl in_X2_size_X2 (by decide) (by decide +kernel) rfl dX2_size_1 ?_
  cases hs
  exact tt_iret X rfl dX2_size_4 ⟨rfl, rfl⟩

theorem in_X4_at_X4 : ∀ w ∈ u_ws RX4 TX4 1, w ∈ wsX4_at := by decide +kernel
def s_X4_at (b0 : Nat) (x1 : Int32) (x2 : Int32) (h : tt_H) : Option (Int64 × tt_H) :=
  (s_X4_isInside x1 x2 h).bind fun w2 =>
  if w2.1 = 0 then
    some (0, w2.2)
  else
  (gg_fr w2.2 b0 4 0).bind fun o9 =>
  (gg_jl w2.2 o9 ((x1 * 13) + x2)).bind fun z18 =>
  some (z18, w2.2)
abbrev rm_X4_at : Room := { frames := 1, cells := 0, slots := 0, locals := 21 }
set_option maxHeartbeats 4000000 in
set_option maxRecDepth 100000 in
theorem c_X4_at (l : Launch) {b0 : Nat} {x1 : Int32} {x2 : Int32} {h : tt_H} {ρ : Int64 × tt_H} (hs : s_X4_at b0 x1 x2 h = some ρ) : tt_M tt_cl l yX4_at wsX4_at rm_X4_at 0 0 false [.ref b0, .int x1, .int x2] h (tt_ret (some (.long ρ.1)) ρ.2) := by
  refine tt_M.of0 (cc := cX4_at) (maxL := 3) (ret := (some .long)) (by decide +kernel) rfl (Nat.le_of_ble_eq_true rfl) ?_
  intro p e s m args below meth c D ca ad n0 sz hwf hsz X hini
  unfold s_X4_at at hs
  refine tt_iload_n X dX4_at_0 rfl ?_
  refine tt_iload_n X dX4_at_1 rfl ?_
  obtain ⟨w2, e2, hs⟩ := gg_bind hs
  refine zr_callS X (c_X4_isInside l e2) (fun hts => va_cwS 2 hts gX4_at_X4_isInside rfl rfl rfl (by decide +kernel) ⟨by decide, by decide⟩) rfl rfl (Nat.le_of_ble_eq_true rfl) dX4_at_2 ⟨Nat.zero_le _, Nat.zero_le _⟩ ?_
  refine tt_if_eq (tgt := 22) X dX4_at_5 (by decide) (fun c5 => ?_) (fun c5 => ?_)
  · rw [if_pos c5] at hs
    refine tt_lconst (v := 0) X dX4_at_22 (by decide) ?_
    cases hs
    exact tt_lret X rfl dX4_at_23 ⟨rfl, rfl⟩
  · rw [if_neg c5] at hs
    refine tt_aload_n X dX4_at_8 rfl ?_
    obtain ⟨o9, e9, hs⟩ := gg_bind hs
    refine zr_fr X e9 rfl in_X4_at_X4 (by decide) (by decide +kernel) rfl dX4_at_9 ?_
    refine tt_iload_n X dX4_at_12 rfl ?_
    refine tt_bipush (v := 13) X dX4_at_13 (by decide) ?_
    refine tt_imul X dX4_at_15 ?_
    refine tt_iload_n X dX4_at_16 rfl ?_
    refine tt_iadd X dX4_at_17 ?_
    obtain ⟨z18, e18, hs⟩ := gg_bind hs
    refine zr_jl X e18 dX4_at_18 ?_
    refine tt_goto (tgt := 23) X dX4_at_19 (by decide) ?_
    cases hs
    exact tt_lret X rfl dX4_at_23 ⟨rfl, rfl⟩

theorem in_X2_has_X2 : ∀ w ∈ u_ws RX2 TX2 2, w ∈ wsX2_has := by decide +kernel
def s_X2_has (b0 : Nat) (x1 : Int32) (h : tt_H) : Option (Int32 × tt_H) :=
  if x1 < 0 then
    some (0, h)
  else
  (gg_fi h b0 2 1).bind fun z6 =>
  if z6 ≤ x1 then
    some (0, h)
  else
  some (1, h)
abbrev rm_X2_has : Room := { frames := 0, cells := 0, slots := 0, locals := 0 }
set_option maxHeartbeats 4000000 in
set_option maxRecDepth 100000 in
theorem c_X2_has (l : Launch) {b0 : Nat} {x1 : Int32} {h : tt_H} {ρ : Int32 × tt_H} (hs : s_X2_has b0 x1 h = some ρ) : tt_M tt_cl l yX2_has wsX2_has rm_X2_has 0 0 false [.ref b0, .int x1] h (tt_ret (some (.int ρ.1)) ρ.2) := by
  refine tt_M.of0 (cc := cX2_has) (maxL := 2) (ret := (some .boolean)) (by decide +kernel) rfl (Nat.le_of_ble_eq_true rfl) ?_
  intro p e s m args below meth c D ca ad n0 sz hwf hsz X hini
  unfold s_X2_has at hs
  refine tt_iload_n X dX2_has_0 rfl ?_
  refine tt_if_lt (tgt := 16) X dX2_has_1 (by decide) (fun c1 => ?_) (fun c1 => ?_)
  · rw [if_pos c1] at hs
    refine tt_iconst (v := 0) X dX2_has_16 (by decide) ?_
    cases hs
    exact tt_zret X rfl rfl dX2_has_17 ⟨rfl, rfl⟩
  · rw [if_neg c1] at hs
    refine tt_iload_n X dX2_has_4 rfl ?_
    refine tt_aload_n X dX2_has_5 rfl ?_
    obtain ⟨z6, e6, hs⟩ := gg_bind hs
    refine zr_fi X e6 rfl in_X2_has_X2 (by decide) (by decide +kernel) rfl dX2_has_6 ?_
    refine tt_icmp_ge (tgt := 16) X dX2_has_9 (by decide) (fun c9 => ?_) (fun c9 => ?_)
    · rw [if_pos c9] at hs
      refine tt_iconst (v := 0) X dX2_has_16 (by decide) ?_
      cases hs
      exact tt_zret X rfl rfl dX2_has_17 ⟨rfl, rfl⟩
    · rw [if_neg c9] at hs
      refine tt_iconst (v := 1) X dX2_has_12 (by decide) ?_
      refine tt_goto (tgt := 17) X dX2_has_13 (by decide) ?_
      cases hs
      exact tt_zret X rfl rfl dX2_has_17 ⟨rfl, rfl⟩

theorem in_X2_at_X2 : ∀ w ∈ u_ws RX2 TX2 2, w ∈ wsX2_at := by decide +kernel
def s_X2_at (b0 : Nat) (x1 : Int32) (h : tt_H) : Option (Int32 × tt_H) :=
  (gg_obj h b0 2).bind fun _ =>
  (s_X2_has b0 x1 h).bind fun w2 =>
  if w2.1 = 0 then
    some ((-9), w2.2)
  else
  (gg_fr w2.2 b0 2 0).bind fun o9 =>
  (gg_il w2.2 o9 x1).bind fun z13 =>
  some (z13, w2.2)
abbrev rm_X2_at : Room := { frames := 1, cells := 0, slots := 0, locals := 21 }
set_option maxHeartbeats 4000000 in
set_option maxRecDepth 100000 in
theorem c_X2_at (l : Launch) {b0 : Nat} {x1 : Int32} {h : tt_H} {ρ : Int32 × tt_H} (hs : s_X2_at b0 x1 h = some ρ) : tt_M tt_cl l yX2_at wsX2_at rm_X2_at 0 0 false [.ref b0, .int x1] h (tt_ret (some (.int ρ.1)) ρ.2) := by
  refine tt_M.of0 (cc := cX2_at) (maxL := 2) (ret := (some .int)) (by decide +kernel) rfl (Nat.le_of_ble_eq_true rfl) ?_
  intro p e s m args below meth c D ca ad n0 sz hwf hsz X hini
  unfold s_X2_at at hs
  refine tt_aload_n X dX2_at_0 rfl ?_
  refine tt_iload_n X dX2_at_1 rfl ?_
  obtain ⟨o2, f2, hs⟩ := gg_bind hs
  obtain ⟨w2, e2, hs⟩ := gg_bind hs
  refine zr_callV X f2 rfl (c_X2_has l e2) (fun hts => cwV 1 hts gX2_at_X2_has rfl rfl rfl (by decide +kernel) ⟨by decide, by decide⟩) rfl rfl (Nat.le_of_ble_eq_true rfl) dX2_at_2 ⟨Nat.zero_le _, Nat.zero_le _⟩ ?_
  refine tt_if_eq (tgt := 17) X dX2_at_5 (by decide) (fun c5 => ?_) (fun c5 => ?_)
  · rw [if_pos c5] at hs
    refine tt_bipush (v := (-9)) X dX2_at_17 (by decide) ?_
    cases hs
    exact tt_iret X rfl dX2_at_19 ⟨rfl, rfl⟩
  · rw [if_neg c5] at hs
    refine tt_aload_n X dX2_at_8 rfl ?_
    obtain ⟨o9, e9, hs⟩ := gg_bind hs
    refine zr_fr X e9 rfl in_X2_at_X2 (by decide) (by decide +kernel) rfl dX2_at_9 ?_
    refine tt_iload_n X dX2_at_12 rfl ?_
    obtain ⟨z13, e13, hs⟩ := gg_bind hs
    refine zr_il X e13 dX2_at_13 ?_
    refine tt_goto (tgt := 19) X dX2_at_14 (by decide) ?_
    cases hs
    exact tt_iret X rfl dX2_at_19 ⟨rfl, rfl⟩

def s_X4_more (b0 : Nat) (x1 : Int32) (x2 : Int32) (y3 : Int64) (h : tt_H) : Option (Unit × tt_H) :=
  (gg_obj h b0 4).bind fun _ =>
  (s_X4_at b0 x1 x2 h).bind fun w6 =>
  (gg_obj w6.2 b0 4).bind fun _ =>
  (s_X4_write b0 x1 x2 (w6.1 + y3) w6.2).bind fun w11 =>
  some ((), w11.2)
abbrev rm_X4_more : Room := { frames := 2, cells := 0, slots := 0, locals := 45 }
set_option maxHeartbeats 4000000 in
set_option maxRecDepth 100000 in
theorem c_X4_more (l : Launch) {b0 : Nat} {x1 : Int32} {x2 : Int32} {y3 : Int64} {h : tt_H} {ρ : Unit × tt_H} (hs : s_X4_more b0 x1 x2 y3 h = some ρ) : tt_M tt_cl l yX4_more wsX4_more rm_X4_more 0 0 false [.ref b0, .int x1, .int x2, .long y3] h (tt_ret (none) ρ.2) := by
  refine tt_M.of0 (cc := cX4_more) (maxL := 5) (ret := none) (by decide +kernel) rfl (Nat.le_of_ble_eq_true rfl) ?_
  intro p e s m args below meth c D ca ad n0 sz hwf hsz X hini
  unfold s_X4_more at hs
  refine tt_aload_n X dX4_more_0 rfl ?_
  refine tt_iload_n X dX4_more_1 rfl ?_
  refine tt_iload_n X dX4_more_2 rfl ?_
  refine tt_aload_n X dX4_more_3 rfl ?_
  refine tt_iload_n X dX4_more_4 rfl ?_
  refine tt_iload_n X dX4_more_5 rfl ?_
  obtain ⟨o6, f6, hs⟩ := gg_bind hs
  obtain ⟨w6, e6, hs⟩ := gg_bind hs
  refine zr_callV X f6 rfl (c_X4_at l e6) (fun hts => cwV 2 hts gX4_more_X4_at rfl rfl rfl (by decide +kernel) ⟨by decide, by decide⟩) rfl rfl (Nat.le_of_ble_eq_true rfl) dX4_more_6 ⟨Nat.zero_le _, Nat.zero_le _⟩ ?_
  refine tt_lload_n X dX4_more_9 rfl ?_
  refine tt_ladd X dX4_more_10 ?_
  obtain ⟨o11, f11, hs⟩ := gg_bind hs
  obtain ⟨w11, e11, hs⟩ := gg_bind hs
  refine zr_callV X f11 rfl (c_X4_write l e11) (fun hts => cwV 3 hts gX4_more_X4_write rfl rfl rfl (by decide +kernel) ⟨by decide, by decide⟩) rfl rfl (Nat.le_of_ble_eq_true rfl) dX4_more_11 ⟨Nat.zero_le _, Nat.zero_le _⟩ ?_
  cases hs
  exact tt_vret X rfl dX4_more_14 ⟨rfl, rfl⟩

theorem in_X2_clear_X2 : ∀ w ∈ u_ws RX2 TX2 2, w ∈ wsX2_clear := by decide +kernel
def s_X2_clear (b0 : Nat) (h : tt_H) : Option (Unit × tt_H) :=
  (gg_put h b0 2 1 (.int 0)).bind fun h2 =>
  some ((), h2)
abbrev rm_X2_clear : Room := { frames := 0, cells := 0, slots := 0, locals := 0 }
set_option maxHeartbeats 4000000 in
set_option maxRecDepth 100000 in
theorem c_X2_clear (l : Launch) {b0 : Nat} {h : tt_H} {ρ : Unit × tt_H} (hs : s_X2_clear b0 h = some ρ) : tt_M tt_cl l yX2_clear wsX2_clear rm_X2_clear 0 0 false [.ref b0] h (tt_ret (none) ρ.2) := by
  refine tt_M.of0 (cc := cX2_clear) (maxL := 1) (ret := none) (by decide +kernel) rfl (Nat.le_of_ble_eq_true rfl) ?_
  intro p e s m args below meth c D ca ad n0 sz hwf hsz X hini
  unfold s_X2_clear at hs
  refine tt_aload_n X dX2_clear_0 rfl ?_
  refine tt_iconst (v := 0) X dX2_clear_1 (by decide) ?_
  obtain ⟨h2, e2, hs⟩ := gg_bind hs
  refine zr_put X e2 rfl in_X2_clear_X2 tyX2 tyX2_ok nmX2 (by decide) (by decide +kernel) rfl rfl (fun _ => rfl) (fun _ => rfl) dX2_clear_2 ?_
  cases hs
  exact tt_vret X rfl dX2_clear_5 ⟨rfl, rfl⟩

theorem in_X2_hasWord_X2 : ∀ w ∈ u_ws RX2 TX2 2, w ∈ wsX2_hasWord := by decide +kernel
def s_X2_hasWord_L2 : Nat → Nat → Int32 → Int32 → tt_H → Option (Int32 × tt_H)
  | 0, _, _, _, _ => none
  | n + 1, b0, x1, x2, h =>
    (gg_fi h b0 2 1).bind fun z4 =>
    if z4 ≤ x2 then
      some (0, h)
    else
    (gg_fr h b0 2 0).bind fun o11 =>
    (gg_il h o11 x2).bind fun z15 =>
    if z15 = x1 then
      some (1, h)
    else
    s_X2_hasWord_L2 n b0 x1 (x2 + 1) h
def s_X2_hasWord (b0 : Nat) (x1 : Int32) (h : tt_H) : Option (Int32 × tt_H) :=
  s_X2_hasWord_L2 1000 b0 x1 0 h
abbrev rm_X2_hasWord : Room := { frames := 0, cells := 0, slots := 0, locals := 0 }
set_option maxHeartbeats 4000000 in
set_option maxRecDepth 100000 in
theorem c_X2_hasWord (l : Launch) {b0 : Nat} {x1 : Int32} {h : tt_H} {ρ : Int32 × tt_H} (hs : s_X2_hasWord b0 x1 h = some ρ) : tt_M tt_cl l yX2_hasWord wsX2_hasWord rm_X2_hasWord 0 0 false [.ref b0, .int x1] h (tt_ret (some (.int ρ.1)) ρ.2) := by
  refine tt_M.of0 (cc := cX2_hasWord) (maxL := 3) (ret := (some .boolean)) (by decide +kernel) rfl (Nat.le_of_ble_eq_true rfl) ?_
  intro p e s m args below meth c D ca ad n0 sz hwf hsz X hini
  unfold s_X2_hasWord at hs
  have t_2 : ∀ (fu : Nat) (b0 : Nat) (x1 : Int32) (x2 : Int32) (h : tt_H), s_X2_hasWord_L2 fu b0 x1 x2 h = some ρ → tt_T tt_cl (p, l, e, rm_X2_hasWord, s, m, args, below, meth, c, MQ below (tt_Q tt_cl D ca ad n0 sz false (tt_ret (some (.int ρ.1)) ρ.2)) args s 0 0 (tt_A ad n0 sz), D, ca, tt_A ad n0 sz, 3, some n0) ad 0 0 2 [(0, .ref b0), (1, .int x1), (2, .int x2)] [] h := by
    intro fu
    induction fu with
    | zero => intro b0 x1 x2 h hs; exact absurd hs (by rw [s_X2_hasWord_L2]; exact fun q => by cases q)
    | succ n ih =>
      intro b0 x1 x2 h hs
      rw [s_X2_hasWord_L2] at hs
      have t_2 := ih
      refine tt_iload_n X dX2_hasWord_2 rfl ?_
      refine tt_aload_n X dX2_hasWord_3 rfl ?_
      obtain ⟨z4, e4, hs⟩ := gg_bind hs
      refine zr_fi X e4 rfl in_X2_hasWord_X2 (by decide) (by decide +kernel) rfl dX2_hasWord_4 ?_
      refine tt_icmp_ge (tgt := 28) X dX2_hasWord_7 (by decide) (fun c7 => ?_) (fun c7 => ?_)
      · rw [if_pos c7] at hs
        refine tt_iconst (v := 0) X dX2_hasWord_28 (by decide) ?_
        cases hs
        exact tt_zret X rfl rfl dX2_hasWord_29 ⟨rfl, rfl⟩
      · rw [if_neg c7] at hs
        refine tt_aload_n X dX2_hasWord_10 rfl ?_
        obtain ⟨o11, e11, hs⟩ := gg_bind hs
        refine zr_fr X e11 rfl in_X2_hasWord_X2 (by decide) (by decide +kernel) rfl dX2_hasWord_11 ?_
        refine tt_iload_n X dX2_hasWord_14 rfl ?_
        obtain ⟨z15, e15, hs⟩ := gg_bind hs
        refine zr_il X e15 dX2_hasWord_15 ?_
        refine tt_iload_n X dX2_hasWord_16 rfl ?_
        refine tt_icmp_ne (tgt := 22) X dX2_hasWord_17 (by decide) (fun c17 => ?_) (fun c17 => ?_)
        · rw [if_neg c17] at hs
          refine tt_iinc (v := x2 + 1) X dX2_hasWord_22 rfl rfl (Nat.le_of_ble_eq_true rfl) ?_
          refine tt_goto (tgt := 2) X dX2_hasWord_25 (by decide) ?_
          refine tt_drop [0, 1, 2] ?_
          exact t_2 b0 x1 (x2 + 1) h hs
        · rw [if_pos c17] at hs
          refine tt_iconst (v := 1) X dX2_hasWord_20 (by decide) ?_
          cases hs
          exact tt_zret X rfl rfl dX2_hasWord_21 ⟨rfl, rfl⟩
  refine tt_iconst (v := 0) X dX2_hasWord_0 (by decide) ?_
  refine tt_istore_n X dX2_hasWord_1 (Nat.le_of_ble_eq_true rfl) ?_
  refine tt_drop [0, 1, 2] ?_
  exact t_2 1000 b0 x1 0 h hs

theorem in_X2_isFull_X2 : ∀ w ∈ u_ws RX2 TX2 2, w ∈ wsX2_isFull := by decide +kernel
def s_X2_isFull (b0 : Nat) (h : tt_H) : Option (Int32 × tt_H) :=
  (gg_fi h b0 2 1).bind fun z1 =>
  if z1 < 12 then
    some (0, h)
  else
  some (1, h)
abbrev rm_X2_isFull : Room := { frames := 0, cells := 0, slots := 0, locals := 0 }
set_option maxHeartbeats 4000000 in
set_option maxRecDepth 100000 in
theorem c_X2_isFull (l : Launch) {b0 : Nat} {h : tt_H} {ρ : Int32 × tt_H} (hs : s_X2_isFull b0 h = some ρ) : tt_M tt_cl l yX2_isFull wsX2_isFull rm_X2_isFull 0 0 false [.ref b0] h (tt_ret (some (.int ρ.1)) ρ.2) := by
  refine tt_M.of0 (cc := cX2_isFull) (maxL := 1) (ret := (some .boolean)) (by decide +kernel) rfl (Nat.le_of_ble_eq_true rfl) ?_
  intro p e s m args below meth c D ca ad n0 sz hwf hsz X hini
  unfold s_X2_isFull at hs
  refine tt_aload_n X dX2_isFull_0 rfl ?_
  obtain ⟨z1, e1, hs⟩ := gg_bind hs
  refine zr_fi X e1 rfl in_X2_isFull_X2 (by decide) (by decide +kernel) rfl dX2_isFull_1 ?_
  refine tt_bipush (v := 12) X dX2_isFull_4 (by decide) ?_
  refine tt_icmp_lt (tgt := 13) X dX2_isFull_6 (by decide) (fun c6 => ?_) (fun c6 => ?_)
  · rw [if_pos c6] at hs
    refine tt_iconst (v := 0) X dX2_isFull_13 (by decide) ?_
    cases hs
    exact tt_zret X rfl rfl dX2_isFull_14 ⟨rfl, rfl⟩
  · rw [if_neg c6] at hs
    refine tt_iconst (v := 1) X dX2_isFull_9 (by decide) ?_
    refine tt_goto (tgt := 14) X dX2_isFull_10 (by decide) ?_
    cases hs
    exact tt_zret X rfl rfl dX2_isFull_14 ⟨rfl, rfl⟩

theorem in_X2_insert_X2 : ∀ w ∈ u_ws RX2 TX2 2, w ∈ wsX2_insert := by decide +kernel
def s_X2_insert_L25 : Nat → Nat → Int32 → Int32 → Int32 → tt_H → Option (Unit × tt_H)
  | 0, _, _, _, _, _ => none
  | n + 1, b0, x1, x2, x3, h =>
    if x3 ≤ x1 then
      (gg_fr h b0 2 0).bind fun o51 =>
      (gg_is h o51 x1 x2).bind fun h56 =>
      (gg_fi h56 b0 2 1).bind fun z59 =>
      (gg_put h56 b0 2 1 (.int (z59 + 1))).bind fun h64 =>
      some ((), h64)
    else
    (gg_fr h b0 2 0).bind fun o31 =>
    (gg_fr h b0 2 0).bind fun o36 =>
    (gg_il h o36 (x3 - 1)).bind fun z42 =>
    (gg_is h o31 x3 z42).bind fun h43 =>
    s_X2_insert_L25 n b0 x1 x2 (x3 + (-1)) h43
def s_X2_insert (b0 : Nat) (x1 : Int32) (x2 : Int32) (h : tt_H) : Option (Unit × tt_H) :=
  (gg_obj h b0 2).bind fun _ =>
  (s_X2_isFull b0 h).bind fun w1 =>
  if w1.1 = 0 then
    if x1 < 0 then
      some ((), w1.2)
    else
    (gg_fi w1.2 b0 2 1).bind fun z13 =>
    if x1 ≤ z13 then
      (gg_fi w1.2 b0 2 1).bind fun z21 =>
      s_X2_insert_L25 1000 b0 x1 x2 z21 w1.2
    else
    some ((), w1.2)
  else
  some ((), w1.2)
abbrev rm_X2_insert : Room := { frames := 1, cells := 0, slots := 0, locals := 20 }
set_option maxHeartbeats 4000000 in
set_option maxRecDepth 100000 in
theorem c_X2_insert (l : Launch) {b0 : Nat} {x1 : Int32} {x2 : Int32} {h : tt_H} {ρ : Unit × tt_H} (hs : s_X2_insert b0 x1 x2 h = some ρ) : tt_M tt_cl l yX2_insert wsX2_insert rm_X2_insert 0 0 false [.ref b0, .int x1, .int x2] h (tt_ret (none) ρ.2) := by
  refine tt_M.of0 (cc := cX2_insert) (maxL := 4) (ret := none) (by decide +kernel) rfl (Nat.le_of_ble_eq_true rfl) ?_
  intro p e s m args below meth c D ca ad n0 sz hwf hsz X hini
  unfold s_X2_insert at hs
  have t_25 : ∀ (fu : Nat) (b0 : Nat) (x1 : Int32) (x2 : Int32) (x3 : Int32) (h : tt_H), s_X2_insert_L25 fu b0 x1 x2 x3 h = some ρ → tt_T tt_cl (p, l, e, rm_X2_insert, s, m, args, below, meth, c, MQ below (tt_Q tt_cl D ca ad n0 sz false (tt_ret (none) ρ.2)) args s 0 0 (tt_A ad n0 sz), D, ca, tt_A ad n0 sz, 4, some n0) ad 0 0 25 [(0, .ref b0), (1, .int x1), (2, .int x2), (3, .int x3)] [] h := by
    intro fu
    induction fu with
    | zero => intro b0 x1 x2 x3 h hs; exact absurd hs (by rw [s_X2_insert_L25]; exact fun q => by cases q)
    | succ n ih =>
      intro b0 x1 x2 x3 h hs
      rw [s_X2_insert_L25] at hs
      have t_25 := ih
      refine tt_iload_n X dX2_insert_25 rfl ?_
      refine tt_iload_n X dX2_insert_26 rfl ?_
      refine tt_icmp_le (tgt := 50) X dX2_insert_27 (by decide) (fun c27 => ?_) (fun c27 => ?_)
      · rw [if_pos c27] at hs
        refine tt_aload_n X dX2_insert_50 rfl ?_
        obtain ⟨o51, e51, hs⟩ := gg_bind hs
        refine zr_fr X e51 rfl in_X2_insert_X2 (by decide) (by decide +kernel) rfl dX2_insert_51 ?_
        refine tt_iload_n X dX2_insert_54 rfl ?_
        refine tt_iload_n X dX2_insert_55 rfl ?_
        obtain ⟨h56, e56, hs⟩ := gg_bind hs
        refine zr_is X e56 dX2_insert_56 ?_
        refine tt_aload_n X dX2_insert_57 rfl ?_
        refine tt_dup X dX2_insert_58 rfl ?_
        obtain ⟨z59, e59, hs⟩ := gg_bind hs
        refine zr_fi X e59 rfl in_X2_insert_X2 (by decide) (by decide +kernel) rfl dX2_insert_59 ?_
        refine tt_iconst (v := 1) X dX2_insert_62 (by decide) ?_
        refine tt_iadd X dX2_insert_63 ?_
        obtain ⟨h64, e64, hs⟩ := gg_bind hs
        refine zr_put X e64 rfl in_X2_insert_X2 tyX2 tyX2_ok nmX2 (by decide) (by decide +kernel) rfl rfl (fun _ => rfl) (fun _ => rfl) dX2_insert_64 ?_
        cases hs
        exact tt_vret X rfl dX2_insert_67 ⟨rfl, rfl⟩
      · rw [if_neg c27] at hs
        refine tt_aload_n X dX2_insert_30 rfl ?_
        obtain ⟨o31, e31, hs⟩ := gg_bind hs
        refine zr_fr X e31 rfl in_X2_insert_X2 (by decide) (by decide +kernel) rfl dX2_insert_31 ?_
        refine tt_iload_n X dX2_insert_34 rfl ?_
        refine tt_aload_n X dX2_insert_35 rfl ?_
        obtain ⟨o36, e36, hs⟩ := gg_bind hs
        refine zr_fr X e36 rfl in_X2_insert_X2 (by decide) (by decide +kernel) rfl dX2_insert_36 ?_
        refine tt_iload_n X dX2_insert_39 rfl ?_
        refine tt_iconst (v := 1) X dX2_insert_40 (by decide) ?_
        refine tt_isub X dX2_insert_41 ?_
        obtain ⟨z42, e42, hs⟩ := gg_bind hs
        refine zr_il X e42 dX2_insert_42 ?_
        obtain ⟨h43, e43, hs⟩ := gg_bind hs
        refine zr_is X e43 dX2_insert_43 ?_
        refine tt_iinc (v := x3 + (-1)) X dX2_insert_44 rfl rfl (Nat.le_of_ble_eq_true rfl) ?_
        refine tt_goto (tgt := 25) X dX2_insert_47 (by decide) ?_
        refine tt_drop [0, 1, 2, 3] ?_
        exact t_25 b0 x1 x2 (x3 + (-1)) h43 hs
  refine tt_aload_n X dX2_insert_0 rfl ?_
  obtain ⟨o1, f1, hs⟩ := gg_bind hs
  obtain ⟨w1, e1, hs⟩ := gg_bind hs
  refine zr_callV X f1 rfl (c_X2_isFull l e1) (fun hts => cwV 0 hts gX2_insert_X2_isFull rfl rfl rfl (by decide +kernel) ⟨by decide, by decide⟩) rfl rfl (Nat.le_of_ble_eq_true rfl) dX2_insert_1 ⟨Nat.zero_le _, Nat.zero_le _⟩ ?_
  refine tt_if_ne (tgt := 19) X dX2_insert_4 (by decide) (fun c4 => ?_) (fun c4 => ?_)
  · rw [if_neg c4] at hs
    cases hs
    exact tt_vret X rfl dX2_insert_19 ⟨rfl, rfl⟩
  · rw [if_pos c4] at hs
    refine tt_iload_n X dX2_insert_7 rfl ?_
    refine tt_if_lt (tgt := 19) X dX2_insert_8 (by decide) (fun c8 => ?_) (fun c8 => ?_)
    · rw [if_pos c8] at hs
      cases hs
      exact tt_vret X rfl dX2_insert_19 ⟨rfl, rfl⟩
    · rw [if_neg c8] at hs
      refine tt_iload_n X dX2_insert_11 rfl ?_
      refine tt_aload_n X dX2_insert_12 rfl ?_
      obtain ⟨z13, e13, hs⟩ := gg_bind hs
      refine zr_fi X e13 rfl in_X2_insert_X2 (by decide) (by decide +kernel) rfl dX2_insert_13 ?_
      refine tt_icmp_le (tgt := 20) X dX2_insert_16 (by decide) (fun c16 => ?_) (fun c16 => ?_)
      · rw [if_pos c16] at hs
        refine tt_aload_n X dX2_insert_20 rfl ?_
        obtain ⟨z21, e21, hs⟩ := gg_bind hs
        refine zr_fi X e21 rfl in_X2_insert_X2 (by decide) (by decide +kernel) rfl dX2_insert_21 ?_
        refine tt_istore_n X dX2_insert_24 (Nat.le_of_ble_eq_true rfl) ?_
        refine tt_drop [0, 1, 2, 3] ?_
        exact t_25 1000 b0 x1 x2 z21 w1.2 hs
      · rw [if_neg c16] at hs
        cases hs
        exact tt_vret X rfl dX2_insert_19 ⟨rfl, rfl⟩

theorem in_X6_hasCells_X6 : ∀ w ∈ u_ws RX6 TX6 3, w ∈ wsX6_hasCells := by decide +kernel
def s_X6_hasCells (b0 : Nat) (x1 : Int32) (x2 : Int32) (h : tt_H) : Option (Int32 × tt_H) :=
  if x1 < 0 then
    some (0, h)
  else
  if x2 < 0 then
    some (0, h)
  else
  (gg_fi h b0 6 1).bind fun z14 =>
  if 0 < (lg_cmp (x1.toInt64 + x2.toInt64) z14.toInt64) then
    some (0, h)
  else
  some (1, h)
abbrev rm_X6_hasCells : Room := { frames := 0, cells := 0, slots := 0, locals := 0 }
set_option maxHeartbeats 4000000 in
set_option maxRecDepth 100000 in
theorem c_X6_hasCells (l : Launch) {b0 : Nat} {x1 : Int32} {x2 : Int32} {h : tt_H} {ρ : Int32 × tt_H} (hs : s_X6_hasCells b0 x1 x2 h = some ρ) : tt_M tt_cl l yX6_hasCells wsX6_hasCells rm_X6_hasCells 0 0 false [.ref b0, .int x1, .int x2] h (tt_ret (some (.int ρ.1)) ρ.2) := by
  refine tt_M.of0 (cc := cX6_hasCells) (maxL := 3) (ret := (some .boolean)) (by decide +kernel) rfl (Nat.le_of_ble_eq_true rfl) ?_
  intro p e s m args below meth c D ca ad n0 sz hwf hsz X hini
  unfold s_X6_hasCells at hs
  refine tt_iload_n X dX6_hasCells_0 rfl ?_
  refine tt_if_lt (tgt := 26) X dX6_hasCells_1 (by decide) (fun c1 => ?_) (fun c1 => ?_)
  · rw [if_pos c1] at hs
    refine tt_iconst (v := 0) X dX6_hasCells_26 (by decide) ?_
    cases hs
    exact tt_zret X rfl rfl dX6_hasCells_27 ⟨rfl, rfl⟩
  · rw [if_neg c1] at hs
    refine tt_iload_n X dX6_hasCells_4 rfl ?_
    refine tt_if_lt (tgt := 26) X dX6_hasCells_5 (by decide) (fun c5 => ?_) (fun c5 => ?_)
    · rw [if_pos c5] at hs
      refine tt_iconst (v := 0) X dX6_hasCells_26 (by decide) ?_
      cases hs
      exact tt_zret X rfl rfl dX6_hasCells_27 ⟨rfl, rfl⟩
    · rw [if_neg c5] at hs
      refine tt_iload_n X dX6_hasCells_8 rfl ?_
      refine tt_i2l X dX6_hasCells_9 ?_
      refine tt_iload_n X dX6_hasCells_10 rfl ?_
      refine tt_i2l X dX6_hasCells_11 ?_
      refine tt_ladd X dX6_hasCells_12 ?_
      refine tt_aload_n X dX6_hasCells_13 rfl ?_
      obtain ⟨z14, e14, hs⟩ := gg_bind hs
      refine zr_fi X e14 rfl in_X6_hasCells_X6 (by decide) (by decide +kernel) rfl dX6_hasCells_14 ?_
      refine tt_i2l X dX6_hasCells_17 ?_
      refine tt_lcmp X dX6_hasCells_18 ?_
      refine tt_if_gt (tgt := 26) X dX6_hasCells_19 (by decide) (fun c19 => ?_) (fun c19 => ?_)
      · rw [if_pos c19] at hs
        refine tt_iconst (v := 0) X dX6_hasCells_26 (by decide) ?_
        cases hs
        exact tt_zret X rfl rfl dX6_hasCells_27 ⟨rfl, rfl⟩
      · rw [if_neg c19] at hs
        refine tt_iconst (v := 1) X dX6_hasCells_22 (by decide) ?_
        refine tt_goto (tgt := 27) X dX6_hasCells_23 (by decide) ?_
        cases hs
        exact tt_zret X rfl rfl dX6_hasCells_27 ⟨rfl, rfl⟩

theorem in_X6_at_X6 : ∀ w ∈ u_ws RX6 TX6 3, w ∈ wsX6_at := by decide +kernel
def s_X6_at (b0 : Nat) (x1 : Int32) (h : tt_H) : Option (Int32 × tt_H) :=
  (gg_obj h b0 6).bind fun _ =>
  (s_X6_hasCells b0 x1 1 h).bind fun w3 =>
  if w3.1 = 0 then
    some (0, w3.2)
  else
  (gg_fr w3.2 b0 6 0).bind fun o10 =>
  (gg_il w3.2 o10 x1).bind fun z14 =>
  some (z14, w3.2)
abbrev rm_X6_at : Room := { frames := 1, cells := 0, slots := 0, locals := 22 }
set_option maxHeartbeats 4000000 in
set_option maxRecDepth 100000 in
theorem c_X6_at (l : Launch) {b0 : Nat} {x1 : Int32} {h : tt_H} {ρ : Int32 × tt_H} (hs : s_X6_at b0 x1 h = some ρ) : tt_M tt_cl l yX6_at wsX6_at rm_X6_at 0 0 false [.ref b0, .int x1] h (tt_ret (some (.int ρ.1)) ρ.2) := by
  refine tt_M.of0 (cc := cX6_at) (maxL := 2) (ret := (some .int)) (by decide +kernel) rfl (Nat.le_of_ble_eq_true rfl) ?_
  intro p e s m args below meth c D ca ad n0 sz hwf hsz X hini
  unfold s_X6_at at hs
  refine tt_aload_n X dX6_at_0 rfl ?_
  refine tt_iload_n X dX6_at_1 rfl ?_
  refine tt_iconst (v := 1) X dX6_at_2 (by decide) ?_
  obtain ⟨o3, f3, hs⟩ := gg_bind hs
  obtain ⟨w3, e3, hs⟩ := gg_bind hs
  refine zr_callV X f3 rfl (c_X6_hasCells l e3) (fun hts => cwV 2 hts gX6_at_X6_hasCells rfl rfl rfl (by decide +kernel) ⟨by decide, by decide⟩) rfl rfl (Nat.le_of_ble_eq_true rfl) dX6_at_3 ⟨Nat.zero_le _, Nat.zero_le _⟩ ?_
  refine tt_if_eq (tgt := 18) X dX6_at_6 (by decide) (fun c6 => ?_) (fun c6 => ?_)
  · rw [if_pos c6] at hs
    refine tt_iconst (v := 0) X dX6_at_18 (by decide) ?_
    cases hs
    exact tt_iret X rfl dX6_at_19 ⟨rfl, rfl⟩
  · rw [if_neg c6] at hs
    refine tt_aload_n X dX6_at_9 rfl ?_
    obtain ⟨o10, e10, hs⟩ := gg_bind hs
    refine zr_fr X e10 rfl in_X6_at_X6 (by decide) (by decide +kernel) rfl dX6_at_10 ?_
    refine tt_iload_n X dX6_at_13 rfl ?_
    obtain ⟨z14, e14, hs⟩ := gg_bind hs
    refine zr_il X e14 dX6_at_14 ?_
    refine tt_goto (tgt := 19) X dX6_at_15 (by decide) ?_
    cases hs
    exact tt_iret X rfl dX6_at_19 ⟨rfl, rfl⟩

theorem in_X6_cut_X6 : ∀ w ∈ u_ws RX6 TX6 3, w ∈ wsX6_cut := by decide +kernel
def s_X6_cut (b0 : Nat) (x1 : Int32) (h : tt_H) : Option (Int32 × tt_H) :=
  (gg_fi h b0 6 2).bind fun z1 =>
  if z1 = 0 then
    some (x1.toInt8.toInt32, h)
  else
  (gg_fi h b0 6 2).bind fun z11 =>
  if z11 = 1 then
    some (x1.toInt16.toInt32, h)
  else
  some (x1, h)
abbrev rm_X6_cut : Room := { frames := 0, cells := 0, slots := 0, locals := 0 }
set_option maxHeartbeats 4000000 in
set_option maxRecDepth 100000 in
theorem c_X6_cut (l : Launch) {b0 : Nat} {x1 : Int32} {h : tt_H} {ρ : Int32 × tt_H} (hs : s_X6_cut b0 x1 h = some ρ) : tt_M tt_cl l yX6_cut wsX6_cut rm_X6_cut 0 0 false [.ref b0, .int x1] h (tt_ret (some (.int ρ.1)) ρ.2) := by
  refine tt_M.of0 (cc := cX6_cut) (maxL := 2) (ret := (some .int)) (by decide +kernel) rfl (Nat.le_of_ble_eq_true rfl) ?_
  intro p e s m args below meth c D ca ad n0 sz hwf hsz X hini
  unfold s_X6_cut at hs
  refine tt_aload_n X dX6_cut_0 rfl ?_
  obtain ⟨z1, e1, hs⟩ := gg_bind hs
  refine zr_fi X e1 rfl in_X6_cut_X6 (by decide) (by decide +kernel) rfl dX6_cut_1 ?_
  refine tt_if_ne (tgt := 10) X dX6_cut_4 (by decide) (fun c4 => ?_) (fun c4 => ?_)
  · rw [if_neg c4] at hs
    refine tt_aload_n X dX6_cut_10 rfl ?_
    obtain ⟨z11, e11, hs⟩ := gg_bind hs
    refine zr_fi X e11 rfl in_X6_cut_X6 (by decide) (by decide +kernel) rfl dX6_cut_11 ?_
    refine tt_iconst (v := 1) X dX6_cut_14 (by decide) ?_
    refine tt_icmp_ne (tgt := 23) X dX6_cut_15 (by decide) (fun c15 => ?_) (fun c15 => ?_)
    · rw [if_neg c15] at hs
      refine tt_iload_n X dX6_cut_23 rfl ?_
      cases hs
      exact tt_iret X rfl dX6_cut_24 ⟨rfl, rfl⟩
    · rw [if_pos c15] at hs
      refine tt_iload_n X dX6_cut_18 rfl ?_
      refine tt_i2s X dX6_cut_19 ?_
      refine tt_goto (tgt := 24) X dX6_cut_20 (by decide) ?_
      cases hs
      exact tt_iret X rfl dX6_cut_24 ⟨rfl, rfl⟩
  · rw [if_pos c4] at hs
    refine tt_iload_n X dX6_cut_7 rfl ?_
    refine tt_i2b X dX6_cut_8 ?_
    cases hs
    exact tt_iret X rfl dX6_cut_9 ⟨rfl, rfl⟩

theorem in_X6_drop_X6 : ∀ w ∈ u_ws RX6 TX6 3, w ∈ wsX6_drop := by decide +kernel
def s_X6_drop (b0 : Nat) (h : tt_H) : Option (Unit × tt_H) :=
  (gg_put h b0 6 1 (.int ((-1)))).bind fun h2 =>
  some ((), h2)
abbrev rm_X6_drop : Room := { frames := 0, cells := 0, slots := 0, locals := 0 }
set_option maxHeartbeats 4000000 in
set_option maxRecDepth 100000 in
theorem c_X6_drop (l : Launch) {b0 : Nat} {h : tt_H} {ρ : Unit × tt_H} (hs : s_X6_drop b0 h = some ρ) : tt_M tt_cl l yX6_drop wsX6_drop rm_X6_drop 0 0 false [.ref b0] h (tt_ret (none) ρ.2) := by
  refine tt_M.of0 (cc := cX6_drop) (maxL := 1) (ret := none) (by decide +kernel) rfl (Nat.le_of_ble_eq_true rfl) ?_
  intro p e s m args below meth c D ca ad n0 sz hwf hsz X hini
  unfold s_X6_drop at hs
  refine tt_aload_n X dX6_drop_0 rfl ?_
  refine tt_iconst (v := (-1)) X dX6_drop_1 (by decide) ?_
  obtain ⟨h2, e2, hs⟩ := gg_bind hs
  refine zr_put X e2 rfl in_X6_drop_X6 tyX6 tyX6_ok nmX6 (by decide) (by decide +kernel) rfl rfl (fun _ => rfl) (fun _ => rfl) dX6_drop_2 ?_
  cases hs
  exact tt_vret X rfl dX6_drop_5 ⟨rfl, rfl⟩

theorem in_X6_giveTo_X6 : ∀ w ∈ u_ws RX6 TX6 3, w ∈ wsX6_giveTo := by decide +kernel
def s_X6_giveTo (b0 : Nat) (x1 : Int32) (b2 : Nat) (x3 : Int32) (x4 : Int32) (h : tt_H) : Option (Unit × tt_H) :=
  (gg_obj h b0 6).bind fun _ =>
  (s_X6_hasCells b0 x1 x4 h).bind fun w4 =>
  if w4.1 = 0 then
    some ((), w4.2)
  else
  (gg_obj w4.2 b2 6).bind fun _ =>
  (s_X6_hasCells b2 x3 x4 w4.2).bind fun w14 =>
  if w14.1 = 0 then
    some ((), w14.2)
  else
  (gg_fr w14.2 b0 6 0).bind fun o21 =>
  (gg_fr w14.2 b2 6 0).bind fun o26 =>
  (gg_cp w14.2 o21 x1 o26 x3 x4).bind fun h32 =>
  some ((), h32)
abbrev rm_X6_giveTo : Room := { frames := 1, cells := 0, slots := 0, locals := 40 }
set_option maxHeartbeats 4000000 in
set_option maxRecDepth 100000 in
theorem c_X6_giveTo (l : Launch) {b0 : Nat} {x1 : Int32} {b2 : Nat} {x3 : Int32} {x4 : Int32} {h : tt_H} {ρ : Unit × tt_H} (hs : s_X6_giveTo b0 x1 b2 x3 x4 h = some ρ) : tt_M tt_cl l yX6_giveTo wsX6_giveTo rm_X6_giveTo 0 0 false [.ref b0, .int x1, .ref b2, .int x3, .int x4] h (tt_ret (none) ρ.2) := by
  refine tt_M.of0 (cc := cX6_giveTo) (maxL := 5) (ret := none) (by decide +kernel) rfl (Nat.le_of_ble_eq_true rfl) ?_
  intro p e s m args below meth c D ca ad n0 sz hwf hsz X hini
  unfold s_X6_giveTo at hs
  refine tt_aload_n X dX6_giveTo_0 rfl ?_
  refine tt_iload_n X dX6_giveTo_1 rfl ?_
  refine tt_iload X dX6_giveTo_2 rfl ?_
  obtain ⟨o4, f4, hs⟩ := gg_bind hs
  obtain ⟨w4, e4, hs⟩ := gg_bind hs
  refine zr_callV X f4 rfl (c_X6_hasCells l e4) (fun hts => cwV 2 hts gX6_giveTo_X6_hasCells rfl rfl rfl (by decide +kernel) ⟨by decide, by decide⟩) rfl rfl (Nat.le_of_ble_eq_true rfl) dX6_giveTo_4 ⟨Nat.zero_le _, Nat.zero_le _⟩ ?_
  refine tt_if_eq (tgt := 35) X dX6_giveTo_7 (by decide) (fun c7 => ?_) (fun c7 => ?_)
  · rw [if_pos c7] at hs
    cases hs
    exact tt_vret X rfl dX6_giveTo_35 ⟨rfl, rfl⟩
  · rw [if_neg c7] at hs
    refine tt_aload_n X dX6_giveTo_10 rfl ?_
    refine tt_iload_n X dX6_giveTo_11 rfl ?_
    refine tt_iload X dX6_giveTo_12 rfl ?_
    obtain ⟨o14, f14, hs⟩ := gg_bind hs
    obtain ⟨w14, e14, hs⟩ := gg_bind hs
    refine zr_callV X f14 rfl (c_X6_hasCells l e14) (fun hts => cwV 2 hts gX6_giveTo_X6_hasCells rfl rfl rfl (by decide +kernel) ⟨by decide, by decide⟩) rfl rfl (Nat.le_of_ble_eq_true rfl) dX6_giveTo_14 ⟨Nat.zero_le _, Nat.zero_le _⟩ ?_
    refine tt_if_eq (tgt := 35) X dX6_giveTo_17 (by decide) (fun c17 => ?_) (fun c17 => ?_)
    · rw [if_pos c17] at hs
      cases hs
      exact tt_vret X rfl dX6_giveTo_35 ⟨rfl, rfl⟩
    · rw [if_neg c17] at hs
      refine tt_aload_n X dX6_giveTo_20 rfl ?_
      obtain ⟨o21, e21, hs⟩ := gg_bind hs
      refine zr_fr X e21 rfl in_X6_giveTo_X6 (by decide) (by decide +kernel) rfl dX6_giveTo_21 ?_
      refine tt_iload_n X dX6_giveTo_24 rfl ?_
      refine tt_aload_n X dX6_giveTo_25 rfl ?_
      obtain ⟨o26, e26, hs⟩ := gg_bind hs
      refine zr_fr X e26 rfl in_X6_giveTo_X6 (by decide) (by decide +kernel) rfl dX6_giveTo_26 ?_
      refine tt_iload_n X dX6_giveTo_29 rfl ?_
      refine tt_iload X dX6_giveTo_30 rfl ?_
      obtain ⟨h32, e32, hs⟩ := gg_bind hs
      refine zr_cp X e32 (by decide +kernel) (by decide +kernel) (by decide +kernel) (by decide +kernel) (by decide) (Nat.le_of_ble_eq_true (by decide +kernel)) dX6_giveTo_32 ?_
      cases hs
      exact tt_vret X rfl dX6_giveTo_35 ⟨rfl, rfl⟩

theorem in_X6_isNothing_X6 : ∀ w ∈ u_ws RX6 TX6 3, w ∈ wsX6_isNothing := by decide +kernel
def s_X6_isNothing (b0 : Nat) (h : tt_H) : Option (Int32 × tt_H) :=
  (gg_fi h b0 6 1).bind fun z1 =>
  if z1 = ((-1)) then
    some (1, h)
  else
  some (0, h)
abbrev rm_X6_isNothing : Room := { frames := 0, cells := 0, slots := 0, locals := 0 }
set_option maxHeartbeats 4000000 in
set_option maxRecDepth 100000 in
theorem c_X6_isNothing (l : Launch) {b0 : Nat} {h : tt_H} {ρ : Int32 × tt_H} (hs : s_X6_isNothing b0 h = some ρ) : tt_M tt_cl l yX6_isNothing wsX6_isNothing rm_X6_isNothing 0 0 false [.ref b0] h (tt_ret (some (.int ρ.1)) ρ.2) := by
  refine tt_M.of0 (cc := cX6_isNothing) (maxL := 1) (ret := (some .boolean)) (by decide +kernel) rfl (Nat.le_of_ble_eq_true rfl) ?_
  intro p e s m args below meth c D ca ad n0 sz hwf hsz X hini
  unfold s_X6_isNothing at hs
  refine tt_aload_n X dX6_isNothing_0 rfl ?_
  obtain ⟨z1, e1, hs⟩ := gg_bind hs
  refine zr_fi X e1 rfl in_X6_isNothing_X6 (by decide) (by decide +kernel) rfl dX6_isNothing_1 ?_
  refine tt_iconst (v := (-1)) X dX6_isNothing_4 (by decide) ?_
  refine tt_icmp_ne (tgt := 12) X dX6_isNothing_5 (by decide) (fun c5 => ?_) (fun c5 => ?_)
  · rw [if_neg c5] at hs
    refine tt_iconst (v := 0) X dX6_isNothing_12 (by decide) ?_
    cases hs
    exact tt_zret X rfl rfl dX6_isNothing_13 ⟨rfl, rfl⟩
  · rw [if_pos c5] at hs
    refine tt_iconst (v := 1) X dX6_isNothing_8 (by decide) ?_
    refine tt_goto (tgt := 13) X dX6_isNothing_9 (by decide) ?_
    cases hs
    exact tt_zret X rfl rfl dX6_isNothing_13 ⟨rfl, rfl⟩

theorem in_X6_renew_X6 : ∀ w ∈ u_ws RX6 TX6 3, w ∈ wsX6_renew := by decide +kernel
def s_X6_renew (b0 : Nat) (x1 : Int32) (x2 : Int32) (h : tt_H) : Option (Unit × tt_H) :=
  if x2 < 0 then
    some ((), h)
  else
  if x2 ≤ 80 then
    (gg_fr h b0 6 0).bind fun o12 =>
    (s_J7_fill_53178 o12 0 h).bind fun w16 =>
    (gg_put w16.2 b0 6 1 (.int x2)).bind fun h21 =>
    (gg_put h21 b0 6 2 (.int x1)).bind fun h26 =>
    some ((), h26)
  else
  some ((), h)
abbrev rm_X6_renew : Room := { frames := 1, cells := 0, slots := 0, locals := 23 }
set_option maxHeartbeats 4000000 in
set_option maxRecDepth 100000 in
theorem c_X6_renew (l : Launch) {b0 : Nat} {x1 : Int32} {x2 : Int32} {h : tt_H} {ρ : Unit × tt_H} (hs : s_X6_renew b0 x1 x2 h = some ρ) : tt_M tt_cl l yX6_renew wsX6_renew rm_X6_renew 0 0 false [.ref b0, .int x1, .int x2] h (tt_ret (none) ρ.2) := by
  refine tt_M.of0 (cc := cX6_renew) (maxL := 3) (ret := none) (by decide +kernel) rfl (Nat.le_of_ble_eq_true rfl) ?_
  intro p e s m args below meth c D ca ad n0 sz hwf hsz X hini
  unfold s_X6_renew at hs
  refine tt_iload_n X dX6_renew_0 rfl ?_
  refine tt_if_lt (tgt := 10) X dX6_renew_1 (by decide) (fun c1 => ?_) (fun c1 => ?_)
  · rw [if_pos c1] at hs
    cases hs
    exact tt_vret X rfl dX6_renew_10 ⟨rfl, rfl⟩
  · rw [if_neg c1] at hs
    refine tt_iload_n X dX6_renew_4 rfl ?_
    refine tt_bipush (v := 80) X dX6_renew_5 (by decide) ?_
    refine tt_icmp_le (tgt := 11) X dX6_renew_7 (by decide) (fun c7 => ?_) (fun c7 => ?_)
    · rw [if_pos c7] at hs
      refine tt_aload_n X dX6_renew_11 rfl ?_
      obtain ⟨o12, e12, hs⟩ := gg_bind hs
      refine zr_fr X e12 rfl in_X6_renew_X6 (by decide) (by decide +kernel) rfl dX6_renew_12 ?_
      refine tt_iconst (v := 0) X dX6_renew_15 (by decide) ?_
      obtain ⟨w16, e16, hs⟩ := gg_bind hs
      refine zr_callS X (c_J7_fill_53178 l e16) (fun hts => va_cwS 2 hts gX6_renew_J7_fill_53178 rfl rfl rfl (by decide +kernel) ⟨by decide, by decide⟩) rfl rfl (Nat.le_of_ble_eq_true rfl) dX6_renew_16 ⟨Nat.zero_le _, Nat.zero_le _⟩ ?_
      refine tt_aload_n X dX6_renew_19 rfl ?_
      refine tt_iload_n X dX6_renew_20 rfl ?_
      obtain ⟨h21, e21, hs⟩ := gg_bind hs
      refine zr_put X e21 rfl in_X6_renew_X6 tyX6 tyX6_ok nmX6 (by decide) (by decide +kernel) rfl rfl (fun _ => rfl) (fun _ => rfl) dX6_renew_21 ?_
      refine tt_aload_n X dX6_renew_24 rfl ?_
      refine tt_iload_n X dX6_renew_25 rfl ?_
      obtain ⟨h26, e26, hs⟩ := gg_bind hs
      refine zr_put X e26 rfl in_X6_renew_X6 tyX6 tyX6_ok nmX6 (by decide) (by decide +kernel) rfl rfl (fun _ => rfl) (fun _ => rfl) dX6_renew_26 ?_
      cases hs
      exact tt_vret X rfl dX6_renew_29 ⟨rfl, rfl⟩
    · rw [if_neg c7] at hs
      cases hs
      exact tt_vret X rfl dX6_renew_10 ⟨rfl, rfl⟩

theorem in_X6_sort_X6 : ∀ w ∈ u_ws RX6 TX6 3, w ∈ wsX6_sort := by decide +kernel
def s_X6_sort (b0 : Nat) (h : tt_H) : Option (Int32 × tt_H) :=
  (gg_fi h b0 6 2).bind fun z1 =>
  some (z1, h)
abbrev rm_X6_sort : Room := { frames := 0, cells := 0, slots := 0, locals := 0 }
set_option maxHeartbeats 4000000 in
set_option maxRecDepth 100000 in
theorem c_X6_sort (l : Launch) {b0 : Nat} {h : tt_H} {ρ : Int32 × tt_H} (hs : s_X6_sort b0 h = some ρ) : tt_M tt_cl l yX6_sort wsX6_sort rm_X6_sort 0 0 false [.ref b0] h (tt_ret (some (.int ρ.1)) ρ.2) := by
  refine tt_M.of0 (cc := cX6_sort) (maxL := 1) (ret := (some .int)) (by decide +kernel) rfl (Nat.le_of_ble_eq_true rfl) ?_
  intro p e s m args below meth c D ca ad n0 sz hwf hsz X hini
  unfold s_X6_sort at hs
  refine tt_aload_n X dX6_sort_0 rfl ?_
  obtain ⟨z1, e1, hs⟩ := gg_bind hs
  refine zr_fi X e1 rfl in_X6_sort_X6 (by decide) (by decide +kernel) rfl dX6_sort_1 ?_
  cases hs
  exact tt_iret X rfl dX6_sort_4 ⟨rfl, rfl⟩

theorem in_X6_write_X6 : ∀ w ∈ u_ws RX6 TX6 3, w ∈ wsX6_write := by decide +kernel
def s_X6_write (b0 : Nat) (x1 : Int32) (x2 : Int32) (h : tt_H) : Option (Unit × tt_H) :=
  (gg_obj h b0 6).bind fun _ =>
  (s_X6_hasCells b0 x1 1 h).bind fun w3 =>
  if w3.1 = 0 then
    some ((), w3.2)
  else
  (gg_fr w3.2 b0 6 0).bind fun o10 =>
  (gg_obj w3.2 b0 6).bind fun _ =>
  (s_X6_cut b0 x2 w3.2).bind fun w16 =>
  (gg_is w16.2 o10 x1 w16.1).bind fun h19 =>
  some ((), h19)
abbrev rm_X6_write : Room := { frames := 1, cells := 0, slots := 0, locals := 22 }
set_option maxHeartbeats 4000000 in
set_option maxRecDepth 100000 in
theorem c_X6_write (l : Launch) {b0 : Nat} {x1 : Int32} {x2 : Int32} {h : tt_H} {ρ : Unit × tt_H} (hs : s_X6_write b0 x1 x2 h = some ρ) : tt_M tt_cl l yX6_write wsX6_write rm_X6_write 0 0 false [.ref b0, .int x1, .int x2] h (tt_ret (none) ρ.2) := by
  refine tt_M.of0 (cc := cX6_write) (maxL := 3) (ret := none) (by decide +kernel) rfl (Nat.le_of_ble_eq_true rfl) ?_
  intro p e s m args below meth c D ca ad n0 sz hwf hsz X hini
  unfold s_X6_write at hs
  refine tt_aload_n X dX6_write_0 rfl ?_
  refine tt_iload_n X dX6_write_1 rfl ?_
  refine tt_iconst (v := 1) X dX6_write_2 (by decide) ?_
  obtain ⟨o3, f3, hs⟩ := gg_bind hs
  obtain ⟨w3, e3, hs⟩ := gg_bind hs
  refine zr_callV X f3 rfl (c_X6_hasCells l e3) (fun hts => cwV 2 hts gX6_write_X6_hasCells rfl rfl rfl (by decide +kernel) ⟨by decide, by decide⟩) rfl rfl (Nat.le_of_ble_eq_true rfl) dX6_write_3 ⟨Nat.zero_le _, Nat.zero_le _⟩ ?_
  refine tt_if_eq (tgt := 20) X dX6_write_6 (by decide) (fun c6 => ?_) (fun c6 => ?_)
  · rw [if_pos c6] at hs
    cases hs
    exact tt_vret X rfl dX6_write_20 ⟨rfl, rfl⟩
  · rw [if_neg c6] at hs
    refine tt_aload_n X dX6_write_9 rfl ?_
    obtain ⟨o10, e10, hs⟩ := gg_bind hs
    refine zr_fr X e10 rfl in_X6_write_X6 (by decide) (by decide +kernel) rfl dX6_write_10 ?_
    refine tt_iload_n X dX6_write_13 rfl ?_
    refine tt_aload_n X dX6_write_14 rfl ?_
    refine tt_iload_n X dX6_write_15 rfl ?_
    obtain ⟨o16, f16, hs⟩ := gg_bind hs
    obtain ⟨w16, e16, hs⟩ := gg_bind hs
    refine zr_callV X f16 rfl (c_X6_cut l e16) (fun hts => cwV 1 hts gX6_write_X6_cut rfl rfl rfl (by decide +kernel) ⟨by decide, by decide⟩) rfl rfl (Nat.le_of_ble_eq_true rfl) dX6_write_16 ⟨Nat.zero_le _, Nat.zero_le _⟩ ?_
    obtain ⟨h19, e19, hs⟩ := gg_bind hs
    refine zr_is X e19 dX6_write_19 ?_
    cases hs
    exact tt_vret X rfl dX6_write_20 ⟨rfl, rfl⟩
end
