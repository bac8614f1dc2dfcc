/-! THE SHALLOW PROGRAM'S PRIMITIVES: what an instruction gives over the toy heap, or none (what the machine itself would throw at) -/
def gg_obj (h : tt_H) (b ci : Nat) : Option (List Value) := match h b with
  | some (.inr (c, fs)) => if c = ci then some fs else none
  | _ => none
def gg_vi (v : Option Value) : Option Int32 := match v with
  | some (.int x) => some x
  | _ => none
def gg_vr (v : Option Value) : Option Nat := match v with
  | some (.ref x) => some x
  | _ => none
/-- a field that holds an int; one that holds a reference -/
def gg_fi (h : tt_H) (b ci k : Nat) : Option Int32 := (gg_obj h b ci).bind fun fs => gg_vi fs[k]?
def gg_fr (h : tt_H) (b ci k : Nat) : Option Nat := (gg_obj h b ci).bind fun fs => gg_vr fs[k]?
def gg_put (h : tt_H) (b ci k : Nat) (v : Value) : Option tt_H := (gg_obj h b ci).bind fun fs => if k < fs.length then some (va_up h b (some (.inr (ci, fs.set k v)))) else none
def gg_ia (h : tt_H) (b : Nat) : Option (Nat × (Nat → Int32)) := match h b with
  | some (.inl (0, (n, .inl f))) => some (n, f)
  | _ => none
def gg_za (h : tt_H) (b : Nat) : Option (Nat × (Nat → Int32)) := match h b with
  | some (.inl (2, (n, .inl f))) => some (n, f)
  | _ => none
def gg_ja (h : tt_H) (b : Nat) : Option (Nat × (Nat → Int64)) := match h b with
  | some (.inl (1, (n, .inr (.inl f)))) => some (n, f)
  | _ => none
def gg_qa (t : Nat) (h : tt_H) (b : Nat) : Option (Nat × (Nat → Option Nat)) := match h b with
  | some (.inl (t', (n, .inr (.inr (.inr (.inr f)))))) => if t' = t then some (n, f) else none
  | _ => none
def gg_ix {α : Type} (i : Int32) (n : Nat) (x : α) : Option α := if i < 0 ∨ n ≤ i.toNatClampNeg then none else some x
def gg_il (h : tt_H) (b : Nat) (i : Int32) : Option Int32 := (gg_ia h b).bind fun a => gg_ix i a.1 (a.2 i.toNatClampNeg)
def gg_zl (h : tt_H) (b : Nat) (i : Int32) : Option Int32 := (gg_za h b).bind fun a => gg_ix i a.1 (a.2 i.toNatClampNeg)
def gg_jl (h : tt_H) (b : Nat) (i : Int32) : Option Int64 := (gg_ja h b).bind fun a => gg_ix i a.1 (a.2 i.toNatClampNeg)
def gg_ql (t : Nat) (h : tt_H) (b : Nat) (i : Int32) : Option Nat := (gg_qa t h b).bind fun a => (gg_ix i a.1 (a.2 i.toNatClampNeg)).bind id
def gg_is (h : tt_H) (b : Nat) (i x : Int32) : Option tt_H := (gg_ia h b).bind fun a => gg_ix i a.1 (va_up h b (some (tt_ia a.1 (upd a.2 i.toNatClampNeg x))))
def gg_zs (h : tt_H) (b : Nat) (i x : Int32) : Option tt_H := (gg_za h b).bind fun a => gg_ix i a.1 (va_up h b (some (tt_za a.1 (upd a.2 i.toNatClampNeg (vp_nar .boolean x)))))
def gg_js (h : tt_H) (b : Nat) (i : Int32) (x : Int64) : Option tt_H := (gg_ja h b).bind fun a => gg_ix i a.1 (va_up h b (some (tt_ja a.1 (vp_updL a.2 i.toNatClampNeg x))))
def gg_len (h : tt_H) (b : Nat) : Option Int32 := match h b with
  | some (.inl (0, (n, .inl _))) => some (Int32.ofNat n)
  | some (.inl (1, (n, .inr (.inl _)))) => some (Int32.ofNat n)
  | _ => none
def gg_nz (y : Int32) : Option Unit := if y = 0 then none else some ()
def gg_cp (h : tt_H) (a : Nat) (sp : Int32) (b : Nat) (dp n : Int32) : Option tt_H := (gg_ia h a).bind fun x => (gg_ia h b).bind fun y => if sp < 0 ∨ dp < 0 ∨ n < 0 ∨ x.1 < sp.toNatClampNeg + n.toNatClampNeg ∨ y.1 < dp.toNatClampNeg + n.toNatClampNeg then none else some (va_up h b (some (tt_ia y.1 (va_cpy x.2 y.2 sp.toNatClampNeg dp.toNatClampNeg n.toNatClampNeg))))
/-- a reference that may be null -/
def gg_opt {α : Type} (r : Option Nat) (a : α) (f : Nat → α) : α := match r with
  | none => a
  | some b => f b
theorem gg_bind {α β : Type} {o : Option α} {f : α → Option β} {r : β} (h : o.bind f = some r) : ∃ a, o = some a ∧ f a = some r := Option.bind_eq_some_iff.mp h
theorem gg_obj_ok {h : tt_H} {b ci : Nat} {fs : List Value} (e : gg_obj h b ci = some fs) : h b = some (.inr (ci, fs)) := by
  unfold gg_obj at e
  split at e
  · rename_i c fs' he
    by_cases hc : c = ci
    · rw [if_pos hc] at e; cases e; rw [he, hc]
    · rw [if_neg hc] at e; cases e
  · cases e
theorem gg_ix_ok {α : Type} {i : Int32} {n : Nat} {x y : α} (e : gg_ix i n x = some y) : vp_in i n ∧ x = y := by
  unfold gg_ix at e
  by_cases hc : i < 0 ∨ n ≤ i.toNatClampNeg
  · rw [if_pos hc] at e; cases e
  · rw [if_neg hc] at e; cases e; exact ⟨hc, rfl⟩
theorem gg_ia_ok {h : tt_H} {b : Nat} {a : Nat × (Nat → Int32)} (e : gg_ia h b = some a) : h b = some (tt_ia a.1 a.2) := by
  unfold gg_ia at e
  split at e
  · rename_i n f he; cases e; exact he
  · cases e
theorem gg_za_ok {h : tt_H} {b : Nat} {a : Nat × (Nat → Int32)} (e : gg_za h b = some a) : h b = some (tt_za a.1 a.2) := by
  unfold gg_za at e
  split at e
  · rename_i n f he; cases e; exact he
  · cases e
theorem gg_ja_ok {h : tt_H} {b : Nat} {a : Nat × (Nat → Int64)} (e : gg_ja h b = some a) : h b = some (tt_ja a.1 a.2) := by
  unfold gg_ja at e
  split at e
  · rename_i n f he; cases e; exact he
  · cases e
theorem gg_qa_ok {t : Nat} {h : tt_H} {b : Nat} {a : Nat × (Nat → Option Nat)} (e : gg_qa t h b = some a) : h b = some (tt_qa t a.1 a.2) := by
  unfold gg_qa at e
  split at e
  · rename_i t' n f he
    by_cases hc : t' = t
    · rw [if_pos hc] at e; cases e; rw [he, hc]
    · rw [if_neg hc] at e; cases e
  · cases e
theorem tt_va_rf (ad : Nat → Nat) (r : Option Nat) : tt_v ad (va_rf r) = va_rf (r.map ad) := by cases r <;> rfl
section GGR
variable {cl : List vw_C} {K : tt_K} {ad : Nat → Nat} {kc ks pc : Nat} {L : List (Nat × Value)} {st : List Value} {h : tt_H} {cc : ByteArray} {own : String} {ret : Option FieldType} {Ts : List Cond}
theorem zr_fi (X : tt_X cl K cc own ret Ts) {b ci k : Nat} {v : Int32} (e : gg_fi h b ci k = some v) {C ref : String} {F : u_T} {N index : Nat} (hc : cl[ci]? = some (C, F, N)) (hin : ∀ w ∈ u_ws C F N, w ∈ Ts) (hk : k < N) (hlink : Cond.fieldLink own index ref (F k).2.1 (F k).2.2.1 ∈ Ts) (hown : (F k).1 = ref) (hd : decode cc pc = .ok (.getfield index, 3)) (kk : tt_T cl K ad kc ks (pc + 3) L (.int v :: st) h) : tt_T cl K ad kc ks pc L (.ref b :: st) h := by
  obtain ⟨fs, e1, e2⟩ := gg_bind e
  refine tt_getf X (gg_obj_ok e1) hc hin k hk hlink hown (v := .int v) ?_ hd kk
  unfold gg_vi at e2
  split at e2
  · rename_i x hx; cases e2; exact hx
  · cases e2
theorem zr_fr (X : tt_X cl K cc own ret Ts) {b ci k : Nat} {v : Nat} (e : gg_fr h b ci k = some v) {C ref : String} {F : u_T} {N index : Nat} (hc : cl[ci]? = some (C, F, N)) (hin : ∀ w ∈ u_ws C F N, w ∈ Ts) (hk : k < N) (hlink : Cond.fieldLink own index ref (F k).2.1 (F k).2.2.1 ∈ Ts) (hown : (F k).1 = ref) (hd : decode cc pc = .ok (.getfield index, 3)) (kk : tt_T cl K ad kc ks (pc + 3) L (.ref v :: st) h) : tt_T cl K ad kc ks pc L (.ref b :: st) h := by
  obtain ⟨fs, e1, e2⟩ := gg_bind e
  refine tt_getf X (gg_obj_ok e1) hc hin k hk hlink hown (v := .ref v) ?_ hd kk
  unfold gg_vr at e2
  split at e2
  · rename_i x hx; cases e2; exact hx
  · cases e2
theorem zr_put (X : tt_X cl K cc own ret Ts) {b ci k : Nat} {v : Value} {h1 : tt_H} (e : gg_put h b ci k v = some h1) {C ref : String} {F : u_T} {N index : Nat} (hc : cl[ci]? = some (C, F, N)) (hin : ∀ w ∈ u_ws C F N, w ∈ Ts) (ty0 : Nat → FieldType) (hty : ∀ k, k < N → parseFieldDescriptor (F k).2.2.1 = some (ty0 k)) (hnm : ∀ a, a < N → ∀ b, b < N → a ≠ b → (F a).2.1 ≠ (F b).2.1) (hk : k < N) (hlink : Cond.fieldLink own index ref (F k).2.1 (F k).2.2.1 ∈ Ts) (hown : (F k).1 = ref) (hfin : (F k).2.2.2 = false) (hn : ∀ ad, narrow (ty0 k) (tt_v ad v) = tt_v ad v) (hfit : ∀ ad, fits (ty0 k) (tt_v ad v) = true) (hd : decode cc pc = .ok (.putfield index, 3)) (kk : tt_T cl K ad kc ks (pc + 3) L st h1) : tt_T cl K ad kc ks pc L (v :: .ref b :: st) h := by
  obtain ⟨fs, e1, e2⟩ := gg_bind e
  by_cases hl : k < fs.length
  · rw [if_pos hl] at e2
    cases e2
    exact tt_putf X (gg_obj_ok e1) hc hin ty0 hty hnm k hk hlink hown hfin hn hfit hl hd kk
  · rw [if_neg hl] at e2; cases e2
theorem zr_il (X : tt_X cl K cc own ret Ts) {b : Nat} {i v : Int32} (e : gg_il h b i = some v) (hd : decode cc pc = .ok (.iaload, 1)) (kk : tt_T cl K ad kc ks (pc + 1) L (.int v :: st) h) : tt_T cl K ad kc ks pc L (.int i :: .ref b :: st) h := by
  obtain ⟨a, e1, e2⟩ := gg_bind e
  obtain ⟨e3, rfl⟩ := gg_ix_ok e2
  exact tt_iald X (gg_ia_ok e1) e3 hd kk
theorem zr_zl (X : tt_X cl K cc own ret Ts) {b : Nat} {i v : Int32} (e : gg_zl h b i = some v) (hd : decode cc pc = .ok (.baload, 1)) (kk : tt_T cl K ad kc ks (pc + 1) L (.int v :: st) h) : tt_T cl K ad kc ks pc L (.int i :: .ref b :: st) h := by
  obtain ⟨a, e1, e2⟩ := gg_bind e
  obtain ⟨e3, rfl⟩ := gg_ix_ok e2
  exact tt_zald X (gg_za_ok e1) e3 hd kk
theorem zr_jl (X : tt_X cl K cc own ret Ts) {b : Nat} {i : Int32} {v : Int64} (e : gg_jl h b i = some v) (hd : decode cc pc = .ok (.laload, 1)) (kk : tt_T cl K ad kc ks (pc + 1) L (.long v :: st) h) : tt_T cl K ad kc ks pc L (.int i :: .ref b :: st) h := by
  obtain ⟨a, e1, e2⟩ := gg_bind e
  obtain ⟨e3, rfl⟩ := gg_ix_ok e2
  exact tt_lald X (gg_ja_ok e1) e3 hd kk
theorem zr_ql (X : tt_X cl K cc own ret Ts) {t b : Nat} {C : String} {i : Int32} {v : Nat} (e : gg_ql t h b i = some v) (ht : tt_tyl[t]? = some (.object C)) (hd : decode cc pc = .ok (.aaload, 1)) (kk : tt_T cl K ad kc ks (pc + 1) L (.ref v :: st) h) : tt_T cl K ad kc ks pc L (.int i :: .ref b :: st) h := by
  obtain ⟨a, e1, e2⟩ := gg_bind e
  obtain ⟨o, e3, e4⟩ := gg_bind e2
  obtain ⟨e5, e6⟩ := gg_ix_ok e3
  exact tt_aldq X (gg_qa_ok e1) ht e5 (by rw [e6]; exact e4) hd kk
theorem zr_is (X : tt_X cl K cc own ret Ts) {b : Nat} {i x : Int32} {h1 : tt_H} (e : gg_is h b i x = some h1) (hd : decode cc pc = .ok (.iastore, 1)) (kk : tt_T cl K ad kc ks (pc + 1) L st h1) : tt_T cl K ad kc ks pc L (.int x :: .int i :: .ref b :: st) h := by
  obtain ⟨a, e1, e2⟩ := gg_bind e
  obtain ⟨e3, rfl⟩ := gg_ix_ok e2
  exact tt_iast X (gg_ia_ok e1) e3 hd kk
theorem zr_zs (X : tt_X cl K cc own ret Ts) {b : Nat} {i x : Int32} {h1 : tt_H} (e : gg_zs h b i x = some h1) (hd : decode cc pc = .ok (.bastore, 1)) (kk : tt_T cl K ad kc ks (pc + 1) L st h1) : tt_T cl K ad kc ks pc L (.int x :: .int i :: .ref b :: st) h := by
  obtain ⟨a, e1, e2⟩ := gg_bind e
  obtain ⟨e3, rfl⟩ := gg_ix_ok e2
  exact tt_zast X (gg_za_ok e1) e3 hd kk
theorem zr_js (X : tt_X cl K cc own ret Ts) {b : Nat} {i : Int32} {x : Int64} {h1 : tt_H} (e : gg_js h b i x = some h1) (hd : decode cc pc = .ok (.lastore, 1)) (kk : tt_T cl K ad kc ks (pc + 1) L st h1) : tt_T cl K ad kc ks pc L (.long x :: .int i :: .ref b :: st) h := by
  obtain ⟨a, e1, e2⟩ := gg_bind e
  obtain ⟨e3, rfl⟩ := gg_ix_ok e2
  exact tt_last X (gg_ja_ok e1) e3 hd kk
theorem zr_len (X : tt_X cl K cc own ret Ts) {b : Nat} {v : Int32} (e : gg_len h b = some v) (hd : decode cc pc = .ok (.arraylength, 1)) (kk : tt_T cl K ad kc ks (pc + 1) L (.int v :: st) h) : tt_T cl K ad kc ks pc L (.ref b :: st) h := by
  unfold gg_len at e
  split at e
  · rename_i n f he; exact tt_alen X (t := 0) he (ty := .int) rfl (Option.some.inj e) hd kk
  · rename_i n f he; exact tt_alen X (t := 1) he (ty := .long) rfl (Option.some.inj e) hd kk
  · cases e
theorem zr_nz {y : Int32} {u : Unit} (e : gg_nz y = some u) : ¬ y = 0 := fun hy => by
  unfold gg_nz at e
  rw [if_pos hy] at e; cases e
/-- a reference that may be null: loads and stores -/
theorem zr_aload_n (X : tt_X cl K cc own ret Ts) {k : Fin 4} (r : Option Nat) (hd : decode cc pc = .ok (.aload_n k, 1)) (hl : L.lookup (k : Nat) = some (va_rf r)) (kk : tt_T cl K ad kc ks (pc + 1) L (va_rf r :: st) h) : tt_T cl K ad kc ks pc L st h := by
  cases r with
  | none => exact tt_aload_nN X hd hl kk
  | some a => exact tt_aload_n X hd hl kk
theorem zr_aload (X : tt_X cl K cc own ret Ts) {i : Nat} (r : Option Nat) (hd : decode cc pc = .ok (.aload i, 2)) (hl : L.lookup i = some (va_rf r)) (kk : tt_T cl K ad kc ks (pc + 2) L (va_rf r :: st) h) : tt_T cl K ad kc ks pc L st h := by
  cases r with
  | none => exact tt_aloadN X hd hl kk
  | some a => exact tt_aload X hd hl kk
theorem zr_astore_n (X : tt_X cl K cc own ret Ts) {k : Fin 4} (r : Option Nat) (hd : decode cc pc = .ok (.astore_n k, 1)) (hn : (k : Nat) < tt_nL K) (kk : tt_T cl K ad kc ks (pc + 1) (tt_put (k : Nat) (va_rf r) L) st h) : tt_T cl K ad kc ks pc L (va_rf r :: st) h := by
  cases r with
  | none => exact tt_astore_nN X hd hn kk
  | some a => exact tt_astore_n X hd hn kk
theorem zr_astore (X : tt_X cl K cc own ret Ts) {i : Nat} (r : Option Nat) (hd : decode cc pc = .ok (.astore i, 2)) (hn : i < tt_nL K) (kk : tt_T cl K ad kc ks (pc + 2) (tt_put i (va_rf r) L) st h) : tt_T cl K ad kc ks pc L (va_rf r :: st) h := by
  cases r with
  | none => exact tt_astoreN X hd hn kk
  | some a => exact tt_astore X hd hn kk
end GGR
/-- a method's answer, and the heap it leaves -/
def tt_ret (v : Option Value) (h : tt_H) : Option Value → tt_H → Prop := fun v' h' => v' = v ∧ h' = h
section GGC
variable {cl : List vw_C} {p : Program} {l : Launch} {e : Env} {R : Room} {s : State} {m : MethodId} {args : Array Value} {below : List Frame} {meth : Method} {c : Code} {D : va_G} {ca : Nat → ClassId} {A : Nat → Prop} {nL : Nat} {nz : Option Nat} {Q : State → Prop} {ad : Nat → Nat} {kc ks pc : Nat} {L : List (Nat × Value)} {st : List Value} {h : tt_H} {cc : ByteArray} {own : String} {ret : Option FieldType} {Ts : List Cond}
variable {y : MethodName} {bytes : ByteArray} {maxL k index : Nat} {rt : Option FieldType} {ws : List Cond} {rm : Room} {As : List Value}
theorem zr_callV (X : tt_X cl (p, l, e, R, s, m, args, below, meth, c, Q, D, ca, A, nL, nz) cc own ret Ts) {b ci : Nat} {fs : List Value} (hb : gg_obj h b ci = some fs) {C : String} {F : u_T} {N : Nat} (hc : cl[ci]? = some (C, F, N)) {v : Option Value} {h1 : tt_H} (hM : tt_M cl l y ws rm 0 0 false (.ref b :: As) h (tt_ret v h1)) (cw : (∀ w ∈ Ts, w.before args s = true) → CallW R s args own C index y bytes maxL rt ws rm 0 0 k) (hn : As.length = k) {st0 : List Value} (hst : st0 = As.reverse ++ .ref b :: st) (hW : (st.map fun v => v.category).sum ≤ 8) (hd : decode cc pc = .ok (.invokevirtual index, 3)) (hf : kc ≤ R.cells ∧ ks ≤ R.slots)
    (kk : tt_T cl (p, l, e, R, s, m, args, below, meth, c, Q, D, ca, A, nL, nz) ad kc ks (pc + 3) L (v.toList ++ st) h1) : tt_T cl (p, l, e, R, s, m, args, below, meth, c, Q, D, ca, A, nL, nz) ad kc ks pc L st0 h :=
  tt_callV X (gg_obj_ok hb) hc hM cw hn hst hW hd hf (fun v' h' hv => by obtain ⟨rfl, rfl⟩ := hv; exact kk)
theorem zr_callS (X : tt_X cl (p, l, e, R, s, m, args, below, meth, c, Q, D, ca, A, nL, nz) cc own ret Ts) {v : Option Value} {h1 : tt_H} (hM : tt_M cl l y ws rm 0 0 false As h (tt_ret v h1)) (cw : (∀ w ∈ Ts, w.before args s = true) → CallB R s args own index y bytes maxL rt ws rm 0 0 k ∧ (Cond.static y).before args s = true) (hn : As.length = k) {st0 : List Value} (hst : st0 = As.reverse ++ st) (hW : (st.map fun v => v.category).sum ≤ 8) (hd : decode cc pc = .ok (.invokestatic index, 3)) (hf : kc ≤ R.cells ∧ ks ≤ R.slots)
    (kk : tt_T cl (p, l, e, R, s, m, args, below, meth, c, Q, D, ca, A, nL, nz) ad kc ks (pc + 3) L (v.toList ++ st) h1) : tt_T cl (p, l, e, R, s, m, args, below, meth, c, Q, D, ca, A, nL, nz) ad kc ks pc L st0 h :=
  tt_callS X hM cw hn hst hW hd hf (fun v' h' hv => by obtain ⟨rfl, rfl⟩ := hv; exact kk)
/-- System.arraycopy between int arrays -/
theorem zr_cp (X : tt_X cl (p, l, e, R, s, m, args, below, meth, c, Q, D, ca, A, nL, nz) cc own ret Ts) {a b : Nat} {sp dp n : Int32} {h1 : tt_H} (hq : gg_cp h a sp b dp n = some h1) (hlink : Cond.methodLink own index arraycopyName ∈ Ts) (hnat : Cond.native arraycopyName ∈ Ts) (hstat : Cond.static arraycopyName ∈ Ts) (hini : Cond.initialized "java/lang/System" ∈ Ts) (hfr : 1 ≤ R.frames) (hloc : (st.map fun v => v.category).sum + (nativeFrameWords "java/lang/System" "arraycopy" 5 + 11) ≤ R.locals) (hd : decode cc pc = .ok (.invokestatic index, 3))
    (kk : tt_T cl (p, l, e, R, s, m, args, below, meth, c, Q, D, ca, A, nL, nz) ad kc ks (pc + 3) L st h1) : tt_T cl (p, l, e, R, s, m, args, below, meth, c, Q, D, ca, A, nL, nz) ad kc ks pc L (.int n :: .int dp :: .ref b :: .int sp :: .ref a :: st) h := by
  obtain ⟨x, e1, hq⟩ := gg_bind hq
  obtain ⟨z, e2, hq⟩ := gg_bind hq
  by_cases hcnd : sp < 0 ∨ dp < 0 ∨ n < 0 ∨ x.1 < sp.toNatClampNeg + n.toNatClampNeg ∨ z.1 < dp.toNatClampNeg + n.toNatClampNeg
  · rw [if_pos hcnd] at hq; cases hq
  · rw [if_neg hcnd] at hq
    cases hq
    simp only [not_or, Nat.not_lt] at hcnd
    obtain ⟨k1, k2, k3, k4, k5⟩ := hcnd
    intro n0 H locs ls hI hl
    have ha := tt_w_get (ca := ca) (ad := ad) hI.1 (gg_ia_ok e1)
    have hb := tt_w_get (ca := ca) (ad := ad) hI.1 (gg_ia_ok e2)
    refine va_copyi X.1 X.2.1 (X.2.2.1.trans hl.1.symm) X.2.2.2.1 (X.2.2.2.2.1 _ hlink) (X.2.2.2.2.1 _ hnat) (X.2.2.2.2.1 _ hstat) (X.2.2.2.2.1 _ hini) X.2.2.2.2.2.2.2.1 hI.2.1 hI.2.2.1 hI.2.2.2.1 a b 0 0 ha hb rfl rfl rfl k1 k2 k3 k4 k5 (fun _ _ => rfl) hfr (by rw [tt_cats]; exact hloc) hd (fun H1 locs1 hP hD hS => ?_)
    have hw := tt_w_set (ca := ca) (ad := ad) (e := tt_ia z.1 (va_cpy x.2 z.2 sp.toNatClampNeg dp.toNatClampNeg n.toNatClampNeg)) hI.1 (gg_ia_ok e2)
    exact kk n0 H1 locs1 ls ⟨tt_wf_set hI.1 (gg_ia_ok e2), hw ▸ hP, hw ▸ hD, hS, hI.2.2.2.2⟩ hl
end GGC
/-! the heap's places stay the same through writes -/
theorem gg_wf_put {n : Nat} {h h1 : tt_H} {b ci k : Nat} {v : Value} (hw : tt_wf n h) (e : gg_put h b ci k v = some h1) : tt_wf n h1 := by
  obtain ⟨fs, e1, e2⟩ := gg_bind e
  by_cases hl : k < fs.length
  · rw [if_pos hl] at e2
    cases e2
    exact tt_wf_set hw (gg_obj_ok e1)
  · rw [if_neg hl] at e2; cases e2
theorem gg_wf_is {n : Nat} {h h1 : tt_H} {b : Nat} {i x : Int32} (hw : tt_wf n h) (e : gg_is h b i x = some h1) : tt_wf n h1 := by
  obtain ⟨a, e1, e2⟩ := gg_bind e
  obtain ⟨e3, rfl⟩ := gg_ix_ok e2
  exact tt_wf_set hw (gg_ia_ok e1)
theorem gg_wf_zs {n : Nat} {h h1 : tt_H} {b : Nat} {i x : Int32} (hw : tt_wf n h) (e : gg_zs h b i x = some h1) : tt_wf n h1 := by
  obtain ⟨a, e1, e2⟩ := gg_bind e
  obtain ⟨e3, rfl⟩ := gg_ix_ok e2
  exact tt_wf_set hw (gg_za_ok e1)
theorem gg_wf_js {n : Nat} {h h1 : tt_H} {b : Nat} {i : Int32} {x : Int64} (hw : tt_wf n h) (e : gg_js h b i x = some h1) : tt_wf n h1 := by
  obtain ⟨a, e1, e2⟩ := gg_bind e
  obtain ⟨e3, rfl⟩ := gg_ix_ok e2
  exact tt_wf_set hw (gg_ja_ok e1)
section GGM
variable {cl : List vw_C} {p : Program} {l : Launch} {e : Env} {R : Room} {s : State} {m : MethodId} {args : Array Value} {below : List Frame} {meth : Method} {c : Code} {D : va_G} {ca : Nat → ClassId} {A : Nat → Prop} {nL : Nat} {nz : Option Nat} {Q : State → Prop} {ad : Nat → Nat} {kc ks pc : Nat} {L : List (Nat × Value)} {st : List Value} {h : tt_H} {cc : ByteArray} {own : String} {ret : Option FieldType} {Ts : List Cond} {index : Nat}
theorem zr_mmax (X : tt_X cl (p, l, e, R, s, m, args, below, meth, c, Q, D, ca, A, nL, nz) cc own ret Ts) {x y : Int32} (hlink : Cond.methodLink own index Lib.Math.max.name ∈ Ts) (hstat : Cond.static Lib.Math.max.name ∈ Ts) (hini : Cond.initialized "java/lang/Math" ∈ Ts) (hcode : Cond.code Lib.Math.max.name Lib.Math.max.code 2 (some .int) ∈ Ts) (hfr : 1 ≤ R.frames) (hloc : (st.map fun v => v.category).sum + 13 ≤ R.locals) (hc : kc ≤ R.cells) (hs : ks ≤ R.slots) (hd : decode cc pc = .ok (.invokestatic index, 3))
    (kk : tt_T cl (p, l, e, R, s, m, args, below, meth, c, Q, D, ca, A, nL, nz) ad kc ks (pc + 3) L (.int (if x < y then y else x) :: st) h) : tt_T cl (p, l, e, R, s, m, args, below, meth, c, Q, D, ca, A, nL, nz) ad kc ks pc L (.int y :: .int x :: st) h := fun n H locs ls hI hl =>
  va_mmax X.1 X.2.1 (X.2.2.1.trans hl.1.symm) X.2.2.2.1 (X.2.2.2.2.1 _ hlink) (X.2.2.2.2.1 _ hstat) (X.2.2.2.2.1 _ hini) (X.2.2.2.2.1 _ hcode) hfr (by rw [tt_cats]; exact hloc) hc hs hd (kk n H locs ls hI hl)
theorem zr_mmin (X : tt_X cl (p, l, e, R, s, m, args, below, meth, c, Q, D, ca, A, nL, nz) cc own ret Ts) {x y : Int32} (hlink : Cond.methodLink own index Lib.Math.min.name ∈ Ts) (hstat : Cond.static Lib.Math.min.name ∈ Ts) (hini : Cond.initialized "java/lang/Math" ∈ Ts) (hcode : Cond.code Lib.Math.min.name Lib.Math.min.code 2 (some .int) ∈ Ts) (hfr : 1 ≤ R.frames) (hloc : (st.map fun v => v.category).sum + 13 ≤ R.locals) (hc : kc ≤ R.cells) (hs : ks ≤ R.slots) (hd : decode cc pc = .ok (.invokestatic index, 3))
    (kk : tt_T cl (p, l, e, R, s, m, args, below, meth, c, Q, D, ca, A, nL, nz) ad kc ks (pc + 3) L (.int (if y < x then y else x) :: st) h) : tt_T cl (p, l, e, R, s, m, args, below, meth, c, Q, D, ca, A, nL, nz) ad kc ks pc L (.int y :: .int x :: st) h := fun n H locs ls hI hl =>
  va_mmin X.1 X.2.1 (X.2.2.1.trans hl.1.symm) X.2.2.2.1 (X.2.2.2.2.1 _ hlink) (X.2.2.2.2.1 _ hstat) (X.2.2.2.2.1 _ hini) (X.2.2.2.2.1 _ hcode) hfr (by rw [tt_cats]; exact hloc) hc hs hd (kk n H locs ls hI hl)
theorem zr_lmax (X : tt_X cl (p, l, e, R, s, m, args, below, meth, c, Q, D, ca, A, nL, nz) cc own ret Ts) {x y : Int64} (hlink : Cond.methodLink own index Lib.MathLoose.max_long.x ∈ Ts) (hstat : Cond.static Lib.MathLoose.max_long.x ∈ Ts) (hini : Cond.initialized "java/lang/Math" ∈ Ts) (hcode : Cond.code Lib.MathLoose.max_long.x Lib.MathLoose.max_long.code 4 (some .long) ∈ Ts) (hfr : 1 ≤ R.frames) (hloc : (st.map fun v => v.category).sum + 15 ≤ R.locals) (hc : kc ≤ R.cells) (hs : ks ≤ R.slots) (hd : decode cc pc = .ok (.invokestatic index, 3))
    (kk : tt_T cl (p, l, e, R, s, m, args, below, meth, c, Q, D, ca, A, nL, nz) ad kc ks (pc + 3) L (.long (if y < x then x else y) :: st) h) : tt_T cl (p, l, e, R, s, m, args, below, meth, c, Q, D, ca, A, nL, nz) ad kc ks pc L (.long y :: .long x :: st) h := fun n H locs ls hI hl =>
  va_mmax_long X.1 X.2.1 (X.2.2.1.trans hl.1.symm) X.2.2.2.1 (X.2.2.2.2.1 _ hlink) (X.2.2.2.2.1 _ hstat) (X.2.2.2.2.1 _ hini) (X.2.2.2.2.1 _ hcode) hfr (by rw [tt_cats]; exact hloc) hc hs hd (kk n H locs ls hI hl)
theorem zr_lmin (X : tt_X cl (p, l, e, R, s, m, args, below, meth, c, Q, D, ca, A, nL, nz) cc own ret Ts) {x y : Int64} (hlink : Cond.methodLink own index Lib.MathLoose.min_long.x ∈ Ts) (hstat : Cond.static Lib.MathLoose.min_long.x ∈ Ts) (hini : Cond.initialized "java/lang/Math" ∈ Ts) (hcode : Cond.code Lib.MathLoose.min_long.x Lib.MathLoose.min_long.code 4 (some .long) ∈ Ts) (hfr : 1 ≤ R.frames) (hloc : (st.map fun v => v.category).sum + 15 ≤ R.locals) (hc : kc ≤ R.cells) (hs : ks ≤ R.slots) (hd : decode cc pc = .ok (.invokestatic index, 3))
    (kk : tt_T cl (p, l, e, R, s, m, args, below, meth, c, Q, D, ca, A, nL, nz) ad kc ks (pc + 3) L (.long (if y < x then y else x) :: st) h) : tt_T cl (p, l, e, R, s, m, args, below, meth, c, Q, D, ca, A, nL, nz) ad kc ks pc L (.long y :: .long x :: st) h := fun n H locs ls hI hl =>
  va_mmin_long X.1 X.2.1 (X.2.2.1.trans hl.1.symm) X.2.2.2.1 (X.2.2.2.2.1 _ hlink) (X.2.2.2.2.1 _ hstat) (X.2.2.2.2.1 _ hini) (X.2.2.2.2.1 _ hcode) hfr (by rw [tt_cats]; exact hloc) hc hs hd (kk n H locs ls hI hl)
/-- switches -/
theorem zr_lookup {K : tt_K} (X : tt_X cl K cc own ret Ts) {dflt : Int} {ps : Array (Int × Int)} {len : Nat} {x : Int32} {off : Int} {tgt : Nat} (hd : decode cc pc = .ok (.lookupswitch dflt ps, len)) (hp : (ps.toList.zip (ps.toList.drop 1)).all (fun (a, next) => a.1 < next.1) = true) (ho : Op.lookupswitch.offset ps.toList dflt x.toInt = off) (ht : (pc : Int) + off = (tgt : Int)) (kk : tt_T cl K ad kc ks tgt L st h) : tt_T cl K ad kc ks pc L (.int x :: st) h := by
  obtain ⟨p, l, e, R, s, m, args, below, meth, c, Q, D, ca, A, nL, nz⟩ := K
  exact fun n H locs ls hI hl => lv_lookup X.1 X.2.1 hd hp ho ht (kk n H locs ls hI hl)
end GGM
