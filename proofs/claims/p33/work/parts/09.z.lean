abbrev tt_cl : List vw_C := [(RX0, TX0, 2), (RX1, TX1, 2), (RX2, TX2, 2), (RX3, TX3, 3), (RX4, TX4, 1), (RX5, TX5, 2), (RX6, TX6, 3), (RX7, TX7, 2), (RX8, TX8, 13)]
/-- a method that makes no cell, by its body's walk -/
theorem tt_M.of0 {cl : List vw_C} {l : Launch} {y : MethodName} {ws ws' : List Cond} {rm : Room} {vs : List Value} {h : tt_H} {P : Option Value → tt_H → Prop} {cc : ByteArray} {maxL : Nat} {ret : Option FieldType} (hy : plainName y.cls = true) (hw : ws = Cond.code y cc maxL ret :: ws') (hsl : (lg_sl vs).length ≤ maxL)
    (body : ∀ (p : Program) (e : Env) (s : State) (m : MethodId) (args : Array Value) (below : List Frame) (meth : Method) (c : Code) (D : va_G) (ca ad : Nat → Nat) (n sz : Nat), tt_wf n h → s.heap.size = sz → tt_X cl (p, l, e, rm, s, m, args, below, meth, c, MQ below (tt_Q cl D ca ad n sz false P) args s 0 0 (tt_A ad n sz), D, ca, tt_A ad n sz, maxL, some n) cc y.cls ret ws → (y.name = "<init>" → meth.name = "<init>") →
      tt_T cl (p, l, e, rm, s, m, args, below, meth, c, MQ below (tt_Q cl D ca ad n sz false P) args s 0 0 (tt_A ad n sz), D, ca, tt_A ad n sz, maxL, some n) ad 0 0 0 (tt_args 0 vs) [] h) : tt_M cl l y ws rm 0 0 false vs h P :=
  tt_M.of hy hw hsl (fun p e s m args below meth c D ca ad n sz h1 h2 h3 h4 => body p e s m args below meth c D ca ad n sz h1 h2 h3 h4)
theorem gg_opt_none {α : Type} (a : α) (f : Nat → α) : gg_opt none a f = a := rfl
theorem gg_opt_some {α : Type} (b : Nat) (a : α) (f : Nat → α) : gg_opt (some b) a f = f b := rfl
/-- an answer that is a boolean: 0 or 1 -/
def gg_b (x : Int32) : Option Unit := if x = 0 ∨ x = 1 then some () else none
theorem gg_b_ok {x : Int32} {u : Unit} (e : gg_b x = some u) : narrow .boolean (.int x) = .int x := by
  unfold gg_b at e
  by_cases hc : x = 0 ∨ x = 1
  · rcases hc with rfl | rfl <;> rfl
  · rw [if_neg hc] at e; cases e
theorem tt_rf_or (r : Option Nat) : va_rf r = .null ∨ ∃ a, va_rf r = .ref a := by
  cases r with
  | none => exact Or.inl rfl
  | some a => exact Or.inr ⟨a, rfl⟩
theorem tt_setL {cl : List vw_C} {K : tt_K} {ad : Nat → Nat} {kc ks pc : Nat} {L L2 : List (Nat × Value)} {st : List Value} {h : tt_H} (e : L = L2) (kk : tt_T cl K ad kc ks pc L2 st h) : tt_T cl K ad kc ks pc L st h := e ▸ kk
