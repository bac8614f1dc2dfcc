/-! THE PURE SIDE: the shallow programs over the toy heap. Numbers first: every int that counts is nI of a number. -/
theorem pp_lit (n : Nat) : (OfNat.ofNat n : Int32) = nI n := rfl
theorem pp_obj {h : tt_H} {b ci : Nat} {fs : List Value} (hb : h b = some (.inr (ci, fs))) : gg_obj h b ci = some fs := by simp [gg_obj, hb]
theorem pp_fi {h : tt_H} {b ci k : Nat} {fs : List Value} {v : Int32} (hb : h b = some (.inr (ci, fs))) (hk : fs[k]? = some (.int v)) : gg_fi h b ci k = some v := by
  unfold gg_fi; rw [pp_obj hb]; show gg_vi fs[k]? = _; rw [hk]; rfl
theorem pp_fr {h : tt_H} {b ci k : Nat} {fs : List Value} {v : Nat} (hb : h b = some (.inr (ci, fs))) (hk : fs[k]? = some (.ref v)) : gg_fr h b ci k = some v := by
  unfold gg_fr; rw [pp_obj hb]; show gg_vr fs[k]? = _; rw [hk]; rfl
theorem pp_put {h : tt_H} {b ci k : Nat} {fs : List Value} (hb : h b = some (.inr (ci, fs))) (v : Value) (hk : k < fs.length) : gg_put h b ci k v = some (va_up h b (some (.inr (ci, fs.set k v)))) := by
  unfold gg_put; rw [pp_obj hb]; show (if k < fs.length then _ else _) = _; rw [if_pos hk]
theorem pp_ix {α : Type} {k n : Nat} (hk : k < n) (hn : n < 2 ^ 31) (x : α) : gg_ix (nI k) n x = some x := by
  unfold gg_ix; rw [if_neg (nI_in hk hn)]
theorem pp_ia {h : tt_H} {b n : Nat} {f : Nat → Int32} (hb : h b = some (tt_ia n f)) : gg_ia h b = some (n, f) := by unfold gg_ia; rw [hb]; rfl
theorem pp_za {h : tt_H} {b n : Nat} {f : Nat → Int32} (hb : h b = some (tt_za n f)) : gg_za h b = some (n, f) := by unfold gg_za; rw [hb]; rfl
theorem pp_ja {h : tt_H} {b n : Nat} {f : Nat → Int64} (hb : h b = some (tt_ja n f)) : gg_ja h b = some (n, f) := by unfold gg_ja; rw [hb]; rfl
theorem pp_qa {h : tt_H} {t b n : Nat} {f : Nat → Option Nat} (hb : h b = some (tt_qa t n f)) : gg_qa t h b = some (n, f) := by unfold gg_qa; rw [hb]; simp
theorem pp_il {h : tt_H} {b n k : Nat} {f : Nat → Int32} (hb : h b = some (tt_ia n f)) (hk : k < n) (hn : n < 2 ^ 31) : gg_il h b (nI k) = some (f k) := by
  unfold gg_il; rw [pp_ia hb]; show gg_ix (nI k) n (f (nI k).toNatClampNeg) = _; rw [pp_ix hk hn, nI_clamp (by omega)]
theorem pp_zl {h : tt_H} {b n k : Nat} {f : Nat → Int32} (hb : h b = some (tt_za n f)) (hk : k < n) (hn : n < 2 ^ 31) : gg_zl h b (nI k) = some (f k) := by
  unfold gg_zl; rw [pp_za hb]; show gg_ix (nI k) n (f (nI k).toNatClampNeg) = _; rw [pp_ix hk hn, nI_clamp (by omega)]
theorem pp_jl {h : tt_H} {b n k : Nat} {f : Nat → Int64} (hb : h b = some (tt_ja n f)) (hk : k < n) (hn : n < 2 ^ 31) : gg_jl h b (nI k) = some (f k) := by
  unfold gg_jl; rw [pp_ja hb]; show gg_ix (nI k) n (f (nI k).toNatClampNeg) = _; rw [pp_ix hk hn, nI_clamp (by omega)]
theorem pp_ql {h : tt_H} {t b n k v : Nat} {f : Nat → Option Nat} (hb : h b = some (tt_qa t n f)) (hk : k < n) (hn : n < 2 ^ 31) (hv : f k = some v) : gg_ql t h b (nI k) = some v := by
  unfold gg_ql; rw [pp_qa hb]; show (gg_ix (nI k) n (f (nI k).toNatClampNeg)).bind id = _; rw [pp_ix hk hn, nI_clamp (by omega), hv]; rfl
theorem pp_is {h : tt_H} {b n k : Nat} {f : Nat → Int32} (hb : h b = some (tt_ia n f)) (hk : k < n) (hn : n < 2 ^ 31) (x : Int32) : gg_is h b (nI k) x = some (va_up h b (some (tt_ia n (upd f k x)))) := by
  unfold gg_is; rw [pp_ia hb]; show gg_ix (nI k) n (va_up h b (some (tt_ia n (upd f (nI k).toNatClampNeg x)))) = _; rw [pp_ix hk hn, nI_clamp (by omega)]
theorem pp_zs {h : tt_H} {b n k : Nat} {f : Nat → Int32} (hb : h b = some (tt_za n f)) (hk : k < n) (hn : n < 2 ^ 31) (x : Int32) : gg_zs h b (nI k) x = some (va_up h b (some (tt_za n (upd f k (vp_nar .boolean x))))) := by
  unfold gg_zs; rw [pp_za hb]; show gg_ix (nI k) n (va_up h b (some (tt_za n (upd f (nI k).toNatClampNeg (vp_nar .boolean x))))) = _; rw [pp_ix hk hn, nI_clamp (by omega)]
theorem pp_js {h : tt_H} {b n k : Nat} {f : Nat → Int64} (hb : h b = some (tt_ja n f)) (hk : k < n) (hn : n < 2 ^ 31) (x : Int64) : gg_js h b (nI k) x = some (va_up h b (some (tt_ja n (vp_updL f k x)))) := by
  unfold gg_js; rw [pp_ja hb]; show gg_ix (nI k) n (va_up h b (some (tt_ja n (vp_updL f (nI k).toNatClampNeg x)))) = _; rw [pp_ix hk hn, nI_clamp (by omega)]
theorem pp_bind {α β : Type} (a : α) (f : α → Option β) : (some a).bind f = f a := rfl
theorem pp_m1 {k : Nat} (h : 0 < k) : nI k - 1 = nI (k - 1) := by
  obtain ⟨j, rfl⟩ : ∃ j, k = j + 1 := ⟨k - 1, by omega⟩
  exact nI_pred j
theorem pp_p1 {k : Nat} (h : 0 < k) : nI k + (-1) = nI (k - 1) := by
  obtain ⟨j, rfl⟩ : ∃ j, k = j + 1 := ⟨k - 1, by omega⟩
  exact pk_m1 j
theorem pp_neg1 : (-1 : Int32) < 0 := by decide
/-- an int: below 0, or a number -/
theorem pp_int (x : Int32) : x < 0 ∨ ∃ k : Nat, k < 2 ^ 31 ∧ x = nI k := by
  by_cases h : x < 0
  · exact Or.inl h
  · exact Or.inr (nI_of h)
theorem pp_nneg {k : Nat} (h : k < 2 ^ 31) : ¬ nI k < 0 := nI_pos h
theorem pp_neg_lt {x : Int32} {n : Nat} (hx : x < 0) (hn : n < 2 ^ 31) : ¬ nI n ≤ x := fun h => by
  have h1 := Int32.lt_iff_toInt_lt.mp hx
  have h2 := Int32.le_iff_toInt_le.mp h
  rw [nI_toInt hn] at h2
  have h3 : (0 : Int32).toInt = 0 := rfl
  omega
theorem pp_neg_ne {x : Int32} {n : Nat} (hx : x < 0) (hn : n < 2 ^ 31) : x ≠ nI n := fun h => by
  rw [h] at hx; exact nI_pos hn hx
/-! A CRY of the class: n WORDS f; its object at place b, its row at b + 1 -/
def pp_cry (h : tt_H) (b n : Nat) (f : Nat → Nat) : Prop := ∃ g : Nat → Int32, h b = some (tt_ob 2 [.ref (b + 1), .int (nI n)]) ∧ h (b + 1) = some (tt_ia 12 g) ∧ n ≤ 12 ∧ ∀ k, k < n → g k = nI (f k) ∧ f k < 8
def pp_w (n : Nat) (f : Nat → Nat) (k : Nat) : Int32 := if k < n then nI (f k) else -9
theorem pp_cry.up {h : tt_H} {b n : Nat} {f : Nat → Nat} (hc : pp_cry h b n f) {p : Nat} (e : Option tt_E) (h1 : b ≠ p) (h2 : b + 1 ≠ p) : pp_cry (va_up h p e) b n f := by
  obtain ⟨g, e1, e2, e3⟩ := hc
  exact ⟨g, by rw [va_up_ne _ _ h1]; exact e1, by rw [va_up_ne _ _ h2]; exact e2, e3⟩
section CRY
variable {h : tt_H} {b n : Nat} {f : Nat → Nat}
theorem pp_cry.le (hc : pp_cry h b n f) : n ≤ 12 := hc.choose_spec.2.2.1
theorem pp_cry.lt8 (hc : pp_cry h b n f) {k : Nat} (hk : k < n) : f k < 8 := (hc.choose_spec.2.2.2 k hk).2
theorem pp_cobj (hc : pp_cry h b n f) : gg_obj h b 2 = some [.ref (b + 1), .int (nI n)] := pp_obj hc.choose_spec.1
theorem pp_size (hc : pp_cry h b n f) : s_X2_size b h = some (nI n, h) := by
  unfold s_X2_size
  rw [pp_fi hc.choose_spec.1 (v := nI n) rfl]; rfl
theorem pp_has (hc : pp_cry h b n f) {k : Nat} (hk : k < 2 ^ 31) : s_X2_has b (nI k) h = some (if k < n then 1 else 0, h) := by
  have hn := hc.le
  unfold s_X2_has
  rw [if_neg (nI_pos hk), pp_fi hc.choose_spec.1 (v := nI n) rfl, pp_bind]
  by_cases hkn : k < n
  · rw [if_neg (nI_ge hkn (by omega)), if_pos hkn]
  · rw [if_pos (nI_le (by omega) hk), if_neg hkn]
theorem pp_hasN (hc : pp_cry h b n f) {x : Int32} (hx : x < 0) : s_X2_has b x h = some (0, h) := by
  unfold s_X2_has
  rw [if_pos hx]
theorem pp_at (hc : pp_cry h b n f) {k : Nat} (hk : k < 2 ^ 31) : s_X2_at b (nI k) h = some (pp_w n f k, h) := by
  have hn := hc.le
  unfold s_X2_at pp_w
  rw [pp_cobj hc, pp_bind, pp_has hc hk, pp_bind]
  by_cases hkn : k < n
  · obtain ⟨g, e1, e2, e3, e4⟩ := hc
    simp only [if_pos hkn]
    rw [if_neg (by decide), pp_fr e1 (v := b + 1) rfl, pp_bind, pp_il e2 (by omega) (by decide), pp_bind, (e4 k hkn).1]
  · simp only [if_neg hkn]
    rw [if_pos trivial]
theorem pp_atN (hc : pp_cry h b n f) {x : Int32} (hx : x < 0) : s_X2_at b x h = some (-9, h) := by
  unfold s_X2_at
  rw [pp_cobj hc, pp_bind, pp_hasN hc hx, pp_bind, if_pos rfl]
end CRY
theorem pp_w_in {n k : Nat} {f : Nat → Nat} (h : k < n) : pp_w n f k = nI (f k) := if_pos h
theorem pp_w_eq {n n' k k' : Nat} {f f' : Nat → Nat} (h : k < n) (h' : k' < n') (hf : f k < 8) (hf' : f' k' < 8) : pp_w n f k = pp_w n' f' k' ↔ f k = f' k' := by
  rw [pp_w_in h, pp_w_in h']
  exact nI_eq (by omega) (by omega)
