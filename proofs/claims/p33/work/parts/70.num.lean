/-! NUMBERS: longs as numbers (rows of the kit's BITS, pasted), a cry told as a number, three bits a WORD -/
theorem wb_tb (n : Nat) : (lN n).toBitVec = BitVec.ofNat 64 n := rfl
theorem wb_inj {a b : Int64} (h : a.toBitVec = b.toBitVec) : a = b := Int64.toBitVec_inj.mp h
theorem wb_tn {n : Nat} (h : n < 2 ^ 64) : (lN n).toBitVec.toNat = n := by rw [wb_tb, BitVec.toNat_ofNat, Nat.mod_eq_of_lt h]
theorem wb_c : ∀ k, k < 64 → ((nI k).toInt64 &&& 63) = lN k := by decide +kernel
theorem wb_sm : ∀ k, k < 64 → (BitVec.ofNat 64 k).smod 64 = BitVec.ofNat 64 k := by decide +kernel
theorem wb_lt2 {a b : Nat} (h : a < b) : 2 ^ a < 2 ^ b := Nat.pow_lt_pow_right (by decide) h
theorem wb_shl (n : Nat) {k : Nat} (hk : k < 64) : lN n <<< ((nI k).toInt64 &&& 63) = lN (n * 2 ^ k) := by
  rw [wb_c k hk]
  apply wb_inj
  rw [Int64.toBitVec_shiftLeft, wb_tb, wb_tb, wb_tb, wb_sm k hk]
  apply BitVec.eq_of_toNat_eq
  rw [BitVec.shiftLeft_eq', BitVec.toNat_shiftLeft, BitVec.toNat_ofNat, BitVec.toNat_ofNat, BitVec.toNat_ofNat, Nat.mod_eq_of_lt (show k < 2 ^ 64 by omega), Nat.shiftLeft_eq, Nat.mul_mod, Nat.mod_mod, ← Nat.mul_mod]
theorem wb_and {a b : Nat} (ha : a < 2 ^ 64) (hb : b < 2 ^ 64) : lN a &&& lN b = lN (a &&& b) := by
  apply wb_inj
  rw [Int64.toBitVec_and, wb_tb, wb_tb, wb_tb]
  apply BitVec.eq_of_toNat_eq
  rw [BitVec.toNat_and, BitVec.toNat_ofNat, BitVec.toNat_ofNat, BitVec.toNat_ofNat, Nat.mod_eq_of_lt ha, Nat.mod_eq_of_lt hb, Nat.mod_eq_of_lt (Nat.and_lt_two_pow _ hb)]
theorem wb_or {a b : Nat} (ha : a < 2 ^ 64) (hb : b < 2 ^ 64) : lN a ||| lN b = lN (a ||| b) := by
  apply wb_inj
  rw [Int64.toBitVec_or, wb_tb, wb_tb, wb_tb]
  apply BitVec.eq_of_toNat_eq
  rw [BitVec.toNat_or, BitVec.toNat_ofNat, BitVec.toNat_ofNat, BitVec.toNat_ofNat, Nat.mod_eq_of_lt ha, Nat.mod_eq_of_lt hb, Nat.mod_eq_of_lt (Nat.or_lt_two_pow ha hb)]
theorem wb_mask {n k : Nat} (hn : n < 2 ^ 64) (hk : k < 64) : lN n &&& lN (2 ^ k - 1) = lN (n % 2 ^ k) := by
  rw [wb_and hn (by have := wb_lt2 hk; omega), Nat.and_two_pow_sub_one_eq_mod]
theorem pf_lI {a : Nat} (h : a < 2 ^ 63) : (lN a).toInt = (a : Int) := lg_ofNat_toInt h
theorem pf_shr {a d : Nat} {D : Int64} (hD : (D.toBitVec.smod 64).toNat = d) (h : a < 2 ^ 62) : lN a >>> D = lN (a / 2 ^ d) := by
  have hd : a / 2 ^ d ≤ a := Nat.div_le_self _ _
  apply Int64.toInt_inj.mp
  have e : (lN a >>> D).toInt = (lN a).toInt >>> d := by
    rw [← hD]
    exact BitVec.toInt_sshiftRight ..
  rw [e, Int.shiftRight_eq_div_pow, pf_lI (by omega), pf_lI (by omega)]
  rfl
theorem cn_D {k : Nat} (hk : k < 64) : (((nI k).toInt64 &&& 63).toBitVec.smod 64).toNat = k := by
  rw [wb_c k hk, wb_tb, wb_sm k hk, BitVec.toNat_ofNat, Nat.mod_eq_of_lt (by omega)]
theorem cn_shr {x k : Nat} (hx : x < 2 ^ 62) (hk : k < 64) : lN x >>> ((nI k).toInt64 &&& 63) = lN (x / 2 ^ k) := pf_shr (cn_D hk) hx
theorem cn_or {a b k : Nat} (ha : a < 2 ^ k) (h : a + b * 2 ^ k < 2 ^ 64) : lN a ||| lN (b * 2 ^ k) = lN (a + b * 2 ^ k) := by
  rw [wb_or (by omega) (by omega)]
  congr 1
  rw [Nat.or_comm, ← Nat.shiftLeft_eq, ← Nat.shiftLeft_add_eq_or_of_lt ha, Nat.add_comm]
theorem cn_8 (k : Nat) : 8 ^ k = 2 ^ (3 * k) := by rw [Nat.pow_mul]
theorem cn_3 (k : Nat) : (3 : Int32) * nI k = nI (3 * k) := by rw [pp_lit 3, pk_mul]
def cN (f : Nat → Nat) : Nat → Nat
  | 0 => 0
  | n + 1 => cN f n + f n * 8 ^ n
theorem cN_cong {f g : Nat → Nat} : ∀ n, (∀ k, k < n → f k = g k) → cN f n = cN g n
  | 0, _ => rfl
  | n + 1, h => by rw [cN, cN, cN_cong n (fun k hk => h k (by omega)), h n (Nat.lt_succ_self n)]
theorem cN_lt {f : Nat → Nat} : ∀ n, (∀ k, k < n → f k < 8) → cN f n < 8 ^ n
  | 0, _ => Nat.one_pos
  | n + 1, h => by
    have h1 := cN_lt n (fun k hk => h k (by omega))
    have h2 := h n (Nat.lt_succ_self n)
    have h3 : f n * 8 ^ n ≤ 7 * 8 ^ n := Nat.mul_le_mul_right _ (by omega)
    rw [cN, Nat.pow_succ]
    omega
theorem cN_add (f : Nat → Nat) (p : Nat) : ∀ m, cN f (p + m) = cN f p + 8 ^ p * cN (fun k => f (p + k)) m
  | 0 => by rw [Nat.add_zero, cN, Nat.mul_zero, Nat.add_zero]
  | m + 1 => by
    rw [show p + (m + 1) = (p + m) + 1 from rfl, cN, cN_add f p m, cN, Nat.mul_add, Nat.pow_add]
    rw [Nat.add_assoc]
    congr 1
    congr 1
    rw [← Nat.mul_assoc, ← Nat.mul_assoc, Nat.mul_comm (f (p + m)) (8 ^ p)]
theorem cN_div {f : Nat → Nat} {p m : Nat} (h : ∀ k, k < p → f k < 8) : cN f (p + m) / 8 ^ p = cN (fun k => f (p + k)) m := by
  have h1 := cN_lt p h
  rw [cN_add, Nat.add_mul_div_left _ _ (Nat.pow_pos (by decide)), Nat.div_eq_of_lt h1, Nat.zero_add]
theorem cN_mod {f : Nat → Nat} {p m : Nat} (h : ∀ k, k < p → f k < 8) : cN f (p + m) % 8 ^ p = cN f p := by
  have h1 := cN_lt p h
  rw [cN_add, Nat.add_mul_mod_self_left, Nat.mod_eq_of_lt h1]
theorem cN_dig {f : Nat → Nat} {n k : Nat} (h : ∀ k, k < n → f k < 8) (hk : k < n) : cN f n / 8 ^ k % 8 = f k := by
  obtain ⟨m, rfl⟩ : ∃ m, n = k + (m + 1) := ⟨n - k - 1, by omega⟩
  rw [cN_div (fun j hj => h j (by omega)), Nat.add_comm m 1, cN_add]
  have e : cN (fun j => f (k + j)) 1 = f k := by simp [cN]
  rw [e]
  have := h k hk
  rw [show (8 : Nat) ^ 1 = 8 from rfl, Nat.add_mul_mod_self_left, Nat.mod_eq_of_lt this]
theorem cN_inj {f g : Nat → Nat} {n : Nat} (h : ∀ k, k < n → f k < 8) (h2 : ∀ k, k < n → g k < 8) (e : cN f n = cN g n) : ∀ k, k < n → f k = g k := fun k hk => by
  rw [← cN_dig h hk, ← cN_dig h2 hk, e]
theorem cN_36 {f : Nat → Nat} {n : Nat} (h : ∀ k, k < n → f k < 8) (hn : n ≤ 12) : cN f n < 2 ^ 36 := by
  have h1 := cN_lt n h
  have h2 : 8 ^ n ≤ 8 ^ 12 := Nat.pow_le_pow_right (by decide) hn
  have h3 : (8 : Nat) ^ 12 = 2 ^ 36 := by decide
  omega
/-! the law's word, with, some -/
theorem lw_word {x k : Nat} (hx : x < 2 ^ 62) (hk : k < 21) (h : tt_H) : s_L_word (lN x) (nI k) h = some (nI (x / 8 ^ k % 8), h) := by
  unfold s_L_word
  rw [cn_3, cn_shr hx (by omega), show (7 : Int64) = lN (2 ^ 3 - 1) from rfl, wb_mask (Nat.lt_of_le_of_lt (Nat.div_le_self _ _) (by omega)) (by decide), lN_i, cn_8]
theorem lw_wordf {f : Nat → Nat} {n k : Nat} (hf : ∀ k, k < n → f k < 8) (hn : n ≤ 12) (hk : k < n) (h : tt_H) : s_L_word (lN (cN f n)) (nI k) h = some (nI (f k), h) := by
  have := cN_36 hf hn
  rw [lw_word (by omega) (by omega), cN_dig hf hk]
theorem lw_withN {x p w : Nat} (hx : x < 2 ^ 36) (hp : p ≤ 12) (hw : w < 8) (h : tt_H) : s_L_with (lN x) (nI p) (nI w) h = some (lN (x % 8 ^ p + w * 8 ^ p + x / 8 ^ p * 8 ^ (p + 1)), h) := by
  have p12 : 2 ^ (3 * p) ≤ 2 ^ 36 := Nat.pow_le_pow_right (by decide) (by omega)
  have pos : 0 < 2 ^ (3 * p) := Nat.pow_pos (by decide)
  have hm : x % 2 ^ (3 * p) < 2 ^ (3 * p) := Nat.mod_lt _ pos
  have hd : x / 2 ^ (3 * p) * 2 ^ (3 * p) ≤ x := Nat.div_mul_le_self _ _
  have hw7 : w * 2 ^ (3 * p) ≤ 7 * 2 ^ (3 * p) := Nat.mul_le_mul_right _ (by omega)
  have e3 : 2 ^ (3 * p + 3) = 8 * 2 ^ (3 * p) := by rw [Nat.pow_add]; omega
  have e4 : x / 2 ^ (3 * p) * 2 ^ (3 * p + 3) = 8 * (x / 2 ^ (3 * p) * 2 ^ (3 * p)) := by rw [e3, Nat.mul_left_comm]
  unfold s_L_with
  rw [cn_3, show nI (3 * p) + 3 = nI (3 * p + 3) from by rw [pp_lit 3, nI_add], show (1 : Int64) = lN 1 from rfl, wb_shl 1 (show 3 * p < 64 by omega), lN_sub (by omega), Nat.one_mul, wb_mask (by omega) (by omega), nI_l (by omega), wb_shl w (by omega), cn_shr (by omega) (by omega), wb_shl _ (show 3 * p + 3 < 64 by omega), cn_or hm (by omega), cn_or (by omega) (by omega), ← cn_8, show 3 * p + 3 = 3 * (p + 1) by omega, ← cn_8]
theorem cN_ins {f : Nat → Nat} {n p w : Nat} (hf : ∀ k, k < n → f k < 8) (hp : p ≤ n) : cN f n % 8 ^ p + w * 8 ^ p + cN f n / 8 ^ p * 8 ^ (p + 1) = cN (ins_f p w f) (n + 1) := by
  obtain ⟨m, rfl⟩ : ∃ m, n = p + m := ⟨n - p, by omega⟩
  rw [cN_mod (fun k hk => hf k (by omega)), cN_div (fun k hk => hf k (by omega)), show p + m + 1 = p + (1 + m) by omega, cN_add, cN_add]
  have e1 : cN (ins_f p w f) p = cN f p := cN_cong p (fun k hk => by unfold ins_f; rw [if_pos hk])
  have e2 : cN (fun k => ins_f p w f (p + k)) 1 = w := by simp [cN, ins_f]
  have e3 : cN (fun k => ins_f p w f (p + (1 + k))) m = cN (fun k => f (p + k)) m := cN_cong m (fun k hk => by
    unfold ins_f
    rw [if_neg (by omega), if_neg (by omega)]
    congr 1; omega)
  rw [e1, e2, e3, Nat.mul_add, Nat.add_assoc, Nat.mul_comm w, Nat.pow_succ, show (8 : Nat) ^ 1 = 8 from rfl]
  congr 2
  rw [Nat.mul_comm, Nat.mul_assoc]
theorem lw_with {f : Nat → Nat} {n p w : Nat} (hf : ∀ k, k < n → f k < 8) (hn : n ≤ 12) (hp : p ≤ n) (hw : w < 8) (h : tt_H) : s_L_with (lN (cN f n)) (nI p) (nI w) h = some (lN (cN (ins_f p w f) (n + 1)), h) := by
  rw [lw_withN (cN_36 hf hn) (by omega) hw, cN_ins hf hp]
theorem lw_some (x : Int32) {n : Nat} (h0 : 0 < n) (hn : n < 2 ^ 31) (h : tt_H) : ∃ j, j < n ∧ s_L_some x (nI n) h = some (nI j, h) := by
  obtain ⟨a, ha, e⟩ := pk_andE x (m := 2147483647) 31 (by decide)
  refine ⟨a % n, Nat.mod_lt _ h0, ?_⟩
  unfold s_L_some
  rw [e, pk_rem ha h0 hn]
  unfold gg_nz
  rw [if_neg (nI_ne0 h0 hn), pp_bind]
/-! the ints of a set -/
theorem st_D : ∀ q, q < 32 → ((nI q &&& 31).toBitVec.smod 32).toNat = q := by decide +kernel
theorem st_1 : ∀ n, n < 13 → (1 : Int32) <<< (nI n &&& 31) = nI (2 ^ n) := by decide +kernel
theorem st_bit {s q : Nat} (hs : s < 2 ^ 31) (hq : q < 31) : ((nI s >>> (nI q &&& 31)) &&& 1) = 0 ↔ s.testBit q = false := by
  rw [pk_shrN hs _ q (st_D q (by omega)), pk_andN (Nat.lt_of_le_of_lt (Nat.div_le_self _ _) (by omega)) (m := 1) 1 (by decide)]
  have h2 : s / 2 ^ q % 2 ^ 1 < 2 := Nat.mod_lt _ (by decide)
  rw [show (0 : Int32) = nI 0 from rfl, nI_eq (by omega) (by decide), Nat.testBit_eq_decide_div_mod_eq]
  simp only [decide_eq_false_iff_not]
  omega
