/-! THE BEGINNING: both are made -/
def C_0 : tt_H := va_up (fun _ => none) 0 (some (.inr (8, [.null, .null, .null, .null, .null, .null, .null, .null, .null, .null, .int 0, .int 0, .int 0])))
def C_49 : tt_H := va_up (C_X8 C_0) 49 (some (.inr (9, [.int 0, .int 0, .null, .null, .null, .null, .int 0, .null, .null, .int 0, .int 0, .null, .null, .null, .null, .null, .int 0, .int 0, .int 0, .null, .null, .null, .null, .null, .null, .null])))
set_option maxRecDepth 100000 in
set_option maxHeartbeats 4000000 in
theorem lw_inv0 : pp_Inv (C_X9 C_49) := by
  refine ⟨(fun _ => 0, 0, fun _ => 0, fun _ _ => 0, fun _ => 9, fun _ => 0, fun _ _ => 0, 0, 0), ⟨fun w hw => (show (0 : Nat) < 3 by decide), (show (0 : Nat) ≤ 6 by decide), fun d hd => absurd hd (Nat.not_lt_zero d), fun k hk h9 => absurd rfl h9⟩, ⟨⟨rfl, ⟨_, rfl, fun w hw => rfl⟩, ⟨_, rfl, fun d hd => ?_⟩, ⟨_, rfl, fun k hk => ?_⟩, fun d hd => ?_, ⟨_, rfl, rfl⟩, fun k hk => ?_, rfl, rfl, rfl, rfl, rfl, rfl, rfl, rfl, rfl⟩, ⟨?_, ?_, ⟨_, rfl⟩, ⟨_, _, rfl, Or.inl ⟨rfl, rfl⟩⟩, ⟨_, _, rfl, Or.inl ⟨rfl, rfl⟩⟩⟩⟩, ⟨⟨⟨_, _, _, _, _, rfl⟩, ⟨_, rfl, fun k hk => ?_⟩, ⟨_, rfl, fun k hk h9 => absurd rfl h9⟩, ⟨_, rfl, fun k hk h9 => absurd rfl h9⟩, ⟨_, rfl, fun w hw => rfl⟩, _, rfl, _, rfl, fun d hd => absurd hd (Nat.not_lt_zero d)⟩, ?_, ?_⟩⟩
  · match d, hd with
    | 0, _ => rfl
    | 1, _ => rfl
    | 2, _ => rfl
    | 3, _ => rfl
    | 4, _ => rfl
    | 5, _ => rfl
    | d + 6, hd => omega
  · match k, hk with
    | 0, _ => rfl
    | 1, _ => rfl
    | 2, _ => rfl
    | 3, _ => rfl
    | k + 4, hk => omega
  · match d, hd with
    | 0, _ => exact ⟨_, _, rfl, rfl, fun z => absurd z (Nat.not_lt_zero _)⟩
    | 1, _ => exact ⟨_, _, rfl, rfl, fun z => absurd z (Nat.not_lt_zero _)⟩
    | 2, _ => exact ⟨_, _, rfl, rfl, fun z => absurd z (Nat.not_lt_zero _)⟩
    | 3, _ => exact ⟨_, _, rfl, rfl, fun z => absurd z (Nat.not_lt_zero _)⟩
    | 4, _ => exact ⟨_, _, rfl, rfl, fun z => absurd z (Nat.not_lt_zero _)⟩
    | 5, _ => exact ⟨_, _, rfl, rfl, fun z => absurd z (Nat.not_lt_zero _)⟩
    | d + 6, hd => omega
  · match k, hk with
    | 0, _ => exact ⟨_, _, rfl, rfl, fun z => absurd rfl z⟩
    | 1, _ => exact ⟨_, _, rfl, rfl, fun z => absurd rfl z⟩
    | 2, _ => exact ⟨_, _, rfl, rfl, fun z => absurd rfl z⟩
    | 3, _ => exact ⟨_, _, rfl, rfl, fun z => absurd rfl z⟩
    | k + 4, hk => omega
  · simp only [cc_sI]
    exact List.forall_mem_cons.mpr ⟨⟨_, rfl⟩, List.forall_mem_cons.mpr ⟨⟨_, rfl⟩, List.forall_mem_cons.mpr ⟨⟨_, rfl⟩, List.forall_mem_cons.mpr ⟨⟨_, rfl⟩, fun _ hz => absurd hz List.not_mem_nil⟩⟩⟩⟩
  · simp only [cc_sJ]
    exact List.forall_mem_cons.mpr ⟨⟨_, rfl⟩, List.forall_mem_cons.mpr ⟨⟨_, rfl⟩, List.forall_mem_cons.mpr ⟨⟨_, rfl⟩, List.forall_mem_cons.mpr ⟨⟨_, rfl⟩, List.forall_mem_cons.mpr ⟨⟨_, rfl⟩, List.forall_mem_cons.mpr ⟨⟨_, rfl⟩, List.forall_mem_cons.mpr ⟨⟨_, rfl⟩, fun _ hz => absurd hz List.not_mem_nil⟩⟩⟩⟩⟩⟩⟩
  · match k, hk with
    | 0, _ => rfl
    | 1, _ => rfl
    | 2, _ => rfl
    | 3, _ => rfl
    | k + 4, hk => omega
  · simp only [mm_sI]
    exact List.forall_mem_cons.mpr ⟨⟨_, rfl⟩, List.forall_mem_cons.mpr ⟨⟨_, rfl⟩, List.forall_mem_cons.mpr ⟨⟨_, rfl⟩, List.forall_mem_cons.mpr ⟨⟨_, rfl⟩, List.forall_mem_cons.mpr ⟨⟨_, rfl⟩, List.forall_mem_cons.mpr ⟨⟨_, rfl⟩, List.forall_mem_cons.mpr ⟨⟨_, rfl⟩, List.forall_mem_cons.mpr ⟨⟨_, rfl⟩, fun _ hz => absurd hz List.not_mem_nil⟩⟩⟩⟩⟩⟩⟩⟩
  · simp only [mm_sJ]
    exact List.forall_mem_cons.mpr ⟨⟨_, rfl⟩, List.forall_mem_cons.mpr ⟨⟨_, rfl⟩, List.forall_mem_cons.mpr ⟨⟨_, rfl⟩, List.forall_mem_cons.mpr ⟨⟨_, rfl⟩, fun _ hz => absurd hz List.not_mem_nil⟩⟩⟩⟩
