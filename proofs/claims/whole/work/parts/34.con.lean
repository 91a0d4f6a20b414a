/-! every call keeps its contract -/
theorem sm_ick_of {j : Nat} (h1 : ∀ pc, sm_la j < pc → sm_T j pc = .nop) (h2 : ∀ pc, pc ≤ sm_la j → sm_chk (sm_own j) (sm_ml j) (sm_b j) (sm_ini j) pc (sm_T j pc) ∧ sm_cck (sm_own j) (sm_T j pc) = true ∧ sm_rck j (sm_T j pc) = true ∧ (j < 512 → sm_pu (sm_T j pc) = true)) : sm_ick j := by
  intro pc
  by_cases h : pc ≤ sm_la j
  · exact h2 pc h
  · rw [h1 pc (by omega)]
    exact ⟨Or.inl rfl, rfl, rfl, fun _ => rfl⟩
/-- the check of one instruction, as a program does it -/
def sm_ckb (j pc : Nat) : Bool := (decide (sm_T j pc = .nop) || (decide (decode (sm_b j) pc = .ok (sm_real (sm_T j pc) pc)) && sm_ci (sm_own j) (sm_ml j) (sm_ini j) (sm_T j pc))) && sm_cck (sm_own j) (sm_T j pc) && sm_rck j (sm_T j pc) && (Nat.ble 512 j || sm_pu (sm_T j pc))
def sm_ckm (j : Nat) : Bool := sm_mck j && (sm_hz j).all (sm_hrck j) && (List.range (sm_la j + 1)).all (sm_ckb j)
theorem sm_ckm_ick {j : Nat} (h : sm_ckm j = true) (h1 : ∀ pc, sm_la j < pc → sm_T j pc = .nop) : sm_ick j := by
  unfold sm_ckm at h
  rw [Bool.and_eq_true] at h
  refine sm_ick_of h1 (fun pc hpc => ?_)
  have h2 := List.all_eq_true.mp h.2 pc (List.mem_range.mpr (by omega))
  unfold sm_ckb at h2
  rw [Bool.and_eq_true, Bool.and_eq_true, Bool.and_eq_true, Bool.or_eq_true, Bool.and_eq_true, Bool.or_eq_true] at h2
  obtain ⟨⟨⟨a, b⟩, c⟩, d⟩ := h2
  refine ⟨?_, b, c, fun hj => ?_⟩
  · rcases a with a | ⟨a1, a2⟩
    · exact Or.inl (of_decide_eq_true a)
    · exact Or.inr ⟨of_decide_eq_true a1, a2⟩
  · rcases d with d | d
    · have := sm_ale d; omega
    · exact d
