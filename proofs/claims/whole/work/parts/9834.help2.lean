/-- help's best so far: whom, and how many are lost then -/
def hst (N : Nat → Nat) (K k : Nat) (b : Option (Nat × Nat)) : Option (Nat × Nat) := if K.testBit k = true then b else match b with
  | none => some (k, N k)
  | some (c, y) => if N k < y then some (k, N k) else some (c, y)
def hok2 (n : Nat) (b : Option (Nat × Nat)) : Prop := ∀ c y, b = some (c, y) → c < n ∧ y ≤ 4
theorem hok2_s {N : Nat → Nat} {K n : Nat} {b : Option (Nat × Nat)} (hN : ∀ k, N k ≤ 4) (h : hok2 n b) : hok2 (n + 1) (hst N K n b) := by
  intro c y e
  unfold hst at e
  split at e
  · have := h c y e; omega
  · cases b with
    | none => cases e; exact ⟨by omega, hN _⟩
    | some cy =>
      obtain ⟨c0, y0⟩ := cy
      have h0 := h c0 y0 rfl
      simp only at e
      split at e
      · cases e; exact ⟨by omega, hN _⟩
      · cases e; omega
