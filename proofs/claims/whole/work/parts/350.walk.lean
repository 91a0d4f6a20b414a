/-! a method's code gone through, once -/
def sm_nopb (i : Instr) : Bool := match i with
  | .nop => true
  | _ => false
theorem sm_nopb_of {i : Instr} (h : sm_nopb i = true) : i = .nop := by
  unfold sm_nopb at h
  split at h
  · rfl
  · cases h
def sm_fst : List UInt8 → Nat
  | [] => 0
  | b :: _ => b.toNat
/-- one place -/
def sm_fw1 (o nL rj : Nat) (ini hi : Bool) (cc : ByteArray) (pc : Nat) (b : UInt8) (r : List UInt8) (i : Instr) : Bool :=
  (sm_nopb i || (((Nat.ble (sm_real i pc).2 (Nat.add 1 r.length) && Nat.ble (sm_real i pc).2 3 && dk_chk b.toNat (sm_fst r) (sm_fst r.tail) pc i) || decide (decode cc pc = .ok (sm_real i pc))) && sm_ci o nL ini i)) && sm_cck o i && sm_rck rj i && (hi || sm_pu i) && (match i with
  | .new v => Nat.blt (Nat.mod v 256) 40 || Nat.beq rj 29 || Nat.beq rj 31 || Nat.beq rj 41 || Nat.beq rj 60
  | _ => true)
def sm_fwk (o nL rj : Nat) (ini hi : Bool) (cc : ByteArray) (T : Nat → Instr) : Nat → List UInt8 → Bool
  | _, [] => true
  | pc, b :: r => sm_fw1 o nL rj ini hi cc pc b r (T pc) && sm_fwk o nL rj ini hi cc T (Nat.add pc 1) r
theorem sm_fwk_get {o nL rj : Nat} {ini hi : Bool} {cc : ByteArray} {T : Nat → Instr} : ∀ (l : List UInt8) (pc : Nat), sm_fwk o nL rj ini hi cc T pc l = true → ∀ k b r, l.drop k = b :: r → sm_fw1 o nL rj ini hi cc (pc + k) b r (T (pc + k)) = true
  | [], _, _, k, b, r, e => by simp at e
  | c :: l, pc, h, 0, b, r, e => by
    cases e
    have h : (sm_fw1 o nL rj ini hi cc pc c l (T pc) && sm_fwk o nL rj ini hi cc T (Nat.add pc 1) l) = true := h
    rw [Bool.and_eq_true] at h
    exact h.1
  | c :: l, pc, h, k + 1, b, r, e => by
    have h : (sm_fw1 o nL rj ini hi cc pc c l (T pc) && sm_fwk o nL rj ini hi cc T (Nat.add pc 1) l) = true := h
    rw [Bool.and_eq_true] at h
    have := sm_fwk_get l (pc + 1) h.2 k b r e
    rw [show pc + (k + 1) = pc + 1 + k by omega]
    exact this
theorem sm_byte {cc : ByteArray} {k : Nat} {b : UInt8} {r : List UInt8} (e : cc.data.toList.drop k = b :: r) : ∃ h : k < cc.size, cc[k] = b := by
  have h0 : cc.data.toList[k]? = some b := by
    have := congrArg List.head? e
    rw [List.head?_drop] at this
    exact this
  have h1 : cc.data[k]? = some b := by rw [← Array.getElem?_toList]; exact h0
  obtain ⟨h2, h3⟩ := Array.getElem?_eq_some_iff.mp h1
  exact ⟨h2, h3⟩
theorem sm_fw_dec {o nL rj : Nat} {ini hi : Bool} {cc : ByteArray} {pc : Nat} {b : UInt8} {r : List UInt8} {i : Instr} (e : cc.data.toList.drop pc = b :: r) (h : sm_fw1 o nL rj ini hi cc pc b r i = true) : (sm_chk o nL cc ini pc i ∧ sm_cck o i = true ∧ sm_rck rj i = true ∧ (hi = false → sm_pu i = true)) ∧ ∀ v, i = .new v → rj ≠ 29 → rj ≠ 31 → rj ≠ 41 → rj ≠ 60 → Nat.mod v 256 < 40 := by
  unfold sm_fw1 at h
  simp only [Bool.and_eq_true, Bool.or_eq_true, decide_eq_true_eq] at h
  obtain ⟨⟨⟨⟨h1, h2⟩, h3⟩, h4⟩, h5⟩ := h
  refine ⟨⟨?_, h2, h3, fun q => ?_⟩, fun v hv q1 q2 q3 q4 => ?_⟩
  · rcases h1 with h1 | ⟨h1, h6⟩
    · exact Or.inl (sm_nopb_of h1)
    · refine Or.inr ⟨?_, h6⟩
      rcases h1 with ⟨⟨h1, h8⟩, h7⟩ | h1
      · have h1 := Nat.le_of_ble_eq_true h1
        have h8 := Nat.le_of_ble_eq_true h8
        have h1 : (sm_real i pc).2 ≤ 1 + r.length := h1
        obtain ⟨b0, c0⟩ := sm_byte e
        refine dk_of h7 ⟨b0, by rw [c0]⟩ (fun q => ?_) (fun q => ?_)
        · cases hr : r with
          | nil => rw [hr] at h1; exact absurd h1 (by simp; omega)
          | cons b1 r1 =>
            have e1 : cc.data.toList.drop (pc + 1) = b1 :: r1 := by
              rw [← List.drop_drop, e, ← hr]
              rfl
            obtain ⟨g1, g2⟩ := sm_byte e1
            exact ⟨g1, by rw [g2]; rfl⟩
        · cases hr : r with
          | nil => rw [hr] at h1; exact absurd h1 (by simp; omega)
          | cons b1 r1 =>
            cases hr1 : r1 with
            | nil => rw [hr, hr1] at h1; exact absurd h1 (by simp; omega)
            | cons b2 r2 =>
              have e1 : cc.data.toList.drop (pc + 1 + 1) = b2 :: r2 := by
                rw [show pc + 1 + 1 = pc + 2 by omega, ← List.drop_drop, e, hr, hr1]
                rfl
              obtain ⟨g1, g2⟩ := sm_byte e1
              exact ⟨g1, by rw [g2]; rfl⟩
      · exact h1
  · rcases h4 with h4 | h4
    · rw [q] at h4; cases h4
    · exact h4
  · rw [hv] at h5
    simp only [Bool.or_eq_true] at h5
    rcases h5 with (((h | h) | h) | h) | h
    · exact sm_blt h
    · exact absurd (Nat.eq_of_beq_eq_true h) q1
    · exact absurd (Nat.eq_of_beq_eq_true h) q2
    · exact absurd (Nat.eq_of_beq_eq_true h) q3
    · exact absurd (Nat.eq_of_beq_eq_true h) q4
/-- all that a program checks of a method -/
def sm_cka (j : Nat) : Bool := sm_mck j && (sm_hz j).all (sm_hrck j) && Nat.blt (sm_la j) (sm_b j).data.toList.length && sm_fwk (sm_own j) (sm_ml j) j (sm_ini j) (Nat.ble 512 j) (sm_b j) (sm_T j) 0 (sm_b j).data.toList
theorem sm_fw_all {o nL rj la : Nat} {ini hi : Bool} {cc : ByteArray} {T : Nat → Instr} (h1 : Nat.blt la cc.data.toList.length = true) (h2 : sm_fwk o nL rj ini hi cc T 0 cc.data.toList = true) (h3 : ∀ pc, la < pc → T pc = .nop) (pc : Nat) : (sm_chk o nL cc ini pc (T pc) ∧ sm_cck o (T pc) = true ∧ sm_rck rj (T pc) = true ∧ (hi = false → sm_pu (T pc) = true)) ∧ ∀ v, T pc = .new v → rj ≠ 29 → rj ≠ 31 → rj ≠ 41 → rj ≠ 60 → Nat.mod v 256 < 40 := by
  have h1 := sm_blt h1
  by_cases hp : pc < cc.data.toList.length
  · cases e : cc.data.toList.drop pc with
    | nil =>
      have := List.drop_eq_nil_iff.mp e
      omega
    | cons b r =>
      have := sm_fwk_get _ 0 h2 pc b r e
      rw [Nat.zero_add] at this
      exact sm_fw_dec e this
  · rw [h3 pc (by omega)]
    exact ⟨⟨Or.inl rfl, rfl, rfl, fun _ => rfl⟩, fun v hv => (by cases hv)⟩
