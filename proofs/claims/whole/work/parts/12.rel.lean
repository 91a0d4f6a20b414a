/-! what the small machine's cells are in the heap -/
def sm_cv (ρ : Nat → Nat) (v : Value) : Value := match v with
  | .ref r => bif Nat.beq r 0 then .null else .ref (ρ r)
  | v => v
def sm_ov (ρ : Nat → Nat) (r : Nat) : Option Nat := bif Nat.beq r 0 then none else some (ρ r)
theorem sm_ov_cv (ρ : Nat → Nat) (r : Nat) : va_rf (sm_ov ρ r) = sm_cv ρ (.ref r) := by
  unfold sm_ov sm_cv
  cases h : Nat.beq r 0 <;> simp [va_rf, h]
theorem sm_cv_ne {ρ : Nat → Nat} {r : Nat} (h : r ≠ 0) : sm_cv ρ (.ref r) = .ref (ρ r) := by
  unfold sm_cv
  have : Nat.beq r 0 = false := by cases e : Nat.beq r 0 with
    | false => rfl
    | true => exact absurd (Nat.eq_of_beq_eq_true e) h
  simp [this]
def sm_fv (ρ : Nat → Nat) (R : sm_R) (G : sm_G) (L : sm_L) (r t k : Nat) : Value := bif Nat.beq (sm_F t k) 2 then sm_cv ρ (.ref (R r k)) else bif Nat.beq (sm_F t k) 1 then .long (L r k) else .int (G r k)
def sm_fs (ρ : Nat → Nat) (R : sm_R) (G : sm_G) (L : sm_L) (r : Nat) : List Value := (List.range (sm_N r)).map (sm_fv ρ R G L r (sm_K r))
def sm_el (tc : Nat → ClassId) (ρ : Nat → Nat) (R : sm_R) (G : sm_G) (L : sm_L) (r : Nat) : va_E :=
  if sm_K r < 20 then .inr (sm_K r, sm_fs ρ R G L r)
  else if sm_K r < 23 then .inl (tc (sm_K r), sm_N r, .inl (G r))
  else if sm_K r = 23 then .inl (tc (sm_K r), sm_N r, .inr (.inl (L r)))
  else .inl (tc (sm_K r), sm_N r, .inr (.inr (.inr (.inr (fun j => sm_ov ρ (R r j))))))
def sm_ws (tc : Nat → ClassId) (ρ : Nat → Nat) (n : Nat) (R : sm_R) (G : sm_G) (L : sm_L) : va_W := (List.range n).map (fun i => (ρ (i + 1), sm_el tc ρ R G L (i + 1)))
def sm_tys (tc : Nat → ClassId) : List (ClassId × FieldType) := [(tc 20, .int), (tc 21, .byte), (tc 22, .boolean), (tc 23, .long), (tc 24, .array .int), (tc 25, .object RX10), (tc 26, .object RX3), (tc 27, .object RX7)]
theorem sm_ws_get {tc : Nat → ClassId} {ρ : Nat → Nat} {n : Nat} {R : sm_R} {G : sm_G} {L : sm_L} {r : Nat} (h0 : r ≠ 0) (h : r ≤ n) : (sm_ws tc ρ n R G L)[r - 1]? = some (ρ r, sm_el tc ρ R G L r) := by
  unfold sm_ws
  rw [List.getElem?_map, List.getElem?_range (by omega)]
  have : r - 1 + 1 = r := by omega
  simp [this]
theorem sm_K0 : sm_K 0 = 63 := by decide +kernel
theorem sm_is_spec {r n t : Nat} (h : sm_is r n t = true) (ht : t ≠ 63) : sm_K r = t ∧ r ≤ n ∧ r ≠ 0 := by
  unfold sm_is at h
  rw [Bool.and_eq_true] at h
  have h1 := Nat.eq_of_beq_eq_true h.1
  refine ⟨h1, Nat.le_of_ble_eq_true h.2, fun e => ?_⟩
  subst e
  rw [sm_K0] at h1
  exact ht h1.symm
theorem sm_up_row {α : Type} (G : Nat → Nat → α) (r k : Nat) (v : α) (a : Nat) (h : a ≠ r) : sm_up G r k v a = G a := by
  funext j
  unfold sm_up
  have : Nat.beq a r = false := by cases e : Nat.beq a r with
    | false => rfl
    | true => exact absurd (Nat.eq_of_beq_eq_true e) h
  simp [this]
theorem sm_up_at {α : Type} (G : Nat → Nat → α) (r k : Nat) (v : α) : sm_up G r k v r = fun j => if j = k then v else G r j := by
  funext j
  unfold sm_up
  have e1 : Nat.beq r r = true := Nat.beq_refl r
  by_cases h : j = k
  · subst h
    simp [Nat.beq_refl]
  · have : Nat.beq j k = false := by cases e : Nat.beq j k with
      | false => rfl
      | true => exact absurd (Nat.eq_of_beq_eq_true e) h
    simp [this, h]
theorem sm_cl_row {α : Type} (G : Nat → Nat → α) (r : Nat) (v : α) (a : Nat) (h : a ≠ r) : sm_cl G r v a = G a := by
  funext j
  unfold sm_cl
  have : Nat.beq a r = false := by cases e : Nat.beq a r with
    | false => rfl
    | true => exact absurd (Nat.eq_of_beq_eq_true e) h
  simp [this]
theorem sm_cl_at {α : Type} (G : Nat → Nat → α) (r : Nat) (v : α) : sm_cl G r v r = fun _ => v := by
  funext j
  unfold sm_cl
  simp [Nat.beq_refl]
/-- an element depends on its own rows alone -/
theorem sm_el_congr {tc : Nat → ClassId} {ρ ρ' : Nat → Nat} {R R' : sm_R} {G G' : sm_G} {L L' : sm_L} {r : Nat} (hR : R' r = R r) (hG : G' r = G r) (hL : L' r = L r) (hρ : ∀ k, k < sm_N r → R r k ≠ 0 → ρ' (R r k) = ρ (R r k)) (hn : ∀ k, ¬ k < sm_N r → 24 ≤ sm_K r → R r k ≠ 0 → ρ' (R r k) = ρ (R r k)) : sm_el tc ρ' R' G' L' r = sm_el tc ρ R G L r := by
  have hf : ∀ k, k < sm_N r → sm_cv ρ' (.ref (R r k)) = sm_cv ρ (.ref (R r k)) := fun k hk => by
    by_cases h0 : R r k = 0
    · rw [h0]; rfl
    · rw [sm_cv_ne h0, sm_cv_ne h0, hρ k hk h0]
  unfold sm_el
  by_cases h1 : sm_K r < 20
  · rw [if_pos h1, if_pos h1]
    congr 2
    unfold sm_fs
    apply List.map_congr_left
    intro k hk
    unfold sm_fv
    rw [hR, hG, hL, hf k (List.mem_range.mp hk)]
  · rw [if_neg h1, if_neg h1]
    by_cases h2 : sm_K r < 23
    · rw [if_pos h2, if_pos h2, hG]
    · rw [if_neg h2, if_neg h2]
      by_cases h3 : sm_K r = 23
      · rw [if_pos h3, if_pos h3, hL]
      · rw [if_neg h3, if_neg h3, hR]
        have : (fun j => sm_ov ρ' (R r j)) = fun j => sm_ov ρ (R r j) := by
          funext j
          unfold sm_ov
          by_cases h0 : R r j = 0
          · rw [h0]; rfl
          · have e : ρ' (R r j) = ρ (R r j) := by
              by_cases hj : j < sm_N r
              · exact hρ j hj h0
              · exact hn j hj (by omega) h0
            rw [e]
        rw [this]
/-- one row changed: the world with one element changed -/
theorem sm_ws_set {tc : Nat → ClassId} {ρ : Nat → Nat} {n : Nat} {R R' : sm_R} {G G' : sm_G} {L L' : sm_L} {r : Nat} (h0 : r ≠ 0) (hr : r ≤ n) (hR : ∀ a, a ≠ r → R' a = R a) (hG : ∀ a, a ≠ r → G' a = G a) (hL : ∀ a, a ≠ r → L' a = L a) :
    sm_ws tc ρ n R' G' L' = (sm_ws tc ρ n R G L).set (r - 1) (ρ r, sm_el tc ρ R' G' L' r) := by
  apply List.ext_getElem?
  intro i
  rw [List.getElem?_set]
  unfold sm_ws
  rw [List.getElem?_map, List.getElem?_map]
  by_cases hi : i < n
  · rw [List.getElem?_range hi]
    by_cases e : r - 1 = i
    · have e2 : i + 1 = r := by omega
      simp [e, e2, hi]
    · have e2 : i + 1 ≠ r := by omega
      simp only [e, if_false, Option.map_some]
      rw [sm_el_congr (hR _ e2) (hG _ e2) (hL _ e2) (fun _ _ _ => rfl) (fun _ _ _ _ => rfl)]
  · have h1 : (List.range n)[i]? = none := by simp; omega
    rw [h1]
    have e : r - 1 ≠ i := by omega
    simp [e]
/-- the locals: an empty place says nothing -/
def sm_lv (ρ : Nat → Nat) : Nat → List Value → List (Nat × Value)
  | _, [] => []
  | i, v :: l => match v with
    | .null => sm_lv ρ (i + 1) l
    | v => (i, sm_cv ρ v) :: sm_lv ρ (i + 1) l
theorem sm_lv_mem {ρ : Nat → Nat} {q : Nat × Value} : ∀ (ls : List Value) (i : Nat), q ∈ sm_lv ρ i ls ↔ ∃ (k : Nat) (v : Value), ls[k]? = some v ∧ v ≠ .null ∧ q = (i + k, sm_cv ρ v)
  | [], i => by simp [sm_lv]
  | v :: l, i => by
    have ih := sm_lv_mem (ρ := ρ) (q := q) l (i + 1)
    have e : (∃ (k : Nat) (u : Value), (v :: l)[k]? = some u ∧ u ≠ .null ∧ q = (i + k, sm_cv ρ u)) ↔ (v ≠ .null ∧ q = (i, sm_cv ρ v)) ∨ ∃ (k : Nat) (u : Value), l[k]? = some u ∧ u ≠ .null ∧ q = (i + 1 + k, sm_cv ρ u) := by
      constructor
      · rintro ⟨k, u, h1, h2, h3⟩
        cases k with
        | zero =>
          simp at h1
          subst h1
          exact Or.inl ⟨h2, h3⟩
        | succ k =>
          simp at h1
          exact Or.inr ⟨k, u, h1, h2, by rw [h3]; congr 1; omega⟩
      · rintro (⟨h1, h2⟩ | ⟨k, u, h1, h2, h3⟩)
        · exact ⟨0, v, rfl, h1, h2⟩
        · exact ⟨k + 1, u, by simpa using h1, h2, by rw [h3]; congr 1; omega⟩
    rw [e, ← ih]
    cases v <;> simp [sm_lv]
theorem sm_has_get {ρ : Nat → Nat} {rls : Array Slot} {nL : Nat} {ls : List Value} (h : lv_has rls nL (sm_lv ρ 0 ls)) {i : Nat} {v : Value} (hv : ls.getD i .null = v) (h0 : v ≠ .null) : rls[i]? = some (.val (sm_cv ρ v)) := by
  have hg : ls[i]? = some v := by
    rw [List.getD_eq_getElem?_getD] at hv
    cases e : ls[i]? with
    | none => rw [e] at hv; exact absurd hv.symm h0
    | some u => rw [e] at hv; exact congrArg some hv
  exact h.2.2 (i, sm_cv ρ v) ((sm_lv_mem ls 0).mpr ⟨i, v, hg, h0, by simp⟩)
theorem sm_has_sub {rls : Array Slot} {nL : Nat} {l l' : List (Nat × Value)} (h : lv_has rls nL l) (hs : ∀ q ∈ l', q ∈ l) : lv_has rls nL l' := ⟨h.1, h.2.1, fun q hq => h.2.2 q (hs q hq)⟩
theorem sm_mask_sub {ρ : Nat → Nat} : ∀ (ls : List Value) (m i : Nat), ∀ q ∈ sm_lv ρ i (sm_mask m ls), q ∈ sm_lv ρ i ls
  | [], m, i => by simp [sm_mask]
  | v :: l, m, i => by
    intro q hq
    unfold sm_mask at hq
    have ih := sm_mask_sub (ρ := ρ) l (m / 2) (i + 1)
    cases e : Nat.beq (m % 2) 1 with
    | false =>
      rw [e] at hq
      have h1 := ih q (by simpa [sm_lv] using hq)
      cases v <;> simp [sm_lv, h1]
    | true =>
      rw [e] at hq
      cases v <;> simp only [cond_true, sm_lv, List.mem_cons] at hq ⊢ <;> first | exact ih q hq | (rcases hq with h | h; exact Or.inl h; exact Or.inr (ih q h))
