/-! the fewest sorts -/
theorem tb_add {S f i : Nat} : (S ||| 1 <<< f).testBit i = (S.testBit i || decide (f = i)) := by
  rw [Nat.testBit_or, Nat.one_shiftLeft, Nat.testBit_two_pow]
theorem tb_big {S f i : Nat} (h : S < 2 ^ f) (hi : f ≤ i) : S.testBit i = false := Nat.testBit_lt_two_pow (Nat.lt_of_lt_of_le h (Nat.pow_le_pow_right (by decide) hi))
theorem dby_lt {T : pT} {S : Nat} (hT : okT T) : dby T S < 1024 := by
  have h0 : fo T < 2 ^ 10 := Nat.lt_of_lt_of_le (bs_lt _ _) (Nat.pow_le_pow_right (by decide) hT.gb.2.1)
  have key : ∀ n, n ≤ 6 → itr (fun k a => if S.testBit k = false then a else a ^^^ tu T k) 0 n (fo T) < 2 ^ 10 := by
    intro n
    induction n with
    | zero => intro _; exact h0
    | succ n ih =>
      intro hn
      rw [itr_succ, Nat.zero_add]
      split
      · exact ih (by omega)
      · exact Nat.xor_lt_two_pow (ih (by omega)) (hT.tu1 n (by omega))
  exact key 6 (Nat.le_refl _)
theorem dby_add {T : pT} {S f : Nat} (h : S < 2 ^ f) (hf : f < 6) : dby T (S ||| 1 <<< f) = dby T S ^^^ tu T f := by
  have key : ∀ n, itr (fun k a => if (S ||| 1 <<< f).testBit k = false then a else a ^^^ tu T k) 0 n (fo T) = itr (fun k a => if S.testBit k = false then a else a ^^^ tu T k) 0 n (fo T) ^^^ (if f < n then tu T f else 0) := by
    intro n
    induction n with
    | zero => rw [if_neg (by omega)]; exact (Nat.xor_zero _).symm
    | succ n ih =>
      rw [itr_succ, itr_succ, ih, Nat.zero_add, tb_add]
      by_cases q : f < n
      · rw [if_pos q, if_pos (by omega : f < n + 1), tb_big h (by omega), decide_eq_false (by omega : ¬ f = n)]
        rfl
      · by_cases q2 : f = n
        · subst q2
          rw [if_neg q, if_pos (by omega : f < f + 1), tb_big h (Nat.le_refl _), decide_eq_true rfl, Nat.xor_zero]
          rfl
        · rw [if_neg q, if_neg (by omega : ¬ f < n + 1), decide_eq_false q2, Bool.or_false, Nat.xor_zero, Nat.xor_zero]
  have := key 6
  rw [if_pos hf] at this
  exact this
theorem dby_del {T : pT} {S v : Nat} (h0 : tu T v = 0) : dby T (S ^^^ 1 <<< v) = dby T S := by
  unfold dby
  have key : ∀ n, itr (fun k a => if (S ^^^ 1 <<< v).testBit k = false then a else a ^^^ tu T k) 0 n (fo T) = itr (fun k a => if S.testBit k = false then a else a ^^^ tu T k) 0 n (fo T) := by
    intro n
    induction n with
    | zero => rfl
    | succ n ih =>
      rw [itr_succ, itr_succ, ih, Nat.zero_add, Nat.testBit_xor, Nat.one_shiftLeft, Nat.testBit_two_pow]
      by_cases q : v = n
      · subst q
        rw [h0, Nat.xor_zero, ite_self, ite_self]
      · rw [decide_eq_false q, Bool.xor_false]
  exact key 6
/-- how many sorts -/
abbrev pc1 (S : Nat) : Nat := pc S 10
theorem set_add : ∀ f, f < 6 → ∀ S, S < 64 → S < 2 ^ f → (S ||| 1 <<< f) = S + 2 ^ f ∧ pc1 (S ||| 1 <<< f) = pc1 S + 1 ∧ dgt (S ||| 1 <<< f) = 10 * dgt S + f := by decide +kernel
theorem set_del : ∀ f, f < 6 → ∀ S, S < 64 → S.testBit f = true → (S ^^^ 1 <<< f) < 64 ∧ pc1 (S ^^^ 1 <<< f) < pc1 S := by decide +kernel
theorem set_lt : ∀ S, S < 64 → pc1 S ≤ 6 ∧ dgt S ≤ 12345 := by decide +kernel
/-- no worse than -/
def kle (A B : Nat) : Prop := pc1 A < pc1 B ∨ (pc1 A = pc1 B ∧ dgt A ≤ dgt B)
theorem mod_succ : ∀ f, f < 6 → ∀ X, X < 64 → X % 2 ^ (f + 1) = X % 2 ^ f + 2 ^ f * (X.testBit f).toNat := by decide +kernel
def lpz (z : Nat → Bool) : Nat → Nat → Nat → List Nat
  | 0, _, _ => []
  | n + 1, f, S => (if z f = true then [] else (S ||| 1 <<< f) :: lpz z n (f + 1) (S ||| 1 <<< f)) ++ lpz z n (f + 1) S
theorem lpz_sub (z : Nat → Bool) : ∀ n f S, List.Sublist (lpz z n f S) (lpz (fun _ => false) n f S) := by
  intro n
  induction n with
  | zero => intro f S; exact List.Sublist.refl _
  | succ n ih =>
    intro f S
    show List.Sublist ((if z f = true then [] else (S ||| 1 <<< f) :: lpz z n (f + 1) (S ||| 1 <<< f)) ++ lpz z n (f + 1) S) (((S ||| 1 <<< f) :: lpz (fun _ => false) n (f + 1) (S ||| 1 <<< f)) ++ lpz (fun _ => false) n (f + 1) S)
    refine List.Sublist.append ?_ (ih _ _)
    split
    · exact List.nil_sublist _
    · exact List.Sublist.cons_cons _ (ih _ _)
theorem lpz_all : (0 :: lpz (fun _ => false) 6 0 0).Pairwise (fun A B => pc1 A = pc1 B → dgt A ≤ dgt B) ∧ ∀ S, S ∈ (0 :: lpz (fun _ => false) 6 0 0) → S < 64 := by decide +kernel
theorem lpz_mem (z : Nat → Bool) : ∀ n f S X, f + n = 6 → S < 2 ^ f → X < 64 → X % 2 ^ f = S → X ≠ S → (∀ v, v < 6 → X.testBit v = true → z v = false) → X ∈ lpz z n f S := by
  intro n
  induction n with
  | zero =>
    intro f S X hf hS hX h1 h2 _
    obtain rfl : f = 6 := by omega
    rw [Nat.mod_eq_of_lt hX] at h1
    exact absurd h1 h2
  | succ n ih =>
    intro f S X hf hS hX h1 h2 hz
    have hm := mod_succ f (by omega) X hX
    have hS64 : S < 64 := Nat.lt_of_lt_of_le hS (show 2 ^ f ≤ 2 ^ 6 from Nat.pow_le_pow_right (by decide) (by omega))
    have e2 : 2 ^ (f + 1) = 2 ^ f + 2 ^ f := by rw [Nat.pow_succ]; omega
    show X ∈ (if z f = true then [] else (S ||| 1 <<< f) :: lpz z n (f + 1) (S ||| 1 <<< f)) ++ lpz z n (f + 1) S
    rw [List.mem_append]
    cases hb : X.testBit f with
    | false =>
      refine Or.inr (ih (f + 1) S X (by omega) (by omega) hX ?_ h2 hz)
      rw [hm, hb, h1]
      simp
    | true =>
      refine Or.inl ?_
      obtain ⟨a1, _, _⟩ := set_add f (by omega) S hS64 hS
      rw [if_neg (by rw [hz f (by omega) hb]; decide), List.mem_cons]
      by_cases q : X = S ||| 1 <<< f
      · exact Or.inl q
      · refine Or.inr (ih (f + 1) _ X (by omega) (by omega) hX ?_ q hz)
        rw [hm, hb, h1, a1]
        simp
def updM (p : Nat → Bool) (b : Option Nat) (S : Nat) : Option Nat := if p S = true then (match b with | none => some S | some B => if pc1 S < pc1 B then some S else some B) else b
def updC (p : Nat → Bool) (b : Option Nat) (S : Nat) : Option Nat := if p S = true then (match b with | none => some S | some B => if pc1 S < pc1 B ∨ (pc1 S = pc1 B ∧ dgt S < dgt B) then some S else some B) else b
theorem kle_t {A B C : Nat} (h1 : kle A B) (h2 : kle B C) : kle A C := by unfold kle at *; omega
theorem foldM (p : Nat → Bool) : ∀ (l : List Nat) (b : Option Nat), l.Pairwise (fun A B => pc1 A = pc1 B → dgt A ≤ dgt B) → (∀ B, b = some B → ∀ S, S ∈ l → pc1 B = pc1 S → dgt B ≤ dgt S) → (l.foldl (updM p) b = none → b = none ∧ ∀ S, S ∈ l → p S = false) ∧ ∀ B', l.foldl (updM p) b = some B' → (b = some B' ∨ (B' ∈ l ∧ p B' = true)) ∧ (∀ S, S ∈ l → p S = true → kle B' S) ∧ ∀ B, b = some B → kle B' B := by
  intro l
  induction l with
  | nil =>
    intro b _ _
    refine ⟨fun h => ⟨h, fun S hS => absurd hS (List.not_mem_nil)⟩, fun B' h => ⟨Or.inl h, fun S hS => absurd hS (List.not_mem_nil), fun B hB => ?_⟩⟩
    have h : b = some B' := h
    rw [h] at hB
    cases hB
    exact Or.inr ⟨rfl, Nat.le_refl _⟩
  | cons S l ih =>
    intro b hp hb
    rw [List.pairwise_cons] at hp
    obtain ⟨hp1, hp2⟩ := hp
    rw [List.foldl_cons]
    have hu : ∀ B, updM p b S = some B → ∀ S', S' ∈ l → pc1 B = pc1 S' → dgt B ≤ dgt S' := by
      intro B hB S' hS' e
      unfold updM at hB
      split at hB
      · cases b with
        | none => cases hB; exact hp1 S' hS' e
        | some B0 =>
          simp only at hB
          split at hB
          · cases hB; exact hp1 S' hS' e
          · cases hB; exact hb _ rfl S' (List.mem_cons_of_mem _ hS') e
      · exact hb B hB S' (List.mem_cons_of_mem _ hS') e
    obtain ⟨i1, i2⟩ := ih (updM p b S) hp2 hu
    constructor
    · intro h
      obtain ⟨j1, j2⟩ := i1 h
      unfold updM at j1
      cases hpS : p S with
      | true =>
        rw [hpS, if_pos rfl] at j1
        cases b with
        | none => cases j1
        | some B0 => simp only at j1; split at j1 <;> cases j1
      | false =>
        rw [hpS, if_neg (by decide)] at j1
        refine ⟨j1, fun S' hS' => ?_⟩
        rcases List.mem_cons.mp hS' with rfl | h'
        · exact hpS
        · exact j2 S' h'
    · intro B' h
      obtain ⟨j1, j2, j3⟩ := i2 B' h
      have hself : kle B' B' := Or.inr ⟨rfl, Nat.le_refl _⟩
      -- what the step gave
      have st : (∀ B, b = some B → ∃ B1, updM p b S = some B1 ∧ kle B1 B) ∧ (p S = true → ∃ B1, updM p b S = some B1 ∧ kle B1 S) ∧ (∀ B1, updM p b S = some B1 → b = some B1 ∨ (B1 = S ∧ p S = true)) := by
        unfold updM
        cases hpS : p S with
        | false =>
          rw [if_neg (by decide)]
          exact ⟨fun B hB => ⟨B, hB, Or.inr ⟨rfl, Nat.le_refl _⟩⟩, fun h => absurd h (by decide), fun B1 h => Or.inl h⟩
        | true =>
          rw [if_pos rfl]
          cases b with
          | none => exact ⟨fun B hB => (by cases hB), fun _ => ⟨S, rfl, Or.inr ⟨rfl, Nat.le_refl _⟩⟩, fun B1 h => by cases h; exact Or.inr ⟨rfl, by trivial⟩⟩
          | some B0 =>
            simp only
            by_cases q : pc1 S < pc1 B0
            · rw [if_pos q]
              exact ⟨fun B hB => (by cases hB; exact ⟨S, rfl, Or.inl q⟩), fun _ => ⟨S, rfl, Or.inr ⟨rfl, Nat.le_refl _⟩⟩, fun B1 h => by cases h; exact Or.inr ⟨rfl, by trivial⟩⟩
            · rw [if_neg q]
              refine ⟨fun B hB => (by cases hB; exact ⟨B0, rfl, Or.inr ⟨rfl, Nat.le_refl _⟩⟩), fun _ => ⟨B0, rfl, ?_⟩, fun B1 h => Or.inl h⟩
              by_cases q2 : pc1 B0 < pc1 S
              · exact Or.inl q2
              · exact Or.inr ⟨by omega, hb B0 rfl S List.mem_cons_self (by omega)⟩
      obtain ⟨t1, t2, t3⟩ := st
      refine ⟨?_, fun S' hS' hp' => ?_, fun B hB => ?_⟩
      · rcases j1 with h' | h'
        · rcases t3 B' h' with h'' | ⟨rfl, h''⟩
          · exact Or.inl h''
          · exact Or.inr ⟨List.mem_cons_self, h''⟩
        · exact Or.inr ⟨List.mem_cons_of_mem _ h'.1, h'.2⟩
      · rcases List.mem_cons.mp hS' with rfl | h'
        · obtain ⟨B1, u1, u2⟩ := t2 hp'
          exact kle_t (j3 B1 u1) u2
        · exact j2 S' h' hp'
      · obtain ⟨B1, u1, u2⟩ := t1 B hB
        exact kle_t (j3 B1 u1) u2
theorem itrC (p : Nat → Bool) : ∀ n, (itr (fun S b => updC p b S) 0 n none = none → ∀ S, S < n → p S = false) ∧ ∀ B, itr (fun S b => updC p b S) 0 n none = some B → B < n ∧ p B = true ∧ ∀ S, S < n → p S = true → kle B S := by
  intro n
  induction n with
  | zero => exact ⟨fun _ S h => by omega, fun B h => by cases h⟩
  | succ n ih =>
    obtain ⟨i1, i2⟩ := ih
    rw [itr_succ, Nat.zero_add]
    generalize itr (fun S b => updC p b S) 0 n none = b at i1 i2 ⊢
    have sn : ∀ S, S < n + 1 → S < n ∨ S = n := fun S h => by omega
    unfold updC
    cases hp : p n with
    | false =>
      rw [if_neg (by decide)]
      refine ⟨fun h S hS => ?_, fun B h => ?_⟩
      · rcases sn S hS with h' | rfl
        · exact i1 h S h'
        · exact hp
      · obtain ⟨k1, k2, k3⟩ := i2 B h
        refine ⟨by omega, k2, fun S hS hpS => ?_⟩
        rcases sn S hS with h' | rfl
        · exact k3 S h' hpS
        · rw [hp] at hpS; cases hpS
    | true =>
      rw [if_pos rfl]
      cases b with
      | none =>
        refine ⟨fun h => (by cases h), fun B h => ?_⟩
        cases h
        refine ⟨by omega, hp, fun S hS hpS => ?_⟩
        rcases sn S hS with h' | rfl
        · rw [i1 rfl S h'] at hpS; cases hpS
        · exact Or.inr ⟨rfl, Nat.le_refl _⟩
      | some B0 =>
        obtain ⟨k1, k2, k3⟩ := i2 B0 rfl
        simp only
        refine ⟨fun h => (by split at h <;> cases h), fun B h => ?_⟩
        split at h
        · rename_i q
          cases h
          have kn : kle n B0 := by unfold kle; omega
          refine ⟨by omega, hp, fun S hS hpS => ?_⟩
          rcases sn S hS with h' | rfl
          · exact kle_t kn (k3 S h' hpS)
          · exact Or.inr ⟨rfl, Nat.le_refl _⟩
        · rename_i q
          cases h
          refine ⟨by omega, k2, fun S hS hpS => ?_⟩
          rcases sn S hS with h' | rfl
          · exact k3 S h' hpS
          · unfold kle; omega
/-- the two find the same -/
theorem bestE {T : pT} {p : Nat → Bool} (hp : ∀ A B, dby T A = dby T B → p A = p B) : (itr (fun S b => updC p b S) 0 64 none = none ∧ (0 :: lpz (fun v => decide (tu T v = 0)) 6 0 0).foldl (updM p) none = none) ∨ ∃ B B', itr (fun S b => updC p b S) 0 64 none = some B ∧ (0 :: lpz (fun v => decide (tu T v = 0)) 6 0 0).foldl (updM p) none = some B' ∧ B < 64 ∧ B' < 64 ∧ pc1 B = pc1 B' ∧ dgt B = dgt B' := by
  have sub : List.Sublist (0 :: lpz (fun v => decide (tu T v = 0)) 6 0 0) (0 :: lpz (fun _ => false) 6 0 0) := List.Sublist.cons_cons _ (lpz_sub _ _ _ _)
  obtain ⟨m1', m2'⟩ := foldM p (0 :: lpz (fun v => decide (tu T v = 0)) 6 0 0) none (lpz_all.1.sublist sub) (fun B h => by cases h)
  obtain ⟨c1, c2⟩ := itrC p 64
  have l64 : ∀ S, S ∈ (0 :: lpz (fun v => decide (tu T v = 0)) 6 0 0) → S < 64 := fun S hS => lpz_all.2 S (sub.subset hS)
  generalize itr (fun S b => updC p b S) 0 64 none = bC at *
  generalize (0 :: lpz (fun v => decide (tu T v = 0)) 6 0 0).foldl (updM p) none = bM at *
  cases bC with
  | none =>
    cases bM with
    | none => exact Or.inl ⟨rfl, rfl⟩
    | some B' =>
      obtain ⟨h1, _, _⟩ := m2' B' rfl
      rcases h1 with h | ⟨h, h'⟩
      · cases h
      · rw [c1 rfl B' (l64 B' h)] at h'
        cases h'
  | some B =>
    obtain ⟨k1, k2, k3⟩ := c2 B rfl
    have hmem : B ∈ (0 :: lpz (fun v => decide (tu T v = 0)) 6 0 0) := by
      rw [List.mem_cons]
      by_cases q : B = 0
      · exact Or.inl q
      · refine Or.inr (lpz_mem _ 6 0 0 B (by omega) (by decide) k1 (Nat.mod_one _) q (fun v hv hb => decide_eq_false (fun h0 => ?_)))
        obtain ⟨d1, d2⟩ := set_del v hv B k1 hb
        have := k3 _ d1 (by rw [hp _ B (dby_del h0)]; exact k2)
        unfold kle at this
        omega
    cases bM with
    | none =>
      rw [(m1' rfl).2 B hmem] at k2
      cases k2
    | some B' =>
      obtain ⟨h1, h2, _⟩ := m2' B' rfl
      rcases h1 with h | ⟨h, h'⟩
      · cases h
      · have a1 := h2 B hmem k2
        have a2 := k3 B' (l64 B' h) h'
        unfold kle at a1 a2
        exact Or.inr ⟨B, B', rfl, rfl, k1, l64 B' h, by omega, by omega⟩
