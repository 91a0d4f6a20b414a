/-! a street begun, and a street that stands: the model -/
def T0 : pT := fun _ _ => 0
theorem okT_0 : okT T0 := ⟨⟨by decide, by decide, by decide, by decide, by decide⟩, fun k _ => Nat.zero_le _, fun k _ => Nat.zero_le _, fun d h => absurd h (Nat.not_lt_zero d), fun k _ => (by show 0 < 2 ^ 0; decide), fun d h => absurd h (Nat.not_lt_zero d), fun d h => absurd h (Nat.not_lt_zero d), fun d h => absurd h (Nat.not_lt_zero d)⟩
theorem okP_0 {T : pT} : okP T T0 := ⟨by decide, fun d h => absurd h (Nat.not_lt_zero d), fun k _ => ⟨Nat.zero_le _, Nat.zero_le _⟩⟩
theorem aln_is {β : Type} {c N : Nat} {G : sm_G} {f : Int32 → Option β} (h : sm_is c 342 20 = true) (hN : sm_N c = N) : aln c G f = f (i3 N) := by
  have h' := h
  unfold sm_is at h'
  rw [Bool.and_eq_true] at h'
  have hk : sm_K c = 20 := Nat.eq_of_beq_eq_true h'.1
  exact aln_e (by rw [hk, h'.2]; rfl) hN
theorem s_214 {D x : Nat} {V : pV} {G : sm_G} {L : sm_L} {r0 r1 a b M N m : Nat} (hD0 : 1 ≤ D) (hm : m ≤ M) (hM : M < 100) (hN10 : N < 1000) (hab : a + M ≤ b) (hrow : ∀ k, k < M → RR V r0 k = a + k ∧ RR V r1 k = b + k ∧ sm_is (a + k) 342 20 = true ∧ sm_N (a + k) = N ∧ sm_is (b + k) 342 20 = true ∧ sm_N (b + k) = N) (k0 : (Nat.ble 24 (sm_K r0) && Nat.ble (sm_K r0) 27 && Nat.ble r0 342) = true) (k1 : (Nat.ble 24 (sm_K r1) && Nat.ble (sm_K r1) 27 && Nat.ble r1 342) = true) (n0 : sm_N r0 = M) (n1 : sm_N r1 = M) :
    ∃ G', sm_cv0 D 214 342 (RR V) [.ref r0, .ref r1, .int (i3 m)] (x, G, L) = oV x G' L ∧ (∀ k, k < m → ∀ i, i < N → G' (b + k) i = G (a + k) i) ∧ ∀ r k, ¬ (b ≤ r ∧ r < b + m ∧ k < N) → G' r k = G r k := by
  obtain ⟨d, rfl⟩ : ∃ d, D = d + 1 := ⟨D - 1, by omega⟩
  have inner : ∀ k, k < m → ∀ (g : sm_G), ∃ g', hD d 214 10 [.ref r0, .ref r1, .int (i3 m), .int (i3 k), .int (i3 0)] 342 (RR V) x g L = hD d 214 2 [.ref r0, .ref r1, .int (i3 m), .int (i3 (k + 1)), .null] 342 (RR V) x g' L ∧ (∀ i, i < N → g' (b + k) i = g (a + k) i) ∧ ∀ r j, ¬ (r = b + k ∧ j < N) → g' r j = g r j := by
    intro k hk g
    obtain ⟨e0, e1, e2, e3, e4, e5⟩ := hrow k (by omega)
    have head : ∀ (g : sm_G) (i : Nat), i ≤ N → hD d 214 10 [.ref r0, .ref r1, .int (i3 m), .int (i3 k), .int (i3 i)] 342 (RR V) x g L = if i3 i < i3 N then hD d 214 10 [.ref r0, .ref r1, .int (i3 m), .int (i3 k), .int (i3 (i + 1))] 342 (RR V) x (sm_up g (b + k) i (g (a + k) i)) L else hD d 214 2 [.ref r0, .ref r1, .int (i3 m), .int (i3 (k + 1)), .null] 342 (RR V) x g L := fun g i hi => by
      rw [h_214_10, k1, gd_tt, n1, i3_in (by omega) (by omega), gd_tt, i3_cl (by omega), e1, aln_is e4 e5, gd_tt, gd_tt, k0, gd_tt, n0, i3_in (by omega) (by omega), gd_tt, e0, ldi_e e2 e3, e4, e5, i3_cl (by omega), i3_add, i3_add, gd_tt]
      by_cases q : i < N
      · rw [if_pos (by rw [i3_lt (by omega) (by omega)]; exact q), if_pos (by rw [i3_lt (by omega) (by omega)]; exact q), i3_in (by omega) q, gd_tt, gd_tt]
      · rw [if_neg (by rw [i3_lt (by omega) (by omega)]; exact q), if_neg (by rw [i3_lt (by omega) (by omega)]; exact q)]
    refine loopE (H := fun i (g : sm_G) => hD d 214 10 [.ref r0, .ref r1, .int (i3 m), .int (i3 k), .int (i3 i)] 342 (RR V) x g L) (Q := fun o' => ∃ g', o' = hD d 214 2 [.ref r0, .ref r1, .int (i3 m), .int (i3 (k + 1)), .null] 342 (RR V) x g' L ∧ (∀ i, i < N → g' (b + k) i = g (a + k) i) ∧ ∀ r j, ¬ (r = b + k ∧ j < N) → g' r j = g r j) (N := N)
      (fun i g1 => (∀ j, j < i → g1 (b + k) j = g (a + k) j) ∧ ∀ r j, ¬ (r = b + k ∧ j < N) → g1 r j = g r j) ?_ ?_ N 0 g (by omega) ⟨fun j hj => by omega, fun _ _ _ => rfl⟩
    · rintro i g1 hi ⟨w1, w2⟩
      refine ⟨sm_up g1 (b + k) i (g1 (a + k) i), ?_, fun j hj => ?_, fun r j hj => by rw [sm_up_ne (by omega)]; exact w2 r j hj⟩
      · show hD d 214 10 _ 342 (RR V) x g1 L = _
        rw [head g1 i (by omega), if_pos (by rw [i3_lt (by omega) (by omega)]; exact hi)]
      · by_cases q : j = i
        · subst q
          rw [sm_up_same, w2 _ _ (by omega)]
        · rw [sm_up_ne (by omega)]
          exact w1 j (by omega)
    · rintro g1 ⟨w1, w2⟩
      refine ⟨g1, ?_, w1, w2⟩
      show hD d 214 10 _ 342 (RR V) x g1 L = _
      rw [head g1 N (Nat.le_refl N), if_neg (by rw [i3_lt (by omega) (by omega)]; omega)]
  rw [m_214]
  refine loopE (H := fun k (g : sm_G) => hD d 214 2 [.ref r0, .ref r1, .int (i3 m), .int (i3 k), .null] 342 (RR V) x g L) (Q := fun o' => ∃ G', o' = oV x G' L ∧ (∀ k, k < m → ∀ i, i < N → G' (b + k) i = G (a + k) i) ∧ ∀ r k, ¬ (b ≤ r ∧ r < b + m ∧ k < N) → G' r k = G r k) (N := m)
    (fun k g => (∀ j, j < k → ∀ i, i < N → g (b + j) i = G (a + j) i) ∧ ∀ r j, ¬ (b ≤ r ∧ r < b + m ∧ j < N) → g r j = G r j) ?_ ?_ m 0 G (by omega) ⟨fun j hj => by omega, fun _ _ _ => rfl⟩
  · rintro k g hk ⟨w1, w2⟩
    obtain ⟨g', u1, u2, u3⟩ := inner k hk g
    refine ⟨g', ?_, fun j hj i hi => ?_, fun r j hj => by rw [u3 r j (by omega)]; exact w2 r j hj⟩
    · show hD d 214 2 _ 342 (RR V) x g L = _
      rw [h_214_2, if_pos (by rw [i3_lt (by omega) (by omega)]; exact hk)]
      exact u1
    · by_cases q : j = k
      · subst q
        rw [u2 i hi, w2 _ _ (by omega)]
      · rw [u3 _ _ (by omega)]
        exact w1 j (by omega) i hi
  · rintro g ⟨w1, w2⟩
    refine ⟨g, ?_, w1, w2⟩
    show hD d 214 2 _ 342 (RR V) x g L = _
    rw [h_214_2, if_neg (by rw [i3_lt (by omega) (by omega)]; omega)]
/-- nothing told -/
theorem s_212 {D x : Nat} {V : pV} {G : sm_G} {L : sm_L} (hD0 : 1 ≤ D) : ∃ G', sm_cv0 D 212 342 (RR V) [.ref 156] (x, G, L) = oV x G' L ∧ mHr G' T0 T0 ∧ ∀ r k, r ≠ 159 → r ≠ 163 → G' r k = G r k := by
  obtain ⟨d, rfl⟩ : ∃ d, D = d + 1 := ⟨D - 1, by omega⟩
  have l29 : ∀ g : sm_G, ∃ g', hD d 212 29 [.ref 156, .int (i3 0)] 342 (RR V) x g L = oV x g' L ∧ (∀ k, k < 6 → g' 163 k = i3 0) ∧ ∀ r k, r ≠ 163 → g' r k = g r k := fun g => by
    refine loopE (H := fun i (g : sm_G) => hD d 212 29 [.ref 156, .int (i3 i)] 342 (RR V) x g L) (Q := fun o' => ∃ g', o' = oV x g' L ∧ (∀ k, k < 6 → g' 163 k = i3 0) ∧ ∀ r k, r ≠ 163 → g' r k = g r k) (N := 6)
      (fun i g1 => (∀ k, k < i → g1 163 k = i3 0) ∧ ∀ r k, r ≠ 163 → g1 r k = g r k) ?_ ?_ 6 0 g (by omega) ⟨fun j hj => by omega, fun _ _ _ => rfl⟩
    · rintro i g1 hi ⟨w1, w2⟩
      refine ⟨sm_up g1 163 i (i3 0), ?_, fun k hk => ?_, fun r k h => by rw [sm_up_ne (by omega)]; exact w2 r k h⟩
      · show hD d 212 29 _ 342 (RR V) x g1 L = _
        rw [h_212_29, if_pos (by rw [i3_lt (by omega) (by omega)]; exact hi), i3_in (by omega) hi, gd_tt, i3_cl (by omega), i3_add]
      · by_cases q : k = i
        · subst q; exact sm_up_same _ _ _ _
        · rw [sm_up_ne (by omega)]; exact w1 k (by omega)
    · rintro g1 ⟨w1, w2⟩
      refine ⟨g1, ?_, w1, w2⟩
      show hD d 212 29 _ 342 (RR V) x g1 L = _
      rw [h_212_29, if_neg (by decide)]
  rw [m_212]
  refine loopE (H := fun i (g : sm_G) => hD d 212 2 [.ref 156, .int (i3 i)] 342 (RR V) x g L) (Q := fun o' => ∃ G', o' = oV x G' L ∧ mHr G' T0 T0 ∧ ∀ r k, r ≠ 159 → r ≠ 163 → G' r k = G r k) (N := 5)
    (fun i g1 => (∀ k, k < i → g1 159 k = i3 0) ∧ ∀ r k, r ≠ 159 → g1 r k = G r k) ?_ ?_ 5 0 G (by omega) ⟨fun j hj => by omega, fun _ _ _ => rfl⟩
  · rintro i g1 hi ⟨w1, w2⟩
    refine ⟨sm_up g1 159 i (i3 0), ?_, fun k hk => ?_, fun r k h => by rw [sm_up_ne (by omega)]; exact w2 r k h⟩
    · show hD d 212 2 _ 342 (RR V) x g1 L = _
      rw [h_212_2, if_pos (by rw [i3_lt (by omega) (by omega)]; exact hi), i3_in (by omega) (by omega), gd_tt, i3_cl (by omega), i3_add]
    · by_cases q : k = i
      · subst q; exact sm_up_same _ _ _ _
      · rw [sm_up_ne (by omega)]; exact w1 k (by omega)
  · rintro g1 ⟨w1, w2⟩
    obtain ⟨g2, u1, u2, u3⟩ := l29 (sm_up g1 159 5 m1)
    have z : ∀ k, k < 5 → g2 159 k = i3 0 := fun k hk => by rw [u3 _ _ (by omega), sm_up_ne (by omega)]; exact w1 k hk
    refine ⟨g2, ?_, ⟨z 0 (by omega), z 1 (by omega), z 2 (by omega), z 3 (by omega), z 4 (by omega), by rw [u3 _ _ (by omega)]; exact sm_up_same _ _ _ _, fun k h => absurd h (Nat.not_lt_zero k), u2, fun k h => absurd h (Nat.not_lt_zero k), fun k h => absurd h (Nat.not_lt_zero k), fun k h => absurd h (Nat.not_lt_zero k), fun k h => absurd h (Nat.not_lt_zero k)⟩, fun r k h1 h2 => by rw [u3 r k h2, sm_up_ne (by omega)]; exact w2 r k h1⟩
    show hD d 212 2 _ 342 (RR V) x g1 L = _
    rw [h_212_2, if_neg (by decide), u1]
