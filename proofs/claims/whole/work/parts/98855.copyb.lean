/-! rows copied, whichever stand first -/
theorem s_214b {D x : Nat} {V : pV} {G : sm_G} {L : sm_L} {r0 r1 a b M N m : Nat} (hD0 : 1 ≤ D) (hm : m ≤ M) (hM : M < 100) (hN10 : N < 1000) (hab : a + M ≤ b ∨ b + M ≤ a) (hrow : ∀ k, k < M → RR V r0 k = a + k ∧ RR V r1 k = b + k ∧ sm_is (a + k) 342 20 = true ∧ sm_N (a + k) = N ∧ sm_is (b + k) 342 20 = true ∧ sm_N (b + k) = N) (k0 : (Nat.ble 24 (sm_K r0) && Nat.ble (sm_K r0) 27 && Nat.ble r0 342) = true) (k1 : (Nat.ble 24 (sm_K r1) && Nat.ble (sm_K r1) 27 && Nat.ble r1 342) = true) (n0 : sm_N r0 = M) (n1 : sm_N r1 = M) :
    ∃ G', sm_cv0 D 214 342 (RR V) [.ref r0, .ref r1, .int (i3 m)] (x, G, L) = oV x G' L ∧ (∀ k, k < m → ∀ i, i < N → G' (b + k) i = G (a + k) i) ∧ ∀ r k, ¬ (b ≤ r ∧ r < b + m ∧ k < N) → G' r k = G r k := by
  obtain ⟨d, rfl⟩ : ∃ d, D = d + 1 := ⟨D - 1, by omega⟩
  have inner : ∀ k, k < m → ∀ (g : sm_G), ∃ g', hD d 214 10 [.ref r0, .ref r1, .int (i3 m), .int (i3 k), .int (i3 0)] 342 (RR V) x g L = hD d 214 2 [.ref r0, .ref r1, .int (i3 m), .int (i3 (k + 1)), .null] 342 (RR V) x g' L ∧ (∀ i, i < N → g' (b + k) i = g (a + k) i) ∧ ∀ r j, ¬ (r = b + k ∧ j < N) → g' r j = g r j := by
    intro k hk g
    obtain ⟨e0, e1, e2, e3, e4, e5⟩ := hrow k (by omega)
    have head : ∀ (g : sm_G) (i : Nat), i ≤ N → hD d 214 10 [.ref r0, .ref r1, .int (i3 m), .int (i3 k), .int (i3 i)] 342 (RR V) x g L = if i3 i < i3 N then hD d 214 10 [.ref r0, .ref r1, .int (i3 m), .int (i3 k), .int (i3 (i + 1))] 342 (RR V) x (sm_up g (b + k) i (g (a + k) i)) L else hD d 214 2 [.ref r0, .ref r1, .int (i3 m), .int (i3 (k + 1)), .null] 342 (RR V) x g L := fun g i hi => by
      rw [h_214_10, k1, gd_tt, n1, i3_in (by omega) (by omega), gd_tt, i3_cl (by omega), e1, aln_is e4 e5, gd_tt, gd_tt, k0, gd_tt, n0, i3_in (by omega) (by omega), gd_tt, e0, ldi_e e2 e3, e4, e5, i3_cl (by omega), i3_add, i3_add, gd_tt]
      by_cases q : i < N
      · rw [if_pos (by rw [i3_lt (by omega) (by omega)]; exact q), if_pos (by rw [i3_lt (by omega) (by omega)]; exact q), i3_in (by omega) q, gd_tt, gd_tt]
      · rw [if_neg (by rw [i3_lt (by omega) (by omega)]; exact q), if_neg (by rw [i3_lt (by omega) (by omega)]; exact q)]
    refine loopE (H := fun i (g : sm_G) => hD d 214 10 [.ref r0, .ref r1, .int (i3 m), .int (i3 k), .int (i3 i)] 342 (RR V) x g L) (Q := fun o' => ∃ g', o' = hD d 214 2 [.ref r0, .ref r1, .int (i3 m), .int (i3 (k + 1)), .null] 342 (RR V) x g' L ∧ (∀ i, i < N → g' (b + k) i = g (a + k) i) ∧ ∀ r j, ¬ (r = b + k ∧ j < N) → g' r j = g r j) (N := N)
      (fun i g1 => (∀ j, j < i → g1 (b + k) j = g (a + k) j) ∧ ∀ r j, ¬ (r = b + k ∧ j < N) → g1 r j = g r j) ?_ ?_ N 0 g (by omega) ⟨fun j hj => by omega, fun _ _ _ => rfl⟩
    · rintro i g1 hi ⟨w1, w2⟩
      refine ⟨sm_up g1 (b + k) i (g1 (a + k) i), ?_, fun j hj => ?_, fun r j hj => by rw [sm_up_ne (by omega)]; exact w2 r j hj⟩
      · show hD d 214 10 _ 342 (RR V) x g1 L = _
        rw [head g1 i (by omega), if_pos (by rw [i3_lt (by omega) (by omega)]; exact hi)]
      · by_cases q : j = i
        · subst q
          rw [sm_up_same, w2 _ _ (by omega)]
        · rw [sm_up_ne (by omega)]
          exact w1 j (by omega)
    · rintro g1 ⟨w1, w2⟩
      refine ⟨g1, ?_, w1, w2⟩
      show hD d 214 10 _ 342 (RR V) x g1 L = _
      rw [head g1 N (Nat.le_refl N), if_neg (by rw [i3_lt (by omega) (by omega)]; omega)]
  rw [m_214]
  refine loopE (H := fun k (g : sm_G) => hD d 214 2 [.ref r0, .ref r1, .int (i3 m), .int (i3 k), .null] 342 (RR V) x g L) (Q := fun o' => ∃ G', o' = oV x G' L ∧ (∀ k, k < m → ∀ i, i < N → G' (b + k) i = G (a + k) i) ∧ ∀ r k, ¬ (b ≤ r ∧ r < b + m ∧ k < N) → G' r k = G r k) (N := m)
    (fun k g => (∀ j, j < k → ∀ i, i < N → g (b + j) i = G (a + j) i) ∧ ∀ r j, ¬ (b ≤ r ∧ r < b + m ∧ j < N) → g r j = G r j) ?_ ?_ m 0 G (by omega) ⟨fun j hj => by omega, fun _ _ _ => rfl⟩
  · rintro k g hk ⟨w1, w2⟩
    obtain ⟨g', u1, u2, u3⟩ := inner k hk g
    refine ⟨g', ?_, fun j hj i hi => ?_, fun r j hj => by rw [u3 r j (by omega)]; exact w2 r j hj⟩
    · show hD d 214 2 _ 342 (RR V) x g L = _
      rw [h_214_2, if_pos (by rw [i3_lt (by omega) (by omega)]; exact hk)]
      exact u1
    · by_cases q : j = k
      · subst q
        rw [u2 i hi, w2 _ _ (by omega)]
      · rw [u3 _ _ (by omega)]
        exact w1 j (by omega) i hi
  · rintro g ⟨w1, w2⟩
    refine ⟨g, ?_, w1, w2⟩
    show hD d 214 2 _ 342 (RR V) x g L = _
    rw [h_214_2, if_neg (by rw [i3_lt (by omega) (by omega)]; omega)]
