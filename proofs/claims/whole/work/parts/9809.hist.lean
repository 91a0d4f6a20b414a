/-! changes kept and taken back -/
theorem up_id {G : sm_G} {r k : Nat} {v : Int32} (h : v = G r k) : sm_up G r k v = G := by
  funext a j
  by_cases q : a = r ∧ j = k
  · obtain ⟨rfl, rfl⟩ := q
    rw [sm_up_same, h]
  · rw [sm_up_ne (by omega)]
theorem kP_i {p i : Nat} (h : pP p) (hi : 1 ≤ i) (hi2 : i ≤ 8) : sm_is (p + i) 342 20 = true := by
  have h1 : ∀ i, 1 ≤ i → i ≤ 8 → sm_is (27 + i) 342 20 = true := fun i a b => by have := List.all_eq_true.mp (show (List.range 9).all (fun i => Nat.beq i 0 || sm_is (27 + i) 342 20) = true by decide +kernel) i (List.mem_range.mpr (by omega)); rw [Bool.or_eq_true] at this; exact this.resolve_left (fun z => by have := Nat.eq_of_beq_eq_true z; omega)
  have h2 : ∀ i, 1 ≤ i → i ≤ 8 → sm_is (36 + i) 342 20 = true := fun i a b => by have := List.all_eq_true.mp (show (List.range 9).all (fun i => Nat.beq i 0 || sm_is (36 + i) 342 20) = true by decide +kernel) i (List.mem_range.mpr (by omega)); rw [Bool.or_eq_true] at this; exact this.resolve_left (fun z => by have := Nat.eq_of_beq_eq_true z; omega)
  have h3 : ∀ i, 1 ≤ i → i ≤ 8 → sm_is (45 + i) 342 20 = true := fun i a b => by have := List.all_eq_true.mp (show (List.range 9).all (fun i => Nat.beq i 0 || sm_is (45 + i) 342 20) = true by decide +kernel) i (List.mem_range.mpr (by omega)); rw [Bool.or_eq_true] at this; exact this.resolve_left (fun z => by have := Nat.eq_of_beq_eq_true z; omega)
  have h4 : ∀ i, 1 ≤ i → i ≤ 8 → sm_is (110 + i) 342 20 = true := fun i a b => by have := List.all_eq_true.mp (show (List.range 9).all (fun i => Nat.beq i 0 || sm_is (110 + i) 342 20) = true by decide +kernel) i (List.mem_range.mpr (by omega)); rw [Bool.or_eq_true] at this; exact this.resolve_left (fun z => by have := Nat.eq_of_beq_eq_true z; omega)
  have h5 : ∀ i, 1 ≤ i → i ≤ 8 → sm_is (128 + i) 342 20 = true := fun i a b => by have := List.all_eq_true.mp (show (List.range 9).all (fun i => Nat.beq i 0 || sm_is (128 + i) 342 20) = true by decide +kernel) i (List.mem_range.mpr (by omega)); rw [Bool.or_eq_true] at this; exact this.resolve_left (fun z => by have := Nat.eq_of_beq_eq_true z; omega)
  rcases h with rfl | rfl | rfl | rfl | rfl
  · exact h1 i hi hi2
  · exact h2 i hi hi2
  · exact h3 i hi hi2
  · exact h4 i hi hi2
  · exact h5 i hi hi2
section PLAN
variable {d x : Nat} {V : pV} {G : sm_G} {L : sm_L} {p c : Nat}
theorem s_104 {v1 v2 v3 v4 : Int32} (hp : pP p) (hc : G p 10 = i3 c) (h20 : c < 20) : sm_cv0 (d + 1) 104 342 (RR V) [.ref p, .int v1, .int v2, .int v3, .int v4] (x, G, L) = oV x (sm_up (sm_up (sm_up (sm_up (sm_up G (p + 5) c v1) (p + 6) c v2) (p + 7) c v3) (p + 8) c v4) p 10 (i3 (c + 1))) L := by
  have e1 : sm_up G (p + 5) c v1 p 10 = i3 c := by rw [sm_up_ne (by omega)]; exact hc
  have e2 : sm_up (sm_up G (p + 5) c v1) (p + 6) c v2 p 10 = i3 c := by rw [sm_up_ne (by omega)]; exact e1
  have e3 : sm_up (sm_up (sm_up G (p + 5) c v1) (p + 6) c v2) (p + 7) c v3 p 10 = i3 c := by rw [sm_up_ne (by omega)]; exact e2
  have e4 : sm_up (sm_up (sm_up (sm_up G (p + 5) c v1) (p + 6) c v2) (p + 7) c v3) (p + 8) c v4 p 10 = i3 c := by rw [sm_up_ne (by omega)]; exact e3
  rw [m_104 hp]
  simp (disch := omega) only [i3_add, i3_mul, i3_sub, i3_m1, i3_lt, i3_le, i3_eq, m1_lt, lt_m1, m1_le, le_m1, i3_nm1, m1_ni3, i3_cl, i3_in, i3_or, i3_and, i3_xor, i3_shl, i3_shr, sh_tb, tb_eq0, gd_tt, aI_o, aV_o, aL_o, aR_o, zd_0, zd_1, if_true, if_false, ite_self, eq_self, Bool.true_eq_false, Bool.false_eq_true, bi_0, bi_1, bi_zd, Nat.not_lt_zero, hc, h20, e1, e2, e3, e4]
theorem s_105 {n q : Nat} (hp : pP p) (hn : G p 8 = i3 n) (hn12 : n ≤ 12) (hq : q < n) : ∃ G', sm_cv0 (d + 1) 105 342 (RR V) [.ref p, .int (i3 q)] (x, G, L) = oV x G' L ∧ (∀ r k, r ≠ p + 1 → r ≠ p + 2 → ¬ (r = p ∧ k = 8) → G' r k = G r k) ∧ G' p 8 = i3 (n - 1) ∧ (∀ k, k < q → G' (p + 1) k = G (p + 1) k ∧ G' (p + 2) k = G (p + 2) k) ∧ (∀ k, q ≤ k → k < n - 1 → G' (p + 1) k = G (p + 1) (k + 1) ∧ G' (p + 2) k = G (p + 2) (k + 1)) := by
  have e8 : i3 n - i3 1 = i3 (n - 1) := i3_sub (by omega)
  rw [m_105 hp, hn]
  simp (disch := omega) only [i3_add, i3_mul, i3_sub, i3_m1, i3_lt, i3_le, i3_eq, m1_lt, lt_m1, m1_le, le_m1, i3_nm1, m1_ni3, i3_cl, i3_in, i3_or, i3_and, i3_xor, i3_shl, i3_shr, sh_tb, tb_eq0, gd_tt, aI_o, aV_o, aL_o, aR_o, zd_0, zd_1, if_true, if_false, ite_self, eq_self, Bool.true_eq_false, Bool.false_eq_true, bi_0, bi_1, bi_zd, Nat.not_lt_zero, hq]
  have Gx : ∀ r k, ¬ (r = p ∧ k = 8) → sm_up G p 8 (i3 (n - 1)) r k = G r k := fun r k a => sm_up_ne (by omega)
  have G8 : sm_up G p 8 (i3 (n - 1)) p 8 = i3 (n - 1) := sm_up_same _ _ _ _
  generalize sm_up G p 8 (i3 (n - 1)) = G0 at Gx G8 ⊢
  refine loopE (H := fun k (g : sm_G) => hD d 105 25 [.ref p, .null, .int (i3 k)] 342 (RR V) x g L) (Q := fun o' => ∃ G', o' = oV x G' L ∧ (∀ r k, r ≠ p + 1 → r ≠ p + 2 → ¬ (r = p ∧ k = 8) → G' r k = G r k) ∧ G' p 8 = i3 (n - 1) ∧ (∀ k, k < q → G' (p + 1) k = G (p + 1) k ∧ G' (p + 2) k = G (p + 2) k) ∧ (∀ k, q ≤ k → k < n - 1 → G' (p + 1) k = G (p + 1) (k + 1) ∧ G' (p + 2) k = G (p + 2) (k + 1))) (N := n - 1)
    (fun k g => q ≤ k ∧ (∀ r j, r ≠ p + 1 → r ≠ p + 2 → g r j = G0 r j) ∧ (∀ j, j < q ∨ k ≤ j → g (p + 1) j = G (p + 1) j ∧ g (p + 2) j = G (p + 2) j) ∧ (∀ j, q ≤ j → j < k → g (p + 1) j = G (p + 1) (j + 1) ∧ g (p + 2) j = G (p + 2) (j + 1))) ?_ ?_ (n - 1 - q) q G0 (by omega) ⟨Nat.le_refl _, fun _ _ _ _ => rfl, fun j _ => ⟨Gx _ _ (by omega), Gx _ _ (by omega)⟩, fun j h1 h2 => by omega⟩
  · rintro k g hk ⟨h0, h1, h2, h3⟩
    have e1 : g p 8 = i3 (n - 1) := by rw [h1 _ _ (by omega) (by omega)]; exact G8
    have e2 : sm_up g (p + 1) k (g (p + 1) (k + 1)) (p + 2) (k + 1) = g (p + 2) (k + 1) := sm_up_ne (by omega)
    refine ⟨sm_up (sm_up g (p + 1) k (g (p + 1) (k + 1))) (p + 2) k (g (p + 2) (k + 1)), ?_, by omega, fun r j a b => by rw [sm_up_ne (by omega), sm_up_ne (by omega)]; exact h1 r j a b, fun j hj => ?_, fun j a b => ?_⟩
    · rw [h_105_25 hp, e1]
      simp (disch := omega) only [i3_add, i3_mul, i3_sub, i3_m1, i3_lt, i3_le, i3_eq, m1_lt, lt_m1, m1_le, le_m1, i3_nm1, m1_ni3, i3_cl, i3_in, i3_or, i3_and, i3_xor, i3_shl, i3_shr, sh_tb, tb_eq0, gd_tt, aI_o, aV_o, aL_o, aR_o, zd_0, zd_1, if_true, if_false, ite_self, eq_self, Bool.true_eq_false, Bool.false_eq_true, bi_0, bi_1, bi_zd, Nat.not_lt_zero, hk, e2]
    · rw [sm_up_ne (by omega), sm_up_ne (by omega), sm_up_ne (by omega), sm_up_ne (by omega)]
      exact h2 j (by omega)
    · by_cases z : j = k
      · subst z
        rw [sm_up_ne (by omega), sm_up_same, sm_up_same]
        exact h2 (j + 1) (by omega)
      · rw [sm_up_ne (by omega), sm_up_ne (by omega), sm_up_ne (by omega), sm_up_ne (by omega)]
        exact h3 j a (by omega)
  · rintro g ⟨h0, h1, h2, h3⟩
    have e1 : g p 8 = i3 (n - 1) := by rw [h1 _ _ (by omega) (by omega)]; exact G8
    refine ⟨g, ?_, fun r k a b e => by rw [h1 r k a b]; exact Gx r k e, e1, fun k hk => h2 k (Or.inl hk), fun k a b => h3 k a b⟩
    rw [h_105_25 hp, e1]
    simp (disch := omega) only [i3_add, i3_mul, i3_sub, i3_m1, i3_lt, i3_le, i3_eq, m1_lt, lt_m1, m1_le, le_m1, i3_nm1, m1_ni3, i3_cl, i3_in, i3_or, i3_and, i3_xor, i3_shl, i3_shr, sh_tb, tb_eq0, gd_tt, aI_o, aV_o, aL_o, aR_o, zd_0, zd_1, if_true, if_false, ite_self, eq_self, Bool.true_eq_false, Bool.false_eq_true, bi_0, bi_1, bi_zd, Nat.not_lt_zero, Nat.lt_irrefl]
theorem s_107 {n q : Nat} {a b : Int32} (hp : pP p) (hn : G p 8 = i3 n) (hn12 : n < 12) (hq : q ≤ n) : ∃ G', sm_cv0 (d + 1) 107 342 (RR V) [.ref p, .int (i3 q), .int a, .int b] (x, G, L) = oV x G' L ∧ (∀ r k, r ≠ p + 1 → r ≠ p + 2 → ¬ (r = p ∧ k = 8) → G' r k = G r k) ∧ G' p 8 = i3 (n + 1) ∧ (∀ k, k < q → G' (p + 1) k = G (p + 1) k ∧ G' (p + 2) k = G (p + 2) k) ∧ G' (p + 1) q = a ∧ G' (p + 2) q = b ∧ (∀ k, q ≤ k → k < n → G' (p + 1) (k + 1) = G (p + 1) k ∧ G' (p + 2) (k + 1) = G (p + 2) k) := by
  rw [m_107 hp, hn]
  simp (disch := omega) only [i3_add, i3_mul, i3_sub, i3_m1, i3_lt, i3_le, i3_eq, m1_lt, lt_m1, m1_le, le_m1, i3_nm1, m1_ni3, i3_cl, i3_in, i3_or, i3_and, i3_xor, i3_shl, i3_shr, sh_tb, tb_eq0, gd_tt, aI_o, aV_o, aL_o, aR_o, zd_0, zd_1, if_true, if_false, ite_self, eq_self, Bool.true_eq_false, Bool.false_eq_true, bi_0, bi_1, bi_zd, Nat.not_lt_zero, hq, hn12]
  have key : ∀ j g, q + j ≤ n → (∀ r k, r ≠ p + 1 → r ≠ p + 2 → g r k = G r k) → (∀ k, k ≤ q + j → g (p + 1) k = G (p + 1) k ∧ g (p + 2) k = G (p + 2) k) → (∀ k, q + j ≤ k → k < n → g (p + 1) (k + 1) = G (p + 1) k ∧ g (p + 2) (k + 1) = G (p + 2) k) → ∃ G', hD d 107 28 [.ref p, .int (i3 q), .int a, .int b, .int (i3 (q + j))] 342 (RR V) x g L = oV x G' L ∧ (∀ r k, r ≠ p + 1 → r ≠ p + 2 → ¬ (r = p ∧ k = 8) → G' r k = G r k) ∧ G' p 8 = i3 (n + 1) ∧ (∀ k, k < q → G' (p + 1) k = G (p + 1) k ∧ G' (p + 2) k = G (p + 2) k) ∧ G' (p + 1) q = a ∧ G' (p + 2) q = b ∧ (∀ k, q ≤ k → k < n → G' (p + 1) (k + 1) = G (p + 1) k ∧ G' (p + 2) (k + 1) = G (p + 2) k) := by
    intro j
    induction j with
    | zero =>
      intro g h0 h1 h2 h3
      have e1 : sm_up (sm_up g (p + 1) q a) (p + 2) q b p 8 = i3 n := by rw [sm_up_ne (by omega), sm_up_ne (by omega), h1 _ _ (by omega) (by omega)]; exact hn
      refine ⟨sm_up (sm_up (sm_up g (p + 1) q a) (p + 2) q b) p 8 (i3 (n + 1)), ?_, fun r k h4 h5 h6 => by rw [sm_up_ne (by omega), sm_up_ne (by omega), sm_up_ne (by omega)]; exact h1 r k h4 h5, sm_up_same _ _ _ _, fun k hk => ?_, ?_, ?_, fun k h4 h5 => ?_⟩
      · rw [Nat.add_zero, h_107_28 hp]
        simp (disch := omega) only [i3_add, i3_mul, i3_sub, i3_m1, i3_lt, i3_le, i3_eq, m1_lt, lt_m1, m1_le, le_m1, i3_nm1, m1_ni3, i3_cl, i3_in, i3_or, i3_and, i3_xor, i3_shl, i3_shr, sh_tb, tb_eq0, gd_tt, aI_o, aV_o, aL_o, aR_o, zd_0, zd_1, if_true, if_false, ite_self, eq_self, Bool.true_eq_false, Bool.false_eq_true, bi_0, bi_1, bi_zd, Nat.not_lt_zero, Nat.le_refl, e1]
      · rw [sm_up_ne (by omega), sm_up_ne (by omega), sm_up_ne (by omega), sm_up_ne (by omega), sm_up_ne (by omega), sm_up_ne (by omega)]
        exact h2 k (by omega)
      · rw [sm_up_ne (by omega), sm_up_ne (by omega), sm_up_same]
      · rw [sm_up_ne (by omega), sm_up_same]
      · rw [sm_up_ne (by omega), sm_up_ne (by omega), sm_up_ne (by omega), sm_up_ne (by omega), sm_up_ne (by omega), sm_up_ne (by omega)]
        exact h3 k (by omega) h5
    | succ j ih =>
      intro g h0 h1 h2 h3
      have e1 : q + (j + 1) - 1 = q + j := by omega
      have e2 : sm_up g (p + 1) (q + (j + 1)) (g (p + 1) (q + j)) (p + 2) (q + j) = g (p + 2) (q + j) := sm_up_ne (by omega)
      obtain ⟨G', r1, r2⟩ := ih (sm_up (sm_up g (p + 1) (q + (j + 1)) (g (p + 1) (q + j))) (p + 2) (q + (j + 1)) (g (p + 2) (q + j))) (by omega) (fun r k h4 h5 => by rw [sm_up_ne (by omega), sm_up_ne (by omega)]; exact h1 r k h4 h5) (fun k hk => by
        rw [sm_up_ne (by omega), sm_up_ne (by omega), sm_up_ne (by omega), sm_up_ne (by omega)]
        exact h2 k (by omega)) (fun k h4 h5 => by
        by_cases z : k = q + j
        · subst z
          rw [show q + j + 1 = q + (j + 1) by omega, sm_up_ne (by omega), sm_up_same, sm_up_same]
          exact h2 (q + j) (by omega)
        · rw [sm_up_ne (by omega), sm_up_ne (by omega), sm_up_ne (by omega), sm_up_ne (by omega)]
          exact h3 k (by omega) h5)
      refine ⟨G', ?_, r2⟩
      rw [← r1, h_107_28 hp]
      have e3 : i3 (q + (j + 1)) + m1 = i3 (q + j) := i3_m1 (q + j)
      simp (disch := omega) only [i3_add, i3_mul, i3_sub, i3_m1, i3_lt, i3_le, i3_eq, m1_lt, lt_m1, m1_le, le_m1, i3_nm1, m1_ni3, i3_cl, i3_in, i3_or, i3_and, i3_xor, i3_shl, i3_shr, sh_tb, tb_eq0, gd_tt, aI_o, aV_o, aL_o, aR_o, zd_0, zd_1, if_true, if_false, ite_self, eq_self, Bool.true_eq_false, Bool.false_eq_true, bi_0, bi_1, bi_zd, Nat.not_lt_zero, show ¬ q + (j + 1) ≤ q by omega, e1, e2, e3]
  obtain ⟨j, rfl⟩ : ∃ j, n = q + j := ⟨n - q, by omega⟩
  exact key j G (Nat.le_refl _) (fun _ _ _ _ => rfl) (fun _ _ => ⟨rfl, rfl⟩) (fun k h1 h2 => by omega)
/-! the model's -/
theorem s_325s {r o N : Nat} {v : Int32} (hr : sm_is r 342 20 = true) (hN : sm_N r = N) (ho : o < N) (hN2 : N < 2000) (hr156 : r ≠ 156) (h40 : G 156 40 = i3 o) : sm_cv0 (d + 1) 325 342 (RR V) [.ref 156, .ref r, .int v, .int (i3 0)] (x, G, L) = oI v x (sm_up (sm_up G r o v) 156 40 (i3 (o + 1))) L := by
  have e1 : sm_up G r o v 156 40 = i3 o := by rw [sm_up_ne (by omega)]; exact h40
  have e2 : sm_up (sm_up G r o v) 156 40 (i3 (o + 1)) 156 40 = i3 (o + 1) := sm_up_same _ _ _ _
  have e3 : sm_up (sm_up G r o v) 156 40 (i3 (o + 1)) r o = v := by rw [sm_up_ne (by omega), sm_up_same]
  have e4 : i3 (o + 1) - i3 1 = i3 o := by rw [i3_sub (by omega)]; rfl
  rw [m_325, h40]
  simp (disch := omega) only [i3_add, i3_mul, i3_sub, i3_m1, i3_lt, i3_le, i3_eq, m1_lt, lt_m1, m1_le, le_m1, i3_nm1, m1_ni3, i3_cl, i3_in, i3_or, i3_and, i3_xor, i3_shl, i3_shr, sh_tb, tb_eq0, gd_tt, aI_o, aV_o, aL_o, aR_o, zd_0, zd_1, if_true, if_false, ite_self, eq_self, Bool.true_eq_false, Bool.false_eq_true, bi_0, bi_1, bi_zd, Nat.not_lt_zero, hr, hN]
  rw [h_325_11, e1, ldi_e hr hN]
  simp (disch := omega) only [i3_add, i3_mul, i3_sub, i3_m1, i3_lt, i3_le, i3_eq, m1_lt, lt_m1, m1_le, le_m1, i3_nm1, m1_ni3, i3_cl, i3_in, i3_or, i3_and, i3_xor, i3_shl, i3_shr, sh_tb, tb_eq0, gd_tt, aI_o, aV_o, aL_o, aR_o, zd_0, zd_1, if_true, if_false, ite_self, eq_self, Bool.true_eq_false, Bool.false_eq_true, bi_0, bi_1, bi_zd, Nat.not_lt_zero, e2, e4, e3]
theorem s_325l {r o N : Nat} {v : Int32} (hr : sm_is r 342 20 = true) (hN : sm_N r = N) (ho : o < N) (hN2 : N < 2000) (hr156 : r ≠ 156) (h40 : G 156 40 = i3 o) : sm_cv0 (d + 1) 325 342 (RR V) [.ref 156, .ref r, .int v, .int (i3 1)] (x, G, L) = oI (G r o) x (sm_up G 156 40 (i3 (o + 1))) L := by
  have e2 : sm_up G 156 40 (i3 (o + 1)) 156 40 = i3 (o + 1) := sm_up_same _ _ _ _
  have e3 : sm_up G 156 40 (i3 (o + 1)) r o = G r o := sm_up_ne (by omega)
  have e4 : i3 (o + 1) - i3 1 = i3 o := by rw [i3_sub (by omega)]; rfl
  rw [m_325]
  simp (disch := omega) only [i3_add, i3_mul, i3_sub, i3_m1, i3_lt, i3_le, i3_eq, m1_lt, lt_m1, m1_le, le_m1, i3_nm1, m1_ni3, i3_cl, i3_in, i3_or, i3_and, i3_xor, i3_shl, i3_shr, sh_tb, tb_eq0, gd_tt, aI_o, aV_o, aL_o, aR_o, zd_0, zd_1, if_true, if_false, ite_self, eq_self, Bool.true_eq_false, Bool.false_eq_true, bi_0, bi_1, bi_zd, Nat.not_lt_zero, Nat.reduceEqDiff, Nat.reduceLeDiff, Nat.reduceLT]
  rw [h_325_11, h40, ldi_e hr hN]
  simp (disch := omega) only [i3_add, i3_mul, i3_sub, i3_m1, i3_lt, i3_le, i3_eq, m1_lt, lt_m1, m1_le, le_m1, i3_nm1, m1_ni3, i3_cl, i3_in, i3_or, i3_and, i3_xor, i3_shl, i3_shr, sh_tb, tb_eq0, gd_tt, aI_o, aV_o, aL_o, aR_o, zd_0, zd_1, if_true, if_false, ite_self, eq_self, Bool.true_eq_false, Bool.false_eq_true, bi_0, bi_1, bi_zd, Nat.not_lt_zero, e2, e4, e3]
end PLAN
