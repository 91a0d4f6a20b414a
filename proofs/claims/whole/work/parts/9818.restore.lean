theorem s_330l {d x : Nat} {V : pV} {G : sm_G} {L : sm_L} {j : Nat} (hj : j < 3) : ∃ G', sm_cv0 (d + 3) 330 342 (RR V) [.ref 156, .ref (279 + j), .int (i3 1)] (x, G, L) = oV x G' L ∧ (∀ a k, ¬ (219 ≤ a ∧ a < 231 ∧ k < 2) → ¬ (175 ≤ a ∧ a < 183 ∧ k < 2) → ¬ (a = 160 ∧ k = 2) → ¬ (a = 156 ∧ (k = 37 ∨ k = 38 ∨ k = 40)) → ¬ (283 ≤ a ∧ a < 303) → G' a k = G a k) ∧ G' 160 2 = G (279 + j) 0 ∧ (∀ i, i < 12 → G' (219 + i) 0 = G (279 + j) (0 + 1 + 2 * i) ∧ G' (219 + i) 1 = G (279 + j) (0 + 2 + 2 * i)) ∧ (∀ k, k < 8 → G' (175 + k) 0 = G (279 + j) (0 + 25 + 2 * k) ∧ G' (175 + k) 1 = G (279 + j) (0 + 26 + 2 * k)) ∧ G' 156 37 = G (279 + j) 41 ∧ G' 156 38 = G (279 + j) 42 ∧ ∀ i k, i < 20 → k < 41 → G' (283 + i) k = G (279 + j) (43 + 41 * i + k) := by
  have hr := kr_278 hj
  have hN := nr_278 hj
  have e0 : sm_up G 156 40 (i3 0) 156 40 = i3 0 := sm_up_same _ _ _ _
  obtain ⟨G1, f1, f2, f4, f5, f6, f7⟩ := s_324l (d := d) (x := x) (V := V) (L := L) (G := sm_up G 156 40 (i3 0)) (r := 279 + j) (o := 0) hr hN (by omega) (by omega) (by omega) e0
  have one : ∀ (g : sm_G) (s : Nat) (v : Int32), s < 863 → g 156 40 = i3 s → sm_cv0 (d + 2) 325 342 (RR V) [.ref 156, .ref (279 + j), .int v, .int (i3 1)] (x, g, L) = oI (g (279 + j) s) x (sm_up g 156 40 (i3 (s + 1))) L := fun g s v h1 h2 => s_325l (d := d + 1) hr hN h1 (by omega) (by omega) h2
  rw [m_330, f1]
  simp only [aV_o]
  rw [one G1 41 (G1 156 37) (by omega) f4]
  simp only [aI_o]
  have z0 : sm_up (sm_up G1 156 40 (i3 (41 + 1))) 156 37 (G1 (279 + j) 41) 156 40 = i3 42 := by rw [sm_up_ne (by omega), sm_up_same]
  have z1 : ∀ a k, ¬ (a = 156 ∧ (k = 37 ∨ k = 40)) → sm_up (sm_up G1 156 40 (i3 (41 + 1))) 156 37 (G1 (279 + j) 41) a k = G1 a k := fun a k h => by rw [sm_up_ne (by omega), sm_up_ne (by omega)]
  have z2 : sm_up (sm_up G1 156 40 (i3 (41 + 1))) 156 37 (G1 (279 + j) 41) 156 37 = G1 (279 + j) 41 := sm_up_same _ _ _ _
  generalize sm_up (sm_up G1 156 40 (i3 (41 + 1))) 156 37 (G1 (279 + j) 41) = G2 at z0 z1 z2 ⊢
  rw [one G2 42 (G2 156 38) (by omega) z0]
  simp only [aI_o]
  have y0 : sm_up (sm_up G2 156 40 (i3 (42 + 1))) 156 38 (G2 (279 + j) 42) 156 40 = i3 43 := by rw [sm_up_ne (by omega), sm_up_same]
  have y1 : ∀ a k, ¬ (a = 156 ∧ (k = 38 ∨ k = 40)) → sm_up (sm_up G2 156 40 (i3 (42 + 1))) 156 38 (G2 (279 + j) 42) a k = G2 a k := fun a k h => by rw [sm_up_ne (by omega), sm_up_ne (by omega)]
  have y2 : sm_up (sm_up G2 156 40 (i3 (42 + 1))) 156 38 (G2 (279 + j) 42) 156 38 = G2 (279 + j) 42 := sm_up_same _ _ _ _
  generalize sm_up (sm_up G2 156 40 (i3 (42 + 1))) 156 38 (G2 (279 + j) 42) = G3 at y0 y1 y2 ⊢
  have fr3 : ∀ a k, ¬ (219 ≤ a ∧ a < 231 ∧ k < 2) → ¬ (175 ≤ a ∧ a < 183 ∧ k < 2) → ¬ (a = 160 ∧ k = 2) → ¬ (a = 156 ∧ (k = 37 ∨ k = 38 ∨ k = 40)) → G3 a k = G a k := fun a k h1 h2 h3 h4 => by rw [y1 _ _ (by omega), z1 _ _ (by omega), f2 _ _ h1 h2 h3 (by omega), sm_up_ne (by omega)]
  have up : ∀ a k, a ≠ 156 → G3 a k = G1 a k := fun a k h => by rw [y1 _ _ (by omega), z1 _ _ (by omega)]
  have img : ∀ k, G3 (279 + j) k = G (279 + j) k := fun k => fr3 _ _ (by omega) (by omega) (by omega) (by omega)
  have f5' : G3 160 2 = G (279 + j) 0 := by rw [up _ _ (by omega), f5, sm_up_ne (by omega)]
  have f6' : ∀ i, i < 12 → G3 (219 + i) 0 = G (279 + j) (0 + 1 + 2 * i) ∧ G3 (219 + i) 1 = G (279 + j) (0 + 2 + 2 * i) := fun i hi => by rw [up _ _ (by omega), up _ _ (by omega), (f6 i hi).1, (f6 i hi).2, sm_up_ne (by omega), sm_up_ne (by omega)]; exact ⟨rfl, rfl⟩
  have f7' : ∀ k, k < 8 → G3 (175 + k) 0 = G (279 + j) (0 + 25 + 2 * k) ∧ G3 (175 + k) 1 = G (279 + j) (0 + 26 + 2 * k) := fun k hk => by rw [up _ _ (by omega), up _ _ (by omega), (f7 k hk).1, (f7 k hk).2, sm_up_ne (by omega), sm_up_ne (by omega)]; exact ⟨rfl, rfl⟩
  have a37 : G3 156 37 = G (279 + j) 41 := by rw [y1 _ _ (by omega), z2, f2 _ _ (by omega) (by omega) (by omega) (by omega), sm_up_ne (by omega)]
  have a38 : G3 156 38 = G (279 + j) 42 := by rw [y2, z1 _ _ (by omega), f2 _ _ (by omega) (by omega) (by omega) (by omega), sm_up_ne (by omega)]
  -- one row of changes
  have row : ∀ i g, i < 20 → g 156 40 = i3 (43 + 41 * i) → (∀ a k, ¬ (283 ≤ a ∧ a < 303) → ¬ (a = 156 ∧ k = 40) → g a k = G3 a k) → ∃ g', hD (d + 2) 330 50 [.ref 156, .ref (279 + j), .int (i3 1), .int (i3 i), .int (i3 0)] 342 (RR V) x g L = hD (d + 2) 330 41 [.ref 156, .ref (279 + j), .int (i3 1), .int (i3 (i + 1)), .null] 342 (RR V) x g' L ∧ (∀ a k, ¬ (a = 283 + i) → ¬ (a = 156 ∧ k = 40) → g' a k = g a k) ∧ g' 156 40 = i3 (43 + 41 * (i + 1)) ∧ ∀ k, k < 41 → g' (283 + i) k = G (279 + j) (43 + 41 * i + k) := by
    intro i g hi h40 hfr
    refine loopE (H := fun k (g : sm_G) => hD (d + 2) 330 50 [.ref 156, .ref (279 + j), .int (i3 1), .int (i3 i), .int (i3 k)] 342 (RR V) x g L) (Q := fun o' => ∃ g', o' = hD (d + 2) 330 41 [.ref 156, .ref (279 + j), .int (i3 1), .int (i3 (i + 1)), .null] 342 (RR V) x g' L ∧ (∀ a k, ¬ (a = 283 + i) → ¬ (a = 156 ∧ k = 40) → g' a k = g a k) ∧ g' 156 40 = i3 (43 + 41 * (i + 1)) ∧ ∀ k, k < 41 → g' (283 + i) k = G (279 + j) (43 + 41 * i + k)) (N := 41)
      (fun k u => (∀ a k, ¬ (a = 283 + i) → ¬ (a = 156 ∧ k = 40) → u a k = g a k) ∧ u 156 40 = i3 (43 + 41 * i + k) ∧ ∀ m, m < k → u (283 + i) m = G (279 + j) (43 + 41 * i + m)) ?_ ?_ 41 0 g (by omega) ⟨fun _ _ _ _ => rfl, h40, fun m hm => by omega⟩
    · rintro k u hk ⟨w1, w2, w4⟩
      have w2' : u 156 40 = i3 (43 + 41 * i + k) := w2
      have t1 := one u (43 + 41 * i + k) (u (283 + i) k) (by omega) w2'
      refine ⟨sm_up (sm_up u 156 40 (i3 (43 + 41 * i + k + 1))) (283 + i) k (u (279 + j) (43 + 41 * i + k)), ?_, fun a k' h1 h2 => by rw [sm_up_ne (by omega), sm_up_ne (by omega)]; exact w1 a k' h1 h2, by rw [sm_up_ne (by omega), sm_up_same]; rfl, fun m hm => ?_⟩
      · rw [h_330_50]
        simp (disch := omega) only [i3_add, i3_mul, i3_sub, i3_m1, i3_lt, i3_le, i3_eq, m1_lt, lt_m1, m1_le, le_m1, i3_nm1, m1_ni3, i3_cl, i3_in, i3_or, i3_and, i3_xor, i3_shl, i3_shr, sh_tb, tb_eq0, gd_tt, aI_o, aV_o, aL_o, aR_o, zd_0, zd_1, if_true, if_false, ite_self, eq_self, Bool.true_eq_false, Bool.false_eq_true, bi_0, bi_1, bi_zd, Nat.not_lt_zero, hk, hi, rr_282, ldi_e (kr_282 hi) (nr_282 hi), kr_282 hi, nr_282 hi, t1]
      · by_cases q : m = k
        · subst q
          rw [sm_up_same, w1 _ _ (by omega) (by omega), hfr _ _ (by omega) (by omega)]
          exact img _
        · rw [sm_up_ne (by omega), sm_up_ne (by omega)]
          exact w4 m (by omega)
    · rintro u ⟨w1, w2, w4⟩
      refine ⟨u, ?_, w1, by rw [w2]; congr 1, w4⟩
      rw [h_330_50]
      simp (disch := omega) only [i3_add, i3_mul, i3_sub, i3_m1, i3_lt, i3_le, i3_eq, m1_lt, lt_m1, m1_le, le_m1, i3_nm1, m1_ni3, i3_cl, i3_in, i3_or, i3_and, i3_xor, i3_shl, i3_shr, sh_tb, tb_eq0, gd_tt, aI_o, aV_o, aL_o, aR_o, zd_0, zd_1, if_true, if_false, ite_self, eq_self, Bool.true_eq_false, Bool.false_eq_true, bi_0, bi_1, bi_zd, Nat.not_lt_zero, Nat.lt_irrefl]
  refine loopE (H := fun i (g : sm_G) => hD (d + 2) 330 41 [.ref 156, .ref (279 + j), .int (i3 1), .int (i3 i), .null] 342 (RR V) x g L) (Q := fun o' => ∃ G', o' = oV x G' L ∧ (∀ a k, ¬ (219 ≤ a ∧ a < 231 ∧ k < 2) → ¬ (175 ≤ a ∧ a < 183 ∧ k < 2) → ¬ (a = 160 ∧ k = 2) → ¬ (a = 156 ∧ (k = 37 ∨ k = 38 ∨ k = 40)) → ¬ (283 ≤ a ∧ a < 303) → G' a k = G a k) ∧ G' 160 2 = G (279 + j) 0 ∧ (∀ i, i < 12 → G' (219 + i) 0 = G (279 + j) (0 + 1 + 2 * i) ∧ G' (219 + i) 1 = G (279 + j) (0 + 2 + 2 * i)) ∧ (∀ k, k < 8 → G' (175 + k) 0 = G (279 + j) (0 + 25 + 2 * k) ∧ G' (175 + k) 1 = G (279 + j) (0 + 26 + 2 * k)) ∧ G' 156 37 = G (279 + j) 41 ∧ G' 156 38 = G (279 + j) 42 ∧ ∀ i k, i < 20 → k < 41 → G' (283 + i) k = G (279 + j) (43 + 41 * i + k)) (N := 20)
    (fun i g => g 156 40 = i3 (43 + 41 * i) ∧ (∀ a k, ¬ (283 ≤ a ∧ a < 303) → ¬ (a = 156 ∧ k = 40) → g a k = G3 a k) ∧ ∀ i' k, i' < i → k < 41 → g (283 + i') k = G (279 + j) (43 + 41 * i' + k)) ?_ ?_ 20 0 G3 (by omega) ⟨y0, fun _ _ _ _ => rfl, fun i' k h _ => by omega⟩
  · rintro i g hi ⟨w1, w2, w4⟩
    obtain ⟨g', t1, t2, t3, t5⟩ := row i g hi w1 w2
    refine ⟨g', ?_, t3, fun a k h1 h2 => by rw [t2 _ _ (by omega) h2]; exact w2 a k h1 h2, fun i' k h1 h2 => ?_⟩
    · show hD (d + 2) 330 41 _ 342 (RR V) x g L = _
      rw [h_330_41]
      simp (disch := omega) only [i3_add, i3_mul, i3_sub, i3_m1, i3_lt, i3_le, i3_eq, m1_lt, lt_m1, m1_le, le_m1, i3_nm1, m1_ni3, i3_cl, i3_in, i3_or, i3_and, i3_xor, i3_shl, i3_shr, sh_tb, tb_eq0, gd_tt, aI_o, aV_o, aL_o, aR_o, zd_0, zd_1, if_true, if_false, ite_self, eq_self, Bool.true_eq_false, Bool.false_eq_true, bi_0, bi_1, bi_zd, Nat.not_lt_zero, hi, t1]
    · by_cases q : i' = i
      · subst q; exact t5 k h2
      · rw [t2 _ _ (by omega) (by omega)]
        exact w4 i' k (by omega) h2
  · rintro g ⟨w1, w2, w4⟩
    refine ⟨g, ?_, fun a k h1 h2 h3 h4 h5 => by rw [w2 _ _ h5 (by omega)]; exact fr3 _ _ h1 h2 h3 h4, by rw [w2 _ _ (by omega) (by omega)]; exact f5', fun i hi => by rw [w2 _ _ (by omega) (by omega), w2 _ _ (by omega) (by omega)]; exact f6' i hi, fun k hk => by rw [w2 _ _ (by omega) (by omega), w2 _ _ (by omega) (by omega)]; exact f7' k hk, by rw [w2 _ _ (by omega) (by omega)]; exact a37, by rw [w2 _ _ (by omega) (by omega)]; exact a38, w4⟩
    show hD (d + 2) 330 41 _ 342 (RR V) x g L = _
    rw [h_330_41]
    simp (disch := omega) only [i3_add, i3_mul, i3_sub, i3_m1, i3_lt, i3_le, i3_eq, m1_lt, lt_m1, m1_le, le_m1, i3_nm1, m1_ni3, i3_cl, i3_in, i3_or, i3_and, i3_xor, i3_shl, i3_shr, sh_tb, tb_eq0, gd_tt, aI_o, aV_o, aL_o, aR_o, zd_0, zd_1, if_true, if_false, ite_self, eq_self, Bool.true_eq_false, Bool.false_eq_true, bi_0, bi_1, bi_zd, Nat.not_lt_zero, Nat.lt_irrefl]
theorem rr26 {V : pV} {j : Nat} (hj : j < 3) : RR V 26 j = 27 + 9 * j ∧ sm_is (27 + 9 * j) 342 3 = true := by
  obtain rfl | rfl | rfl : j = 0 ∨ j = 1 ∨ j = 2 := by omega
  · exact ⟨rfl, by decide +kernel⟩
  · exact ⟨rfl, by decide +kernel⟩
  · exact ⟨rfl, by decide +kernel⟩
theorem pP26 {j : Nat} (hj : j < 3) : pP (27 + 9 * j) := by
  unfold pP
  omega
theorem img.keep9 {G G' : sm_G} {j : Nat} {T : pT} (h : img G j T) (hs : ∀ r k, (27 + 9 * j ≤ r ∧ r < 27 + 9 * j + 9) ∨ r = 279 + j → G' r k = G r k) : img G' j T := by
  obtain ⟨K, c, H, h1, h2, h3, h4, h5, h6, h7⟩ := h
  refine ⟨K, c, H, h1, h2.keep (fun r k a b => hs r k (by omega)), h3.keep (fun r k a b => hs r k (by omega)), h4.keep (fun k => hs _ _ (by omega)), by rw [hs _ _ (by omega)]; exact h5, by rw [hs _ _ (by omega)]; exact h6, fun i hi => (h7 i hi).keep (fun k => hs _ _ (by omega))⟩
theorem op_25 {d x : Nat} {V : pV} {G : sm_G} {L : sm_L} {E : Nat → Nat} (I : Inv V G) : OpI d x V G L 25 [.ref 1] 329 [.ref 156] E := by
  obtain ⟨T, K, c, H, W, hS, hh, hn⟩ := I
  have hB := hS.T.gb
  have hsl := pS_lt (hV1 hS.V)
  obtain ⟨n, n3, n1, n2, n4⟩ := hS.i
  refine OpI_0 (X := sm_cv0 (d + 60) 25 342 (RR V) [.ref 1] (x, G, L)) rfl ?_
  by_cases q : n = 3
  · subst q
    refine ⟨m1, G, g00 G, ?_, ?_, g00_0, Inv_g00 hS hh hn⟩
    · rw [m_25 hS.V, n1]
      simp (disch := omega) only [i3_add, i3_mul, i3_sub, i3_m1, i3_lt, i3_le, i3_eq, m1_lt, lt_m1, m1_le, le_m1, i3_nm1, m1_ni3, i3_cl, i3_in, i3_or, i3_and, i3_xor, i3_shl, i3_shr, sh_tb, tb_eq0, gd_tt, aI_o, aV_o, aL_o, aR_o, zd_0, zd_1, if_true, if_false, ite_self, eq_self, Bool.true_eq_false, Bool.false_eq_true, bi_0, bi_1, bi_zd, Nat.not_lt_zero, Nat.lt_irrefl]
    · have e : sm_up G 156 0 (i3 0) 156 39 = i3 3 := by rw [sm_up_ne (by omega)]; exact n2
      rw [m_329, e, if_pos rfl]
  · have q3 : n < 3 := by omega
    obtain ⟨G1, z1, z2, z3, z4⟩ := s_108 (d := d + 57) (x := x) (G := G) (L := L) (V := V) (pP26 q3) (hP1 hS.V) (by omega)
    have e15 : G1 1 15 = i3 n := by rw [z2 _ _ (by omega) (by omega)]; exact n1
    have y15 : sm_up G1 1 15 (i3 (n + 1)) 1 15 = i3 (n + 1) := sm_up_same _ _ _ _
    have yx : ∀ r k, ¬ (r = 1 ∧ k = 15) → sm_up G1 1 15 (i3 (n + 1)) r k = G1 r k := fun r k a => sm_up_ne (by omega)
    have ec : sm_cv0 (d + 60) 25 342 (RR V) [.ref 1] (x, G, L) = oI (i3 (n + 1)) x (sm_up G1 1 15 (i3 (n + 1))) L := by
      rw [m_25 hS.V, n1]
      simp (disch := omega) only [i3_add, i3_mul, i3_sub, i3_m1, i3_lt, i3_le, i3_eq, m1_lt, lt_m1, m1_le, le_m1, i3_nm1, m1_ni3, i3_cl, i3_in, i3_or, i3_and, i3_xor, i3_shl, i3_shr, sh_tb, tb_eq0, gd_tt, aI_o, aV_o, aL_o, aR_o, zd_0, zd_1, if_true, if_false, ite_self, eq_self, Bool.true_eq_false, Bool.false_eq_true, bi_0, bi_1, bi_zd, Nat.not_lt_zero, q3, (rr26 q3).1, z1, e15, y15]
      rw [(rr26 (V := V) q3).2]
      rfl
    generalize sm_up G1 1 15 (i3 (n + 1)) = Gc at *
    obtain ⟨G2, f1, f2, f3, f4, f5, f6, f7, f8⟩ := s_330s (d := d + 56) (x := x) (G := g00 Gc) (L := L) (V := V) q3
    have c2 : ∀ r k, 54 ≤ r → Gc r k = G r k := fun r k a => by rw [yx _ _ (by omega), z2 _ _ (by omega) (by omega)]
    have c3 : ∀ r k, r = 156 → k ≠ 0 → g00 Gc r k = G r k := fun r k a b => by rw [g00_ne (by omega)]; exact c2 _ _ (by omega)
    have c4 : ∀ r k, 54 ≤ r → r ≠ 156 → g00 Gc r k = G r k := fun r k a b => by rw [g00_ne (by omega)]; exact c2 _ _ a
    have e39 : g00 Gc 156 39 = i3 n := by rw [c3 _ _ rfl (by omega)]; exact n2
    have e39b : G2 156 39 = i3 n := by rw [f2 _ _ (by omega) (by omega)]; exact e39
    have x39 : sm_up G2 156 39 (i3 (n + 1)) 156 39 = i3 (n + 1) := sm_up_same _ _ _ _
    have xx : ∀ r k, ¬ (r = 156 ∧ k = 39) → sm_up G2 156 39 (i3 (n + 1)) r k = G2 r k := fun r k a => sm_up_ne (by omega)
    have em : sm_cv0 (d + 60) 329 342 (RR V) [.ref 156] (x, Gc, L) = oI (i3 (n + 1)) x (sm_up G2 156 39 (i3 (n + 1))) L := by
      rw [m_329]
      simp (disch := omega) only [i3_add, i3_mul, i3_sub, i3_m1, i3_lt, i3_le, i3_eq, m1_lt, lt_m1, m1_le, le_m1, i3_nm1, m1_ni3, i3_cl, i3_in, i3_or, i3_and, i3_xor, i3_shl, i3_shr, sh_tb, tb_eq0, gd_tt, aI_o, aV_o, aL_o, aR_o, zd_0, zd_1, if_true, if_false, ite_self, eq_self, Bool.true_eq_false, Bool.false_eq_true, bi_0, bi_1, bi_zd, Nat.not_lt_zero, e39, q, rr_278, f1, e39b, x39]
    generalize sm_up G2 156 39 (i3 (n + 1)) = F at *
    have FG : ∀ r k, ¬ (r = 1 ∧ k = 15) → ¬ (r = 156 ∧ (k = 0 ∨ k = 39 ∨ k = 40)) → ¬ (27 + 9 * n ≤ r ∧ r < 27 + 9 * n + 9) → r ≠ 279 + n → F r k = G r k := fun r k h1 h2 h3 h4 => by
      rw [xx _ _ (by omega), f2 _ _ h4 (by omega), g00_ne (by omega), yx _ _ h1, z2 _ _ (by omega) (by omega)]
    have Fc : ∀ r k, r < 156 → F r k = Gc r k := fun r k h1 => by rw [xx _ _ (by omega), f2 _ _ (by omega) (by omega), g00_ne (by omega)]
    have Fi : ∀ k, F (279 + n) k = G2 (279 + n) k := fun k => xx _ _ (by omega)
    have h20 := hS.h.1
    refine ⟨i3 (n + 1), Gc, F, ec, em, ?_, T, K, c, H, W, hS.imgs (fun r k h1 h2 h3 h4 h5 => FG r k h2 (fun z => h1 (by unfold sc; omega)) (by omega) (by omega)) ⟨n + 1, by omega, by rw [Fc _ _ (by omega)]; exact y15, x39, fun j hj => ?_⟩, hh.keep (FG _ _ (by omega) (by omega) (by omega) (by omega)) (fun r k _ _ => FG _ _ (by omega) (by omega) (by omega) (by omega)), hn.keep hS.T (FG _ _ (by omega) (by omega) (by omega) (by omega)) (fun r k _ _ => FG _ _ (by omega) (by omega) (by omega) (by omega))⟩
    · rw [xx _ _ (by omega), f2 _ _ (by omega) (by omega)]; exact g00_0
    · by_cases w : j = n
      · subst w
        have a1 : ∀ k, k = 8 ∨ k = 9 ∨ k = 10 → F (27 + 9 * j) k = G (V.1 + 1) k := fun k hk => by rw [Fc _ _ (by omega), yx _ _ (by omega)]; exact z3 k hk
        have a2 : ∀ i k, 1 ≤ i → i ≤ 8 → (k < if i ≤ 2 then 12 else if i ≤ 4 then 8 else 20) → F (27 + 9 * j + i) k = G (V.1 + 1 + i) k := fun i k h1 h2 h3 => by rw [Fc _ _ (by omega), yx _ _ (by omega)]; exact z4 i k h1 h2 h3
        have hnn := hS.P.gb
        refine ⟨K, c, H, hS.K, hS.p.copy hS.T hS.P a1 a2, hS.h.copy a1 a2, ⟨?_, fun i hi => ?_, fun k hk => ?_⟩, ?_, ?_, fun i hi => ?_⟩
        · rw [Fi, f3, c4 _ _ (by omega) (by omega)]; exact hS.m.gnn
        · rw [Fi, Fi, (f4 i (by omega)).1, (f4 i (by omega)).2, c4 _ _ (by omega) (by omega), c4 _ _ (by omega) (by omega)]
          exact ⟨hS.m.gnm i hi, hS.m.gns i hi⟩
        · rw [Fi, Fi, (f5 k (by omega)).1, (f5 k (by omega)).2, c4 _ _ (by omega) (by omega), c4 _ _ (by omega) (by omega)]
          exact ⟨hS.m.gfr k hk, hS.m.gun k hk⟩
        · rw [Fi, f6, c3 _ _ rfl (by omega)]; exact hS.m.gkp
        · rw [Fi, f7, c3 _ _ rfl (by omega)]; exact hS.hm.1
        · obtain ⟨s1, s2, s3⟩ := hS.hm.2 i hi
          have hni := (hS.h.2.2.1 i (by omega)).gb
          have cc : ∀ k, k < 41 → F (279 + j) (43 + 41 * i + k) = G (283 + i) k := fun k hk => by rw [Fi, f8 i k (by omega) hk, c4 _ _ (by omega) (by omega)]
          refine ⟨?_, fun m hm => ?_, fun k hk => ?_⟩
          · rw [show 43 + 41 * i = 43 + 41 * i + 0 by omega, cc 0 (by omega)]; exact s1
          · rw [show 43 + 41 * i + 1 + 2 * m = 43 + 41 * i + (0 + 1 + 2 * m) by omega, show 43 + 41 * i + 2 + 2 * m = 43 + 41 * i + (0 + 2 + 2 * m) by omega, cc _ (by omega), cc _ (by omega)]
            exact s2 m hm
          · rw [show 43 + 41 * i + 25 + 2 * k = 43 + 41 * i + (0 + 25 + 2 * k) by omega, show 43 + 41 * i + 26 + 2 * k = 43 + 41 * i + (0 + 26 + 2 * k) by omega, cc _ (by omega), cc _ (by omega)]
            exact s3 k hk
      · exact (n4 j (by omega)).keep9 (fun r k a => FG r k (by omega) (by omega) (by omega) (by omega))
theorem op_26 {d x : Nat} {V : pV} {G : sm_G} {L : sm_L} {E : Nat → Nat} (I : Inv V G) : OpI d x V G L 26 [.ref 1] 331 [.ref 156] E := by
  obtain ⟨T, K, c, H, W, hS, hh, hn⟩ := I
  have hB := hS.T.gb
  have hsl := pS_lt (hV1 hS.V)
  obtain ⟨n, n3, n1, n2, n4⟩ := hS.i
  refine OpI_0 (X := sm_cv0 (d + 60) 26 342 (RR V) [.ref 1] (x, G, L)) rfl ?_
  cases n with
  | zero =>
    refine ⟨m1, G, g00 G, ?_, ?_, g00_0, Inv_g00 hS hh hn⟩
    · rw [m_26 hS.V, n1]
      simp (disch := omega) only [i3_add, i3_mul, i3_sub, i3_m1, i3_lt, i3_le, i3_eq, m1_lt, lt_m1, m1_le, le_m1, i3_nm1, m1_ni3, i3_cl, i3_in, i3_or, i3_and, i3_xor, i3_shl, i3_shr, sh_tb, tb_eq0, gd_tt, aI_o, aV_o, aL_o, aR_o, zd_0, zd_1, if_true, if_false, ite_self, eq_self, Bool.true_eq_false, Bool.false_eq_true, bi_0, bi_1, bi_zd, Nat.not_lt_zero, Nat.le_refl]
    · have e : sm_up G 156 0 (i3 0) 156 39 = i3 0 := by rw [sm_up_ne (by omega)]; exact n2
      rw [m_331, e, if_pos rfl]
  | succ n =>
    have q3 : n < 3 := by omega
    have e1 : i3 (n + 1) - i3 1 = i3 n := by rw [i3_sub (by omega)]; rfl
    -- the class's part
    have g15 : sm_up G 1 15 (i3 n) 1 15 = i3 n := sm_up_same _ _ _ _
    have gx : ∀ r k, ¬ (r = 1 ∧ k = 15) → sm_up G 1 15 (i3 n) r k = G r k := fun r k a => sm_up_ne (by omega)
    obtain ⟨G1, z1, z2, z3, z4⟩ := s_108 (d := d + 57) (x := x) (G := sm_up G 1 15 (i3 n)) (L := L) (V := V) (hP1 hS.V) (pP26 q3) (by omega)
    have frC : ∀ r k, ¬ (V.1 + 1 ≤ r ∧ r < V.1 + 10) → ¬ (r = 1 ∧ (k = 15 ∨ k = 17 ∨ k = 18)) → chg G1 r k = G r k := fun r k a1 a2 => by rw [chg_ne (by omega), z2 r k (by omega) (by omega)]; exact gx _ _ (by omega)
    have h15 : chg G1 1 15 = i3 n := by rw [chg_ne (by omega), z2 _ _ (by omega) (by omega)]; exact g15
    have ec : sm_cv0 (d + 60) 26 342 (RR V) [.ref 1] (x, G, L) = oI (i3 n) x (chg G1) L := by
      rw [m_26 hS.V, n1, e1, g15]
      simp (disch := omega) only [i3_add, i3_mul, i3_sub, i3_m1, i3_lt, i3_le, i3_eq, m1_lt, lt_m1, m1_le, le_m1, i3_nm1, m1_ni3, i3_cl, i3_in, i3_or, i3_and, i3_xor, i3_shl, i3_shr, sh_tb, tb_eq0, gd_tt, aI_o, aV_o, aL_o, aR_o, zd_0, zd_1, if_true, if_false, ite_self, eq_self, Bool.true_eq_false, Bool.false_eq_true, bi_0, bi_1, bi_zd, Nat.not_lt_zero, show ¬ n + 1 ≤ 0 by omega, (rr26 q3).1, z1, s_23]
      show oI (chg G1 1 15) x (chg G1) L = _
      rw [h15]
    have hsM : sM G (chg G1) := fun r k a => frC r k (by omega) (by omega)
    -- the model's part
    have e39 : sm_up (chg G1) 156 0 (i3 0) 156 39 = i3 (n + 1) := by rw [sm_up_ne (by omega), hsM _ _ (by omega)]; exact n2
    have hx : ∀ r k, ¬ (r = 156 ∧ (k = 0 ∨ k = 39)) → sm_up (sm_up (chg G1) 156 0 (i3 0)) 156 39 (i3 n) r k = chg G1 r k := fun r k a => by rw [sm_up_ne (by omega), sm_up_ne (by omega)]
    have h39 : sm_up (sm_up (chg G1) 156 0 (i3 0)) 156 39 (i3 n) 156 39 = i3 n := sm_up_same _ _ _ _
    have h0 : sm_up (sm_up (chg G1) 156 0 (i3 0)) 156 39 (i3 n) 156 0 = i3 0 := by rw [sm_up_ne (by omega), sm_up_same]
    obtain ⟨F, f1, f2, f3, f4, f5, f6, f7, f8⟩ := s_330l (d := d + 56) (x := x) (G := sm_up (sm_up (chg G1) 156 0 (i3 0)) 156 39 (i3 n)) (L := L) (V := V) q3
    have F39 : F 156 39 = i3 n := by rw [f2 _ _ (by omega) (by omega) (by omega) (by omega) (by omega)]; exact h39
    have em : sm_cv0 (d + 60) 331 342 (RR V) [.ref 156] (x, chg G1, L) = oI (i3 n) x F L := by
      rw [m_331, e39, e1, h39]
      simp (disch := omega) only [i3_add, i3_mul, i3_sub, i3_m1, i3_lt, i3_le, i3_eq, m1_lt, lt_m1, m1_le, le_m1, i3_nm1, m1_ni3, i3_cl, i3_in, i3_or, i3_and, i3_xor, i3_shl, i3_shr, sh_tb, tb_eq0, gd_tt, aI_o, aV_o, aL_o, aR_o, zd_0, zd_1, if_true, if_false, ite_self, eq_self, Bool.true_eq_false, Bool.false_eq_true, bi_0, bi_1, bi_zd, Nat.not_lt_zero, show ¬ n + 1 = 0 by omega, rr_278, f1, F39]
    have F0 : F 156 0 = i3 0 := by rw [f2 _ _ (by omega) (by omega) (by omega) (by omega) (by omega)]; exact h0
    generalize sm_up (sm_up (chg G1) 156 0 (i3 0)) 156 39 (i3 n) = g at *
    have FC : ∀ r k, r < 156 → F r k = chg G1 r k := fun r k a => by rw [f2 _ _ (by omega) (by omega) (by omega) (by omega) (by omega)]; exact hx _ _ (by omega)
    have gm : ∀ r k, 156 ≤ r → ¬ (r = 156 ∧ (k = 0 ∨ k = 39)) → g r k = G r k := fun r k a b => by rw [hx r k b]; exact hsM r k a
    obtain ⟨K', c', H', i1, i2, i3', i4, i5, i6, i7⟩ := n4 n (by omega)
    have hP' := i3'.2.2.1 c' (Nat.le_refl _)
    have c20 := i3'.1
    -- the images' number, then the plan
    have A : IvS V (sm_up (sm_up G 1 15 (i3 n)) 156 39 (i3 n)) T K c H W := hS.imgs (fun r k h1 h2 h3 h4 h5 => by rw [sm_up_ne (by omega), sm_up_ne (by omega)]) ⟨n, by omega, by rw [sm_up_ne (by omega)]; exact g15, sm_up_same _ _ _ _, fun j hj => (n4 j (by omega)).keep (by omega) (fun r k a => by rw [sm_up_ne (by omega), sm_up_ne (by omega)])⟩
    refine ⟨i3 n, chg G1, F, ec, em, F0, ?_⟩
    refine Inv_ch (A.plan (K' := K') (c' := c') (H' := H') (fun r k a1 a2 a3 a4 a5 a6 a7 => ?_) hP' i1 (i2.copy (G' := F) (p := V.1 + 1) hS.T hP' (fun k hk => ?_) (fun i k b1 b2 b3 => ?_)) ((hS.m.keep hS.T hS.P (fun r k a => gm r k (by unfold inM at a; omega) (by unfold inM at a; omega))).load hS.T hP' (r := 279 + n) (o := 0) (i4.keep (fun k => gm _ _ (by omega) (by omega))) (fun a k b1 b2 b3 b4 b5 b6 => f2 a k b3 b4 b5 (by omega) (by omega)) (by rw [f6, gm _ _ (by omega) (by omega)]; exact i5) f3 f4 f5) (i3'.copy (G' := F) (p := V.1 + 1) (fun k hk => ?_) (fun i k b1 b2 b3 => ?_)) ⟨by rw [f7, gm _ _ (by omega) (by omega)]; exact i6, fun i hi => ?_⟩) (by rw [FC _ _ (by omega)]; exact chg_17) (by rw [FC _ _ (by omega)]; exact chg_18)
    · by_cases z : r < 156
      · by_cases y : r = 1 ∧ k = 15
        · obtain ⟨rfl, rfl⟩ := y
          rw [FC _ _ (by omega), h15, sm_up_ne (by omega), g15]
        · rw [FC r k z, sm_up_ne (by omega), gx _ _ y]
          exact frC r k (by omega) (fun y' => a1 (by unfold sc; omega))
      · by_cases y : r = 156 ∧ k = 39
        · obtain ⟨rfl, rfl⟩ := y
          rw [F39, sm_up_same]
        · have a1' : ¬ (r = 156 ∧ (k = 0 ∨ k = 40)) := fun y' => a1 (by unfold sc; omega)
          rw [f2 r k (by omega) (by omega) (by omega) (by omega) (by omega), gm _ _ (by omega) (by omega), sm_up_ne (by omega), gx _ _ (by omega)]
    · rw [FC _ _ (by omega), chg_ne (by omega), z3 k hk, gx _ _ (by omega)]
    · rw [FC _ _ (by omega), chg_ne (by omega), z4 i k b1 b2 b3, gx _ _ (by omega)]
    · rw [FC _ _ (by omega), chg_ne (by omega), z3 k hk, gx _ _ (by omega)]
    · rw [FC _ _ (by omega), chg_ne (by omega), z4 i k b1 b2 b3, gx _ _ (by omega)]
    · obtain ⟨s1, s2, s3⟩ := i7 i hi
      have hni := (i3'.2.2.1 i (by omega)).gb
      have cc : ∀ k, k < 41 → F (283 + i) k = G (279 + n) (43 + 41 * i + k) := fun k hk => by rw [f8 i k (by omega) hk, gm _ _ (by omega) (by omega)]
      refine ⟨by rw [cc 0 (by omega)]; exact s1, fun m hm => ?_, fun k hk => ?_⟩
      · rw [cc _ (by omega), cc _ (by omega), show 43 + 41 * i + (0 + 1 + 2 * m) = 43 + 41 * i + 1 + 2 * m by omega, show 43 + 41 * i + (0 + 2 + 2 * m) = 43 + 41 * i + 2 + 2 * m by omega]
        exact s2 m hm
      · rw [cc _ (by omega), cc _ (by omega), show 43 + 41 * i + (0 + 25 + 2 * k) = 43 + 41 * i + 25 + 2 * k by omega, show 43 + 41 * i + (0 + 26 + 2 * k) = 43 + 41 * i + 26 + 2 * k by omega]
        exact s3 k hk
