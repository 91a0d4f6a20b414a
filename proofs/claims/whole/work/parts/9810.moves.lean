/-! the model's plan, kept and brought back -/
section MOVES
variable {d x : Nat} {V : pV} {L : sm_L} {r o N : Nat}
theorem s_324s {G : sm_G} (hr : sm_is r 342 20 = true) (hN : sm_N r = N) (ho : o + 41 ≤ N) (hN2 : N < 2000) (hrr : 279 ≤ r) (h40 : G 156 40 = i3 o) :
    ∃ G', sm_cv0 (d + 2) 324 342 (RR V) [.ref 156, .ref r, .int (i3 0)] (x, G, L) = oV x G' L ∧ (∀ a k, a ≠ r → ¬ (a = 156 ∧ k = 40) → G' a k = G a k) ∧ (∀ k, k < o ∨ o + 41 ≤ k → G' r k = G r k) ∧ G' 156 40 = i3 (o + 41) ∧ G' r o = G 160 2 ∧ (∀ i, i < 12 → G' r (o + 1 + 2 * i) = G (219 + i) 0 ∧ G' r (o + 2 + 2 * i) = G (219 + i) 1) ∧ ∀ k, k < 8 → G' r (o + 25 + 2 * k) = G (175 + k) 0 ∧ G' r (o + 26 + 2 * k) = G (175 + k) 1 := by
  have one : ∀ (g : sm_G) (s : Nat) (v : Int32) (x : Nat), s < N → g 156 40 = i3 s → sm_cv0 (d + 1) 325 342 (RR V) [.ref 156, .ref r, .int v, .int (i3 0)] (x, g, L) = oI v x (sm_up (sm_up g r s v) 156 40 (i3 (s + 1))) L := fun g s v x h1 h2 => s_325s (d := d) hr hN h1 hN2 (by omega) h2
  have u2 : ∀ (g : sm_G) (s : Nat) (v : Int32) (a k : Nat), a ≠ r → ¬ (a = 156 ∧ k = 40) → sm_up (sm_up g r s v) 156 40 (i3 (s + 1)) a k = g a k := fun g s v a k h1 h2 => by rw [sm_up_ne (by omega), sm_up_ne (by omega)]
  have u3 : ∀ (g : sm_G) (s : Nat) (v : Int32) (k : Nat), k ≠ s → sm_up (sm_up g r s v) 156 40 (i3 (s + 1)) r k = g r k := fun g s v k h1 => by rw [sm_up_ne (by omega), sm_up_ne (by omega)]
  have u4 : ∀ (g : sm_G) (s : Nat) (v : Int32), sm_up (sm_up g r s v) 156 40 (i3 (s + 1)) r s = v := fun g s v => by rw [sm_up_ne (by omega), sm_up_same]
  have u5 : ∀ (g : sm_G) (s : Nat) (v : Int32), sm_up (sm_up g r s v) 156 40 (i3 (s + 1)) 156 40 = i3 (s + 1) := fun g s v => sm_up_same _ _ _ _
  have u6 : ∀ (g : sm_G) (s : Nat) (v : Int32) (a k : Nat), a ≠ r → ¬ (a = 156 ∧ k = 40) → v = g a k → sm_up (sm_up (sm_up g r s v) 156 40 (i3 (s + 1))) a k v = sm_up (sm_up g r s v) 156 40 (i3 (s + 1)) := fun g s v a k h1 h2 h3 => up_id (by rw [u2 _ _ _ _ _ h1 h2]; exact h3)
  -- one noise or sleeper of the row at b + i
  have row : ∀ (g : sm_G) (s : Nat) (b i : Nat), s + 2 ≤ N → g 156 40 = i3 s → b + i < 279 → b + i ≠ 156 → ∃ g', g' = sm_up (sm_up (sm_up (sm_up g r s (g (b + i) 0)) 156 40 (i3 (s + 1))) r (s + 1) (g (b + i) 1)) 156 40 (i3 (s + 1 + 1)) ∧ (∀ a k, a ≠ r → ¬ (a = 156 ∧ k = 40) → g' a k = g a k) ∧ (∀ k, k ≠ s → k ≠ s + 1 → g' r k = g r k) ∧ g' 156 40 = i3 (s + 2) ∧ g' r s = g (b + i) 0 ∧ g' r (s + 1) = g (b + i) 1 := fun g s b i h1 h2 h3 h4 => by
    refine ⟨_, rfl, fun a k q1 q2 => by rw [u2 _ _ _ _ _ q1 q2, u2 _ _ _ _ _ q1 q2], fun k q1 q2 => by rw [u3 _ _ _ _ q2, u3 _ _ _ _ q1], u5 _ _ _, by rw [u3 _ _ _ _ (by omega), u4], u4 _ _ _⟩
  rw [m_324, one G o (G 160 2) x (by omega) h40]
  simp only [aI_o]
  rw [u6 G o (G 160 2) 160 2 (by omega) (by omega) rfl]
  have f0a := u2 G o (G 160 2)
  have f0b := u3 G o (G 160 2)
  have f0c := u4 G o (G 160 2)
  have f0d := u5 G o (G 160 2)
  generalize sm_up (sm_up G r o (G 160 2)) 156 40 (i3 (o + 1)) = G0 at f0a f0b f0c f0d ⊢
  refine loopE (H := fun i (g : sm_G) => hD (d + 1) 324 20 [.ref 156, .ref r, .int (i3 0), .int (i3 i), .null] 342 (RR V) x g L) (Q := fun o' => ∃ G', o' = oV x G' L ∧ (∀ a k, a ≠ r → ¬ (a = 156 ∧ k = 40) → G' a k = G a k) ∧ (∀ k, k < o ∨ o + 41 ≤ k → G' r k = G r k) ∧ G' 156 40 = i3 (o + 41) ∧ G' r o = G 160 2 ∧ (∀ i, i < 12 → G' r (o + 1 + 2 * i) = G (219 + i) 0 ∧ G' r (o + 2 + 2 * i) = G (219 + i) 1) ∧ ∀ k, k < 8 → G' r (o + 25 + 2 * k) = G (175 + k) 0 ∧ G' r (o + 26 + 2 * k) = G (175 + k) 1) (N := 12)
    (fun i g => (∀ a k, a ≠ r → ¬ (a = 156 ∧ k = 40) → g a k = G a k) ∧ (∀ k, k < o ∨ o + 1 + 2 * i ≤ k → g r k = G r k) ∧ g 156 40 = i3 (o + 1 + 2 * i) ∧ g r o = G 160 2 ∧ ∀ j, j < i → g r (o + 1 + 2 * j) = G (219 + j) 0 ∧ g r (o + 2 + 2 * j) = G (219 + j) 1) ?_ ?_ 12 0 G0 (by omega) ⟨f0a, fun k hk => f0b k (by omega), f0d, f0c, fun j hj => by omega⟩
  · rintro i g hi ⟨h1, h2, h3, h4, h5⟩
    obtain ⟨g', e0, e1, e2, e3, e4, e5⟩ := row g (o + 1 + 2 * i) 219 i (by omega) h3 (by omega) (by omega)
    refine ⟨g', ?_, fun a k q1 q2 => (e1 a k q1 q2).trans (h1 a k q1 q2), fun k hk => by rw [e2 k (by omega) (by omega)]; exact h2 k (by omega), by rw [e3]; congr 1, by rw [e2 _ (by omega) (by omega)]; exact h4, fun j hj => ?_⟩
    · rw [h_324_20]
      simp (disch := omega) only [i3_add, i3_mul, i3_sub, i3_m1, i3_lt, i3_le, i3_eq, m1_lt, lt_m1, m1_le, le_m1, i3_nm1, m1_ni3, i3_cl, i3_in, i3_or, i3_and, i3_xor, i3_shl, i3_shr, sh_tb, tb_eq0, gd_tt, aI_o, aV_o, aL_o, aR_o, zd_0, zd_1, if_true, if_false, ite_self, eq_self, Bool.true_eq_false, Bool.false_eq_true, bi_0, bi_1, bi_zd, Nat.not_lt_zero, hi]
      rw [h_324_29]
      have z1 := one g (o + 1 + 2 * i) (g (219 + i) 0) x (by omega) h3
      have z2 := u6 g (o + 1 + 2 * i) (g (219 + i) 0) (219 + i) 0 (by omega) (by omega) rfl
      simp (disch := omega) only [i3_add, i3_mul, i3_sub, i3_m1, i3_lt, i3_le, i3_eq, m1_lt, lt_m1, m1_le, le_m1, i3_nm1, m1_ni3, i3_cl, i3_in, i3_or, i3_and, i3_xor, i3_shl, i3_shr, sh_tb, tb_eq0, gd_tt, aI_o, aV_o, aL_o, aR_o, zd_0, zd_1, if_true, if_false, ite_self, eq_self, Bool.true_eq_false, Bool.false_eq_true, bi_0, bi_1, bi_zd, Nat.not_lt_zero, Nat.reduceEqDiff, Nat.reduceLeDiff, Nat.reduceLT, Nat.reduceAdd, rr_165, ldr_165, kr_165, nr_165, rr_174, ldr_174, kr_174, nr_174, rr_183, ldr_183, kr_183, nr_183, rr_194, ldr_194, kr_194, nr_194, rr_205, ldr_205, kr_205, nr_205, rr_218, ldr_218, kr_218, nr_218, rr_231, ldr_231, kr_231, nr_231, rr_236, ldr_236, kr_236, nr_236, rr_242, ldr_242, kr_242, nr_242, rr_247, ldr_247, kr_247, nr_247, rr_252, ldr_252, kr_252, nr_252, rr_265, ldr_265, kr_265, nr_265, rr_278, ldr_278, kr_278, nr_278, rr_282, ldr_282, kr_282, nr_282, rr_309, ldr_309, kr_309, nr_309, rr_314, ldr_314, kr_314, nr_314, rr_319, ldr_319, kr_319, nr_319, rr_332, ldr_332, kr_332, nr_332, z1, z2]
      rw [h_324_29]
      have z3 := one (sm_up (sm_up g r (o + 1 + 2 * i) (g (219 + i) 0)) 156 40 (i3 (o + 1 + 2 * i + 1))) (o + 1 + 2 * i + 1) (g (219 + i) 1) x (by omega) (u5 _ _ _)
      have z4 := u2 g (o + 1 + 2 * i) (g (219 + i) 0) (219 + i) 1 (by omega) (by omega)
      have z5 := u6 (sm_up (sm_up g r (o + 1 + 2 * i) (g (219 + i) 0)) 156 40 (i3 (o + 1 + 2 * i + 1))) (o + 1 + 2 * i + 1) (g (219 + i) 1) (219 + i) 1 (by omega) (by omega) z4.symm
      simp (disch := omega) only [i3_add, i3_mul, i3_sub, i3_m1, i3_lt, i3_le, i3_eq, m1_lt, lt_m1, m1_le, le_m1, i3_nm1, m1_ni3, i3_cl, i3_in, i3_or, i3_and, i3_xor, i3_shl, i3_shr, sh_tb, tb_eq0, gd_tt, aI_o, aV_o, aL_o, aR_o, zd_0, zd_1, if_true, if_false, ite_self, eq_self, Bool.true_eq_false, Bool.false_eq_true, bi_0, bi_1, bi_zd, Nat.not_lt_zero, Nat.reduceEqDiff, Nat.reduceLeDiff, Nat.reduceLT, Nat.reduceAdd, rr_165, ldr_165, kr_165, nr_165, rr_174, ldr_174, kr_174, nr_174, rr_183, ldr_183, kr_183, nr_183, rr_194, ldr_194, kr_194, nr_194, rr_205, ldr_205, kr_205, nr_205, rr_218, ldr_218, kr_218, nr_218, rr_231, ldr_231, kr_231, nr_231, rr_236, ldr_236, kr_236, nr_236, rr_242, ldr_242, kr_242, nr_242, rr_247, ldr_247, kr_247, nr_247, rr_252, ldr_252, kr_252, nr_252, rr_265, ldr_265, kr_265, nr_265, rr_278, ldr_278, kr_278, nr_278, rr_282, ldr_282, kr_282, nr_282, rr_309, ldr_309, kr_309, nr_309, rr_314, ldr_314, kr_314, nr_314, rr_319, ldr_319, kr_319, nr_319, rr_332, ldr_332, kr_332, nr_332, z4, z3, z5]
      rw [h_324_29]
      simp (disch := omega) only [i3_add, i3_mul, i3_sub, i3_m1, i3_lt, i3_le, i3_eq, m1_lt, lt_m1, m1_le, le_m1, i3_nm1, m1_ni3, i3_cl, i3_in, i3_or, i3_and, i3_xor, i3_shl, i3_shr, sh_tb, tb_eq0, gd_tt, aI_o, aV_o, aL_o, aR_o, zd_0, zd_1, if_true, if_false, ite_self, eq_self, Bool.true_eq_false, Bool.false_eq_true, bi_0, bi_1, bi_zd, Nat.not_lt_zero, Nat.reduceEqDiff, Nat.reduceLeDiff, Nat.reduceLT, Nat.reduceAdd, e0]
    · by_cases q : j = i
      · subst q
        refine ⟨e4.trans (h1 _ _ (by omega) (by omega)), ?_⟩
        rw [show o + 2 + 2 * j = o + 1 + 2 * j + 1 by omega]
        exact e5.trans (h1 _ _ (by omega) (by omega))
      · rw [e2 _ (by omega) (by omega), e2 _ (by omega) (by omega)]
        exact h5 j (by omega)
  · rintro g ⟨h1, h2, h3, h4, h5⟩
    rw [h_324_20]
    simp (disch := omega) only [i3_add, i3_mul, i3_sub, i3_m1, i3_lt, i3_le, i3_eq, m1_lt, lt_m1, m1_le, le_m1, i3_nm1, m1_ni3, i3_cl, i3_in, i3_or, i3_and, i3_xor, i3_shl, i3_shr, sh_tb, tb_eq0, gd_tt, aI_o, aV_o, aL_o, aR_o, zd_0, zd_1, if_true, if_false, ite_self, eq_self, Bool.true_eq_false, Bool.false_eq_true, bi_0, bi_1, bi_zd, Nat.not_lt_zero, Nat.reduceEqDiff, Nat.reduceLeDiff, Nat.reduceLT, Nat.reduceAdd]
    refine loopE (H := fun i (g : sm_G) => hD (d + 1) 324 73 [.ref 156, .ref r, .int (i3 0), .int (i3 i), .null] 342 (RR V) x g L) (Q := fun o' => ∃ G', o' = oV x G' L ∧ (∀ a k, a ≠ r → ¬ (a = 156 ∧ k = 40) → G' a k = G a k) ∧ (∀ k, k < o ∨ o + 41 ≤ k → G' r k = G r k) ∧ G' 156 40 = i3 (o + 41) ∧ G' r o = G 160 2 ∧ (∀ i, i < 12 → G' r (o + 1 + 2 * i) = G (219 + i) 0 ∧ G' r (o + 2 + 2 * i) = G (219 + i) 1) ∧ ∀ k, k < 8 → G' r (o + 25 + 2 * k) = G (175 + k) 0 ∧ G' r (o + 26 + 2 * k) = G (175 + k) 1) (N := 8)
      (fun i g => (∀ a k, a ≠ r → ¬ (a = 156 ∧ k = 40) → g a k = G a k) ∧ (∀ k, k < o ∨ o + 25 + 2 * i ≤ k → g r k = G r k) ∧ g 156 40 = i3 (o + 25 + 2 * i) ∧ g r o = G 160 2 ∧ (∀ j, j < 12 → g r (o + 1 + 2 * j) = G (219 + j) 0 ∧ g r (o + 2 + 2 * j) = G (219 + j) 1) ∧ ∀ j, j < i → g r (o + 25 + 2 * j) = G (175 + j) 0 ∧ g r (o + 26 + 2 * j) = G (175 + j) 1) ?_ ?_ 8 0 g (by omega) ⟨h1, fun k hk => h2 k (by omega), h3, h4, h5, fun j hj => by omega⟩
    · rintro i g hi ⟨h1, h2, h3, h4, h5, h6⟩
      obtain ⟨g', e0, e1, e2, e3, e4, e5⟩ := row g (o + 25 + 2 * i) 175 i (by omega) h3 (by omega) (by omega)
      refine ⟨g', ?_, fun a k q1 q2 => (e1 a k q1 q2).trans (h1 a k q1 q2), fun k hk => by rw [e2 k (by omega) (by omega)]; exact h2 k (by omega), by rw [e3]; congr 1, by rw [e2 _ (by omega) (by omega)]; exact h4, fun j hj => by rw [e2 _ (by omega) (by omega), e2 _ (by omega) (by omega)]; exact h5 j hj, fun j hj => ?_⟩
      · rw [h_324_73]
        simp (disch := omega) only [i3_add, i3_mul, i3_sub, i3_m1, i3_lt, i3_le, i3_eq, m1_lt, lt_m1, m1_le, le_m1, i3_nm1, m1_ni3, i3_cl, i3_in, i3_or, i3_and, i3_xor, i3_shl, i3_shr, sh_tb, tb_eq0, gd_tt, aI_o, aV_o, aL_o, aR_o, zd_0, zd_1, if_true, if_false, ite_self, eq_self, Bool.true_eq_false, Bool.false_eq_true, bi_0, bi_1, bi_zd, Nat.not_lt_zero, hi]
        rw [h_324_82]
        have z1 := one g (o + 25 + 2 * i) (g (175 + i) 0) x (by omega) h3
        have z2 := u6 g (o + 25 + 2 * i) (g (175 + i) 0) (175 + i) 0 (by omega) (by omega) rfl
        simp (disch := omega) only [i3_add, i3_mul, i3_sub, i3_m1, i3_lt, i3_le, i3_eq, m1_lt, lt_m1, m1_le, le_m1, i3_nm1, m1_ni3, i3_cl, i3_in, i3_or, i3_and, i3_xor, i3_shl, i3_shr, sh_tb, tb_eq0, gd_tt, aI_o, aV_o, aL_o, aR_o, zd_0, zd_1, if_true, if_false, ite_self, eq_self, Bool.true_eq_false, Bool.false_eq_true, bi_0, bi_1, bi_zd, Nat.not_lt_zero, Nat.reduceEqDiff, Nat.reduceLeDiff, Nat.reduceLT, Nat.reduceAdd, rr_165, ldr_165, kr_165, nr_165, rr_174, ldr_174, kr_174, nr_174, rr_183, ldr_183, kr_183, nr_183, rr_194, ldr_194, kr_194, nr_194, rr_205, ldr_205, kr_205, nr_205, rr_218, ldr_218, kr_218, nr_218, rr_231, ldr_231, kr_231, nr_231, rr_236, ldr_236, kr_236, nr_236, rr_242, ldr_242, kr_242, nr_242, rr_247, ldr_247, kr_247, nr_247, rr_252, ldr_252, kr_252, nr_252, rr_265, ldr_265, kr_265, nr_265, rr_278, ldr_278, kr_278, nr_278, rr_282, ldr_282, kr_282, nr_282, rr_309, ldr_309, kr_309, nr_309, rr_314, ldr_314, kr_314, nr_314, rr_319, ldr_319, kr_319, nr_319, rr_332, ldr_332, kr_332, nr_332, z1, z2]
        rw [h_324_82]
        have z3 := one (sm_up (sm_up g r (o + 25 + 2 * i) (g (175 + i) 0)) 156 40 (i3 (o + 25 + 2 * i + 1))) (o + 25 + 2 * i + 1) (g (175 + i) 1) x (by omega) (u5 _ _ _)
        have z4 := u2 g (o + 25 + 2 * i) (g (175 + i) 0) (175 + i) 1 (by omega) (by omega)
        have z5 := u6 (sm_up (sm_up g r (o + 25 + 2 * i) (g (175 + i) 0)) 156 40 (i3 (o + 25 + 2 * i + 1))) (o + 25 + 2 * i + 1) (g (175 + i) 1) (175 + i) 1 (by omega) (by omega) z4.symm
        simp (disch := omega) only [i3_add, i3_mul, i3_sub, i3_m1, i3_lt, i3_le, i3_eq, m1_lt, lt_m1, m1_le, le_m1, i3_nm1, m1_ni3, i3_cl, i3_in, i3_or, i3_and, i3_xor, i3_shl, i3_shr, sh_tb, tb_eq0, gd_tt, aI_o, aV_o, aL_o, aR_o, zd_0, zd_1, if_true, if_false, ite_self, eq_self, Bool.true_eq_false, Bool.false_eq_true, bi_0, bi_1, bi_zd, Nat.not_lt_zero, Nat.reduceEqDiff, Nat.reduceLeDiff, Nat.reduceLT, Nat.reduceAdd, rr_165, ldr_165, kr_165, nr_165, rr_174, ldr_174, kr_174, nr_174, rr_183, ldr_183, kr_183, nr_183, rr_194, ldr_194, kr_194, nr_194, rr_205, ldr_205, kr_205, nr_205, rr_218, ldr_218, kr_218, nr_218, rr_231, ldr_231, kr_231, nr_231, rr_236, ldr_236, kr_236, nr_236, rr_242, ldr_242, kr_242, nr_242, rr_247, ldr_247, kr_247, nr_247, rr_252, ldr_252, kr_252, nr_252, rr_265, ldr_265, kr_265, nr_265, rr_278, ldr_278, kr_278, nr_278, rr_282, ldr_282, kr_282, nr_282, rr_309, ldr_309, kr_309, nr_309, rr_314, ldr_314, kr_314, nr_314, rr_319, ldr_319, kr_319, nr_319, rr_332, ldr_332, kr_332, nr_332, z4, z3, z5]
        rw [h_324_82]
        simp (disch := omega) only [i3_add, i3_mul, i3_sub, i3_m1, i3_lt, i3_le, i3_eq, m1_lt, lt_m1, m1_le, le_m1, i3_nm1, m1_ni3, i3_cl, i3_in, i3_or, i3_and, i3_xor, i3_shl, i3_shr, sh_tb, tb_eq0, gd_tt, aI_o, aV_o, aL_o, aR_o, zd_0, zd_1, if_true, if_false, ite_self, eq_self, Bool.true_eq_false, Bool.false_eq_true, bi_0, bi_1, bi_zd, Nat.not_lt_zero, Nat.reduceEqDiff, Nat.reduceLeDiff, Nat.reduceLT, Nat.reduceAdd, e0]
      · by_cases q : j = i
        · subst q
          refine ⟨e4.trans (h1 _ _ (by omega) (by omega)), ?_⟩
          rw [show o + 26 + 2 * j = o + 25 + 2 * j + 1 by omega]
          exact e5.trans (h1 _ _ (by omega) (by omega))
        · rw [e2 _ (by omega) (by omega), e2 _ (by omega) (by omega)]
          exact h6 j (by omega)
    · rintro g ⟨h1, h2, h3, h4, h5, h6⟩
      refine ⟨g, ?_, h1, fun k hk => h2 k (by omega), h3, h4, h5, h6⟩
      rw [h_324_73]
      simp (disch := omega) only [i3_add, i3_mul, i3_sub, i3_m1, i3_lt, i3_le, i3_eq, m1_lt, lt_m1, m1_le, le_m1, i3_nm1, m1_ni3, i3_cl, i3_in, i3_or, i3_and, i3_xor, i3_shl, i3_shr, sh_tb, tb_eq0, gd_tt, aI_o, aV_o, aL_o, aR_o, zd_0, zd_1, if_true, if_false, ite_self, eq_self, Bool.true_eq_false, Bool.false_eq_true, bi_0, bi_1, bi_zd, Nat.not_lt_zero, Nat.reduceEqDiff, Nat.reduceLeDiff, Nat.reduceLT, Nat.reduceAdd]
theorem s_324l {G : sm_G} (hr : sm_is r 342 20 = true) (hN : sm_N r = N) (ho : o + 41 ≤ N) (hN2 : N < 2000) (hrr : 279 ≤ r) (h40 : G 156 40 = i3 o) :
    ∃ G', sm_cv0 (d + 2) 324 342 (RR V) [.ref 156, .ref r, .int (i3 1)] (x, G, L) = oV x G' L ∧ (∀ a k, ¬ (219 ≤ a ∧ a < 231 ∧ k < 2) → ¬ (175 ≤ a ∧ a < 183 ∧ k < 2) → ¬ (a = 160 ∧ k = 2) → ¬ (a = 156 ∧ k = 40) → G' a k = G a k) ∧ G' 156 40 = i3 (o + 41) ∧ G' 160 2 = G r o ∧ (∀ i, i < 12 → G' (219 + i) 0 = G r (o + 1 + 2 * i) ∧ G' (219 + i) 1 = G r (o + 2 + 2 * i)) ∧ ∀ k, k < 8 → G' (175 + k) 0 = G r (o + 25 + 2 * k) ∧ G' (175 + k) 1 = G r (o + 26 + 2 * k) := by
  have one : ∀ (g : sm_G) (s : Nat) (v : Int32) (x : Nat), s < N → g 156 40 = i3 s → sm_cv0 (d + 1) 325 342 (RR V) [.ref 156, .ref r, .int v, .int (i3 1)] (x, g, L) = oI (g r s) x (sm_up g 156 40 (i3 (s + 1))) L := fun g s v x h1 h2 => s_325l (d := d) hr hN h1 hN2 (by omega) h2
  -- one noise or sleeper
  have row : ∀ (g : sm_G) (s : Nat) (b i : Nat), b + i < 279 → b + i ≠ 156 → ∃ g', g' = sm_up (sm_up (sm_up (sm_up g 156 40 (i3 (s + 1))) (b + i) 0 (g r s)) 156 40 (i3 (s + 1 + 1))) (b + i) 1 (g r (s + 1)) ∧ (∀ a k, ¬ (a = b + i ∧ k < 2) → ¬ (a = 156 ∧ k = 40) → g' a k = g a k) ∧ g' 156 40 = i3 (s + 2) ∧ g' (b + i) 0 = g r s ∧ g' (b + i) 1 = g r (s + 1) := fun g s b i h3 h4 => by
    refine ⟨_, rfl, fun a k q1 q2 => by rw [sm_up_ne (by omega), sm_up_ne (by omega), sm_up_ne (by omega), sm_up_ne (by omega)], by rw [sm_up_ne (by omega), sm_up_same], by rw [sm_up_ne (by omega), sm_up_ne (by omega), sm_up_same], sm_up_same _ _ _ _⟩
  rw [m_324, one G o (G 160 2) x (by omega) h40]
  simp only [aI_o]
  have f0a : ∀ a k, ¬ (a = 160 ∧ k = 2) → ¬ (a = 156 ∧ k = 40) → sm_up (sm_up G 156 40 (i3 (o + 1))) 160 2 (G r o) a k = G a k := fun a k h1 h2 => by rw [sm_up_ne (by omega), sm_up_ne (by omega)]
  have f0b : sm_up (sm_up G 156 40 (i3 (o + 1))) 160 2 (G r o) 160 2 = G r o := sm_up_same _ _ _ _
  have f0c : sm_up (sm_up G 156 40 (i3 (o + 1))) 160 2 (G r o) 156 40 = i3 (o + 1) := by rw [sm_up_ne (by omega), sm_up_same]
  generalize sm_up (sm_up G 156 40 (i3 (o + 1))) 160 2 (G r o) = G0 at f0a f0b f0c ⊢
  refine loopE (H := fun i (g : sm_G) => hD (d + 1) 324 20 [.ref 156, .ref r, .int (i3 1), .int (i3 i), .null] 342 (RR V) x g L) (Q := fun o' => ∃ G', o' = oV x G' L ∧ (∀ a k, ¬ (219 ≤ a ∧ a < 231 ∧ k < 2) → ¬ (175 ≤ a ∧ a < 183 ∧ k < 2) → ¬ (a = 160 ∧ k = 2) → ¬ (a = 156 ∧ k = 40) → G' a k = G a k) ∧ G' 156 40 = i3 (o + 41) ∧ G' 160 2 = G r o ∧ (∀ i, i < 12 → G' (219 + i) 0 = G r (o + 1 + 2 * i) ∧ G' (219 + i) 1 = G r (o + 2 + 2 * i)) ∧ ∀ k, k < 8 → G' (175 + k) 0 = G r (o + 25 + 2 * k) ∧ G' (175 + k) 1 = G r (o + 26 + 2 * k)) (N := 12)
    (fun i g => (∀ a k, ¬ (219 ≤ a ∧ a < 231 ∧ k < 2) → ¬ (a = 160 ∧ k = 2) → ¬ (a = 156 ∧ k = 40) → g a k = G a k) ∧ g 156 40 = i3 (o + 1 + 2 * i) ∧ g 160 2 = G r o ∧ ∀ j, j < i → g (219 + j) 0 = G r (o + 1 + 2 * j) ∧ g (219 + j) 1 = G r (o + 2 + 2 * j)) ?_ ?_ 12 0 G0 (by omega) ⟨fun a k _ h2 h3 => f0a a k h2 h3, f0c, f0b, fun j hj => by omega⟩
  · rintro i g hi ⟨h1, h3, h4, h5⟩
    obtain ⟨g', e0, e1, e3, e4, e5⟩ := row g (o + 1 + 2 * i) 219 i (by omega) (by omega)
    refine ⟨g', ?_, fun a k q1 q2 q3 => (e1 a k (by omega) q3).trans (h1 a k q1 q2 q3), by rw [e3]; congr 1, by rw [e1 _ _ (by omega) (by omega)]; exact h4, fun j hj => ?_⟩
    · rw [h_324_20]
      simp (disch := omega) only [i3_add, i3_mul, i3_sub, i3_m1, i3_lt, i3_le, i3_eq, m1_lt, lt_m1, m1_le, le_m1, i3_nm1, m1_ni3, i3_cl, i3_in, i3_or, i3_and, i3_xor, i3_shl, i3_shr, sh_tb, tb_eq0, gd_tt, aI_o, aV_o, aL_o, aR_o, zd_0, zd_1, if_true, if_false, ite_self, eq_self, Bool.true_eq_false, Bool.false_eq_true, bi_0, bi_1, bi_zd, Nat.not_lt_zero, hi]
      rw [h_324_29]
      have z1 := fun v => one g (o + 1 + 2 * i) v x (by omega) h3
      simp (disch := omega) only [i3_add, i3_mul, i3_sub, i3_m1, i3_lt, i3_le, i3_eq, m1_lt, lt_m1, m1_le, le_m1, i3_nm1, m1_ni3, i3_cl, i3_in, i3_or, i3_and, i3_xor, i3_shl, i3_shr, sh_tb, tb_eq0, gd_tt, aI_o, aV_o, aL_o, aR_o, zd_0, zd_1, if_true, if_false, ite_self, eq_self, Bool.true_eq_false, Bool.false_eq_true, bi_0, bi_1, bi_zd, Nat.not_lt_zero, Nat.reduceEqDiff, Nat.reduceLeDiff, Nat.reduceLT, Nat.reduceAdd, rr_165, ldr_165, kr_165, nr_165, rr_174, ldr_174, kr_174, nr_174, rr_183, ldr_183, kr_183, nr_183, rr_194, ldr_194, kr_194, nr_194, rr_205, ldr_205, kr_205, nr_205, rr_218, ldr_218, kr_218, nr_218, rr_231, ldr_231, kr_231, nr_231, rr_236, ldr_236, kr_236, nr_236, rr_242, ldr_242, kr_242, nr_242, rr_247, ldr_247, kr_247, nr_247, rr_252, ldr_252, kr_252, nr_252, rr_265, ldr_265, kr_265, nr_265, rr_278, ldr_278, kr_278, nr_278, rr_282, ldr_282, kr_282, nr_282, rr_309, ldr_309, kr_309, nr_309, rr_314, ldr_314, kr_314, nr_314, rr_319, ldr_319, kr_319, nr_319, rr_332, ldr_332, kr_332, nr_332, z1]
      rw [h_324_29]
      have z3 := fun v => one (sm_up (sm_up g 156 40 (i3 (o + 1 + 2 * i + 1))) (219 + i) 0 (g r (o + 1 + 2 * i))) (o + 1 + 2 * i + 1) v x (by omega) (by rw [sm_up_ne (by omega), sm_up_same])
      have z4 : sm_up (sm_up g 156 40 (i3 (o + 1 + 2 * i + 1))) (219 + i) 0 (g r (o + 1 + 2 * i)) r (o + 1 + 2 * i + 1) = g r (o + 1 + 2 * i + 1) := by rw [sm_up_ne (by omega), sm_up_ne (by omega)]
      have z6 : sm_up (sm_up (sm_up g 156 40 (i3 (o + 1 + 2 * i + 1))) (219 + i) 0 (g r (o + 1 + 2 * i))) 156 40 (i3 (o + 1 + 2 * i + 1 + 1)) = sm_up (sm_up (sm_up g 156 40 (i3 (o + 1 + 2 * i + 1))) (219 + i) 0 (g r (o + 1 + 2 * i))) 156 40 (i3 (o + 1 + 2 * i + 1 + 1)) := rfl
      simp (disch := omega) only [i3_add, i3_mul, i3_sub, i3_m1, i3_lt, i3_le, i3_eq, m1_lt, lt_m1, m1_le, le_m1, i3_nm1, m1_ni3, i3_cl, i3_in, i3_or, i3_and, i3_xor, i3_shl, i3_shr, sh_tb, tb_eq0, gd_tt, aI_o, aV_o, aL_o, aR_o, zd_0, zd_1, if_true, if_false, ite_self, eq_self, Bool.true_eq_false, Bool.false_eq_true, bi_0, bi_1, bi_zd, Nat.not_lt_zero, Nat.reduceEqDiff, Nat.reduceLeDiff, Nat.reduceLT, Nat.reduceAdd, rr_165, ldr_165, kr_165, nr_165, rr_174, ldr_174, kr_174, nr_174, rr_183, ldr_183, kr_183, nr_183, rr_194, ldr_194, kr_194, nr_194, rr_205, ldr_205, kr_205, nr_205, rr_218, ldr_218, kr_218, nr_218, rr_231, ldr_231, kr_231, nr_231, rr_236, ldr_236, kr_236, nr_236, rr_242, ldr_242, kr_242, nr_242, rr_247, ldr_247, kr_247, nr_247, rr_252, ldr_252, kr_252, nr_252, rr_265, ldr_265, kr_265, nr_265, rr_278, ldr_278, kr_278, nr_278, rr_282, ldr_282, kr_282, nr_282, rr_309, ldr_309, kr_309, nr_309, rr_314, ldr_314, kr_314, nr_314, rr_319, ldr_319, kr_319, nr_319, rr_332, ldr_332, kr_332, nr_332, z3, z4]
      rw [h_324_29]
      simp (disch := omega) only [i3_add, i3_mul, i3_sub, i3_m1, i3_lt, i3_le, i3_eq, m1_lt, lt_m1, m1_le, le_m1, i3_nm1, m1_ni3, i3_cl, i3_in, i3_or, i3_and, i3_xor, i3_shl, i3_shr, sh_tb, tb_eq0, gd_tt, aI_o, aV_o, aL_o, aR_o, zd_0, zd_1, if_true, if_false, ite_self, eq_self, Bool.true_eq_false, Bool.false_eq_true, bi_0, bi_1, bi_zd, Nat.not_lt_zero, Nat.reduceEqDiff, Nat.reduceLeDiff, Nat.reduceLT, Nat.reduceAdd, e0]
    · by_cases q : j = i
      · subst q
        refine ⟨e4.trans (h1 _ _ (by omega) (by omega) (by omega)), ?_⟩
        rw [show o + 2 + 2 * j = o + 1 + 2 * j + 1 by omega]
        exact e5.trans (h1 _ _ (by omega) (by omega) (by omega))
      · rw [e1 _ _ (by omega) (by omega), e1 _ _ (by omega) (by omega)]
        exact h5 j (by omega)
  · rintro g ⟨h1, h3, h4, h5⟩
    rw [h_324_20]
    simp (disch := omega) only [i3_add, i3_mul, i3_sub, i3_m1, i3_lt, i3_le, i3_eq, m1_lt, lt_m1, m1_le, le_m1, i3_nm1, m1_ni3, i3_cl, i3_in, i3_or, i3_and, i3_xor, i3_shl, i3_shr, sh_tb, tb_eq0, gd_tt, aI_o, aV_o, aL_o, aR_o, zd_0, zd_1, if_true, if_false, ite_self, eq_self, Bool.true_eq_false, Bool.false_eq_true, bi_0, bi_1, bi_zd, Nat.not_lt_zero, Nat.reduceEqDiff, Nat.reduceLeDiff, Nat.reduceLT, Nat.reduceAdd]
    refine loopE (H := fun i (g : sm_G) => hD (d + 1) 324 73 [.ref 156, .ref r, .int (i3 1), .int (i3 i), .null] 342 (RR V) x g L) (Q := fun o' => ∃ G', o' = oV x G' L ∧ (∀ a k, ¬ (219 ≤ a ∧ a < 231 ∧ k < 2) → ¬ (175 ≤ a ∧ a < 183 ∧ k < 2) → ¬ (a = 160 ∧ k = 2) → ¬ (a = 156 ∧ k = 40) → G' a k = G a k) ∧ G' 156 40 = i3 (o + 41) ∧ G' 160 2 = G r o ∧ (∀ i, i < 12 → G' (219 + i) 0 = G r (o + 1 + 2 * i) ∧ G' (219 + i) 1 = G r (o + 2 + 2 * i)) ∧ ∀ k, k < 8 → G' (175 + k) 0 = G r (o + 25 + 2 * k) ∧ G' (175 + k) 1 = G r (o + 26 + 2 * k)) (N := 8)
      (fun i g => (∀ a k, ¬ (219 ≤ a ∧ a < 231 ∧ k < 2) → ¬ (175 ≤ a ∧ a < 183 ∧ k < 2) → ¬ (a = 160 ∧ k = 2) → ¬ (a = 156 ∧ k = 40) → g a k = G a k) ∧ g 156 40 = i3 (o + 25 + 2 * i) ∧ g 160 2 = G r o ∧ (∀ j, j < 12 → g (219 + j) 0 = G r (o + 1 + 2 * j) ∧ g (219 + j) 1 = G r (o + 2 + 2 * j)) ∧ ∀ j, j < i → g (175 + j) 0 = G r (o + 25 + 2 * j) ∧ g (175 + j) 1 = G r (o + 26 + 2 * j)) ?_ ?_ 8 0 g (by omega) ⟨fun a k q1 _ q2 q3 => h1 a k q1 q2 q3, h3, h4, h5, fun j hj => by omega⟩
    · rintro i g hi ⟨h1, h3, h4, h5, h6⟩
      obtain ⟨g', e0, e1, e3, e4, e5⟩ := row g (o + 25 + 2 * i) 175 i (by omega) (by omega)
      refine ⟨g', ?_, fun a k q1 q2 q3 q4 => (e1 a k (by omega) q4).trans (h1 a k q1 q2 q3 q4), by rw [e3]; congr 1, by rw [e1 _ _ (by omega) (by omega)]; exact h4, fun j hj => by rw [e1 _ _ (by omega) (by omega), e1 _ _ (by omega) (by omega)]; exact h5 j hj, fun j hj => ?_⟩
      · rw [h_324_73]
        simp (disch := omega) only [i3_add, i3_mul, i3_sub, i3_m1, i3_lt, i3_le, i3_eq, m1_lt, lt_m1, m1_le, le_m1, i3_nm1, m1_ni3, i3_cl, i3_in, i3_or, i3_and, i3_xor, i3_shl, i3_shr, sh_tb, tb_eq0, gd_tt, aI_o, aV_o, aL_o, aR_o, zd_0, zd_1, if_true, if_false, ite_self, eq_self, Bool.true_eq_false, Bool.false_eq_true, bi_0, bi_1, bi_zd, Nat.not_lt_zero, hi]
        rw [h_324_82]
        have z1 := fun v => one g (o + 25 + 2 * i) v x (by omega) h3
        simp (disch := omega) only [i3_add, i3_mul, i3_sub, i3_m1, i3_lt, i3_le, i3_eq, m1_lt, lt_m1, m1_le, le_m1, i3_nm1, m1_ni3, i3_cl, i3_in, i3_or, i3_and, i3_xor, i3_shl, i3_shr, sh_tb, tb_eq0, gd_tt, aI_o, aV_o, aL_o, aR_o, zd_0, zd_1, if_true, if_false, ite_self, eq_self, Bool.true_eq_false, Bool.false_eq_true, bi_0, bi_1, bi_zd, Nat.not_lt_zero, Nat.reduceEqDiff, Nat.reduceLeDiff, Nat.reduceLT, Nat.reduceAdd, rr_165, ldr_165, kr_165, nr_165, rr_174, ldr_174, kr_174, nr_174, rr_183, ldr_183, kr_183, nr_183, rr_194, ldr_194, kr_194, nr_194, rr_205, ldr_205, kr_205, nr_205, rr_218, ldr_218, kr_218, nr_218, rr_231, ldr_231, kr_231, nr_231, rr_236, ldr_236, kr_236, nr_236, rr_242, ldr_242, kr_242, nr_242, rr_247, ldr_247, kr_247, nr_247, rr_252, ldr_252, kr_252, nr_252, rr_265, ldr_265, kr_265, nr_265, rr_278, ldr_278, kr_278, nr_278, rr_282, ldr_282, kr_282, nr_282, rr_309, ldr_309, kr_309, nr_309, rr_314, ldr_314, kr_314, nr_314, rr_319, ldr_319, kr_319, nr_319, rr_332, ldr_332, kr_332, nr_332, z1]
        rw [h_324_82]
        have z3 := fun v => one (sm_up (sm_up g 156 40 (i3 (o + 25 + 2 * i + 1))) (175 + i) 0 (g r (o + 25 + 2 * i))) (o + 25 + 2 * i + 1) v x (by omega) (by rw [sm_up_ne (by omega), sm_up_same])
        have z4 : sm_up (sm_up g 156 40 (i3 (o + 25 + 2 * i + 1))) (175 + i) 0 (g r (o + 25 + 2 * i)) r (o + 25 + 2 * i + 1) = g r (o + 25 + 2 * i + 1) := by rw [sm_up_ne (by omega), sm_up_ne (by omega)]
        simp (disch := omega) only [i3_add, i3_mul, i3_sub, i3_m1, i3_lt, i3_le, i3_eq, m1_lt, lt_m1, m1_le, le_m1, i3_nm1, m1_ni3, i3_cl, i3_in, i3_or, i3_and, i3_xor, i3_shl, i3_shr, sh_tb, tb_eq0, gd_tt, aI_o, aV_o, aL_o, aR_o, zd_0, zd_1, if_true, if_false, ite_self, eq_self, Bool.true_eq_false, Bool.false_eq_true, bi_0, bi_1, bi_zd, Nat.not_lt_zero, Nat.reduceEqDiff, Nat.reduceLeDiff, Nat.reduceLT, Nat.reduceAdd, rr_165, ldr_165, kr_165, nr_165, rr_174, ldr_174, kr_174, nr_174, rr_183, ldr_183, kr_183, nr_183, rr_194, ldr_194, kr_194, nr_194, rr_205, ldr_205, kr_205, nr_205, rr_218, ldr_218, kr_218, nr_218, rr_231, ldr_231, kr_231, nr_231, rr_236, ldr_236, kr_236, nr_236, rr_242, ldr_242, kr_242, nr_242, rr_247, ldr_247, kr_247, nr_247, rr_252, ldr_252, kr_252, nr_252, rr_265, ldr_265, kr_265, nr_265, rr_278, ldr_278, kr_278, nr_278, rr_282, ldr_282, kr_282, nr_282, rr_309, ldr_309, kr_309, nr_309, rr_314, ldr_314, kr_314, nr_314, rr_319, ldr_319, kr_319, nr_319, rr_332, ldr_332, kr_332, nr_332, z3, z4]
        rw [h_324_82]
        simp (disch := omega) only [i3_add, i3_mul, i3_sub, i3_m1, i3_lt, i3_le, i3_eq, m1_lt, lt_m1, m1_le, le_m1, i3_nm1, m1_ni3, i3_cl, i3_in, i3_or, i3_and, i3_xor, i3_shl, i3_shr, sh_tb, tb_eq0, gd_tt, aI_o, aV_o, aL_o, aR_o, zd_0, zd_1, if_true, if_false, ite_self, eq_self, Bool.true_eq_false, Bool.false_eq_true, bi_0, bi_1, bi_zd, Nat.not_lt_zero, Nat.reduceEqDiff, Nat.reduceLeDiff, Nat.reduceLT, Nat.reduceAdd, e0]
      · by_cases q : j = i
        · subst q
          refine ⟨e4.trans (h1 _ _ (by omega) (by omega) (by omega) (by omega)), ?_⟩
          rw [show o + 26 + 2 * j = o + 25 + 2 * j + 1 by omega]
          exact e5.trans (h1 _ _ (by omega) (by omega) (by omega) (by omega))
        · rw [e1 _ _ (by omega) (by omega), e1 _ _ (by omega) (by omega)]
          exact h6 j (by omega)
    · rintro g ⟨h1, h3, h4, h5, h6⟩
      refine ⟨g, ?_, h1, h3, h4, h5, h6⟩
      rw [h_324_73]
      simp (disch := omega) only [i3_add, i3_mul, i3_sub, i3_m1, i3_lt, i3_le, i3_eq, m1_lt, lt_m1, m1_le, le_m1, i3_nm1, m1_ni3, i3_cl, i3_in, i3_or, i3_and, i3_xor, i3_shl, i3_shr, sh_tb, tb_eq0, gd_tt, aI_o, aV_o, aL_o, aR_o, zd_0, zd_1, if_true, if_false, ite_self, eq_self, Bool.true_eq_false, Bool.false_eq_true, bi_0, bi_1, bi_zd, Nat.not_lt_zero, Nat.reduceEqDiff, Nat.reduceLeDiff, Nat.reduceLT, Nat.reduceAdd]
end MOVES
