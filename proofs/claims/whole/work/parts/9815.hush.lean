/-! a noise hushed -/
theorem huP_a (P : pT) (q : Nat) : nn (huP P q) = nn P - 1 ∧ (∀ j, j < q → nm (huP P q) j = nm P j ∧ ns (huP P q) j = ns P j) ∧ (∀ j, q ≤ j → nm (huP P q) j = nm P (j + 1) ∧ ns (huP P q) j = ns P (j + 1)) ∧ ∀ k, fr (huP P q) k = fr P k ∧ un (huP P q) k = un P k := by
  refine ⟨rfl, fun j hj => ⟨?_, ?_⟩, fun j hj => ⟨?_, ?_⟩, fun k => ⟨?_, ?_⟩⟩
  · show (if (1 : Nat) = 0 ∧ j = 0 then nn P - 1 else if ((1 : Nat) = 1 ∨ (1 : Nat) = 2) ∧ q ≤ j then P 1 (j + 1) else P 1 j) = P 1 j
    rw [if_neg (by omega), if_neg (by omega)]
  · show (if (2 : Nat) = 0 ∧ j = 0 then nn P - 1 else if ((2 : Nat) = 1 ∨ (2 : Nat) = 2) ∧ q ≤ j then P 2 (j + 1) else P 2 j) = P 2 j
    rw [if_neg (by omega), if_neg (by omega)]
  · show (if (1 : Nat) = 0 ∧ j = 0 then nn P - 1 else if ((1 : Nat) = 1 ∨ (1 : Nat) = 2) ∧ q ≤ j then P 1 (j + 1) else P 1 j) = P 1 (j + 1)
    rw [if_neg (by omega), if_pos (by omega)]
  · show (if (2 : Nat) = 0 ∧ j = 0 then nn P - 1 else if ((2 : Nat) = 1 ∨ (2 : Nat) = 2) ∧ q ≤ j then P 2 (j + 1) else P 2 j) = P 2 (j + 1)
    rw [if_neg (by omega), if_pos (by omega)]
  · show (if (3 : Nat) = 0 ∧ k = 0 then nn P - 1 else if ((3 : Nat) = 1 ∨ (3 : Nat) = 2) ∧ q ≤ k then P 3 (k + 1) else P 3 k) = P 3 k
    rw [if_neg (by omega), if_neg (by omega)]
  · show (if (4 : Nat) = 0 ∧ k = 0 then nn P - 1 else if ((4 : Nat) = 1 ∨ (4 : Nat) = 2) ∧ q ≤ k then P 4 (k + 1) else P 4 k) = P 4 k
    rw [if_neg (by omega), if_neg (by omega)]
theorem s_103 {d x : Nat} {V : pV} {G : sm_G} {L : sm_L} {p n c : Nat} {v : Int32} (hp : pP p) (hn : G p 8 = i3 n) (hn12 : n ≤ 12) (hc : G p 10 = i3 c) (hc20 : c ≤ 20) : (¬ ((¬ v < i3 0 ∧ v < i3 n) ∧ c < 20) → sm_cv0 (d + 2) 103 342 (RR V) [.ref p, .int v] (x, G, L) = oI (i3 0) x G L) ∧ (∀ q, v = i3 q → q < n → c < 20 → ∃ G', sm_cv0 (d + 2) 103 342 (RR V) [.ref p, .int v] (x, G, L) = oI (i3 1) x G' L ∧ (∀ r k, r ≠ p + 1 → r ≠ p + 2 → ¬ (p + 5 ≤ r ∧ r ≤ p + 8 ∧ k = c) → ¬ (r = p ∧ (k = 8 ∨ k = 10)) → G' r k = G r k) ∧ G' p 8 = i3 (n - 1) ∧ G' p 10 = i3 (c + 1) ∧ (∀ k, k < q → G' (p + 1) k = G (p + 1) k ∧ G' (p + 2) k = G (p + 2) k) ∧ (∀ k, q ≤ k → k < n - 1 → G' (p + 1) k = G (p + 1) (k + 1) ∧ G' (p + 2) k = G (p + 2) (k + 1)) ∧ G' (p + 5) c = i3 1 ∧ G' (p + 6) c = i3 q ∧ G' (p + 7) c = G (p + 1) q ∧ G' (p + 8) c = G (p + 2) q) := by
  constructor
  · intro h
    rw [m_103 hp, hn, hc]
    by_cases q : v < i3 0
    · rw [if_pos q]
    · rw [if_neg q]
      by_cases q2 : v < i3 n
      · rw [if_pos q2]
        simp (disch := omega) only [i3_add, i3_mul, i3_sub, i3_m1, i3_lt, i3_le, i3_eq, m1_lt, lt_m1, m1_le, le_m1, i3_nm1, m1_ni3, i3_cl, i3_in, i3_or, i3_and, i3_xor, i3_shl, i3_shr, sh_tb, tb_eq0, gd_tt, aI_o, aV_o, aL_o, aR_o, zd_0, zd_1, if_true, if_false, ite_self, eq_self, Bool.true_eq_false, Bool.false_eq_true, bi_0, bi_1, bi_zd, Nat.not_lt_zero, show ¬ c < 20 from fun z => h ⟨⟨q, q2⟩, z⟩]
      · rw [if_neg q2]
  · rintro q rfl h1 h2
    have e104 := s_104 (d := d) (x := x) (G := G) (L := L) (V := V) (v1 := i3 1) (v2 := i3 q) (v3 := G (p + 1) q) (v4 := G (p + 2) q) hp hc h2
    have x8' : sm_up (sm_up (sm_up (sm_up (sm_up G (p + 5) c (i3 1)) (p + 6) c (i3 q)) (p + 7) c (G (p + 1) q)) (p + 8) c (G (p + 2) q)) p 10 (i3 (c + 1)) p 8 = i3 n := by rw [sm_up_ne (by omega), sm_up_ne (by omega), sm_up_ne (by omega), sm_up_ne (by omega), sm_up_ne (by omega)]; exact hn
    have x10 : sm_up (sm_up (sm_up (sm_up (sm_up G (p + 5) c (i3 1)) (p + 6) c (i3 q)) (p + 7) c (G (p + 1) q)) (p + 8) c (G (p + 2) q)) p 10 (i3 (c + 1)) p 10 = i3 (c + 1) := sm_up_same _ _ _ _
    have x5 : sm_up (sm_up (sm_up (sm_up (sm_up G (p + 5) c (i3 1)) (p + 6) c (i3 q)) (p + 7) c (G (p + 1) q)) (p + 8) c (G (p + 2) q)) p 10 (i3 (c + 1)) (p + 5) c = i3 1 := by rw [sm_up_ne (by omega), sm_up_ne (by omega), sm_up_ne (by omega), sm_up_ne (by omega), sm_up_same]
    have x6 : sm_up (sm_up (sm_up (sm_up (sm_up G (p + 5) c (i3 1)) (p + 6) c (i3 q)) (p + 7) c (G (p + 1) q)) (p + 8) c (G (p + 2) q)) p 10 (i3 (c + 1)) (p + 6) c = i3 q := by rw [sm_up_ne (by omega), sm_up_ne (by omega), sm_up_ne (by omega), sm_up_same]
    have x7 : sm_up (sm_up (sm_up (sm_up (sm_up G (p + 5) c (i3 1)) (p + 6) c (i3 q)) (p + 7) c (G (p + 1) q)) (p + 8) c (G (p + 2) q)) p 10 (i3 (c + 1)) (p + 7) c = G (p + 1) q := by rw [sm_up_ne (by omega), sm_up_ne (by omega), sm_up_same]
    have x8 : sm_up (sm_up (sm_up (sm_up (sm_up G (p + 5) c (i3 1)) (p + 6) c (i3 q)) (p + 7) c (G (p + 1) q)) (p + 8) c (G (p + 2) q)) p 10 (i3 (c + 1)) (p + 8) c = G (p + 2) q := by rw [sm_up_ne (by omega), sm_up_same]
    have xf : ∀ r k, ¬ (p + 5 ≤ r ∧ r ≤ p + 8 ∧ k = c) → ¬ (r = p ∧ k = 10) → sm_up (sm_up (sm_up (sm_up (sm_up G (p + 5) c (i3 1)) (p + 6) c (i3 q)) (p + 7) c (G (p + 1) q)) (p + 8) c (G (p + 2) q)) p 10 (i3 (c + 1)) r k = G r k := fun r k q1 q2 => by rw [sm_up_ne (by omega), sm_up_ne (by omega), sm_up_ne (by omega), sm_up_ne (by omega), sm_up_ne (by omega)]
    generalize sm_up (sm_up (sm_up (sm_up (sm_up G (p + 5) c (i3 1)) (p + 6) c (i3 q)) (p + 7) c (G (p + 1) q)) (p + 8) c (G (p + 2) q)) p 10 (i3 (c + 1)) = G1 at *
    obtain ⟨G', f1, f2, f3, f4, f5⟩ := s_105 (d := d) (x := x) (L := L) (V := V) hp x8' hn12 h1
    refine ⟨G', ?_, fun r k q1 q2 q3 q4 => by rw [f2 r k q1 q2 (by omega)]; exact xf r k q3 (by omega), f3, by rw [f2 _ _ (by omega) (by omega) (by omega)]; exact x10, fun k hk => ⟨by rw [(f4 k hk).1]; exact xf _ _ (by omega) (by omega), by rw [(f4 k hk).2]; exact xf _ _ (by omega) (by omega)⟩, fun k a b => ⟨by rw [(f5 k a b).1]; exact xf _ _ (by omega) (by omega), by rw [(f5 k a b).2]; exact xf _ _ (by omega) (by omega)⟩, by rw [f2 _ _ (by omega) (by omega) (by omega)]; exact x5, by rw [f2 _ _ (by omega) (by omega) (by omega)]; exact x6, by rw [f2 _ _ (by omega) (by omega) (by omega)]; exact x7, by rw [f2 _ _ (by omega) (by omega) (by omega)]; exact x8⟩
    rw [m_103 hp, hn, hc]
    simp (disch := omega) only [i3_add, i3_mul, i3_sub, i3_m1, i3_lt, i3_le, i3_eq, m1_lt, lt_m1, m1_le, le_m1, i3_nm1, m1_ni3, i3_cl, i3_in, i3_or, i3_and, i3_xor, i3_shl, i3_shr, sh_tb, tb_eq0, gd_tt, aI_o, aV_o, aL_o, aR_o, zd_0, zd_1, if_true, if_false, ite_self, eq_self, Bool.true_eq_false, Bool.false_eq_true, bi_0, bi_1, bi_zd, Nat.not_lt_zero, h1, h2, e104, f1]
theorem l_326 {d x : Nat} {V : pV} {G : sm_G} {L : sm_L} {n q : Nat} (hn : G 160 2 = i3 n) (hn11 : n ≤ 11) (hq : q ≤ n) : ∃ G', hD d 326 48 [.ref 156, .null, .int (i3 q), .null] 342 (RR V) x G L = oI (i3 n) x G' L ∧ (∀ r k, ¬ (219 ≤ r ∧ r < 231 ∧ k < 2) → G' r k = G r k) ∧ (∀ i, i < q → G' (219 + i) 0 = G (219 + i) 0 ∧ G' (219 + i) 1 = G (219 + i) 1) ∧ ∀ i, q ≤ i → i < n → G' (219 + i) 0 = G (219 + i + 1) 0 ∧ G' (219 + i) 1 = G (219 + i + 1) 1 := by
  refine loopE (H := fun k (g : sm_G) => hD d 326 48 [.ref 156, .null, .int (i3 k), .null] 342 (RR V) x g L) (Q := fun o' => ∃ G', o' = oI (i3 n) x G' L ∧ (∀ r k, ¬ (219 ≤ r ∧ r < 231 ∧ k < 2) → G' r k = G r k) ∧ (∀ i, i < q → G' (219 + i) 0 = G (219 + i) 0 ∧ G' (219 + i) 1 = G (219 + i) 1) ∧ ∀ i, q ≤ i → i < n → G' (219 + i) 0 = G (219 + i + 1) 0 ∧ G' (219 + i) 1 = G (219 + i + 1) 1) (N := n)
    (fun k g => q ≤ k ∧ (∀ r j, ¬ (219 ≤ r ∧ r < 231 ∧ j < 2) → g r j = G r j) ∧ (∀ i j, i < q ∨ k ≤ i → g (219 + i) j = G (219 + i) j) ∧ ∀ i, q ≤ i → i < k → g (219 + i) 0 = G (219 + i + 1) 0 ∧ g (219 + i) 1 = G (219 + i + 1) 1) ?_ ?_ (n - q) q G (by omega) ⟨Nat.le_refl _, fun _ _ _ => rfl, fun _ _ _ => rfl, fun i h1 h2 => by omega⟩
  · rintro k g hk ⟨h0, h1, h2, h3⟩
    have e1 : g 160 2 = i3 n := by rw [h1 _ _ (by omega)]; exact hn
    have e2 : sm_up g (219 + k) 0 (g (219 + (k + 1)) 0) (219 + (k + 1)) 1 = g (219 + (k + 1)) 1 := sm_up_ne (by omega)
    refine ⟨sm_up (sm_up g (219 + k) 0 (g (219 + (k + 1)) 0)) (219 + k) 1 (g (219 + (k + 1)) 1), ?_, by omega, fun r j a => by rw [sm_up_ne (by omega), sm_up_ne (by omega)]; exact h1 r j a, fun i j hi => by rw [sm_up_ne (by omega), sm_up_ne (by omega)]; exact h2 i j (by omega), fun i a b => ?_⟩
    · rw [h_326_48, e1]
      simp (disch := omega) only [i3_add, i3_mul, i3_sub, i3_m1, i3_lt, i3_le, i3_eq, m1_lt, lt_m1, m1_le, le_m1, i3_nm1, m1_ni3, i3_cl, i3_in, i3_or, i3_and, i3_xor, i3_shl, i3_shr, sh_tb, tb_eq0, gd_tt, aI_o, aV_o, aL_o, aR_o, zd_0, zd_1, if_true, if_false, ite_self, eq_self, Bool.true_eq_false, Bool.false_eq_true, bi_0, bi_1, bi_zd, Nat.not_lt_zero, hk]
      rw [h_326_60]
      simp (disch := omega) only [i3_add, i3_mul, i3_sub, i3_m1, i3_lt, i3_le, i3_eq, m1_lt, lt_m1, m1_le, le_m1, i3_nm1, m1_ni3, i3_cl, i3_in, i3_or, i3_and, i3_xor, i3_shl, i3_shr, sh_tb, tb_eq0, gd_tt, aI_o, aV_o, aL_o, aR_o, zd_0, zd_1, if_true, if_false, ite_self, eq_self, Bool.true_eq_false, Bool.false_eq_true, bi_0, bi_1, bi_zd, Nat.not_lt_zero, Nat.reduceEqDiff, Nat.reduceLeDiff, Nat.reduceLT, Nat.reduceAdd, rr_165, ldr_165, kr_165, nr_165, rr_174, ldr_174, kr_174, nr_174, rr_183, ldr_183, kr_183, nr_183, rr_194, ldr_194, kr_194, nr_194, rr_205, ldr_205, kr_205, nr_205, rr_218, ldr_218, kr_218, nr_218, rr_231, ldr_231, kr_231, nr_231, rr_236, ldr_236, kr_236, nr_236, rr_242, ldr_242, kr_242, nr_242, rr_247, ldr_247, kr_247, nr_247, rr_252, ldr_252, kr_252, nr_252, rr_265, ldr_265, kr_265, nr_265, rr_278, ldr_278, kr_278, nr_278, rr_282, ldr_282, kr_282, nr_282, rr_309, ldr_309, kr_309, nr_309, rr_314, ldr_314, kr_314, nr_314, rr_319, ldr_319, kr_319, nr_319, rr_332, ldr_332, kr_332, nr_332]
      rw [h_326_60]
      simp (disch := omega) only [i3_add, i3_mul, i3_sub, i3_m1, i3_lt, i3_le, i3_eq, m1_lt, lt_m1, m1_le, le_m1, i3_nm1, m1_ni3, i3_cl, i3_in, i3_or, i3_and, i3_xor, i3_shl, i3_shr, sh_tb, tb_eq0, gd_tt, aI_o, aV_o, aL_o, aR_o, zd_0, zd_1, if_true, if_false, ite_self, eq_self, Bool.true_eq_false, Bool.false_eq_true, bi_0, bi_1, bi_zd, Nat.not_lt_zero, Nat.reduceEqDiff, Nat.reduceLeDiff, Nat.reduceLT, Nat.reduceAdd, rr_165, ldr_165, kr_165, nr_165, rr_174, ldr_174, kr_174, nr_174, rr_183, ldr_183, kr_183, nr_183, rr_194, ldr_194, kr_194, nr_194, rr_205, ldr_205, kr_205, nr_205, rr_218, ldr_218, kr_218, nr_218, rr_231, ldr_231, kr_231, nr_231, rr_236, ldr_236, kr_236, nr_236, rr_242, ldr_242, kr_242, nr_242, rr_247, ldr_247, kr_247, nr_247, rr_252, ldr_252, kr_252, nr_252, rr_265, ldr_265, kr_265, nr_265, rr_278, ldr_278, kr_278, nr_278, rr_282, ldr_282, kr_282, nr_282, rr_309, ldr_309, kr_309, nr_309, rr_314, ldr_314, kr_314, nr_314, rr_319, ldr_319, kr_319, nr_319, rr_332, ldr_332, kr_332, nr_332, e2]
      rw [h_326_60]
      simp (disch := omega) only [i3_add, i3_mul, i3_sub, i3_m1, i3_lt, i3_le, i3_eq, m1_lt, lt_m1, m1_le, le_m1, i3_nm1, m1_ni3, i3_cl, i3_in, i3_or, i3_and, i3_xor, i3_shl, i3_shr, sh_tb, tb_eq0, gd_tt, aI_o, aV_o, aL_o, aR_o, zd_0, zd_1, if_true, if_false, ite_self, eq_self, Bool.true_eq_false, Bool.false_eq_true, bi_0, bi_1, bi_zd, Nat.not_lt_zero, Nat.reduceEqDiff, Nat.reduceLeDiff, Nat.reduceLT, Nat.reduceAdd]
    · by_cases z : i = k
      · subst z
        rw [sm_up_ne (by omega), sm_up_same, sm_up_same]
        exact ⟨h2 _ _ (by omega), h2 _ _ (by omega)⟩
      · rw [sm_up_ne (by omega), sm_up_ne (by omega), sm_up_ne (by omega), sm_up_ne (by omega)]
        exact h3 i a (by omega)
  · rintro g ⟨h0, h1, h2, h3⟩
    have e1 : g 160 2 = i3 n := by rw [h1 _ _ (by omega)]; exact hn
    refine ⟨g, ?_, h1, fun i hi => ⟨h2 i 0 (Or.inl hi), h2 i 1 (Or.inl hi)⟩, h3⟩
    rw [h_326_48, e1]
    simp (disch := omega) only [i3_add, i3_mul, i3_sub, i3_m1, i3_lt, i3_le, i3_eq, m1_lt, lt_m1, m1_le, le_m1, i3_nm1, m1_ni3, i3_cl, i3_in, i3_or, i3_and, i3_xor, i3_shl, i3_shr, sh_tb, tb_eq0, gd_tt, aI_o, aV_o, aL_o, aR_o, zd_0, zd_1, if_true, if_false, ite_self, eq_self, Bool.true_eq_false, Bool.false_eq_true, bi_0, bi_1, bi_zd, Nat.not_lt_zero, Nat.lt_irrefl]
theorem op_22 {d x : Nat} {V : pV} {G : sm_G} {L : sm_L} {v : Int32} {E : Nat → Nat} (I : Inv V G) : OpI d x V G L 22 [.ref 1, .int v] 326 [.ref 156, .int v] E := by
  obtain ⟨T, K, c, H, W, hS, hh, hn⟩ := I
  have hB := hS.T.gb
  have hsl := pS_lt (hV1 hS.V)
  have hnn := hS.P.gb
  have hc20 := hS.h.1
  have gnn := hS.p.gnn
  have g10 := hS.h.2.1
  have hm0 := hS.m.sM hS.T hS.P (sM_o (G := G))
  have h38 : g00 G 156 38 = i3 c := by rw [g00_ne (by omega)]; exact hS.hm.1
  obtain ⟨y0, y1⟩ := s_103 (d := d + 57) (x := x) (G := G) (L := L) (V := V) (v := v) (hP1 hS.V) gnn hnn g10 hc20
  refine OpI_0 (X := sm_cv0 (d + 60) 22 342 (RR V) [.ref 1, .int v] (x, G, L)) rfl ?_
  have hm326 : ∀ x1 G1, sM G G1 → sm_cv0 (d + 60) 326 342 (RR V) [.ref 156, .int v] (x1, G1, L) = if ¬ v < i3 0 ∧ v < i3 (nn (H c)) then (if c = 20 then oI m1 x1 (g00 G1) L else sm_aV (sm_cv0 (d + 59) 323 342 (RR V) [.ref 156] (x1, g00 G1, L)) (fun x3 G3 L3 => hD (d + 59) 326 48 [.ref 156, .null, .int v, .null] 342 (RR V) x3 (sm_up G3 160 2 ((G3 160 2) - i3 1)) L3) oX) else oI m1 x1 (g00 G1) L := fun x1 G1 hs => by
    have hm := hS.m.sM hS.T hS.P hs
    have h38' : sm_up G1 156 0 (i3 0) 156 38 = i3 c := by rw [sm_up_ne (by omega), hs _ _ (by omega)]; exact hS.hm.1
    have e160 : sm_up G1 156 0 (i3 0) 160 2 = i3 (nn (H c)) := hm.gnn
    rw [m_326, e160, pre_mi (by omega), s_218]
    by_cases q : ¬ v < i3 0 ∧ v < i3 (nn (H c))
    · rw [if_pos q, if_pos ((in_pre (by omega)).mpr q)]
      simp only [aI_o]
      rw [if_neg (by decide), h38']
      by_cases q2 : c = 20
      · rw [if_pos q2, if_pos (by rw [q2])]
      · rw [if_neg q2, if_neg (by rw [i3_eq (by omega) (by omega)]; exact q2)]
    · rw [if_neg q, if_neg (fun z => q ((in_pre (by omega)).mp z))]
      rfl
  by_cases hok : (¬ v < i3 0 ∧ v < i3 (nn (H c))) ∧ c < 20
  · obtain ⟨q, rfl, hq⟩ := rng (by omega) hok.1
    obtain ⟨G1, z1, z2, z3, z4, z5, z6, z7, z8, z9, z10⟩ := y1 q rfl hq hok.2
    have frC : ∀ r k, r ≠ V.1 + 1 + 1 → r ≠ V.1 + 1 + 2 → ¬ (V.1 + 1 + 5 ≤ r ∧ r ≤ V.1 + 1 + 8 ∧ k = c) → ¬ (r = V.1 + 1 ∧ (k = 8 ∨ k = 10)) → ¬ (r = 1 ∧ (k = 17 ∨ k = 18)) → chg G1 r k = G r k := fun r k a1 a2 a3 a4 a5 => by rw [chg_ne a5]; exact z2 r k a1 a2 a3 a4
    have hsM : sM G (chg G1) := fun r k a => frC r k (by omega) (by omega) (by omega) (by omega) (by omega)
    have hm1 := hS.m.sM hS.T hS.P hsM
    have h381 : g00 (chg G1) 156 38 = i3 c := by rw [g00_ne (by omega), hsM _ _ (by omega)]; exact hS.hm.1
    obtain ⟨g1, q1, q2, q3, q4⟩ := s_323 (d := d + 56) (x := x) (L := L) (V := V) hm1 hS.T hS.P h381 hok.2
    have frG1 : ∀ r k, 156 ≤ r → r ≠ 283 + c → ¬ (r = 156 ∧ (k = 0 ∨ k = 38 ∨ k = 40)) → g1 r k = G r k := fun r k a1 a2 a3 => by rw [q2 r k a2 (by omega), g00_ne (by omega)]; exact hsM r k a1
    have frGl : ∀ r k, r < 156 → g1 r k = chg G1 r k := fun r k a1 => by rw [q2 r k (by omega) (by omega), g00_ne (by omega)]
    have n160 : g1 160 2 = i3 (nn (H c)) := by rw [frG1 _ _ (by omega) (by omega) (by omega)]; exact hS.m.gnn
    have e1n : i3 (nn (H c)) - i3 1 = i3 (nn (H c) - 1) := i3_sub (by omega)
    obtain ⟨G2, w1, w2, w3, w4⟩ := l_326 (d := d + 59) (x := x) (L := L) (V := V) (G := sm_up g1 160 2 (i3 (nn (H c) - 1))) (n := nn (H c) - 1) (q := q) (sm_up_same _ _ _ _) (by omega) (by omega)
    have fr2 : ∀ r k, ¬ (219 ≤ r ∧ r < 231 ∧ k < 2) → ¬ (r = 160 ∧ k = 2) → G2 r k = g1 r k := fun r k a1 a2 => by rw [w2 r k a1, sm_up_ne (by omega)]
    refine ⟨i3 (nn (H c) - 1), chg G1, G2, ?_, ?_, ?_, ?_⟩
    · have e8 : chg G1 (V.1 + 1) 8 = i3 (nn (H c) - 1) := by rw [chg_ne (by omega)]; exact z3
      rw [m_22 hS.V, z1]
      simp (disch := omega) only [i3_add, i3_mul, i3_sub, i3_m1, i3_lt, i3_le, i3_eq, m1_lt, lt_m1, m1_le, le_m1, i3_nm1, m1_ni3, i3_cl, i3_in, i3_or, i3_and, i3_xor, i3_shl, i3_shr, sh_tb, tb_eq0, gd_tt, aI_o, aV_o, aL_o, aR_o, zd_0, zd_1, if_true, if_false, ite_self, eq_self, Bool.true_eq_false, Bool.false_eq_true, bi_0, bi_1, bi_zd, Nat.not_lt_zero, Nat.reduceEqDiff, Nat.reduceLeDiff, Nat.reduceLT, s_23]
      show oI (chg G1 (V.1 + 1) 8) x (chg G1) L = _
      rw [e8]
    · rw [hm326 x (chg G1) hsM, if_pos hok.1, if_neg (by omega), q1]
      simp only [aV_o]
      rw [n160, e1n]
      exact w1
    · rw [fr2 _ _ (by omega) (by omega), q2 _ _ (by omega) (by omega)]; exact g00_0
    · have cl : ∀ r k, r < 156 → G2 r k = chg G1 r k := fun r k a => by rw [fr2 _ _ (by omega) (by omega)]; exact frGl r k a
      have eP : pushH H c (huP (H c) q) (c + 1) = huP (H c) q := pushH_n
      obtain ⟨p1, p2, p3, p4⟩ := huP_a (H c) q
      have hPn : okP T (huP (H c) q) := ⟨by rw [p1]; omega, fun i hi => by
        rw [p1] at hi
        by_cases z : i < q
        · rw [(p2 i z).1, (p2 i z).2]; exact hS.P.gnz i (by omega)
        · rw [(p3 i (by omega)).1, (p3 i (by omega)).2]; exact hS.P.gnz _ (by omega), fun k hk => by rw [(p4 k).1, (p4 k).2]; exact hS.P.gsp k hk⟩
      refine Inv_ch (hS.plan (K' := K) (c' := c + 1) (H' := pushH H c (huP (H c) q)) (fun r k a1 a2 a3 a4 a5 a6 a7 => ?_) (by rw [eP]; exact hPn) hS.K (by
        rw [eP]
        obtain ⟨b1, b2, b3, b4, b5, b6⟩ := hS.p
        refine ⟨by rw [cl _ _ (by omega), chg_ne (by omega), p1]; exact z3, by rw [cl _ _ (by omega), frC _ _ (by omega) (by omega) (by omega) (by omega) (by omega)]; exact b2, fun i hi => ?_, fun i hi => ?_, fun k hk => ?_, fun k hk => ?_⟩
        · rw [p1] at hi
          rw [cl _ _ (by omega), chg_ne (by omega)]
          by_cases z : i < q
          · rw [(z5 i z).1, (p2 i z).1]; exact b3 i (by omega)
          · rw [(z6 i (by omega) (by omega)).1, (p3 i (by omega)).1]; exact b3 _ (by omega)
        · rw [p1] at hi
          rw [cl _ _ (by omega), chg_ne (by omega)]
          by_cases z : i < q
          · rw [(z5 i z).2, (p2 i z).2]; exact b4 i (by omega)
          · rw [(z6 i (by omega) (by omega)).2, (p3 i (by omega)).2]; exact b4 _ (by omega)
        · rw [cl _ _ (by omega), frC _ _ (by omega) (by omega) (by omega) (by omega) (by omega), (p4 k).1]; exact b5 k hk
        · rw [cl _ _ (by omega), frC _ _ (by omega) (by omega) (by omega) (by omega) (by omega), (p4 k).2]; exact b6 k hk) (by
        rw [eP]
        obtain ⟨b1, b2, b3, b4, b5, b6, b7, b8, b9, b10, b11, b12, b13, b14, b15, b16, b17, b18, b19⟩ := hS.m
        have gm : ∀ r k, 156 ≤ r → r < 279 → ¬ (r = 156 ∧ (k = 0 ∨ k = 38 ∨ k = 40)) → ¬ (219 ≤ r ∧ r < 231 ∧ k < 2) → ¬ (r = 160 ∧ k = 2) → G2 r k = G r k := fun r k a1 a2 a3 a4 a5 => by rw [fr2 r k a4 a5]; exact frG1 r k a1 (by omega) a3
        have gs : ∀ i j, i < 12 → sm_up g1 160 2 (i3 (nn (H c) - 1)) (219 + i) j = G (219 + i) j := fun i j hi => by rw [sm_up_ne (by omega)]; exact frG1 _ _ (by omega) (by omega) (by omega)
        refine ⟨?_, ?_, ?_, ?_, ?_, ?_, ?_, fun k hk => ?_, fun k hk => ?_, fun k hk => ?_, fun k hk => ?_, fun k hk => ?_, fun k hk => ?_, fun k hk => ?_, fun k hk => ?_, fun k hk => ?_, fun k hk => ?_, fun k hk => ?_, fun k hk => ?_⟩
        · rw [gm _ _ (by omega) (by omega) (by omega) (by omega) (by omega)]; exact b1
        · rw [gm _ _ (by omega) (by omega) (by omega) (by omega) (by omega)]; exact b2
        · rw [w2 _ _ (by omega), sm_up_same, p1]
        · rw [gm _ _ (by omega) (by omega) (by omega) (by omega) (by omega)]; exact b4
        · rw [gm _ _ (by omega) (by omega) (by omega) (by omega) (by omega)]; exact b5
        · rw [gm _ _ (by omega) (by omega) (by omega) (by omega) (by omega)]; exact b6
        · rw [gm _ _ (by omega) (by omega) (by omega) (by omega) (by omega)]; exact b7
        · rw [gm _ _ (by omega) (by omega) (by omega) (by omega) (by omega)]; exact b8 k hk
        · rw [gm _ _ (by omega) (by omega) (by omega) (by omega) (by omega)]; exact b9 k hk
        · rw [gm _ _ (by omega) (by omega) (by omega) (by omega) (by omega), (p4 k).1]; exact b10 k hk
        · rw [gm _ _ (by omega) (by omega) (by omega) (by omega) (by omega), (p4 k).2]; exact b11 k hk
        · rw [gm _ _ (by omega) (by omega) (by omega) (by omega) (by omega)]; exact b12 k hk
        · rw [gm _ _ (by omega) (by omega) (by omega) (by omega) (by omega)]; exact b13 k hk
        · rw [gm _ _ (by omega) (by omega) (by omega) (by omega) (by omega)]; exact b14 k hk
        · rw [gm _ _ (by omega) (by omega) (by omega) (by omega) (by omega)]; exact b15 k hk
        · rw [p1] at hk
          by_cases z : k < q
          · rw [(w3 k z).1, gs _ _ (by omega), (p2 k z).1]; exact b16 k (by omega)
          · rw [(w4 k (by omega) hk).1, show 219 + k + 1 = 219 + (k + 1) by omega, gs _ _ (by omega), (p3 k (by omega)).1]; exact b16 _ (by omega)
        · rw [p1] at hk
          by_cases z : k < q
          · rw [(w3 k z).2, gs _ _ (by omega), (p2 k z).2]; exact b17 k (by omega)
          · rw [(w4 k (by omega) hk).2, show 219 + k + 1 = 219 + (k + 1) by omega, gs _ _ (by omega), (p3 k (by omega)).2]; exact b17 _ (by omega)
        · rw [gm _ _ (by omega) (by omega) (by omega) (by omega) (by omega)]; exact b18 k hk
        · rw [gm _ _ (by omega) (by omega) (by omega) (by omega) (by omega)]; exact b19 k hk) (hS.h.push hok.2 (by rw [cl _ _ (by omega), chg_ne (by omega)]; exact z4) (fun r k a1 a2 a3 => by rw [cl _ _ (by omega), frC _ _ (by omega) (by omega) (by omega) (by omega) (by omega)]) (Or.inr (Or.inl ⟨q, hq, by rw [cl _ _ (by omega), chg_ne (by omega)]; exact z7, by rw [cl _ _ (by omega), chg_ne (by omega)]; exact z8, by rw [cl _ _ (by omega), chg_ne (by omega), z9]; exact hS.p.gnm q hq, by rw [cl _ _ (by omega), chg_ne (by omega), z10]; exact hS.p.gns q hq, by rw [p1]; omega, p2, fun j a _ => p3 j a, fun k _ => p4 k⟩)) hPn) (hS.hm.push (by rw [fr2 _ _ (by omega) (by omega)]; exact q3) (fun i k hi => by rw [fr2 _ _ (by omega) (by omega), frG1 _ _ (by omega) (by omega) (by omega)]) (q4.keep (fun k => fr2 _ _ (by omega) (by omega))))) (by rw [cl _ _ (by omega)]; exact chg_17) (by rw [cl _ _ (by omega)]; exact chg_18)
      by_cases z : r < 156
      · rw [cl r k z]
        exact frC r k (by omega) (by omega) (by omega) (by omega) (fun y => a1 (by unfold sc; omega))
      · rw [fr2 r k (by omega) (by omega)]
        exact frG1 r k (by omega) (by omega) (fun y => (by rcases y with ⟨y1, y2⟩; rcases y2 with y2 | y2 | y2; exact a1 (by unfold sc; omega); omega; exact a1 (by unfold sc; omega)))
  · refine ⟨m1, G, g00 G, ?_, ?_, g00_0, Inv_g00 hS hh hn⟩
    · rw [m_22 hS.V, y0 hok]
      rfl
    · rw [hm326 x G sM_o]
      by_cases q : ¬ v < i3 0 ∧ v < i3 (nn (H c))
      · rw [if_pos q, if_pos (by have : ¬ c < 20 := fun z => hok ⟨q, z⟩; omega)]
      · rw [if_neg q]
