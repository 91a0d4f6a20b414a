/-! a sleeper's minutes moved -/
theorem slP_a (P : pT) (q a b : Nat) : nn (slP P q a b) = nn P ∧ (∀ j, nm (slP P q a b) j = nm P j ∧ ns (slP P q a b) j = ns P j) ∧ fr (slP P q a b) q = a ∧ un (slP P q a b) q = b ∧ ∀ k, k ≠ q → fr (slP P q a b) k = fr P k ∧ un (slP P q a b) k = un P k := by
  refine ⟨rfl, fun j => ⟨?_, ?_⟩, ?_, ?_, fun k hk => ⟨?_, ?_⟩⟩
  · show (if (1 : Nat) = 3 ∧ j = q then a else if (1 : Nat) = 4 ∧ j = q then b else P 1 j) = P 1 j
    rw [if_neg (by omega), if_neg (by omega)]
  · show (if (2 : Nat) = 3 ∧ j = q then a else if (2 : Nat) = 4 ∧ j = q then b else P 2 j) = P 2 j
    rw [if_neg (by omega), if_neg (by omega)]
  · show (if (3 : Nat) = 3 ∧ q = q then a else if (3 : Nat) = 4 ∧ q = q then b else P 3 q) = a
    rw [if_pos ⟨rfl, rfl⟩]
  · show (if (4 : Nat) = 3 ∧ q = q then a else if (4 : Nat) = 4 ∧ q = q then b else P 4 q) = b
    rw [if_neg (by omega), if_pos ⟨rfl, rfl⟩]
  · show (if (3 : Nat) = 3 ∧ k = q then a else if (3 : Nat) = 4 ∧ k = q then b else P 3 k) = P 3 k
    rw [if_neg (by omega), if_neg (by omega)]
  · show (if (4 : Nat) = 3 ∧ k = q then a else if (4 : Nat) = 4 ∧ k = q then b else P 4 k) = P 4 k
    rw [if_neg (by omega), if_neg (by omega)]
theorem s_111 {d x : Nat} {V : pV} {G : sm_G} {L : sm_L} {p q c : Nat} {a b u0 u1 : Int32} (hp : pP p) (hq : q < 8) (hc : G p 10 = i3 c) (hc20 : c ≤ 20) (h0 : G (p + 3) q = u0) (h1 : G (p + 4) q = u1) : (¬ c < 20 → sm_cv0 (d + 2) 111 342 (RR V) [.ref p, .int (i3 q), .int a, .int b] (x, G, L) = oI (i3 0) x G L) ∧ (c < 20 → ∃ G', sm_cv0 (d + 2) 111 342 (RR V) [.ref p, .int (i3 q), .int a, .int b] (x, G, L) = oI (i3 1) x G' L ∧ (∀ r k, ¬ ((r = p + 3 ∨ r = p + 4) ∧ k = q) → ¬ (p + 5 ≤ r ∧ r ≤ p + 8 ∧ k = c) → ¬ (r = p ∧ k = 10) → G' r k = G r k) ∧ G' p 10 = i3 (c + 1) ∧ G' (p + 3) q = a ∧ G' (p + 4) q = b ∧ G' (p + 5) c = i3 2 ∧ G' (p + 6) c = i3 q ∧ G' (p + 7) c = u0 ∧ G' (p + 8) c = u1) := by
  constructor
  · intro h
    rw [m_111 hp]
    simp (disch := omega) only [i3_add, i3_mul, i3_sub, i3_m1, i3_lt, i3_le, i3_eq, m1_lt, lt_m1, m1_le, le_m1, i3_nm1, m1_ni3, i3_cl, i3_in, i3_or, i3_and, i3_xor, i3_shl, i3_shr, sh_tb, tb_eq0, gd_tt, aI_o, aV_o, aL_o, aR_o, zd_0, zd_1, if_true, if_false, ite_self, eq_self, Bool.true_eq_false, Bool.false_eq_true, bi_0, bi_1, bi_zd, Nat.not_lt_zero, hq, hc, h]
  · intro h2
    have e104 := s_104 (d := d) (x := x) (G := G) (L := L) (V := V) (v1 := i3 2) (v2 := i3 q) (v3 := u0) (v4 := u1) hp hc h2
    have x10 : sm_up (sm_up (sm_up (sm_up (sm_up G (p + 5) c (i3 2)) (p + 6) c (i3 q)) (p + 7) c u0) (p + 8) c u1) p 10 (i3 (c + 1)) p 10 = i3 (c + 1) := sm_up_same _ _ _ _
    have x5 : sm_up (sm_up (sm_up (sm_up (sm_up G (p + 5) c (i3 2)) (p + 6) c (i3 q)) (p + 7) c u0) (p + 8) c u1) p 10 (i3 (c + 1)) (p + 5) c = i3 2 := by rw [sm_up_ne (by omega), sm_up_ne (by omega), sm_up_ne (by omega), sm_up_ne (by omega), sm_up_same]
    have x6 : sm_up (sm_up (sm_up (sm_up (sm_up G (p + 5) c (i3 2)) (p + 6) c (i3 q)) (p + 7) c u0) (p + 8) c u1) p 10 (i3 (c + 1)) (p + 6) c = i3 q := by rw [sm_up_ne (by omega), sm_up_ne (by omega), sm_up_ne (by omega), sm_up_same]
    have x7 : sm_up (sm_up (sm_up (sm_up (sm_up G (p + 5) c (i3 2)) (p + 6) c (i3 q)) (p + 7) c u0) (p + 8) c u1) p 10 (i3 (c + 1)) (p + 7) c = u0 := by rw [sm_up_ne (by omega), sm_up_ne (by omega), sm_up_same]
    have x8 : sm_up (sm_up (sm_up (sm_up (sm_up G (p + 5) c (i3 2)) (p + 6) c (i3 q)) (p + 7) c u0) (p + 8) c u1) p 10 (i3 (c + 1)) (p + 8) c = u1 := by rw [sm_up_ne (by omega), sm_up_same]
    have xf : ∀ r k, ¬ (p + 5 ≤ r ∧ r ≤ p + 8 ∧ k = c) → ¬ (r = p ∧ k = 10) → sm_up (sm_up (sm_up (sm_up (sm_up G (p + 5) c (i3 2)) (p + 6) c (i3 q)) (p + 7) c u0) (p + 8) c u1) p 10 (i3 (c + 1)) r k = G r k := fun r k q1 q2 => by rw [sm_up_ne (by omega), sm_up_ne (by omega), sm_up_ne (by omega), sm_up_ne (by omega), sm_up_ne (by omega)]
    generalize sm_up (sm_up (sm_up (sm_up (sm_up G (p + 5) c (i3 2)) (p + 6) c (i3 q)) (p + 7) c u0) (p + 8) c u1) p 10 (i3 (c + 1)) = G1 at *
    refine ⟨sm_up (sm_up G1 (p + 3) q a) (p + 4) q b, ?_, fun r k q1 q2 q3 => by rw [sm_up_ne (by omega), sm_up_ne (by omega)]; exact xf r k q2 q3, by rw [sm_up_ne (by omega), sm_up_ne (by omega)]; exact x10, by rw [sm_up_ne (by omega), sm_up_same], sm_up_same _ _ _ _, by rw [sm_up_ne (by omega), sm_up_ne (by omega)]; exact x5, by rw [sm_up_ne (by omega), sm_up_ne (by omega)]; exact x6, by rw [sm_up_ne (by omega), sm_up_ne (by omega)]; exact x7, by rw [sm_up_ne (by omega), sm_up_ne (by omega)]; exact x8⟩
    rw [m_111 hp]
    simp (disch := omega) only [i3_add, i3_mul, i3_sub, i3_m1, i3_lt, i3_le, i3_eq, m1_lt, lt_m1, m1_le, le_m1, i3_nm1, m1_ni3, i3_cl, i3_in, i3_or, i3_and, i3_xor, i3_shl, i3_shr, sh_tb, tb_eq0, gd_tt, aI_o, aV_o, aL_o, aR_o, zd_0, zd_1, if_true, if_false, ite_self, eq_self, Bool.true_eq_false, Bool.false_eq_true, bi_0, bi_1, bi_zd, Nat.not_lt_zero, hq, hc, h2, h0, h1, e104]
theorem op_73 {d x : Nat} {V : pV} {G : sm_G} {L : sm_L} {v w u : Int32} (I : Inv V G) : OpI d x V G L 73 [.ref 1, .int v, .int w, .int u] 327 [.ref 156, .int v, .int w, .int u] eN := by
  have I0 := I
  obtain ⟨T, K, c, H, W, hS, hh, hn⟩ := I
  have hB := hS.T.gb
  have hsl := pS_lt (hV1 hS.V)
  have hc2 : sm_cv0 (d + 60) 73 342 (RR V) [.ref 1, .int v, .int w, .int u] (x, G, L) = if ¬ v < i3 0 ∧ v < i3 (sl T) then (if (¬ w < i3 0 ∧ w ≤ i3 300) ∧ (¬ u < i3 0 ∧ u ≤ i3 300) ∧ w ≤ u then hD (d + 59) 73 40 [.ref 1, .int v, .int w, .int u] 342 (RR V) x G L else rfC 2 x G L) else rfC 1 x G L := by
    rw [m_73 hS.V, hS.c.gsl, s_31, aV_if]
    by_cases h1 : ¬ v < i3 0 ∧ v < i3 (sl T)
    · rw [if_pos h1, if_pos h1, s_39]
      simp only [aI_o]
      by_cases h2 : ¬ w < i3 0 ∧ w ≤ i3 300
      · rw [decide_eq_true h2, if_neg (by decide), s_39]
        simp only [aI_o]
        by_cases h3 : ¬ u < i3 0 ∧ u ≤ i3 300
        · rw [decide_eq_true h3, if_neg (by decide)]
          by_cases h4 : w ≤ u
          · rw [if_pos h4, if_pos ⟨h2, h3, h4⟩, e29_1]; rfl
          · rw [if_neg h4, if_neg (fun z => h4 z.2.2), e29_0]; rfl
        · rw [decide_eq_false h3, if_pos (by decide), if_neg (fun z => h3 z.2.1), e29_0]; rfl
      · rw [decide_eq_false h2, if_pos (by decide), if_neg (fun z => h2 z.1), e29_0]; rfl
    · rw [if_neg h1, if_neg h1]
  refine OpI_2 (Y := fun x1 G1 => hD (d + 59) 327 62 [.ref 156, .int v, .int w, .int u] 342 (RR V) x1 (g00 G1) L) I0 hc2 ?_ (by decide) (by decide) ?_
  · intro x1 G1 hs
    have hm := hS.m.sM hS.T hS.P hs
    have b0 := s_219b (d := d + 58) (x := x1) (L := L) (V := V) (G := g00 G1) (a := 2) (k := 2) (by decide) (by decide) (by decide) g00_0
    have o0 := s_219o (d := d + 58) (x := x1) (L := L) (V := V) (G := g00 G1) (v2 := i3 2) (v3 := i3 2) g00_0
    rw [m_327, s_248 hm.gsl (by omega)]
    simp only [aI_o]
    rw [mbad g00_0 (by decide) (by decide) (by decide), h_327_27, s_253]
    simp only [aI_o]
    by_cases h1 : ¬ v < i3 0 ∧ v < i3 (sl T)
    · rw [if_pos h1, if_pos h1]
      by_cases h2 : ¬ w < i3 0 ∧ w ≤ i3 300
      · rw [decide_eq_true h2, if_neg (by decide), s_253]
        simp only [aI_o]
        by_cases h3 : ¬ u < i3 0 ∧ u ≤ i3 300
        · rw [decide_eq_true h3, if_neg (by decide)]
          by_cases h4 : w ≤ u
          · rw [if_neg (Int32.not_lt.mpr h4), if_pos ⟨h2, h3, h4⟩, o0]; rfl
          · rw [if_pos (Int32.not_le.mp h4), if_neg (fun z => h4 z.2.2), b0]; rfl
        · rw [decide_eq_false h3, if_pos (by decide), if_neg (fun z => h3 z.2.1), b0]; rfl
      · rw [decide_eq_false h2, if_pos (by decide), if_neg (fun z => h2 z.1), b0]; rfl
    · rw [if_neg h1, if_neg h1]; rfl
  · intro h1 h2
    obtain ⟨q, rfl, hq⟩ := rng (by omega) h1
    obtain ⟨a, rfl, ha⟩ := rngl (by omega) h2.1
    obtain ⟨b, rfl, hb⟩ := rngl (by omega) h2.2.1
    have hnn := hS.P.gb
    have hc20 := hS.h.1
    have g10 := hS.h.2.1
    have hm0 := hS.m.sM hS.T hS.P (sM_o (G := G))
    have h38 : g00 G 156 38 = i3 c := by rw [g00_ne (by omega)]; exact hS.hm.1
    obtain ⟨y0, y1⟩ := s_111 (d := d + 57) (x := x) (G := G) (L := L) (V := V) (q := q) (a := i3 a) (b := i3 b) (hP1 hS.V) (by omega) g10 hc20 (hS.p.gfr q hq) (hS.p.gun q hq)
    by_cases hok : c < 20
    · obtain ⟨G1, z1, z2, z3, z4, z5, z6, z7, z8, z9⟩ := y1 hok
      have frC : ∀ r k, ¬ ((r = V.1 + 1 + 3 ∨ r = V.1 + 1 + 4) ∧ k = q) → ¬ (V.1 + 1 + 5 ≤ r ∧ r ≤ V.1 + 1 + 8 ∧ k = c) → ¬ (r = V.1 + 1 ∧ k = 10) → ¬ (r = 1 ∧ (k = 17 ∨ k = 18)) → chg G1 r k = G r k := fun r k a1 a2 a3 a4 => by rw [chg_ne a4]; exact z2 r k a1 a2 a3
      have hsM : sM G (chg G1) := fun r k a => frC r k (by omega) (by omega) (by omega) (by omega)
      have hm1 := hS.m.sM hS.T hS.P hsM
      have h381 : g00 (chg G1) 156 38 = i3 c := by rw [g00_ne (by omega), hsM _ _ (by omega)]; exact hS.hm.1
      obtain ⟨g1, q1, q2, q3, q4⟩ := s_323 (d := d + 56) (x := x) (L := L) (V := V) hm1 hS.T hS.P h381 hok
      have frG1 : ∀ r k, 156 ≤ r → r ≠ 283 + c → ¬ (r = 156 ∧ (k = 0 ∨ k = 38 ∨ k = 40)) → g1 r k = G r k := fun r k a1 a2 a3 => by rw [q2 r k a2 (by omega), g00_ne (by omega)]; exact hsM r k a1
      have frGl : ∀ r k, r < 156 → g1 r k = chg G1 r k := fun r k a1 => by rw [q2 r k (by omega) (by omega), g00_ne (by omega)]
      have fr2 : ∀ r k, ¬ (r = 175 + q ∧ k < 2) → sm_up (sm_up g1 (175 + q) 0 (i3 a)) (175 + q) 1 (i3 b) r k = g1 r k := fun r k a1 => by rw [sm_up_ne (by omega), sm_up_ne (by omega)]
      have v0 : sm_up (sm_up g1 (175 + q) 0 (i3 a)) (175 + q) 1 (i3 b) (175 + q) 0 = i3 a := by rw [sm_up_ne (by omega), sm_up_same]
      have v1 : sm_up (sm_up g1 (175 + q) 0 (i3 a)) (175 + q) 1 (i3 b) (175 + q) 1 = i3 b := sm_up_same _ _ _ _
      refine ⟨i3 1, chg G1, sm_up (sm_up g1 (175 + q) 0 (i3 a)) (175 + q) 1 (i3 b), ?_, hsM, ?_, ?_, ?_⟩
      · rw [h_73_40 hS.V, z1]
        simp (disch := omega) only [i3_add, i3_mul, i3_sub, i3_m1, i3_lt, i3_le, i3_eq, m1_lt, lt_m1, m1_le, le_m1, i3_nm1, m1_ni3, i3_cl, i3_in, i3_or, i3_and, i3_xor, i3_shl, i3_shr, sh_tb, tb_eq0, gd_tt, aI_o, aV_o, aL_o, aR_o, zd_0, zd_1, if_true, if_false, ite_self, eq_self, Bool.true_eq_false, Bool.false_eq_true, bi_0, bi_1, bi_zd, Nat.not_lt_zero, Nat.reduceEqDiff, Nat.reduceLeDiff, Nat.reduceLT, s_23]
        rfl
      · rw [h_327_62, h381, q1]
        simp (disch := omega) only [i3_add, i3_mul, i3_sub, i3_m1, i3_lt, i3_le, i3_eq, m1_lt, lt_m1, m1_le, le_m1, i3_nm1, m1_ni3, i3_cl, i3_in, i3_or, i3_and, i3_xor, i3_shl, i3_shr, sh_tb, tb_eq0, gd_tt, aI_o, aV_o, aL_o, aR_o, zd_0, zd_1, if_true, if_false, ite_self, eq_self, Bool.true_eq_false, Bool.false_eq_true, bi_0, bi_1, bi_zd, Nat.not_lt_zero, rr_165, ldr_165, kr_165, nr_165, rr_174, ldr_174, kr_174, nr_174, rr_183, ldr_183, kr_183, nr_183, rr_194, ldr_194, kr_194, nr_194, rr_205, ldr_205, kr_205, nr_205, rr_218, ldr_218, kr_218, nr_218, rr_231, ldr_231, kr_231, nr_231, rr_236, ldr_236, kr_236, nr_236, rr_242, ldr_242, kr_242, nr_242, rr_247, ldr_247, kr_247, nr_247, rr_252, ldr_252, kr_252, nr_252, rr_265, ldr_265, kr_265, nr_265, rr_278, ldr_278, kr_278, nr_278, rr_282, ldr_282, kr_282, nr_282, rr_309, ldr_309, kr_309, nr_309, rr_314, ldr_314, kr_314, nr_314, rr_319, ldr_319, kr_319, nr_319, rr_332, ldr_332, kr_332, nr_332, show ¬ c = 20 by omega]
      · rw [fr2 _ _ (by omega), q2 _ _ (by omega) (by omega)]; exact g00_0
      · generalize sm_up (sm_up g1 (175 + q) 0 (i3 a)) (175 + q) 1 (i3 b) = G2 at *
        have cl : ∀ r k, r < 156 → G2 r k = chg G1 r k := fun r k a => by rw [fr2 _ _ (by omega)]; exact frGl r k a
        have eP : pushH H c (slP (H c) q a b) (c + 1) = slP (H c) q a b := pushH_n
        obtain ⟨p1, p2, p3, p4, p5⟩ := slP_a (H c) q a b
        have hPn : okP T (slP (H c) q a b) := ⟨by rw [p1]; omega, fun i hi => by rw [(p2 i).1, (p2 i).2]; exact hS.P.gnz i (by rw [p1] at hi; exact hi), fun k hk => by
          by_cases z : k = q
          · subst z; rw [p3, p4]; exact ⟨ha, hb⟩
          · rw [(p5 k z).1, (p5 k z).2]; exact hS.P.gsp k hk⟩
        refine Inv_ch (hS.plan (K' := K) (c' := c + 1) (H' := pushH H c (slP (H c) q a b)) (fun r k a1 a2 a3 a4 a5 a6 a7 => ?_) (by rw [eP]; exact hPn) hS.K (by
          rw [eP]
          obtain ⟨b1, b2, b3, b4, b5, b6⟩ := hS.p
          refine ⟨by rw [cl _ _ (by omega), frC _ _ (by omega) (by omega) (by omega) (by omega), p1]; exact b1, by rw [cl _ _ (by omega), frC _ _ (by omega) (by omega) (by omega) (by omega)]; exact b2, fun i hi => ?_, fun i hi => ?_, fun k hk => ?_, fun k hk => ?_⟩
          · rw [cl _ _ (by omega), frC _ _ (by omega) (by omega) (by omega) (by omega), (p2 i).1]; exact b3 i (by rw [p1] at hi; exact hi)
          · rw [cl _ _ (by omega), frC _ _ (by omega) (by omega) (by omega) (by omega), (p2 i).2]; exact b4 i (by rw [p1] at hi; exact hi)
          · by_cases z : k = q
            · subst z; rw [cl _ _ (by omega), chg_ne (by omega), z4, p3]
            · rw [cl _ _ (by omega), frC _ _ (by omega) (by omega) (by omega) (by omega), (p5 k z).1]; exact b5 k hk
          · by_cases z : k = q
            · subst z; rw [cl _ _ (by omega), chg_ne (by omega), z5, p4]
            · rw [cl _ _ (by omega), frC _ _ (by omega) (by omega) (by omega) (by omega), (p5 k z).2]; exact b6 k hk) (by
          rw [eP]
          obtain ⟨b1, b2, b3, b4, b5, b6, b7, b8, b9, b10, b11, b12, b13, b14, b15, b16, b17, b18, b19⟩ := hS.m
          have gm : ∀ r k, 156 ≤ r → r < 279 → ¬ (r = 156 ∧ (k = 0 ∨ k = 38 ∨ k = 40)) → ¬ (r = 175 + q ∧ k < 2) → G2 r k = G r k := fun r k a1 a2 a3 a4 => by rw [fr2 r k a4]; exact frG1 r k a1 (by omega) a3
          refine ⟨?_, ?_, ?_, ?_, ?_, ?_, ?_, fun k hk => ?_, fun k hk => ?_, fun k hk => ?_, fun k hk => ?_, fun k hk => ?_, fun k hk => ?_, fun k hk => ?_, fun k hk => ?_, fun k hk => ?_, fun k hk => ?_, fun k hk => ?_, fun k hk => ?_⟩
          · rw [gm _ _ (by omega) (by omega) (by omega) (by omega)]; exact b1
          · rw [gm _ _ (by omega) (by omega) (by omega) (by omega)]; exact b2
          · rw [gm _ _ (by omega) (by omega) (by omega) (by omega), p1]; exact b3
          · rw [gm _ _ (by omega) (by omega) (by omega) (by omega)]; exact b4
          · rw [gm _ _ (by omega) (by omega) (by omega) (by omega)]; exact b5
          · rw [gm _ _ (by omega) (by omega) (by omega) (by omega)]; exact b6
          · rw [gm _ _ (by omega) (by omega) (by omega) (by omega)]; exact b7
          · rw [gm _ _ (by omega) (by omega) (by omega) (by omega)]; exact b8 k hk
          · rw [gm _ _ (by omega) (by omega) (by omega) (by omega)]; exact b9 k hk
          · by_cases z : k = q
            · subst z; rw [v0, p3]
            · rw [gm _ _ (by omega) (by omega) (by omega) (by omega), (p5 k z).1]; exact b10 k hk
          · by_cases z : k = q
            · subst z; rw [v1, p4]
            · rw [gm _ _ (by omega) (by omega) (by omega) (by omega), (p5 k z).2]; exact b11 k hk
          · rw [gm _ _ (by omega) (by omega) (by omega) (by omega)]; exact b12 k hk
          · rw [gm _ _ (by omega) (by omega) (by omega) (by omega)]; exact b13 k hk
          · rw [gm _ _ (by omega) (by omega) (by omega) (by omega)]; exact b14 k hk
          · rw [gm _ _ (by omega) (by omega) (by omega) (by omega)]; exact b15 k hk
          · rw [gm _ _ (by rw [p1] at hk; omega) (by rw [p1] at hk; omega) (by omega) (by omega), (p2 k).1]; exact b16 k (by rw [p1] at hk; exact hk)
          · rw [gm _ _ (by rw [p1] at hk; omega) (by rw [p1] at hk; omega) (by omega) (by omega), (p2 k).2]; exact b17 k (by rw [p1] at hk; exact hk)
          · rw [gm _ _ (by omega) (by omega) (by omega) (by omega)]; exact b18 k hk
          · rw [gm _ _ (by omega) (by omega) (by omega) (by omega)]; exact b19 k hk) (hS.h.push hok (by rw [cl _ _ (by omega), chg_ne (by omega)]; exact z3) (fun r k a1 a2 a3 => by rw [cl _ _ (by omega), frC _ _ (by omega) (by omega) (by omega) (by omega)]) (Or.inr (Or.inr ⟨q, hq, by rw [cl _ _ (by omega), chg_ne (by omega)]; exact z6, by rw [cl _ _ (by omega), chg_ne (by omega)]; exact z7, by rw [cl _ _ (by omega), chg_ne (by omega)]; exact z8, by rw [cl _ _ (by omega), chg_ne (by omega)]; exact z9, p1, fun j _ => p2 j, fun k _ hk => p5 k hk⟩)) hPn) (hS.hm.push (by rw [fr2 _ _ (by omega)]; exact q3) (fun i k hi => by rw [fr2 _ _ (by omega), frG1 _ _ (by omega) (by omega) (by omega)]) (q4.keep (fun k => fr2 _ _ (by omega))))) (by rw [cl _ _ (by omega)]; exact chg_17) (by rw [cl _ _ (by omega)]; exact chg_18)
        by_cases z : r < 156
        · rw [cl r k z]
          exact frC r k (by omega) (by omega) (by omega) (fun y => a1 (by unfold sc; omega))
        · rw [fr2 r k (by omega)]
          exact frG1 r k (by omega) (by omega) (fun y => (by rcases y with ⟨y1, y2⟩; rcases y2 with y2 | y2 | y2; exact a1 (by unfold sc; omega); omega; exact a1 (by unfold sc; omega)))
    · refine ⟨i3 0, G, g00 G, ?_, sM_o, ?_, g00_0, Inv_g00 hS hh hn⟩
      · rw [h_73_40 hS.V, y0 hok]
        rfl
      · rw [h_327_62, h38]
        simp (disch := omega) only [i3_add, i3_mul, i3_sub, i3_m1, i3_lt, i3_le, i3_eq, m1_lt, lt_m1, m1_le, le_m1, i3_nm1, m1_ni3, i3_cl, i3_in, i3_or, i3_and, i3_xor, i3_shl, i3_shr, sh_tb, tb_eq0, gd_tt, aI_o, aV_o, aL_o, aR_o, zd_0, zd_1, if_true, if_false, ite_self, eq_self, Bool.true_eq_false, Bool.false_eq_true, bi_0, bi_1, bi_zd, Nat.not_lt_zero, show c = 20 by omega]
