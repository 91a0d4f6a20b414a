/-! a noise made -/
theorem s_110 {d x : Nat} {V : pV} {G : sm_G} {L : sm_L} {p n c : Nat} {a b : Int32} (hp : pP p) (hn : G p 8 = i3 n) (hn12 : n ≤ 12) (hc : G p 10 = i3 c) (hc20 : c ≤ 20) : (¬ (n < 12 ∧ c < 20) → sm_cv0 (d + 2) 110 342 (RR V) [.ref p, .int a, .int b] (x, G, L) = oI (i3 0) x G L) ∧ (n < 12 → c < 20 → ∃ G', sm_cv0 (d + 2) 110 342 (RR V) [.ref p, .int a, .int b] (x, G, L) = oI (i3 1) x G' L ∧ (∀ r k, r ≠ p + 1 → r ≠ p + 2 → ¬ (p + 5 ≤ r ∧ r ≤ p + 8 ∧ k = c) → ¬ (r = p ∧ (k = 8 ∨ k = 10)) → G' r k = G r k) ∧ G' p 8 = i3 (n + 1) ∧ G' p 10 = i3 (c + 1) ∧ (∀ k, k < n → G' (p + 1) k = G (p + 1) k ∧ G' (p + 2) k = G (p + 2) k) ∧ G' (p + 1) n = a ∧ G' (p + 2) n = b ∧ G' (p + 5) c = i3 0 ∧ G' (p + 6) c = i3 n) := by
  constructor
  · intro h
    rw [m_110 hp, hn]
    by_cases q : n < 12
    · simp (disch := omega) only [i3_add, i3_mul, i3_sub, i3_m1, i3_lt, i3_le, i3_eq, m1_lt, lt_m1, m1_le, le_m1, i3_nm1, m1_ni3, i3_cl, i3_in, i3_or, i3_and, i3_xor, i3_shl, i3_shr, sh_tb, tb_eq0, gd_tt, aI_o, aV_o, aL_o, aR_o, zd_0, zd_1, if_true, if_false, ite_self, eq_self, Bool.true_eq_false, Bool.false_eq_true, bi_0, bi_1, bi_zd, Nat.not_lt_zero, q, hc, show ¬ c < 20 by omega]
    · simp (disch := omega) only [i3_add, i3_mul, i3_sub, i3_m1, i3_lt, i3_le, i3_eq, m1_lt, lt_m1, m1_le, le_m1, i3_nm1, m1_ni3, i3_cl, i3_in, i3_or, i3_and, i3_xor, i3_shl, i3_shr, sh_tb, tb_eq0, gd_tt, aI_o, aV_o, aL_o, aR_o, zd_0, zd_1, if_true, if_false, ite_self, eq_self, Bool.true_eq_false, Bool.false_eq_true, bi_0, bi_1, bi_zd, Nat.not_lt_zero, q]
  · intro h1 h2
    have e104 := s_104 (d := d) (x := x) (L := L) (V := V) (v1 := i3 0) (v2 := i3 n) (v3 := a) (v4 := b) hp hc h2
    have x8 : sm_up (sm_up (sm_up (sm_up (sm_up G (p + 5) c (i3 0)) (p + 6) c (i3 n)) (p + 7) c a) (p + 8) c b) p 10 (i3 (c + 1)) p 8 = i3 n := by rw [sm_up_ne (by omega), sm_up_ne (by omega), sm_up_ne (by omega), sm_up_ne (by omega), sm_up_ne (by omega)]; exact hn
    have x10 : sm_up (sm_up (sm_up (sm_up (sm_up G (p + 5) c (i3 0)) (p + 6) c (i3 n)) (p + 7) c a) (p + 8) c b) p 10 (i3 (c + 1)) p 10 = i3 (c + 1) := sm_up_same _ _ _ _
    have x5 : sm_up (sm_up (sm_up (sm_up (sm_up G (p + 5) c (i3 0)) (p + 6) c (i3 n)) (p + 7) c a) (p + 8) c b) p 10 (i3 (c + 1)) (p + 5) c = i3 0 := by rw [sm_up_ne (by omega), sm_up_ne (by omega), sm_up_ne (by omega), sm_up_ne (by omega), sm_up_same]
    have x6 : sm_up (sm_up (sm_up (sm_up (sm_up G (p + 5) c (i3 0)) (p + 6) c (i3 n)) (p + 7) c a) (p + 8) c b) p 10 (i3 (c + 1)) (p + 6) c = i3 n := by rw [sm_up_ne (by omega), sm_up_ne (by omega), sm_up_ne (by omega), sm_up_same]
    have xf : ∀ r k, ¬ (p + 5 ≤ r ∧ r ≤ p + 8 ∧ k = c) → ¬ (r = p ∧ k = 10) → sm_up (sm_up (sm_up (sm_up (sm_up G (p + 5) c (i3 0)) (p + 6) c (i3 n)) (p + 7) c a) (p + 8) c b) p 10 (i3 (c + 1)) r k = G r k := fun r k q1 q2 => by rw [sm_up_ne (by omega), sm_up_ne (by omega), sm_up_ne (by omega), sm_up_ne (by omega), sm_up_ne (by omega)]
    generalize sm_up (sm_up (sm_up (sm_up (sm_up G (p + 5) c (i3 0)) (p + 6) c (i3 n)) (p + 7) c a) (p + 8) c b) p 10 (i3 (c + 1)) = G1 at *
    obtain ⟨G', f1, f2, f3, f4, f5, f6, _⟩ := s_107 (d := d) (x := x) (L := L) (V := V) (a := a) (b := b) hp x8 h1 (Nat.le_refl n)
    refine ⟨G', ?_, fun r k q1 q2 q3 q4 => by rw [f2 r k q1 q2 (by omega)]; exact xf r k q3 (by omega), f3, by rw [f2 _ _ (by omega) (by omega) (by omega)]; exact x10, fun k hk => ⟨by rw [(f4 k hk).1]; exact xf _ _ (by omega) (by omega), by rw [(f4 k hk).2]; exact xf _ _ (by omega) (by omega)⟩, f5, f6, by rw [f2 _ _ (by omega) (by omega) (by omega)]; exact x5, by rw [f2 _ _ (by omega) (by omega) (by omega)]; exact x6⟩
    rw [m_110 hp, hn, hc]
    simp (disch := omega) only [i3_add, i3_mul, i3_sub, i3_m1, i3_lt, i3_le, i3_eq, m1_lt, lt_m1, m1_le, le_m1, i3_nm1, m1_ni3, i3_cl, i3_in, i3_or, i3_and, i3_xor, i3_shl, i3_shr, sh_tb, tb_eq0, gd_tt, aI_o, aV_o, aL_o, aR_o, zd_0, zd_1, if_true, if_false, ite_self, eq_self, Bool.true_eq_false, Bool.false_eq_true, bi_0, bi_1, bi_zd, Nat.not_lt_zero, h1, h2, e104, x8, f1]
theorem op_72 {d x : Nat} {V : pV} {G : sm_G} {L : sm_L} {v w : Int32} (I : Inv V G) : OpI d x V G L 72 [.ref 1, .int v, .int w] 322 [.ref 156, .int v, .int w] eA := by
  have I0 := I
  obtain ⟨T, K, c, H, W, hS, hh, hn⟩ := I
  have hB := hS.T.gb
  have hsl := pS_lt (hV1 hS.V)
  have hc2 : sm_cv0 (d + 60) 72 342 (RR V) [.ref 1, .int v, .int w] (x, G, L) = if (¬ v < i3 0 ∧ v ≤ i3 300) ∧ (¬ w < i3 0 ∧ w < i3 6) then hD (d + 59) 72 26 [.ref 1, .int v, .int w] 342 (RR V) x G L else rfC 2 x G L := by
    rw [m_72, s_39]
    simp only [aI_o]
    by_cases h1 : ¬ v < i3 0 ∧ v ≤ i3 300
    · rw [decide_eq_true h1, if_neg (by decide)]
      by_cases h2 : w < i3 0
      · rw [if_pos h2, if_neg (fun z => z.2.1 h2), e29_0]; rfl
      · rw [if_neg h2]
        by_cases h3 : w < i3 6
        · rw [if_pos h3, if_pos ⟨h1, h2, h3⟩, e29_1]; rfl
        · rw [if_neg h3, if_neg (fun z => h3 z.2.2), e29_0]; rfl
    · rw [decide_eq_false h1, if_pos (by decide), if_neg (fun z => h1 z.1), e29_0]; rfl
  have e56 : (¬ w < i3 0 ∧ w < i3 6) ↔ (¬ w < i3 0 ∧ w ≤ i3 5) := by
    rcases neg_or w with hw | ⟨k, rfl, hk⟩
    · exact ⟨fun z => absurd hw z.1, fun z => absurd hw z.1⟩
    · simp (disch := omega) only [i3_add, i3_mul, i3_sub, i3_m1, i3_lt, i3_le, i3_eq, m1_lt, lt_m1, m1_le, le_m1, i3_nm1, m1_ni3, i3_cl, i3_in, i3_or, i3_and, i3_xor, i3_shl, i3_shr, sh_tb, tb_eq0, gd_tt, aI_o, aV_o, aL_o, aR_o, zd_0, zd_1, if_true, if_false, ite_self, eq_self, Bool.true_eq_false, Bool.false_eq_true, bi_0, bi_1, bi_zd, Nat.not_lt_zero, not_false_iff, true_and]
      omega
  refine OpI_1 (Y := fun x1 G1 => hD (d + 59) 322 37 [.ref 156, .int v, .int w] 342 (RR V) x1 (g00 G1) L) I0 hc2 ?_ (by decide) ?_
  · intro x1 G1 hs
    have hm := hS.m.sM hS.T hS.P hs
    have b0 := s_219b (d := d + 58) (x := x1) (L := L) (V := V) (G := g00 G1) (a := 1) (k := 2) (by decide) (by decide) (by decide) g00_0
    have o0 := s_219o (d := d + 58) (x := x1) (L := L) (V := V) (G := g00 G1) (v2 := i3 1) (v3 := i3 2) g00_0
    rw [m_322, s_253]
    simp only [aI_o]
    by_cases h2 : ¬ v < i3 0 ∧ v ≤ i3 300
    · rw [decide_eq_true h2, if_neg (by decide), s_218c]
      simp only [aI_o]
      by_cases h3 : ¬ w < i3 0 ∧ w ≤ i3 5
      · rw [decide_eq_true h3, if_neg (by decide), if_pos ⟨h2, e56.mpr h3⟩, o0]; rfl
      · rw [decide_eq_false h3, if_pos (by decide), if_neg (fun z => h3 (e56.mp z.2)), b0]; rfl
    · rw [decide_eq_false h2, if_pos (by decide), if_neg (fun z => h2 z.1), b0]; rfl
  · intro h1
    obtain ⟨m, rfl, hm⟩ := rngl (by omega) h1.1
    obtain ⟨s, rfl, hs⟩ := rng (by omega) h1.2
    have hnn := hS.P.gb
    have hc20 := hS.h.1
    have gnn := hS.p.gnn
    have g10 := hS.h.2.1
    have hm0 := hS.m.sM hS.T hS.P (sM_o (G := G))
    have h38 : g00 G 156 38 = i3 c := by rw [g00_ne (by omega)]; exact hS.hm.1
    obtain ⟨y0, y1⟩ := s_110 (d := d + 57) (x := x) (G := G) (L := L) (V := V) (a := i3 m) (b := i3 s) (hP1 hS.V) gnn hnn g10 hc20
    by_cases hok : nn (H c) < 12 ∧ c < 20
    · obtain ⟨G1, z1, z2, z3, z4, z5, z6, z7, z8, z9⟩ := y1 hok.1 hok.2
      have frC : ∀ r k, r ≠ V.1 + 1 + 1 → r ≠ V.1 + 1 + 2 → ¬ (V.1 + 1 + 5 ≤ r ∧ r ≤ V.1 + 1 + 8 ∧ k = c) → ¬ (r = V.1 + 1 ∧ (k = 8 ∨ k = 10)) → ¬ (r = 1 ∧ (k = 17 ∨ k = 18)) → chg G1 r k = G r k := fun r k a1 a2 a3 a4 a5 => by rw [chg_ne a5]; exact z2 r k a1 a2 a3 a4
      have hsM : sM G (chg G1) := fun r k a => frC r k (by omega) (by omega) (by omega) (by omega) (by omega)
      have hm1 := hS.m.sM hS.T hS.P hsM
      have h381 : g00 (chg G1) 156 38 = i3 c := by rw [g00_ne (by omega), hsM _ _ (by omega)]; exact hS.hm.1
      obtain ⟨g1, q1, q2, q3, q4⟩ := s_323 (d := d + 56) (x := x) (L := L) (V := V) hm1 hS.T hS.P h381 hok.2
      have frG1 : ∀ r k, 156 ≤ r → r ≠ 283 + c → ¬ (r = 156 ∧ (k = 0 ∨ k = 38 ∨ k = 40)) → g1 r k = G r k := fun r k a1 a2 a3 => by rw [q2 r k a2 (by omega), g00_ne (by omega)]; exact hsM r k a1
      have frGl : ∀ r k, r < 156 → g1 r k = chg G1 r k := fun r k a1 => by rw [q2 r k (by omega) (by omega), g00_ne (by omega)]
      have n160 : g1 160 2 = i3 (nn (H c)) := by rw [frG1 _ _ (by omega) (by omega) (by omega)]; exact hS.m.gnn
      have fr2 : ∀ r k, ¬ (r = 219 + nn (H c) ∧ k < 2) → ¬ (r = 160 ∧ k = 2) → sm_up (sm_up (sm_up g1 (219 + nn (H c)) 0 (i3 m)) (219 + nn (H c)) 1 (i3 s)) 160 2 (i3 (nn (H c) + 1)) r k = g1 r k := fun r k a1 a2 => by rw [sm_up_ne (by omega), sm_up_ne (by omega), sm_up_ne (by omega)]
      have v0 : sm_up (sm_up (sm_up g1 (219 + nn (H c)) 0 (i3 m)) (219 + nn (H c)) 1 (i3 s)) 160 2 (i3 (nn (H c) + 1)) (219 + nn (H c)) 0 = i3 m := by rw [sm_up_ne (by omega), sm_up_ne (by omega), sm_up_same]
      have v1 : sm_up (sm_up (sm_up g1 (219 + nn (H c)) 0 (i3 m)) (219 + nn (H c)) 1 (i3 s)) 160 2 (i3 (nn (H c) + 1)) (219 + nn (H c)) 1 = i3 s := by rw [sm_up_ne (by omega), sm_up_same]
      have v2 : sm_up (sm_up (sm_up g1 (219 + nn (H c)) 0 (i3 m)) (219 + nn (H c)) 1 (i3 s)) 160 2 (i3 (nn (H c) + 1)) 160 2 = i3 (nn (H c) + 1) := sm_up_same _ _ _ _
      have x1 : sm_up g1 (219 + nn (H c)) 0 (i3 m) 160 2 = i3 (nn (H c)) := by rw [sm_up_ne (by omega)]; exact n160
      have x2 : sm_up (sm_up g1 (219 + nn (H c)) 0 (i3 m)) (219 + nn (H c)) 1 (i3 s) 160 2 = i3 (nn (H c)) := by rw [sm_up_ne (by omega)]; exact x1
      refine ⟨i3 (nn (H c) + 1), chg G1, sm_up (sm_up (sm_up g1 (219 + nn (H c)) 0 (i3 m)) (219 + nn (H c)) 1 (i3 s)) 160 2 (i3 (nn (H c) + 1)), ?_, hsM, ?_, ?_, ?_⟩
      · have e8 : chg G1 (V.1 + 1) 8 = i3 (nn (H c) + 1) := by rw [chg_ne (by omega)]; exact z3
        rw [h_72_26 hS.V, z1]
        simp (disch := omega) only [i3_add, i3_mul, i3_sub, i3_m1, i3_lt, i3_le, i3_eq, m1_lt, lt_m1, m1_le, le_m1, i3_nm1, m1_ni3, i3_cl, i3_in, i3_or, i3_and, i3_xor, i3_shl, i3_shr, sh_tb, tb_eq0, gd_tt, aI_o, aV_o, aL_o, aR_o, zd_0, zd_1, if_true, if_false, ite_self, eq_self, Bool.true_eq_false, Bool.false_eq_true, bi_0, bi_1, bi_zd, Nat.not_lt_zero, Nat.reduceEqDiff, Nat.reduceLeDiff, Nat.reduceLT, s_23]
        show oI (chg G1 (V.1 + 1) 8) x (chg G1) L = _
        rw [e8]
      · rw [h_322_37, hm1.gnn, h381, q1]
        simp (disch := omega) only [i3_add, i3_mul, i3_sub, i3_m1, i3_lt, i3_le, i3_eq, m1_lt, lt_m1, m1_le, le_m1, i3_nm1, m1_ni3, i3_cl, i3_in, i3_or, i3_and, i3_xor, i3_shl, i3_shr, sh_tb, tb_eq0, gd_tt, aI_o, aV_o, aL_o, aR_o, zd_0, zd_1, if_true, if_false, ite_self, eq_self, Bool.true_eq_false, Bool.false_eq_true, bi_0, bi_1, bi_zd, Nat.not_lt_zero, rr_165, ldr_165, kr_165, nr_165, rr_174, ldr_174, kr_174, nr_174, rr_183, ldr_183, kr_183, nr_183, rr_194, ldr_194, kr_194, nr_194, rr_205, ldr_205, kr_205, nr_205, rr_218, ldr_218, kr_218, nr_218, rr_231, ldr_231, kr_231, nr_231, rr_236, ldr_236, kr_236, nr_236, rr_242, ldr_242, kr_242, nr_242, rr_247, ldr_247, kr_247, nr_247, rr_252, ldr_252, kr_252, nr_252, rr_265, ldr_265, kr_265, nr_265, rr_278, ldr_278, kr_278, nr_278, rr_282, ldr_282, kr_282, nr_282, rr_309, ldr_309, kr_309, nr_309, rr_314, ldr_314, kr_314, nr_314, rr_319, ldr_319, kr_319, nr_319, rr_332, ldr_332, kr_332, nr_332, show ¬ nn (H c) = 12 by omega, show ¬ c = 20 by omega, n160, x1, x2, v2]
      · rw [fr2 _ _ (by omega) (by omega), q2 _ _ (by omega) (by omega)]; exact g00_0
      · generalize sm_up (sm_up (sm_up g1 (219 + nn (H c)) 0 (i3 m)) (219 + nn (H c)) 1 (i3 s)) 160 2 (i3 (nn (H c) + 1)) = G2 at *
        have cl : ∀ r k, r < 156 → G2 r k = chg G1 r k := fun r k a => by rw [fr2 _ _ (by omega) (by omega)]; exact frGl r k a
        have eP : pushH H c (mkP (H c) m s) (c + 1) = mkP (H c) m s := pushH_n
        have p1 : nn (mkP (H c) m s) = nn (H c) + 1 := rfl
        have p2 : ∀ j, j < nn (H c) → nm (mkP (H c) m s) j = nm (H c) j ∧ ns (mkP (H c) m s) j = ns (H c) j := fun j hj => by
          constructor
          · show (if (1 : Nat) = 0 ∧ j = 0 then nn (H c) + 1 else if (1 : Nat) = 1 ∧ j = nn (H c) then m else if (1 : Nat) = 2 ∧ j = nn (H c) then s else H c 1 j) = H c 1 j
            rw [if_neg (by omega), if_neg (by omega), if_neg (by omega)]
          · show (if (2 : Nat) = 0 ∧ j = 0 then nn (H c) + 1 else if (2 : Nat) = 1 ∧ j = nn (H c) then m else if (2 : Nat) = 2 ∧ j = nn (H c) then s else H c 2 j) = H c 2 j
            rw [if_neg (by omega), if_neg (by omega), if_neg (by omega)]
        have p3 : nm (mkP (H c) m s) (nn (H c)) = m ∧ ns (mkP (H c) m s) (nn (H c)) = s := by
          constructor
          · show (if (1 : Nat) = 0 ∧ nn (H c) = 0 then nn (H c) + 1 else if (1 : Nat) = 1 ∧ nn (H c) = nn (H c) then m else if (1 : Nat) = 2 ∧ nn (H c) = nn (H c) then s else H c 1 (nn (H c))) = m
            rw [if_neg (by omega), if_pos ⟨rfl, rfl⟩]
          · show (if (2 : Nat) = 0 ∧ nn (H c) = 0 then nn (H c) + 1 else if (2 : Nat) = 1 ∧ nn (H c) = nn (H c) then m else if (2 : Nat) = 2 ∧ nn (H c) = nn (H c) then s else H c 2 (nn (H c))) = s
            rw [if_neg (by omega), if_neg (by omega), if_pos ⟨rfl, rfl⟩]
        have p4 : ∀ k, fr (mkP (H c) m s) k = fr (H c) k ∧ un (mkP (H c) m s) k = un (H c) k := fun k => by
          constructor
          · show (if (3 : Nat) = 0 ∧ k = 0 then nn (H c) + 1 else if (3 : Nat) = 1 ∧ k = nn (H c) then m else if (3 : Nat) = 2 ∧ k = nn (H c) then s else H c 3 k) = H c 3 k
            rw [if_neg (by omega), if_neg (by omega), if_neg (by omega)]
          · show (if (4 : Nat) = 0 ∧ k = 0 then nn (H c) + 1 else if (4 : Nat) = 1 ∧ k = nn (H c) then m else if (4 : Nat) = 2 ∧ k = nn (H c) then s else H c 4 k) = H c 4 k
            rw [if_neg (by omega), if_neg (by omega), if_neg (by omega)]
        have hPn : okP T (mkP (H c) m s) := ⟨by rw [p1]; omega, fun i hi => by
          by_cases z : i = nn (H c)
          · subst z; rw [p3.1, p3.2]; exact ⟨hm, hs⟩
          · rw [(p2 i (by omega)).1, (p2 i (by omega)).2]; exact hS.P.gnz i (by omega), fun k hk => by rw [(p4 k).1, (p4 k).2]; exact hS.P.gsp k hk⟩
        refine Inv_ch (hS.plan (K' := K) (c' := c + 1) (H' := pushH H c (mkP (H c) m s)) (fun r k a1 a2 a3 a4 a5 a6 a7 => ?_) (by rw [eP]; exact hPn) hS.K (by
          rw [eP]
          obtain ⟨b1, b2, b3, b4, b5, b6⟩ := hS.p
          refine ⟨by rw [cl _ _ (by omega), chg_ne (by omega)]; exact z3, by rw [cl _ _ (by omega), frC _ _ (by omega) (by omega) (by omega) (by omega) (by omega)]; exact b2, fun i hi => ?_, fun i hi => ?_, fun k hk => ?_, fun k hk => ?_⟩
          · rw [cl _ _ (by omega), chg_ne (by omega)]
            by_cases z : i = nn (H c)
            · subst z; rw [z6, p3.1]
            · rw [(z5 i (by omega)).1, (p2 i (by omega)).1]; exact b3 i (by omega)
          · rw [cl _ _ (by omega), chg_ne (by omega)]
            by_cases z : i = nn (H c)
            · subst z; rw [z7, p3.2]
            · rw [(z5 i (by omega)).2, (p2 i (by omega)).2]; exact b4 i (by omega)
          · rw [cl _ _ (by omega), frC _ _ (by omega) (by omega) (by omega) (by omega) (by omega), (p4 k).1]; exact b5 k hk
          · rw [cl _ _ (by omega), frC _ _ (by omega) (by omega) (by omega) (by omega) (by omega), (p4 k).2]; exact b6 k hk) (by
          rw [eP]
          obtain ⟨b1, b2, b3, b4, b5, b6, b7, b8, b9, b10, b11, b12, b13, b14, b15, b16, b17, b18, b19⟩ := hS.m
          have gm : ∀ r k, 156 ≤ r → r < 279 → ¬ (r = 156 ∧ (k = 0 ∨ k = 38 ∨ k = 40)) → ¬ (r = 219 + nn (H c) ∧ k < 2) → ¬ (r = 160 ∧ k = 2) → G2 r k = G r k := fun r k a1 a2 a3 a4 a5 => by rw [fr2 r k a4 a5]; exact frG1 r k a1 (by omega) a3
          refine ⟨?_, ?_, v2, ?_, ?_, ?_, ?_, fun k hk => ?_, fun k hk => ?_, fun k hk => ?_, fun k hk => ?_, fun k hk => ?_, fun k hk => ?_, fun k hk => ?_, fun k hk => ?_, fun k hk => ?_, fun k hk => ?_, fun k hk => ?_, fun k hk => ?_⟩
          · rw [gm _ _ (by omega) (by omega) (by omega) (by omega) (by omega)]; exact b1
          · rw [gm _ _ (by omega) (by omega) (by omega) (by omega) (by omega)]; exact b2
          · rw [gm _ _ (by omega) (by omega) (by omega) (by omega) (by omega)]; exact b4
          · rw [gm _ _ (by omega) (by omega) (by omega) (by omega) (by omega)]; exact b5
          · rw [gm _ _ (by omega) (by omega) (by omega) (by omega) (by omega)]; exact b6
          · rw [gm _ _ (by omega) (by omega) (by omega) (by omega) (by omega)]; exact b7
          · rw [gm _ _ (by omega) (by omega) (by omega) (by omega) (by omega)]; exact b8 k hk
          · rw [gm _ _ (by omega) (by omega) (by omega) (by omega) (by omega)]; exact b9 k hk
          · rw [gm _ _ (by omega) (by omega) (by omega) (by omega) (by omega), (p4 k).1]; exact b10 k hk
          · rw [gm _ _ (by omega) (by omega) (by omega) (by omega) (by omega), (p4 k).2]; exact b11 k hk
          · rw [gm _ _ (by omega) (by omega) (by omega) (by omega) (by omega)]; exact b12 k hk
          · rw [gm _ _ (by omega) (by omega) (by omega) (by omega) (by omega)]; exact b13 k hk
          · rw [gm _ _ (by omega) (by omega) (by omega) (by omega) (by omega)]; exact b14 k hk
          · rw [gm _ _ (by omega) (by omega) (by omega) (by omega) (by omega)]; exact b15 k hk
          · by_cases z : k = nn (H c)
            · subst z; rw [v0, p3.1]
            · rw [gm _ _ (by omega) (by omega) (by omega) (by omega) (by omega), (p2 k (by omega)).1]; exact b16 k (by omega)
          · by_cases z : k = nn (H c)
            · subst z; rw [v1, p3.2]
            · rw [gm _ _ (by omega) (by omega) (by omega) (by omega) (by omega), (p2 k (by omega)).2]; exact b17 k (by omega)
          · rw [gm _ _ (by omega) (by omega) (by omega) (by omega) (by omega)]; exact b18 k hk
          · rw [gm _ _ (by omega) (by omega) (by omega) (by omega) (by omega)]; exact b19 k hk) (hS.h.push hok.2 (by rw [cl _ _ (by omega), chg_ne (by omega)]; exact z4) (fun r k a1 a2 a3 => by rw [cl _ _ (by omega), frC _ _ (by omega) (by omega) (by omega) (by omega) (by omega)]) (Or.inl ⟨by rw [cl _ _ (by omega), chg_ne (by omega)]; exact z8, by rw [cl _ _ (by omega), chg_ne (by omega)]; exact z9, p1, p2, fun k _ => p4 k⟩) hPn) (hS.hm.push (by rw [fr2 _ _ (by omega) (by omega)]; exact q3) (fun i k hi => by rw [fr2 _ _ (by omega) (by omega), frG1 _ _ (by omega) (by omega) (by omega)]) (q4.keep (fun k => fr2 _ _ (by omega) (by omega))))) (by rw [cl _ _ (by omega)]; exact chg_17) (by rw [cl _ _ (by omega)]; exact chg_18)
        by_cases z : r < 156
        · rw [cl r k z]
          exact frC r k (by omega) (by omega) (by omega) (by omega) (fun y => a1 (by unfold sc; omega))
        · rw [fr2 r k (by omega) (by omega)]
          exact frG1 r k (by omega) (by omega) (fun y => (by rcases y with ⟨y1, y2⟩; rcases y2 with y2 | y2 | y2; exact a1 (by unfold sc; omega); omega; exact a1 (by unfold sc; omega)))
    · refine ⟨m1, G, g00 G, ?_, sM_o, ?_, g00_0, Inv_g00 hS hh hn⟩
      · rw [h_72_26 hS.V, y0 hok]
        rfl
      · rw [h_322_37, hm0.gnn, h38]
        by_cases z : nn (H c) = 12
        · simp (disch := omega) only [i3_add, i3_mul, i3_sub, i3_m1, i3_lt, i3_le, i3_eq, m1_lt, lt_m1, m1_le, le_m1, i3_nm1, m1_ni3, i3_cl, i3_in, i3_or, i3_and, i3_xor, i3_shl, i3_shr, sh_tb, tb_eq0, gd_tt, aI_o, aV_o, aL_o, aR_o, zd_0, zd_1, if_true, if_false, ite_self, eq_self, Bool.true_eq_false, Bool.false_eq_true, bi_0, bi_1, bi_zd, Nat.not_lt_zero, z]
        · simp (disch := omega) only [i3_add, i3_mul, i3_sub, i3_m1, i3_lt, i3_le, i3_eq, m1_lt, lt_m1, m1_le, le_m1, i3_nm1, m1_ni3, i3_cl, i3_in, i3_or, i3_and, i3_xor, i3_shl, i3_shr, sh_tb, tb_eq0, gd_tt, aI_o, aV_o, aL_o, aR_o, zd_0, zd_1, if_true, if_false, ite_self, eq_self, Bool.true_eq_false, Bool.false_eq_true, bi_0, bi_1, bi_zd, Nat.not_lt_zero, z, show c = 20 by omega]
