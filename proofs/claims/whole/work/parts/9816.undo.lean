/-! a change taken back -/
theorem s_106 {d x : Nat} {V : pV} {G : sm_G} {L : sm_L} {p c K : Nat} {T : pT} {H : Nat → pT} (hp : pP p) (hT : okT T) (hc : chn G p T (c + 1) H) (hcp : cP G p T (H (c + 1)) K) : ∃ G', sm_cv0 (d + 2) 106 342 (RR V) [.ref p] (x, G, L) = oI (i3 1) x G' L ∧ (∀ r k, ¬ (p + 1 ≤ r ∧ r ≤ p + 4) → ¬ (r = p ∧ (k = 8 ∨ k = 10)) → G' r k = G r k) ∧ G' p 10 = i3 c ∧ cP G' p T (H c) K := by
  have hB := hT.gb
  obtain ⟨c1, c2, c3, c4⟩ := hc
  have hP1 := c3 (c + 1) (Nat.le_refl _)
  have hP0 := c3 c (by omega)
  have hent := c4 c (by omega)
  obtain ⟨b1, b2, b3, b4, b5, b6⟩ := hcp
  have e1 : i3 (c + 1) - i3 1 = i3 c := by rw [i3_sub (by omega)]; rfl
  have Gx : ∀ r k, ¬ (r = p ∧ k = 10) → sm_up G p 10 (i3 c) r k = G r k := fun r k q => sm_up_ne (by omega)
  have G10 : sm_up G p 10 (i3 c) p 10 = i3 c := sm_up_same _ _ _ _
  rw [m_106 hp, c2, e1, G10]
  have x5 := Gx (p + 5) c (by omega)
  have x6 := Gx (p + 6) c (by omega)
  have x7 := Gx (p + 7) c (by omega)
  have x8 := Gx (p + 8) c (by omega)
  rcases hent with ⟨k1, k2, k3, k4, k5⟩ | ⟨q, k0, k1, k2, k3, k4, k5, k6, k7, k8⟩ | ⟨q, k0, k1, k2, k3, k4, k5, k6, k7⟩
  · rw [k1] at x5
    rw [k2] at x6
    have hnn := hP0.gb
    have hn1 := hP1.gb
    generalize sm_up G p 10 (i3 c) = G1 at *
    obtain ⟨G', f1, f2, f3, f4, f5⟩ := s_105 (d := d) (x := x) (L := L) (V := V) (G := G1) (n := nn (H (c + 1))) (q := nn (H c)) hp (by rw [Gx _ _ (by omega)]; exact b1) (by omega) (by omega)
    refine ⟨G', ?_, fun r k a1 a2 => by rw [f2 r k (by omega) (by omega) (by omega)]; exact Gx r k (by omega), by rw [f2 _ _ (by omega) (by omega) (by omega)]; exact G10, ?_, ?_, fun i hi => ?_, fun i hi => ?_, fun k hk => ?_, fun k hk => ?_⟩
    · simp (disch := omega) only [i3_add, i3_mul, i3_sub, i3_m1, i3_lt, i3_le, i3_eq, m1_lt, lt_m1, m1_le, le_m1, i3_nm1, m1_ni3, i3_cl, i3_in, i3_or, i3_and, i3_xor, i3_shl, i3_shr, sh_tb, tb_eq0, gd_tt, aI_o, aV_o, aL_o, aR_o, zd_0, zd_1, if_true, if_false, ite_self, eq_self, Bool.true_eq_false, Bool.false_eq_true, bi_0, bi_1, bi_zd, Nat.not_lt_zero, show ¬ c + 1 ≤ 0 by omega, x5, x6, f1]
    · rw [f3, k3]; rfl
    · rw [f2 _ _ (by omega) (by omega) (by omega), Gx _ _ (by omega)]; exact b2
    · rw [(f4 i hi).1, Gx _ _ (by omega), b3 i (by omega), (k4 i hi).1]
    · rw [(f4 i hi).2, Gx _ _ (by omega), b4 i (by omega), (k4 i hi).2]
    · rw [f2 _ _ (by omega) (by omega) (by omega), Gx _ _ (by omega), b5 k hk, (k5 k hk).1]
    · rw [f2 _ _ (by omega) (by omega) (by omega), Gx _ _ (by omega), b6 k hk, (k5 k hk).2]
  · rw [k1] at x5
    rw [k2] at x6
    rw [k3] at x7
    rw [k4] at x8
    have hnn := hP0.gb
    have hn1 := hP1.gb
    generalize sm_up G p 10 (i3 c) = G1 at *
    obtain ⟨G', f1, f2, f3, f4, f5, f6, f7⟩ := s_107 (d := d) (x := x) (L := L) (V := V) (G := G1) (n := nn (H (c + 1))) (q := q) (a := i3 (nm (H c) q)) (b := i3 (ns (H c) q)) hp (by rw [Gx _ _ (by omega)]; exact b1) (by omega) (by omega)
    refine ⟨G', ?_, fun r k a1 a2 => by rw [f2 r k (by omega) (by omega) (by omega)]; exact Gx r k (by omega), by rw [f2 _ _ (by omega) (by omega) (by omega)]; exact G10, ?_, ?_, fun i hi => ?_, fun i hi => ?_, fun k hk => ?_, fun k hk => ?_⟩
    · simp (disch := omega) only [i3_add, i3_mul, i3_sub, i3_m1, i3_lt, i3_le, i3_eq, m1_lt, lt_m1, m1_le, le_m1, i3_nm1, m1_ni3, i3_cl, i3_in, i3_or, i3_and, i3_xor, i3_shl, i3_shr, sh_tb, tb_eq0, gd_tt, aI_o, aV_o, aL_o, aR_o, zd_0, zd_1, if_true, if_false, ite_self, eq_self, Bool.true_eq_false, Bool.false_eq_true, bi_0, bi_1, bi_zd, Nat.not_lt_zero, Nat.reduceEqDiff, Nat.reduceLeDiff, Nat.reduceLT, show ¬ c + 1 ≤ 0 by omega, x5, x6, x7, x8, f1]
    · rw [f3, k5]
    · rw [f2 _ _ (by omega) (by omega) (by omega), Gx _ _ (by omega)]; exact b2
    · by_cases z : i < q
      · rw [(f4 i z).1, Gx _ _ (by omega), b3 i (by omega), (k6 i z).1]
      · by_cases z2 : i = q
        · subst z2; exact f5
        · obtain ⟨j, rfl⟩ : ∃ j, i = j + 1 := ⟨i - 1, by omega⟩
          rw [(f7 j (by omega) (by omega)).1, Gx _ _ (by omega), b3 j (by omega), (k7 j (by omega) (by omega)).1]
    · by_cases z : i < q
      · rw [(f4 i z).2, Gx _ _ (by omega), b4 i (by omega), (k6 i z).2]
      · by_cases z2 : i = q
        · subst z2; exact f6
        · obtain ⟨j, rfl⟩ : ∃ j, i = j + 1 := ⟨i - 1, by omega⟩
          rw [(f7 j (by omega) (by omega)).2, Gx _ _ (by omega), b4 j (by omega), (k7 j (by omega) (by omega)).2]
    · rw [f2 _ _ (by omega) (by omega) (by omega), Gx _ _ (by omega), b5 k hk, (k8 k hk).1]
    · rw [f2 _ _ (by omega) (by omega) (by omega), Gx _ _ (by omega), b6 k hk, (k8 k hk).2]
  · rw [k1] at x5
    rw [k2] at x6
    rw [k3] at x7
    rw [k4] at x8
    generalize sm_up G p 10 (i3 c) = G1 at *
    have y10 : sm_up G1 (p + 3) q (i3 (fr (H c) q)) p 10 = i3 c := by rw [sm_up_ne (by omega)]; exact G10
    have y6 : sm_up G1 (p + 3) q (i3 (fr (H c) q)) (p + 6) c = i3 q := by rw [sm_up_ne (by omega)]; exact x6
    have y8 : sm_up G1 (p + 3) q (i3 (fr (H c) q)) (p + 8) c = i3 (un (H c) q) := by rw [sm_up_ne (by omega)]; exact x8
    have fr2 : ∀ r k, ¬ ((r = p + 3 ∨ r = p + 4) ∧ k = q) → sm_up (sm_up G1 (p + 3) q (i3 (fr (H c) q))) (p + 4) q (i3 (un (H c) q)) r k = G1 r k := fun r k a => by rw [sm_up_ne (by omega), sm_up_ne (by omega)]
    refine ⟨sm_up (sm_up G1 (p + 3) q (i3 (fr (H c) q))) (p + 4) q (i3 (un (H c) q)), ?_, fun r k a1 a2 => by rw [fr2 r k (by omega)]; exact Gx r k (by omega), by rw [fr2 _ _ (by omega)]; exact G10, ?_, ?_, fun i hi => ?_, fun i hi => ?_, fun k hk => ?_, fun k hk => ?_⟩
    · simp (disch := omega) only [i3_add, i3_mul, i3_sub, i3_m1, i3_lt, i3_le, i3_eq, m1_lt, lt_m1, m1_le, le_m1, i3_nm1, m1_ni3, i3_cl, i3_in, i3_or, i3_and, i3_xor, i3_shl, i3_shr, sh_tb, tb_eq0, gd_tt, aI_o, aV_o, aL_o, aR_o, zd_0, zd_1, if_true, if_false, ite_self, eq_self, Bool.true_eq_false, Bool.false_eq_true, bi_0, bi_1, bi_zd, Nat.not_lt_zero, Nat.reduceEqDiff, Nat.reduceLeDiff, Nat.reduceLT, show ¬ c + 1 ≤ 0 by omega, show q < 8 by omega, x5, x6, x7, y10, y6, y8]
    · rw [fr2 _ _ (by omega), Gx _ _ (by omega), b1, k5]
    · rw [fr2 _ _ (by omega), Gx _ _ (by omega)]; exact b2
    · rw [fr2 _ _ (by omega), Gx _ _ (by omega), b3 i (by omega), (k6 i hi).1]
    · rw [fr2 _ _ (by omega), Gx _ _ (by omega), b4 i (by omega), (k6 i hi).2]
    · by_cases z : k = q
      · subst z; rw [sm_up_ne (by omega), sm_up_same]
      · rw [fr2 _ _ (by omega), Gx _ _ (by omega), b5 k hk, (k7 k hk z).1]
    · by_cases z : k = q
      · subst z; rw [sm_up_same]
      · rw [fr2 _ _ (by omega), Gx _ _ (by omega), b6 k hk, (k7 k hk z).2]
/-- the model's plan out of what it kept -/
theorem mH.load {G G' : sm_G} {r o K K' : Nat} {T P P' : pT} (h : mH G T P K) (hT : okT T) (hP' : okP T P') (hs : snp G r o T P') (f : ∀ a k, 156 ≤ a → a < 279 → ¬ (219 ≤ a ∧ a < 231 ∧ k < 2) → ¬ (175 ≤ a ∧ a < 183 ∧ k < 2) → ¬ (a = 160 ∧ k = 2) → ¬ (a = 156) → G' a k = G a k) (f37 : G' 156 37 = i3 K') (f2 : G' 160 2 = G r o) (f3 : ∀ i, i < 12 → G' (219 + i) 0 = G r (o + 1 + 2 * i) ∧ G' (219 + i) 1 = G r (o + 2 + 2 * i)) (f4 : ∀ k, k < 8 → G' (175 + k) 0 = G r (o + 25 + 2 * k) ∧ G' (175 + k) 1 = G r (o + 26 + 2 * k)) : mH G' T P' K' := by
  have hB := hT.gb
  have hnn := hP'.gb
  obtain ⟨s1, s2, s3⟩ := hs
  obtain ⟨b1, b2, b3, b4, b5, b6, b7, b8, b9, b10, b11, b12, b13, b14, b15, b16, b17, b18, b19⟩ := h
  refine ⟨?_, ?_, ?_, ?_, ?_, ?_, f37, fun k hk => ?_, fun k hk => ?_, fun k hk => ?_, fun k hk => ?_, fun k hk => ?_, fun k hk => ?_, fun k hk => ?_, fun k hk => ?_, fun k hk => ?_, fun k hk => ?_, fun k hk => ?_, fun k hk => ?_⟩
  · rw [f _ _ (by omega) (by omega) (by omega) (by omega) (by omega) (by omega)]; exact b1
  · rw [f _ _ (by omega) (by omega) (by omega) (by omega) (by omega) (by omega)]; exact b2
  · rw [f2]; exact s1
  · rw [f _ _ (by omega) (by omega) (by omega) (by omega) (by omega) (by omega)]; exact b4
  · rw [f _ _ (by omega) (by omega) (by omega) (by omega) (by omega) (by omega)]; exact b5
  · rw [f _ _ (by omega) (by omega) (by omega) (by omega) (by omega) (by omega)]; exact b6
  · rw [f _ _ (by omega) (by omega) (by omega) (by omega) (by omega) (by omega)]; exact b8 k hk
  · rw [f _ _ (by omega) (by omega) (by omega) (by omega) (by omega) (by omega)]; exact b9 k hk
  · rw [(f4 k (by omega)).1]; exact (s3 k hk).1
  · rw [(f4 k (by omega)).2]; exact (s3 k hk).2
  · rw [f _ _ (by omega) (by omega) (by omega) (by omega) (by omega) (by omega)]; exact b12 k hk
  · rw [f _ _ (by omega) (by omega) (by omega) (by omega) (by omega) (by omega)]; exact b13 k hk
  · rw [f _ _ (by omega) (by omega) (by omega) (by omega) (by omega) (by omega)]; exact b14 k hk
  · rw [f _ _ (by omega) (by omega) (by omega) (by omega) (by omega) (by omega)]; exact b15 k hk
  · rw [(f3 k (by omega)).1]; exact (s2 k hk).1
  · rw [(f3 k (by omega)).2]; exact (s2 k hk).2
  · rw [f _ _ (by omega) (by omega) (by omega) (by omega) (by omega) (by omega)]; exact b18 k hk
  · rw [f _ _ (by omega) (by omega) (by omega) (by omega) (by omega) (by omega)]; exact b19 k hk
theorem op_24 {d x : Nat} {V : pV} {G : sm_G} {L : sm_L} {E : Nat → Nat} (I : Inv V G) : OpI d x V G L 24 [.ref 1] 328 [.ref 156] E := by
  obtain ⟨T, K, c, H, W, hS, hh, hn⟩ := I
  have hB := hS.T.gb
  have hsl := pS_lt (hV1 hS.V)
  have g10 := hS.h.2.1
  have hc20 := hS.h.1
  refine OpI_0 (X := sm_cv0 (d + 60) 24 342 (RR V) [.ref 1] (x, G, L)) rfl ?_
  cases c with
  | zero =>
    refine ⟨m1, G, g00 G, ?_, ?_, g00_0, Inv_g00 hS hh hn⟩
    · rw [m_24 hS.V, m_106 (hP1 hS.V), g10]
      simp (disch := omega) only [i3_add, i3_mul, i3_sub, i3_m1, i3_lt, i3_le, i3_eq, m1_lt, lt_m1, m1_le, le_m1, i3_nm1, m1_ni3, i3_cl, i3_in, i3_or, i3_and, i3_xor, i3_shl, i3_shr, sh_tb, tb_eq0, gd_tt, aI_o, aV_o, aL_o, aR_o, zd_0, zd_1, if_true, if_false, ite_self, eq_self, Bool.true_eq_false, Bool.false_eq_true, bi_0, bi_1, bi_zd, Nat.not_lt_zero, Nat.le_refl]
    · have e : sm_up G 156 0 (i3 0) 156 38 = i3 0 := by rw [sm_up_ne (by omega)]; exact hS.hm.1
      rw [m_328, e, if_pos rfl]
  | succ c =>
    obtain ⟨G1, z1, z2, z3, z4⟩ := s_106 (d := d + 57) (x := x) (G := G) (L := L) (V := V) (hP1 hS.V) hS.T hS.h hS.p
    have frC : ∀ r k, ¬ (V.1 + 1 + 1 ≤ r ∧ r ≤ V.1 + 1 + 4) → ¬ (r = V.1 + 1 ∧ (k = 8 ∨ k = 10)) → ¬ (r = 1 ∧ (k = 17 ∨ k = 18)) → chg G1 r k = G r k := fun r k a1 a2 a3 => by rw [chg_ne a3]; exact z2 r k a1 a2
    have hsM : sM G (chg G1) := fun r k a => frC r k (by omega) (by omega) (by omega)
    have e38 : sm_up (chg G1) 156 0 (i3 0) 156 38 = i3 (c + 1) := by rw [sm_up_ne (by omega), hsM _ _ (by omega)]; exact hS.hm.1
    have e1 : i3 (c + 1) - i3 1 = i3 c := by rw [i3_sub (by omega)]; rfl
    have gx : ∀ r k, ¬ (r = 156 ∧ (k = 0 ∨ k = 38 ∨ k = 40)) → sm_up (sm_up (sm_up (chg G1) 156 0 (i3 0)) 156 38 (i3 c)) 156 40 (i3 0) r k = chg G1 r k := fun r k a => by rw [sm_up_ne (by omega), sm_up_ne (by omega), sm_up_ne (by omega)]
    have g38 : sm_up (sm_up (sm_up (chg G1) 156 0 (i3 0)) 156 38 (i3 c)) 156 40 (i3 0) 156 38 = i3 c := by rw [sm_up_ne (by omega), sm_up_same]
    have g40 : sm_up (sm_up (sm_up (chg G1) 156 0 (i3 0)) 156 38 (i3 c)) 156 40 (i3 0) 156 40 = i3 0 := sm_up_same _ _ _ _
    have g0 : sm_up (sm_up (sm_up (chg G1) 156 0 (i3 0)) 156 38 (i3 c)) 156 40 (i3 0) 156 0 = i3 0 := by rw [sm_up_ne (by omega), sm_up_ne (by omega), sm_up_same]
    have em : sm_cv0 (d + 60) 328 342 (RR V) [.ref 156] (x, chg G1, L) = sm_aV (sm_cv0 (d + 59) 324 342 (RR V) [.ref 156, .ref (283 + c), .int (i3 1)] (x, sm_up (sm_up (sm_up (chg G1) 156 0 (i3 0)) 156 38 (i3 c)) 156 40 (i3 0), L)) (fun x1 G1 L1 => oI (G1 156 38) x1 G1 L1) oX := by
      rw [m_328, e38, e1, g38]
      simp (disch := omega) only [i3_add, i3_mul, i3_sub, i3_m1, i3_lt, i3_le, i3_eq, m1_lt, lt_m1, m1_le, le_m1, i3_nm1, m1_ni3, i3_cl, i3_in, i3_or, i3_and, i3_xor, i3_shl, i3_shr, sh_tb, tb_eq0, gd_tt, aI_o, aV_o, aL_o, aR_o, zd_0, zd_1, if_true, if_false, ite_self, eq_self, Bool.true_eq_false, Bool.false_eq_true, bi_0, bi_1, bi_zd, Nat.not_lt_zero, show ¬ c + 1 = 0 by omega, rr_282]
    generalize sm_up (sm_up (sm_up (chg G1) 156 0 (i3 0)) 156 38 (i3 c)) 156 40 (i3 0) = g at *
    obtain ⟨G2, f1, f2, f3, f4, f5, f6⟩ := s_324l (d := d + 57) (x := x) (L := L) (V := V) (G := g) (r := 283 + c) (o := 0) (kr_282 (k := c) (by omega)) (nr_282 (k := c) (by omega)) (by omega) (by omega) (by omega) g40
    have cl : ∀ r k, r < 156 → G2 r k = chg G1 r k := fun r k a => by rw [f2 _ _ (by omega) (by omega) (by omega) (by omega)]; exact gx _ _ (by omega)
    have e2 : G2 156 38 = i3 c := by rw [f2 _ _ (by omega) (by omega) (by omega) (by omega)]; exact g38
    have gm : ∀ r k, 156 ≤ r → ¬ (r = 156 ∧ (k = 0 ∨ k = 38 ∨ k = 40)) → g r k = G r k := fun r k a b => by rw [gx r k b]; exact hsM r k a
    have hsn : snp g (283 + c) 0 T (H c) := (hS.hm.2 c (by omega)).keep (fun k => gm _ _ (by omega) (by omega))
    refine ⟨i3 c, chg G1, G2, ?_, ?_, by rw [f2 _ _ (by omega) (by omega) (by omega) (by omega)]; exact g0, ?_⟩
    · have e8 : chg G1 (V.1 + 1) 10 = i3 c := by rw [chg_ne (by omega)]; exact z3
      rw [m_24 hS.V, z1]
      simp (disch := omega) only [i3_add, i3_mul, i3_sub, i3_m1, i3_lt, i3_le, i3_eq, m1_lt, lt_m1, m1_le, le_m1, i3_nm1, m1_ni3, i3_cl, i3_in, i3_or, i3_and, i3_xor, i3_shl, i3_shr, sh_tb, tb_eq0, gd_tt, aI_o, aV_o, aL_o, aR_o, zd_0, zd_1, if_true, if_false, ite_self, eq_self, Bool.true_eq_false, Bool.false_eq_true, bi_0, bi_1, bi_zd, Nat.not_lt_zero, Nat.reduceEqDiff, Nat.reduceLeDiff, Nat.reduceLT, s_23]
      show oI (chg G1 (V.1 + 1) 10) x (chg G1) L = _
      rw [e8]
    · rw [em, f1]
      simp only [aV_o]
      rw [e2]
    · have hPn := hS.h.2.2.1 c (by omega)
      refine Inv_ch (hS.plan (K' := K) (c' := c) (H' := H) (fun r k a1 a2 a3 a4 a5 a6 a7 => ?_) hPn hS.K (z4.keep3 (fun k => by rw [cl _ _ (by omega), chg_ne (by omega)]) (fun r k a b => by rw [cl _ _ (by omega), chg_ne (by omega)])) ((hS.m.keep hS.T hS.P (fun r k a => gm r k (by unfold inM at a; omega) (by unfold inM at a; omega))).load hS.T hPn hsn (fun a k b1 b2 b3 b4 b5 b6 => f2 a k b3 b4 b5 (by omega)) (by rw [f2 _ _ (by omega) (by omega) (by omega) (by omega), gm _ _ (by omega) (by omega)]; exact hS.m.gkp) f4 f5 f6) ⟨by omega, by rw [cl _ _ (by omega), chg_ne (by omega)]; exact z3, fun i hi => hS.h.2.2.1 i (by omega), fun i hi => (hS.h.2.2.2 i (by omega)).keep5 (fun r a1 a2 => by rw [cl _ _ (by omega), frC _ _ (by omega) (by omega) (by omega)])⟩ ⟨e2, fun i hi => (hS.hm.2 i (by omega)).keep (fun k => by rw [f2 _ _ (by omega) (by omega) (by omega) (by omega)]; exact gm _ _ (by omega) (by omega))⟩) (by rw [cl _ _ (by omega)]; exact chg_17) (by rw [cl _ _ (by omega)]; exact chg_18)
      by_cases z : r < 156
      · rw [cl r k z]
        exact frC r k (by omega) (by omega) (fun y => a1 (by unfold sc; omega))
      · rw [f2 r k (by omega) (by omega) (by omega) (fun y => a1 (by unfold sc; omega))]
        exact gm r k (by omega) (fun y => (by rcases y with ⟨y1, y2⟩; rcases y2 with y2 | y2 | y2; exact a1 (by unfold sc; omega); omega; exact a1 (by unfold sc; omega)))
