/-! is j next door -/
theorem bt1 : bi true = i3 1 := rfl
theorem bf0 : bi false = i3 0 := rfl
theorem s_302d {T Pn : pT} {K b v q p2 m2 l2 j d x : Nat} {V : pV} {gj : sm_G} {Lj : sm_L} (hT : okT T) (hv : v < sl T) (hj : j < sl T) (hm : mH gj T Pn K) (hq : q < 1024) : hD (d + 1) 302 128 [.ref 156, .int (i3 v), .int (i3 b), .int (i3 q), .null, .null, .null, .null, .null, .long (i6 p2), .null, .long (i6 m2), .null, .int (i3 l2), .int (i3 j), .null, .null, .null] 342 (RR V) x gj Lj = hD (d + 1) 302 220 [.ref 156, .int (i3 v), .int (i3 b), .int (i3 q), .null, .null, .null, .null, .null, .long (i6 p2), .null, .long (i6 m2), .null, .int (i3 l2), .int (i3 j), .null, .int (bi ((bhi T (1 <<< v) (fo T) 0).testBit j && !q.testBit j)), .null] 342 (RR V) x gj Lj := by
  have hB := hT.gb
  rw [h_302_128, hm.gsl]
  cases hx : q.testBit j with
  | true =>
    simp (disch := omega) only [i3_add, i3_mul, i3_sub, i3_m1, i3_lt, i3_le, i3_eq, m1_lt, lt_m1, m1_le, le_m1, i3_nm1, m1_ni3, i3_cl, i3_in, i3_or, i3_and, i3_xor, i3_shl, i3_shr, sh_tb, tb_eq0, gd_tt, aI_o, aV_o, aL_o, aR_o, zd_0, zd_1, if_true, if_false, ite_self, eq_self, Bool.true_eq_false, Bool.false_eq_true, bi_0, bi_1, bi_zd, Nat.not_lt_zero, hj, hx, Bool.not_true, Bool.and_false, bf0]
    rw [h_302_161, hm.gdn]
    by_cases q0 : 0 < dn T
    · rw [if_pos (show i3 0 < i3 (dn T) by rw [i3_lt (by omega) (by omega)]; exact q0), if_pos rfl]
    · rw [if_neg (show ¬ i3 0 < i3 (dn T) by rw [i3_lt (by omega) (by omega)]; exact q0)]
  | false =>
    simp (disch := omega) only [i3_add, i3_mul, i3_sub, i3_m1, i3_lt, i3_le, i3_eq, m1_lt, lt_m1, m1_le, le_m1, i3_nm1, m1_ni3, i3_cl, i3_in, i3_or, i3_and, i3_xor, i3_shl, i3_shr, sh_tb, tb_eq0, gd_tt, aI_o, aV_o, aL_o, aR_o, zd_0, zd_1, if_true, if_false, ite_self, eq_self, Bool.true_eq_false, Bool.false_eq_true, bi_0, bi_1, bi_zd, Nat.not_lt_zero, hj, hx]
    have e := loop0 (H := fun i (f : Bool) => hD (d + 1) 302 161 [.ref 156, .int (i3 v), .int (i3 b), .int (i3 q), .null, .null, .null, .null, .null, .long (i6 p2), .null, .long (i6 m2), .null, .int (i3 l2), .int (i3 j), .int (i3 1), .int (bi f), .int (i3 i)] 342 (RR V) x gj Lj) (out := fun f => hD (d + 1) 302 220 [.ref 156, .int (i3 v), .int (i3 b), .int (i3 q), .null, .null, .null, .null, .null, .long (i6 p2), .null, .long (i6 m2), .null, .int (i3 l2), .int (i3 j), .null, .int (bi f), .null] 342 (RR V) x gj Lj) (N := dn T) (step := fun i f => f || ((fo T).testBit i && btw T i v j)) ?_ ?_ false
    · rw [btw_it T hT] at e
      rw [Bool.not_false, Bool.and_true]
      exact e
    · intro i f hi
      have hdd := hT.gdr i hi
      have eo := hm.gdO i hi
      have e271 := s_271 (d := d) (x := x) (V := V) (G := gj) (L := Lj) hm hT hi (show v < 1000 by omega) (show j < 1000 by omega)
      have e271' : sm_cv0 (d + 1) 271 342 (RR V) [.ref 156, .int (i3 i), .int (i3 v), .int (i3 j)] (x, gj, Lj) = oI (bi (btw T i v j)) x gj Lj := e271
      have efo : (fo T).testBit i = decide (dO T i = 1) := by
        show (bs _ _).testBit i = _
        rw [bs_tb, decide_eq_true hi, Bool.true_and]
      show hD (d + 1) 302 161 _ 342 (RR V) x gj Lj = _
      rw [h_302_161, hm.gdn]
      cases f with
      | true =>
        simp (disch := omega) only [i3_add, i3_mul, i3_sub, i3_m1, i3_lt, i3_le, i3_eq, m1_lt, lt_m1, m1_le, le_m1, i3_nm1, m1_ni3, i3_cl, i3_in, i3_or, i3_and, i3_xor, i3_shl, i3_shr, sh_tb, tb_eq0, gd_tt, aI_o, aV_o, aL_o, aR_o, zd_0, zd_1, if_true, if_false, ite_self, eq_self, Bool.true_eq_false, Bool.false_eq_true, bi_0, bi_1, bi_zd, Nat.not_lt_zero, Nat.reduceEqDiff, Nat.reduceLeDiff, Nat.reduceLT, hi, Bool.true_or, bt1]
      | false =>
        by_cases qo : dO T i = 1
        · cases hbt : btw T i v j with
          | true => simp (disch := omega) only [i3_add, i3_mul, i3_sub, i3_m1, i3_lt, i3_le, i3_eq, m1_lt, lt_m1, m1_le, le_m1, i3_nm1, m1_ni3, i3_cl, i3_in, i3_or, i3_and, i3_xor, i3_shl, i3_shr, sh_tb, tb_eq0, gd_tt, aI_o, aV_o, aL_o, aR_o, zd_0, zd_1, if_true, if_false, ite_self, eq_self, Bool.true_eq_false, Bool.false_eq_true, bi_0, bi_1, bi_zd, Nat.not_lt_zero, Nat.reduceEqDiff, Nat.reduceLeDiff, Nat.reduceLT, rr_165, ldr_165, kr_165, nr_165, rr_174, ldr_174, kr_174, nr_174, rr_183, ldr_183, kr_183, nr_183, rr_194, ldr_194, kr_194, nr_194, rr_205, ldr_205, kr_205, nr_205, rr_218, ldr_218, kr_218, nr_218, rr_231, ldr_231, kr_231, nr_231, rr_236, ldr_236, kr_236, nr_236, rr_242, ldr_242, kr_242, nr_242, rr_247, ldr_247, kr_247, nr_247, rr_252, ldr_252, kr_252, nr_252, rr_265, ldr_265, kr_265, nr_265, rr_278, ldr_278, kr_278, nr_278, rr_282, ldr_282, kr_282, nr_282, rr_309, ldr_309, kr_309, nr_309, rr_314, ldr_314, kr_314, nr_314, rr_319, ldr_319, kr_319, nr_319, rr_332, ldr_332, kr_332, nr_332, hi, eo, qo, e271', efo, hbt, Bool.false_or, Bool.and_self, decide_true, bt1, bf0]
          | false => simp (disch := omega) only [i3_add, i3_mul, i3_sub, i3_m1, i3_lt, i3_le, i3_eq, m1_lt, lt_m1, m1_le, le_m1, i3_nm1, m1_ni3, i3_cl, i3_in, i3_or, i3_and, i3_xor, i3_shl, i3_shr, sh_tb, tb_eq0, gd_tt, aI_o, aV_o, aL_o, aR_o, zd_0, zd_1, if_true, if_false, ite_self, eq_self, Bool.true_eq_false, Bool.false_eq_true, bi_0, bi_1, bi_zd, Nat.not_lt_zero, Nat.reduceEqDiff, Nat.reduceLeDiff, Nat.reduceLT, rr_165, ldr_165, kr_165, nr_165, rr_174, ldr_174, kr_174, nr_174, rr_183, ldr_183, kr_183, nr_183, rr_194, ldr_194, kr_194, nr_194, rr_205, ldr_205, kr_205, nr_205, rr_218, ldr_218, kr_218, nr_218, rr_231, ldr_231, kr_231, nr_231, rr_236, ldr_236, kr_236, nr_236, rr_242, ldr_242, kr_242, nr_242, rr_247, ldr_247, kr_247, nr_247, rr_252, ldr_252, kr_252, nr_252, rr_265, ldr_265, kr_265, nr_265, rr_278, ldr_278, kr_278, nr_278, rr_282, ldr_282, kr_282, nr_282, rr_309, ldr_309, kr_309, nr_309, rr_314, ldr_314, kr_314, nr_314, rr_319, ldr_319, kr_319, nr_319, rr_332, ldr_332, kr_332, nr_332, hi, eo, qo, e271', efo, hbt, Bool.false_or, Bool.and_false, decide_true, bt1, bf0]
        · simp (disch := omega) only [i3_add, i3_mul, i3_sub, i3_m1, i3_lt, i3_le, i3_eq, m1_lt, lt_m1, m1_le, le_m1, i3_nm1, m1_ni3, i3_cl, i3_in, i3_or, i3_and, i3_xor, i3_shl, i3_shr, sh_tb, tb_eq0, gd_tt, aI_o, aV_o, aL_o, aR_o, zd_0, zd_1, if_true, if_false, ite_self, eq_self, Bool.true_eq_false, Bool.false_eq_true, bi_0, bi_1, bi_zd, Nat.not_lt_zero, Nat.reduceEqDiff, Nat.reduceLeDiff, Nat.reduceLT, rr_165, ldr_165, kr_165, nr_165, rr_174, ldr_174, kr_174, nr_174, rr_183, ldr_183, kr_183, nr_183, rr_194, ldr_194, kr_194, nr_194, rr_205, ldr_205, kr_205, nr_205, rr_218, ldr_218, kr_218, nr_218, rr_231, ldr_231, kr_231, nr_231, rr_236, ldr_236, kr_236, nr_236, rr_242, ldr_242, kr_242, nr_242, rr_247, ldr_247, kr_247, nr_247, rr_252, ldr_252, kr_252, nr_252, rr_265, ldr_265, kr_265, nr_265, rr_278, ldr_278, kr_278, nr_278, rr_282, ldr_282, kr_282, nr_282, rr_309, ldr_309, kr_309, nr_309, rr_314, ldr_314, kr_314, nr_314, rr_319, ldr_319, kr_319, nr_319, rr_332, ldr_332, kr_332, nr_332, hi, eo, qo, efo, Bool.false_or, Bool.false_and, decide_false, bt1, bf0]
    · intro f
      show hD (d + 1) 302 161 _ 342 (RR V) x gj Lj = _
      rw [h_302_161, hm.gdn]
      simp (disch := omega) only [i3_add, i3_mul, i3_sub, i3_m1, i3_lt, i3_le, i3_eq, m1_lt, lt_m1, m1_le, le_m1, i3_nm1, m1_ni3, i3_cl, i3_in, i3_or, i3_and, i3_xor, i3_shl, i3_shr, sh_tb, tb_eq0, gd_tt, aI_o, aV_o, aL_o, aR_o, zd_0, zd_1, if_true, if_false, ite_self, eq_self, Bool.true_eq_false, Bool.false_eq_true, bi_0, bi_1, bi_zd, Nat.not_lt_zero, Nat.lt_irrefl]
