/-! questions of the night and the hours -/
theorem q63_0 (V : pV) : RR V 63 0 = 64 := fN_0_0 V (Or.inl rfl)
theorem q63_3 (V : pV) : RR V 63 3 = 67 := fN_0_3 V (Or.inl rfl)
theorem k67 : sm_is 67 342 20 = true := kN_4 (r := 63) (Or.inl rfl)
theorem n67 : sm_N 67 = 301 := nN_4 (r := 63) (Or.inl rfl)
theorem a64 : (Nat.ble 24 (sm_K 64) && Nat.ble (sm_K 64) 27 && Nat.ble 64 342) = true := aN_1 (r := 63) (Or.inl rfl)
theorem n64 : sm_N 64 = 4 := nN_1 (r := 63) (Or.inl rfl)
theorem r64 {V : pV} {i : Nat} (h : i < 4) : RR V 64 i = 63 + 5 + 4 * i := rw_b (b := 63) (Or.inl rfl) h
theorem i64 {i : Nat} (h : i < 4) : sm_is (63 + 5 + 4 * i) 342 7 = true := iw_K (kw_b (b := 63) (Or.inl rfl) h)
theorem op_42 {d x : Nat} {V : pV} {G : sm_G} {L : sm_L} {v w : Int32} (I : Inv V G) : OpI d x V G L 42 [.ref 1, .int v, .int w] 262 [.ref 156, .int v, .int w] eN := by
  have I0 := I
  obtain ⟨T, K, c, H, W, hS, hh, hn⟩ := I
  have hB := hS.T.gb
  have ec := m_42 (d := d + 59) (x := x) (G := G) (L := L) (V := V) (v1 := v) (v2 := w) hS.V
  rw [hS.c.gdn, s_31, aV_if, s_38, aV_if] at ec
  refine OpI_2 (Y := ?Y) I0 ec ?_ (by decide) (by decide) ?_
  rotate_left
  · intro x1 G1 hs
    have hm := hS.m.sM hS.T hS.P hs
    rw [m_262, s_250 hm.gdn (by omega)]
    simp only [aI_o]
    rw [mbad g00_0 (by decide) (by decide) (by decide), h_262_27, s_253]
    simp only [aI_o]
    rw [mbad g00_0 (by decide) (by decide) (by decide)]
    rfl
  · intro h1 h2
    obtain ⟨i, rfl, hi⟩ := rng (by omega) h1
    obtain ⟨m, rfl, hm⟩ := rngl (by omega) h2
    obtain ⟨G1, a1, hS1, hh1, hn1, hs1, hr1⟩ := hS.s14 (d := d + 47) (x := x) (L := L) hh hn
    obtain ⟨g2, b1, b2, b3, b4, b5, b6⟩ := hS1.night (d := d + 19) (x := x) (L := L) (V := V) hh1 hn1 hr1
    obtain ⟨⟨o, ho, q1, q2⟩, _⟩ := b2.2 m (by omega)
    have q1 : G1 67 m = i3 o := q1
    refine ⟨bi (o.testBit i), G1, g2, ?_, hs1, ?_, b5, b6⟩
    · rw [a1]
      cases q : o.testBit i
      · simp (disch := omega) only [i3_add, i3_mul, i3_sub, i3_m1, i3_lt, i3_le, i3_eq, m1_lt, lt_m1, m1_le, le_m1, i3_nm1, m1_ni3, i3_cl, i3_in, i3_or, i3_and, i3_xor, i3_shl, i3_shr, sh_tb, tb_eq0, gd_tt, aI_o, aV_o, aL_o, aR_o, zd_0, zd_1, if_true, if_false, ite_self, eq_self, Bool.true_eq_false, Bool.false_eq_true, bi_0, bi_1, bi_zd, Nat.not_lt_zero, k_63, q63_3, ldi_e k67 n67, q1, q]
        rfl
      · simp (disch := omega) only [i3_add, i3_mul, i3_sub, i3_m1, i3_lt, i3_le, i3_eq, m1_lt, lt_m1, m1_le, le_m1, i3_nm1, m1_ni3, i3_cl, i3_in, i3_or, i3_and, i3_xor, i3_shl, i3_shr, sh_tb, tb_eq0, gd_tt, aI_o, aV_o, aL_o, aR_o, zd_0, zd_1, if_true, if_false, ite_self, eq_self, Bool.true_eq_false, Bool.false_eq_true, bi_0, bi_1, bi_zd, Nat.not_lt_zero, k_63, q63_3, ldi_e k67 n67, q1, q]
        rfl
    · rw [h_262_50, b1]
      cases q : o.testBit i
      · simp (disch := omega) only [i3_add, i3_mul, i3_sub, i3_m1, i3_lt, i3_le, i3_eq, m1_lt, lt_m1, m1_le, le_m1, i3_nm1, m1_ni3, i3_cl, i3_in, i3_or, i3_and, i3_xor, i3_shl, i3_shr, sh_tb, tb_eq0, gd_tt, aI_o, aV_o, aL_o, aR_o, zd_0, zd_1, if_true, if_false, ite_self, eq_self, Bool.true_eq_false, Bool.false_eq_true, bi_0, bi_1, bi_zd, Nat.not_lt_zero, tb_eq1, q2, q]
        rfl
      · simp (disch := omega) only [i3_add, i3_mul, i3_sub, i3_m1, i3_lt, i3_le, i3_eq, m1_lt, lt_m1, m1_le, le_m1, i3_nm1, m1_ni3, i3_cl, i3_in, i3_or, i3_and, i3_xor, i3_shl, i3_shr, sh_tb, tb_eq0, gd_tt, aI_o, aV_o, aL_o, aR_o, zd_0, zd_1, if_true, if_false, ite_self, eq_self, Bool.true_eq_false, Bool.false_eq_true, bi_0, bi_1, bi_zd, Nat.not_lt_zero, tb_eq1, q2, q]
        rfl
theorem op_43 {d x : Nat} {V : pV} {G : sm_G} {L : sm_L} {v w : Int32} (I : Inv V G) : OpI d x V G L 43 [.ref 1, .int v, .int w] 276 [.ref 156, .int v, .int w] eN := by
  have I0 := I
  obtain ⟨T, K, c, H, W, hS, hh, hn⟩ := I
  have hB := hS.T.gb
  have ec := m_43 (d := d + 59) (x := x) (G := G) (L := L) (V := V) (v1 := v) (v2 := w) hS.V
  rw [hS.c.gdr, s_31, aV_if, s_38, aV_if] at ec
  refine OpI_2 (Y := ?Y) I0 ec ?_ (by decide) (by decide) ?_
  rotate_left
  · intro x1 G1 hs
    have hm := hS.m.sM hS.T hS.P hs
    rw [m_276, s_238 hm.gdr (by omega)]
    simp only [aI_o]
    rw [mbad g00_0 (by decide) (by decide) (by decide), h_276_27, s_253]
    simp only [aI_o]
    rw [mbad g00_0 (by decide) (by decide) (by decide)]
    rfl
  · intro h1 h2
    obtain ⟨i, rfl, hi⟩ := rng (by omega) h1
    obtain ⟨m, rfl, hm⟩ := rngl (by omega) h2
    obtain ⟨G1, a1, hS1, hh1, hn1, hs1, hr1⟩ := hS.s14 (d := d + 47) (x := x) (L := L) hh hn
    obtain ⟨g2, b1, b2, b3, b4, b5, b6⟩ := hS1.night (d := d + 19) (x := x) (L := L) (V := V) hh1 hn1 hr1
    obtain ⟨_, pl, q1, q2⟩ := b2.2 m (by omega)
    have e98 := s_98 (d := d + 58) (x := x) (G := G1) (L := L) (V := V) (b := 63) (e := i) (m := m) (Or.inl rfl) (by omega) hB.2.2.2.1 hi q1 (fun e he => (q2 e he).1)
    refine ⟨mi (pl i), G1, g2, ?_, hs1, ?_, b5, b6⟩
    · rw [a1]
      simp (disch := omega) only [i3_add, i3_mul, i3_sub, i3_m1, i3_lt, i3_le, i3_eq, m1_lt, lt_m1, m1_le, le_m1, i3_nm1, m1_ni3, i3_cl, i3_in, i3_or, i3_and, i3_xor, i3_shl, i3_shr, sh_tb, tb_eq0, gd_tt, aI_o, aV_o, aL_o, aR_o, zd_0, zd_1, if_true, if_false, ite_self, eq_self, Bool.true_eq_false, Bool.false_eq_true, bi_0, bi_1, bi_zd, Nat.not_lt_zero, k_63, e98]
    · rw [b1]
      simp (disch := omega) only [i3_add, i3_mul, i3_sub, i3_m1, i3_lt, i3_le, i3_eq, m1_lt, lt_m1, m1_le, le_m1, i3_nm1, m1_ni3, i3_cl, i3_in, i3_or, i3_and, i3_xor, i3_shl, i3_shr, sh_tb, tb_eq0, gd_tt, aI_o, aV_o, aL_o, aR_o, zd_0, zd_1, if_true, if_false, ite_self, eq_self, Bool.true_eq_false, Bool.false_eq_true, bi_0, bi_1, bi_zd, Nat.not_lt_zero, rr_309, ldr_309, (q2 i hi).2]
theorem op_44 {d x : Nat} {V : pV} {G : sm_G} {L : sm_L} {v w : Int32} (I : Inv V G) : OpI d x V G L 44 [.ref 1, .int v, .int w] 277 [.ref 156, .int v, .int w] eN := by
  have I0 := I
  obtain ⟨T, K, c, H, W, hS, hh, hn⟩ := I
  have hB := hS.T.gb
  have ec := m_44 (d := d + 59) (x := x) (G := G) (L := L) (V := V) (v1 := v) (v2 := w) hS.V
  rw [hS.c.gdr, s_31, aV_if, s_33, aV_if] at ec
  refine OpI_2 (Y := ?Y) I0 ec ?_ (by decide) (by decide) ?_
  rotate_left
  · intro x1 G1 hs
    have hm := hS.m.sM hS.T hS.P hs
    rw [m_277, s_238 hm.gdr (by omega)]
    simp only [aI_o]
    rw [mbad g00_0 (by decide) (by decide) (by decide), h_277_27, s_218c]
    simp only [aI_o]
    rw [mbad g00_0 (by decide) (by decide) (by decide)]
    rfl
  · intro h1 h2
    obtain ⟨i, rfl, hi⟩ := rng (by omega) h1
    obtain ⟨j, rfl, hj⟩ := rngl (by omega) h2
    obtain ⟨G1, a1, hS1, hh1, hn1, hs1, hr1⟩ := hS.s14 (d := d + 47) (x := x) (L := L) hh hn
    obtain ⟨g2, b1, b2, b3, b4, b5, b6⟩ := hS1.night (d := d + 19) (x := x) (L := L) (V := V) hh1 hn1 hr1
    obtain ⟨c1, c2, c3, c4, c5, c6, c7⟩ := b2.1 i hi
    have hq : j = 0 ∨ j = 1 ∨ j = 2 ∨ j = 3 ∨ j = 4 ∨ j = 5 := by omega
    rcases hq with rfl | rfl | rfl | rfl | rfl | rfl
    · refine ⟨g2 (315 + i) 0, G1, g2, ?_, hs1, ?_, b5, b6⟩
      · rw [a1]
        simp (disch := omega) only [i3_add, i3_mul, i3_sub, i3_m1, i3_lt, i3_le, i3_eq, m1_lt, lt_m1, m1_le, le_m1, i3_nm1, m1_ni3, i3_cl, i3_in, i3_or, i3_and, i3_xor, i3_shl, i3_shr, sh_tb, tb_eq0, gd_tt, aI_o, aV_o, aL_o, aR_o, zd_0, zd_1, if_true, if_false, ite_self, eq_self, Bool.true_eq_false, Bool.false_eq_true, bi_0, bi_1, bi_zd, Nat.not_lt_zero, k_63, q63_0, a64, n64, r64, i64, c1]
      · rw [b1]
        simp (disch := omega) only [i3_add, i3_mul, i3_sub, i3_m1, i3_lt, i3_le, i3_eq, m1_lt, lt_m1, m1_le, le_m1, i3_nm1, m1_ni3, i3_cl, i3_in, i3_or, i3_and, i3_xor, i3_shl, i3_shr, sh_tb, tb_eq0, gd_tt, aI_o, aV_o, aL_o, aR_o, zd_0, zd_1, if_true, if_false, ite_self, eq_self, Bool.true_eq_false, Bool.false_eq_true, bi_0, bi_1, bi_zd, Nat.not_lt_zero, rr_314, ldr_314]
    · refine ⟨g2 (315 + i) 1, G1, g2, ?_, hs1, ?_, b5, b6⟩
      · rw [a1]
        simp (disch := omega) only [i3_add, i3_mul, i3_sub, i3_m1, i3_lt, i3_le, i3_eq, m1_lt, lt_m1, m1_le, le_m1, i3_nm1, m1_ni3, i3_cl, i3_in, i3_or, i3_and, i3_xor, i3_shl, i3_shr, sh_tb, tb_eq0, gd_tt, aI_o, aV_o, aL_o, aR_o, zd_0, zd_1, if_true, if_false, ite_self, eq_self, Bool.true_eq_false, Bool.false_eq_true, bi_0, bi_1, bi_zd, Nat.not_lt_zero, Nat.reduceEqDiff, Nat.reduceLeDiff, Nat.reduceLT, k_63, q63_0, a64, n64, r64, i64, c2]
      · rw [b1]
        simp (disch := omega) only [i3_add, i3_mul, i3_sub, i3_m1, i3_lt, i3_le, i3_eq, m1_lt, lt_m1, m1_le, le_m1, i3_nm1, m1_ni3, i3_cl, i3_in, i3_or, i3_and, i3_xor, i3_shl, i3_shr, sh_tb, tb_eq0, gd_tt, aI_o, aV_o, aL_o, aR_o, zd_0, zd_1, if_true, if_false, ite_self, eq_self, Bool.true_eq_false, Bool.false_eq_true, bi_0, bi_1, bi_zd, Nat.not_lt_zero, rr_314, ldr_314]
    · refine ⟨g2 (315 + i) 2, G1, g2, ?_, hs1, ?_, b5, b6⟩
      · rw [a1]
        simp (disch := omega) only [i3_add, i3_mul, i3_sub, i3_m1, i3_lt, i3_le, i3_eq, m1_lt, lt_m1, m1_le, le_m1, i3_nm1, m1_ni3, i3_cl, i3_in, i3_or, i3_and, i3_xor, i3_shl, i3_shr, sh_tb, tb_eq0, gd_tt, aI_o, aV_o, aL_o, aR_o, zd_0, zd_1, if_true, if_false, ite_self, eq_self, Bool.true_eq_false, Bool.false_eq_true, bi_0, bi_1, bi_zd, Nat.not_lt_zero, Nat.reduceEqDiff, Nat.reduceLeDiff, Nat.reduceLT, k_63, q63_0, a64, n64, r64, i64, c3]
      · rw [b1]
        simp (disch := omega) only [i3_add, i3_mul, i3_sub, i3_m1, i3_lt, i3_le, i3_eq, m1_lt, lt_m1, m1_le, le_m1, i3_nm1, m1_ni3, i3_cl, i3_in, i3_or, i3_and, i3_xor, i3_shl, i3_shr, sh_tb, tb_eq0, gd_tt, aI_o, aV_o, aL_o, aR_o, zd_0, zd_1, if_true, if_false, ite_self, eq_self, Bool.true_eq_false, Bool.false_eq_true, bi_0, bi_1, bi_zd, Nat.not_lt_zero, rr_314, ldr_314]
    · refine ⟨g2 (315 + i) 3, G1, g2, ?_, hs1, ?_, b5, b6⟩
      · rw [a1]
        simp (disch := omega) only [i3_add, i3_mul, i3_sub, i3_m1, i3_lt, i3_le, i3_eq, m1_lt, lt_m1, m1_le, le_m1, i3_nm1, m1_ni3, i3_cl, i3_in, i3_or, i3_and, i3_xor, i3_shl, i3_shr, sh_tb, tb_eq0, gd_tt, aI_o, aV_o, aL_o, aR_o, zd_0, zd_1, if_true, if_false, ite_self, eq_self, Bool.true_eq_false, Bool.false_eq_true, bi_0, bi_1, bi_zd, Nat.not_lt_zero, Nat.reduceEqDiff, Nat.reduceLeDiff, Nat.reduceLT, k_63, q63_0, a64, n64, r64, i64, c4]
      · rw [b1]
        simp (disch := omega) only [i3_add, i3_mul, i3_sub, i3_m1, i3_lt, i3_le, i3_eq, m1_lt, lt_m1, m1_le, le_m1, i3_nm1, m1_ni3, i3_cl, i3_in, i3_or, i3_and, i3_xor, i3_shl, i3_shr, sh_tb, tb_eq0, gd_tt, aI_o, aV_o, aL_o, aR_o, zd_0, zd_1, if_true, if_false, ite_self, eq_self, Bool.true_eq_false, Bool.false_eq_true, bi_0, bi_1, bi_zd, Nat.not_lt_zero, rr_314, ldr_314]
    · refine ⟨g2 (315 + i) 4, G1, g2, ?_, hs1, ?_, b5, b6⟩
      · rw [a1]
        simp (disch := omega) only [i3_add, i3_mul, i3_sub, i3_m1, i3_lt, i3_le, i3_eq, m1_lt, lt_m1, m1_le, le_m1, i3_nm1, m1_ni3, i3_cl, i3_in, i3_or, i3_and, i3_xor, i3_shl, i3_shr, sh_tb, tb_eq0, gd_tt, aI_o, aV_o, aL_o, aR_o, zd_0, zd_1, if_true, if_false, ite_self, eq_self, Bool.true_eq_false, Bool.false_eq_true, bi_0, bi_1, bi_zd, Nat.not_lt_zero, Nat.reduceEqDiff, Nat.reduceLeDiff, Nat.reduceLT, k_63, q63_0, a64, n64, r64, i64, c5]
      · rw [b1]
        simp (disch := omega) only [i3_add, i3_mul, i3_sub, i3_m1, i3_lt, i3_le, i3_eq, m1_lt, lt_m1, m1_le, le_m1, i3_nm1, m1_ni3, i3_cl, i3_in, i3_or, i3_and, i3_xor, i3_shl, i3_shr, sh_tb, tb_eq0, gd_tt, aI_o, aV_o, aL_o, aR_o, zd_0, zd_1, if_true, if_false, ite_self, eq_self, Bool.true_eq_false, Bool.false_eq_true, bi_0, bi_1, bi_zd, Nat.not_lt_zero, rr_314, ldr_314]
    · refine ⟨g2 (315 + i) 5, G1, g2, ?_, hs1, ?_, b5, b6⟩
      · rw [a1]
        rcases c7 with c7 | c7
        · rw [c7] at c6 ⊢
          simp (disch := omega) only [i3_add, i3_mul, i3_sub, i3_m1, i3_lt, i3_le, i3_eq, m1_lt, lt_m1, m1_le, le_m1, i3_nm1, m1_ni3, i3_cl, i3_in, i3_or, i3_and, i3_xor, i3_shl, i3_shr, sh_tb, tb_eq0, gd_tt, aI_o, aV_o, aL_o, aR_o, zd_0, zd_1, if_true, if_false, ite_self, eq_self, Bool.true_eq_false, Bool.false_eq_true, bi_0, bi_1, bi_zd, Nat.not_lt_zero, Nat.reduceEqDiff, Nat.reduceLeDiff, Nat.reduceLT, k_63, q63_0, a64, n64, r64, i64, c6]
        · rw [c7] at c6 ⊢
          simp (disch := omega) only [i3_add, i3_mul, i3_sub, i3_m1, i3_lt, i3_le, i3_eq, m1_lt, lt_m1, m1_le, le_m1, i3_nm1, m1_ni3, i3_cl, i3_in, i3_or, i3_and, i3_xor, i3_shl, i3_shr, sh_tb, tb_eq0, gd_tt, aI_o, aV_o, aL_o, aR_o, zd_0, zd_1, if_true, if_false, ite_self, eq_self, Bool.true_eq_false, Bool.false_eq_true, bi_0, bi_1, bi_zd, Nat.not_lt_zero, Nat.reduceEqDiff, Nat.reduceLeDiff, Nat.reduceLT, k_63, q63_0, a64, n64, r64, i64, c6]
      · rw [b1]
        simp (disch := omega) only [i3_add, i3_mul, i3_sub, i3_m1, i3_lt, i3_le, i3_eq, m1_lt, lt_m1, m1_le, le_m1, i3_nm1, m1_ni3, i3_cl, i3_in, i3_or, i3_and, i3_xor, i3_shl, i3_shr, sh_tb, tb_eq0, gd_tt, aI_o, aV_o, aL_o, aR_o, zd_0, zd_1, if_true, if_false, ite_self, eq_self, Bool.true_eq_false, Bool.false_eq_true, bi_0, bi_1, bi_zd, Nat.not_lt_zero, rr_314, ldr_314]
theorem op_13 {d x : Nat} {V : pV} {G : sm_G} {L : sm_L} {E : Nat → Nat} (I : Inv V G) : OpI d x V G L 13 [.ref 1] 278 [.ref 156] E := by
  have I0 := I
  obtain ⟨T, K, c, H, W, hS, hh, hn⟩ := I
  have hB := hS.T.gb
  have ec := m_13 (d := d + 59) (x := x) (G := G) (L := L) (V := V)
  refine OpI_0 ec ?_
  obtain ⟨G1, a1, hS1, hh1, hn1, hs1, hr1⟩ := hS.s14 (d := d + 47) (x := x) (L := L) hh hn
  obtain ⟨g2, b1, b2, b3, b4, b5, b6⟩ := hS1.night (d := d + 19) (x := x) (L := L) (V := V) hh1 hn1 hr1
  have e97 := s_97 (d := d + 58) (x := x) (G := G1) (L := L) (V := V) (b := 63) (s := V.1) (Or.inl rfl) (hV1 hS.V) hS1.c.gdr hB.2.2.2.1
  refine ⟨i3 (lostB G1 63 (dr T)), G1, g2, ?_, ?_, b5, b6⟩
  · rw [a1]
    simp (disch := omega) only [i3_add, i3_mul, i3_sub, i3_m1, i3_lt, i3_le, i3_eq, m1_lt, lt_m1, m1_le, le_m1, i3_nm1, m1_ni3, i3_cl, i3_in, i3_or, i3_and, i3_xor, i3_shl, i3_shr, sh_tb, tb_eq0, gd_tt, aI_o, aV_o, aL_o, aR_o, zd_0, zd_1, if_true, if_false, ite_self, eq_self, Bool.true_eq_false, Bool.false_eq_true, bi_0, bi_1, bi_zd, Nat.not_lt_zero, k_63, e97]
  · rw [m_278, b1]
    rfl
theorem op_63 {d x : Nat} {V : pV} {G : sm_G} {L : sm_L} {v : Int32} (I : Inv V G) : OpI d x V G L 63 [.ref 1, .int v] 308 [.ref 156, .int v] eA := by
  have I0 := I
  obtain ⟨T, K, c, H, W, hS, hh, hn⟩ := I
  have hB := hS.T.gb
  have ec := m_63 (d := d + 59) (x := x) (G := G) (L := L) (V := V) (v1 := v)
  rw [s_38, aV_if] at ec
  refine OpI_1 (Y := ?Y) I0 ec ?_ (by decide) ?_
  rotate_left
  · intro x1 G1 hs
    have hm := hS.m.sM hS.T hS.P hs
    rw [m_308, s_253]
    simp only [aI_o]
    rw [mbad g00_0 (by decide) (by decide) (by decide)]
    rfl
  · intro h1
    obtain ⟨m, rfl, hm⟩ := rngl (by omega) h1
    obtain ⟨G1, a1, hS1, hh1, hn1, hs1, hO⟩ := hS.s15 (d := d + 55) (x := x) (L := L) hh hn
    have hm0 := hS1.m.sM hS.T hS.P (sM_o (G := G1))
    have e254 := s_254 (d := d + 58) (x := x) (L := L) (V := V) (G := g00 G1)
    have gf1 : ∀ r k, ¬ (r = 306) → ¬ (r = 156 ∧ k = 41) → sm_up (fill (g00 G1) 306 8 (fun _ => i3 1000)) 156 41 (i3 K) r k = g00 G1 r k := fun r k a b => by rw [sm_up_ne (by omega), fill_ne (by omega)]
    have gf2 : ∀ k, k < 8 → sm_up (fill (g00 G1) 306 8 (fun _ => i3 1000)) 156 41 (i3 K) 306 k = i3 1000 := fun k h => by rw [sm_up_ne (by omega)]; exact fill_at h
    have gf3 : sm_up (fill (g00 G1) 306 8 (fun _ => i3 1000)) 156 41 (i3 K) 156 41 = i3 K := sm_up_same _ _ _ _
    have gf4 : fill (g00 G1) 306 8 (fun _ => i3 1000) 156 37 = i3 K := by rw [fill_ne (by omega)]; exact hm0.gkp
    have hO1 := (hO m (by omega)).1
    refine ⟨i3 (aB T (H c) K m), G1, sm_up (fill (g00 G1) 306 8 (fun _ => i3 1000)) 156 41 (i3 K), ?_, hs1, ?_, by rw [gf1 _ _ (by omega) (by omega)]; exact g00_0, Inv_q hS1 (fun _ _ _ => rfl) hh1 hn1 (fun r k a => by rw [gf1 r k (by unfold sc at a; omega) (by unfold sc at a; omega)]; exact g00_ne (by unfold sc at a; omega))⟩
    · rw [a1]
      simp (disch := omega) only [i3_add, i3_mul, i3_sub, i3_m1, i3_lt, i3_le, i3_eq, m1_lt, lt_m1, m1_le, le_m1, i3_nm1, m1_ni3, i3_cl, i3_in, i3_or, i3_and, i3_xor, i3_shl, i3_shr, sh_tb, tb_eq0, gd_tt, aI_o, aV_o, aL_o, aR_o, zd_0, zd_1, if_true, if_false, ite_self, eq_self, Bool.true_eq_false, Bool.false_eq_true, bi_0, bi_1, bi_zd, Nat.not_lt_zero, k_54, q_54_0, ldi_e k_55 n_55, hO1]
    · rw [e254]
      simp only [aV_o]
      rw [gf4]
      have hm2 : mH (sm_up (fill (g00 G1) 306 8 (fun _ => i3 1000)) 156 41 (i3 K)) T (H c) K := hm0.keep hS.T hS.P (fun r k a => gf1 r k (by unfold inM at a; omega) (by unfold inM at a; omega))
      generalize sm_up (fill (g00 G1) 306 8 (fun _ => i3 1000)) 156 41 (i3 K) = g2 at *
      unfold aB
      rw [← bs_itr]
      refine loop0 (H := fun k a => hD (d + 59) 308 44 [.ref 156, .int (i3 m), .int (i3 a), .int (i3 k)] 342 (RR V) x g2 L) (out := fun a => oI (i3 a) x g2 L) (N := sl T) ?_ ?_ 0
      · intro k a hk
        have e255 := s_255 (d := d + 58) (x := x) (G := g2) (L := L) (V := V) (w := fun k => k) (e := fun _ => 1000) (k := k) (m := m) hm2 hS.T hS.P gf3 hS.K8 (fun k hk => ⟨by rw [gf1 _ _ (by omega) (by omega), g00_ne (by omega)]; exact hS1.w k (by omega), by omega⟩) (fun k hk => ⟨gf2 k (by omega), Nat.le_refl _⟩) hk (by omega)
        rw [h_308_44, hm2.gsl, e255]
        show _ = hD (d + 59) 308 44 [.ref 156, .int (i3 m), .int (i3 (if slp T (H c) (fun k => k) (fun _ => 1000) K k m = true then a ||| 1 <<< k else a)), .int (i3 (k + 1))] 342 (RR V) x g2 L
        cases q : slp T (H c) (fun k => k) (fun _ => 1000) K k m
        · simp (disch := omega) only [i3_add, i3_mul, i3_sub, i3_m1, i3_lt, i3_le, i3_eq, m1_lt, lt_m1, m1_le, le_m1, i3_nm1, m1_ni3, i3_cl, i3_in, i3_or, i3_and, i3_xor, i3_shl, i3_shr, sh_tb, tb_eq0, gd_tt, aI_o, aV_o, aL_o, aR_o, zd_0, zd_1, if_true, if_false, ite_self, eq_self, Bool.true_eq_false, Bool.false_eq_true, bi_0, bi_1, bi_zd, Nat.not_lt_zero, hk, Nat.or_zero]
        · simp (disch := omega) only [i3_add, i3_mul, i3_sub, i3_m1, i3_lt, i3_le, i3_eq, m1_lt, lt_m1, m1_le, le_m1, i3_nm1, m1_ni3, i3_cl, i3_in, i3_or, i3_and, i3_xor, i3_shl, i3_shr, sh_tb, tb_eq0, gd_tt, aI_o, aV_o, aL_o, aR_o, zd_0, zd_1, if_true, if_false, ite_self, eq_self, Bool.true_eq_false, Bool.false_eq_true, bi_0, bi_1, bi_zd, Nat.not_lt_zero, hk]
      · intro a
        rw [h_308_44, hm2.gsl]
        simp (disch := omega) only [i3_add, i3_mul, i3_sub, i3_m1, i3_lt, i3_le, i3_eq, m1_lt, lt_m1, m1_le, le_m1, i3_nm1, m1_ni3, i3_cl, i3_in, i3_or, i3_and, i3_xor, i3_shl, i3_shr, sh_tb, tb_eq0, gd_tt, aI_o, aV_o, aL_o, aR_o, zd_0, zd_1, if_true, if_false, ite_self, eq_self, Bool.true_eq_false, Bool.false_eq_true, bi_0, bi_1, bi_zd, Nat.not_lt_zero, Nat.lt_irrefl]
theorem op_64 {d x : Nat} {V : pV} {G : sm_G} {L : sm_L} {v : Int32} (I : Inv V G) : OpI d x V G L 64 [.ref 1, .int v] 309 [.ref 156, .int v] eA := by
  have I0 := I
  obtain ⟨T, K, c, H, W, hS, hh, hn⟩ := I
  have hB := hS.T.gb
  have ec := m_64 (d := d + 59) (x := x) (G := G) (L := L) (V := V) (v1 := v)
  rw [s_38, aV_if] at ec
  refine OpI_1 (Y := ?Y) I0 ec ?_ (by decide) ?_
  rotate_left
  · intro x1 G1 hs
    have hm := hS.m.sM hS.T hS.P hs
    rw [m_309, s_253]
    simp only [aI_o]
    rw [mbad g00_0 (by decide) (by decide) (by decide)]
    rfl
  · intro h1
    obtain ⟨m, rfl, hm⟩ := rngl (by omega) h1
    obtain ⟨G1, a1, hS1, hh1, hn1, hs1, hO⟩ := hS.s15 (d := d + 55) (x := x) (L := L) hh hn
    obtain ⟨g2, b1, b2, b3, b5, b6, b7, b8⟩ := hS1.lays (d := d + 56) (x := x) (L := L) hh1 hn1
    have hO1 := (hO m (by omega)).2.1
    have c1 := (b2 m (by omega)).1
    refine ⟨i3 (tB T (H c) K m), G1, g2, ?_, hs1, ?_, b5, b6⟩
    · rw [a1]
      simp (disch := omega) only [i3_add, i3_mul, i3_sub, i3_m1, i3_lt, i3_le, i3_eq, m1_lt, lt_m1, m1_le, le_m1, i3_nm1, m1_ni3, i3_cl, i3_in, i3_or, i3_and, i3_xor, i3_shl, i3_shr, sh_tb, tb_eq0, gd_tt, aI_o, aV_o, aL_o, aR_o, zd_0, zd_1, if_true, if_false, ite_self, eq_self, Bool.true_eq_false, Bool.false_eq_true, bi_0, bi_1, bi_zd, Nat.not_lt_zero, k_54, q_54_1, ldi_e k_56 n_56, hO1]
    · rw [b1]
      simp (disch := omega) only [i3_add, i3_mul, i3_sub, i3_m1, i3_lt, i3_le, i3_eq, m1_lt, lt_m1, m1_le, le_m1, i3_nm1, m1_ni3, i3_cl, i3_in, i3_or, i3_and, i3_xor, i3_shl, i3_shr, sh_tb, tb_eq0, gd_tt, aI_o, aV_o, aL_o, aR_o, zd_0, zd_1, if_true, if_false, ite_self, eq_self, Bool.true_eq_false, Bool.false_eq_true, bi_0, bi_1, bi_zd, Nat.not_lt_zero, c1]
/-- the last minute in which a row is not empty -/
def lst (f : Nat → Nat) : Nat := itr (fun m a => if f m = 0 then a else m + 1) 0 301 0
theorem lst_le (f : Nat → Nat) : lst f ≤ 301 := by
  have key : ∀ n, itr (fun m a => if f m = 0 then a else m + 1) 0 n 0 ≤ n := by
    intro n
    induction n with
    | zero => exact Nat.le_refl _
    | succ n ih =>
      rw [itr_succ, Nat.zero_add]
      split <;> omega
  exact key 301
theorem s_19 {d x : Nat} {V : pV} {G : sm_G} {L : sm_L} {r : Nat} {f : Nat → Nat} (hr : r = 56 ∨ r = 58) (hf : ∀ m, m < 301 → G r m = i3 (f m) ∧ f m < 1024) : sm_cv0 (d + 1) 19 342 (RR V) [.ref r] (x, G, L) = oI (mi (lst f)) x G L := by
  have k1 : sm_is r 342 20 = true := by rcases hr with rfl | rfl; exact k_56; exact k_58
  have k2 : sm_N r = 301 := by rcases hr with rfl | rfl; exact n_56; exact n_58
  have k3 : (Nat.ble 20 (sm_K r) && Nat.ble (sm_K r) 27 && Nat.ble r 342) = true := by rcases hr with rfl | rfl <;> decide +kernel
  rw [m_19]
  refine loop0 (H := fun m a => hD d 19 4 [.ref r, .int (mi a), .int (i3 m)] 342 (RR V) x G L) (out := fun a => oI (mi a) x G L) (N := 301) (step := fun m a => if f m = 0 then a else m + 1) ?_ ?_ 0
  · intro m a hm
    obtain ⟨h1, h2⟩ := hf m hm
    rw [h_19_4, aln_e k3 k2]
    by_cases q : f m = 0
    · simp (disch := omega) only [i3_add, i3_mul, i3_sub, i3_m1, i3_lt, i3_le, i3_eq, m1_lt, lt_m1, m1_le, le_m1, i3_nm1, m1_ni3, i3_cl, i3_in, i3_or, i3_and, i3_xor, i3_shl, i3_shr, sh_tb, tb_eq0, gd_tt, aI_o, aV_o, aL_o, aR_o, zd_0, zd_1, if_true, if_false, ite_self, eq_self, Bool.true_eq_false, Bool.false_eq_true, bi_0, bi_1, bi_zd, Nat.not_lt_zero, hm, ldi_e k1 k2, h1, q]
    · simp (disch := omega) only [i3_add, i3_mul, i3_sub, i3_m1, i3_lt, i3_le, i3_eq, m1_lt, lt_m1, m1_le, le_m1, i3_nm1, m1_ni3, i3_cl, i3_in, i3_or, i3_and, i3_xor, i3_shl, i3_shr, sh_tb, tb_eq0, gd_tt, aI_o, aV_o, aL_o, aR_o, zd_0, zd_1, if_true, if_false, ite_self, eq_self, Bool.true_eq_false, Bool.false_eq_true, bi_0, bi_1, bi_zd, Nat.not_lt_zero, hm, ldi_e k1 k2, h1, q, mi_succ]
  · intro a
    rw [h_19_4, aln_e k3 k2]
    simp (disch := omega) only [i3_add, i3_mul, i3_sub, i3_m1, i3_lt, i3_le, i3_eq, m1_lt, lt_m1, m1_le, le_m1, i3_nm1, m1_ni3, i3_cl, i3_in, i3_or, i3_and, i3_xor, i3_shl, i3_shr, sh_tb, tb_eq0, gd_tt, aI_o, aV_o, aL_o, aR_o, zd_0, zd_1, if_true, if_false, ite_self, eq_self, Bool.true_eq_false, Bool.false_eq_true, bi_0, bi_1, bi_zd, Nat.not_lt_zero, Nat.lt_irrefl]
theorem op_18 {d x : Nat} {V : pV} {G : sm_G} {L : sm_L} {E : Nat → Nat} (I : Inv V G) : OpI d x V G L 18 [.ref 1] 317 [.ref 156] E := by
  have I0 := I
  obtain ⟨T, K, c, H, W, hS, hh, hn⟩ := I
  have hB := hS.T.gb
  have ec := m_18 (d := d + 59) (x := x) (G := G) (L := L) (V := V)
  refine OpI_0 ec ?_
  obtain ⟨G1, a1, hS1, hh1, hn1, hs1, hO⟩ := hS.s15 (d := d + 55) (x := x) (L := L) hh hn
  obtain ⟨g2, b1, b2, b3, b5, b6, b7, b8⟩ := hS1.lays (d := d + 56) (x := x) (L := L) hh1 hn1
  have e19 := s_19 (d := d + 58) (x := x) (G := G1) (L := L) (V := V) (r := 56) (f := tB T (H c) K) (Or.inl rfl) (fun m hm => ⟨(hO m hm).2.1, by have := (b2 m hm).2.2.1; omega⟩)
  refine ⟨mi (lst (tB T (H c) K)), G1, g2, ?_, ?_, b5, b6⟩
  · rw [a1]
    simp (disch := omega) only [i3_add, i3_mul, i3_sub, i3_m1, i3_lt, i3_le, i3_eq, m1_lt, lt_m1, m1_le, le_m1, i3_nm1, m1_ni3, i3_cl, i3_in, i3_or, i3_and, i3_xor, i3_shl, i3_shr, sh_tb, tb_eq0, gd_tt, aI_o, aV_o, aL_o, aR_o, zd_0, zd_1, if_true, if_false, ite_self, eq_self, Bool.true_eq_false, Bool.false_eq_true, bi_0, bi_1, bi_zd, Nat.not_lt_zero, k_54, q_54_1, e19]
  · rw [m_317, b1]
    simp only [aV_o]
    refine loop0 (H := fun m a => hD (d + 59) 317 13 [.ref 156, .int (mi a), .int (i3 m)] 342 (RR V) x g2 L) (out := fun a => oI (mi a) x g2 L) (N := 301) (step := fun m a => if tB T (H c) K m = 0 then a else m + 1) ?_ ?_ 0
    · intro m a hm
      obtain ⟨q1, _, q2, _⟩ := b2 m hm
      rw [h_317_13]
      by_cases q : tB T (H c) K m = 0
      · simp (disch := omega) only [i3_add, i3_mul, i3_sub, i3_m1, i3_lt, i3_le, i3_eq, m1_lt, lt_m1, m1_le, le_m1, i3_nm1, m1_ni3, i3_cl, i3_in, i3_or, i3_and, i3_xor, i3_shl, i3_shr, sh_tb, tb_eq0, gd_tt, aI_o, aV_o, aL_o, aR_o, zd_0, zd_1, if_true, if_false, ite_self, eq_self, Bool.true_eq_false, Bool.false_eq_true, bi_0, bi_1, bi_zd, Nat.not_lt_zero, hm, q1, q]
      · simp (disch := omega) only [i3_add, i3_mul, i3_sub, i3_m1, i3_lt, i3_le, i3_eq, m1_lt, lt_m1, m1_le, le_m1, i3_nm1, m1_ni3, i3_cl, i3_in, i3_or, i3_and, i3_xor, i3_shl, i3_shr, sh_tb, tb_eq0, gd_tt, aI_o, aV_o, aL_o, aR_o, zd_0, zd_1, if_true, if_false, ite_self, eq_self, Bool.true_eq_false, Bool.false_eq_true, bi_0, bi_1, bi_zd, Nat.not_lt_zero, hm, q1, q, mi_succ]
    · intro a
      rw [h_317_13]
      simp (disch := omega) only [i3_add, i3_mul, i3_sub, i3_m1, i3_lt, i3_le, i3_eq, m1_lt, lt_m1, m1_le, le_m1, i3_nm1, m1_ni3, i3_cl, i3_in, i3_or, i3_and, i3_xor, i3_shl, i3_shr, sh_tb, tb_eq0, gd_tt, aI_o, aV_o, aL_o, aR_o, zd_0, zd_1, if_true, if_false, ite_self, eq_self, Bool.true_eq_false, Bool.false_eq_true, bi_0, bi_1, bi_zd, Nat.not_lt_zero, Nat.lt_irrefl]
theorem op_70 {d x : Nat} {V : pV} {G : sm_G} {L : sm_L} {v : Int32} (I : Inv V G) : OpI d x V G L 70 [.ref 1, .int v] 319 [.ref 156, .int v] eN := by
  have I0 := I
  obtain ⟨T, K, c, H, W, hS, hh, hn⟩ := I
  have hB := hS.T.gb
  have ec := m_70 (d := d + 59) (x := x) (G := G) (L := L) (V := V) (v1 := v) hS.V
  rw [hS.c.gdn, s_31, aV_if] at ec
  refine OpI_1 (Y := ?Y) I0 ec ?_ (by decide) ?_
  rotate_left
  · intro x1 G1 hs
    have hm := hS.m.sM hS.T hS.P hs
    rw [m_319, s_250 hm.gdn (by omega)]
    simp only [aI_o]
    rw [mbad g00_0 (by decide) (by decide) (by decide)]
    rfl
  · intro h1
    obtain ⟨i, rfl, hi⟩ := rng (by omega) h1
    obtain ⟨G1, a1, hS1, hh1, hn1, hs1, hO⟩ := hS.s15 (d := d + 55) (x := x) (L := L) hh hn
    obtain ⟨g2, b1, b2, b3, b5, b6, b7, b8⟩ := hS1.lays (d := d + 56) (x := x) (L := L) hh1 hn1
    refine ⟨i3 (itr (fun m a => a + tb (dat T (H c) m) i) 0 301 0), G1, g2, ?_, hs1, ?_, b5, b6⟩
    · rw [a1]
      simp (disch := omega) only [i3_add, i3_mul, i3_sub, i3_m1, i3_lt, i3_le, i3_eq, m1_lt, lt_m1, m1_le, le_m1, i3_nm1, m1_ni3, i3_cl, i3_in, i3_or, i3_and, i3_xor, i3_shl, i3_shr, sh_tb, tb_eq0, gd_tt, aI_o, aV_o, aL_o, aR_o, zd_0, zd_1, if_true, if_false, ite_self, eq_self, Bool.true_eq_false, Bool.false_eq_true, bi_0, bi_1, bi_zd, Nat.not_lt_zero, k_54, q_54_2]
      refine loop0 (H := fun m a => hD (d + 59) 70 25 [.null, .int (i3 i), .ref 57, .int (i3 a), .int (i3 m)] 342 (RR V) x G1 L) (out := fun a => oI (i3 a) x G1 L) (N := 301) (step := fun m a => a + tb (dat T (H c) m) i) ?_ ?_ 0
      · intro m a hm
        have q1 := (hO m hm).2.2
        have q2 := (b2 m hm).2.2.2
        rw [h_70_25]
        simp (disch := omega) only [i3_add, i3_mul, i3_sub, i3_m1, i3_lt, i3_le, i3_eq, m1_lt, lt_m1, m1_le, le_m1, i3_nm1, m1_ni3, i3_cl, i3_in, i3_or, i3_and, i3_xor, i3_shl, i3_shr, sh_tb, tb_eq0, gd_tt, aI_o, aV_o, aL_o, aR_o, zd_0, zd_1, if_true, if_false, ite_self, eq_self, Bool.true_eq_false, Bool.false_eq_true, bi_0, bi_1, bi_zd, Nat.not_lt_zero, hm, ldi_e k_57 n_57, q1]
      · intro a
        rw [h_70_25]
        simp (disch := omega) only [i3_add, i3_mul, i3_sub, i3_m1, i3_lt, i3_le, i3_eq, m1_lt, lt_m1, m1_le, le_m1, i3_nm1, m1_ni3, i3_cl, i3_in, i3_or, i3_and, i3_xor, i3_shl, i3_shr, sh_tb, tb_eq0, gd_tt, aI_o, aV_o, aL_o, aR_o, zd_0, zd_1, if_true, if_false, ite_self, eq_self, Bool.true_eq_false, Bool.false_eq_true, bi_0, bi_1, bi_zd, Nat.not_lt_zero, Nat.lt_irrefl]
    · rw [b1]
      simp only [aV_o]
      refine loop0 (H := fun m a => hD (d + 59) 319 37 [.ref 156, .int (i3 i), .int (i3 a), .int (i3 m)] 342 (RR V) x g2 L) (out := fun a => oI (i3 a) x g2 L) (N := 301) (step := fun m a => a + tb (dat T (H c) m) i) ?_ ?_ 0
      · intro m a hm
        obtain ⟨_, q1, _, q2⟩ := b2 m hm
        rw [h_319_37]
        simp (disch := omega) only [i3_add, i3_mul, i3_sub, i3_m1, i3_lt, i3_le, i3_eq, m1_lt, lt_m1, m1_le, le_m1, i3_nm1, m1_ni3, i3_cl, i3_in, i3_or, i3_and, i3_xor, i3_shl, i3_shr, sh_tb, tb_eq0, gd_tt, aI_o, aV_o, aL_o, aR_o, zd_0, zd_1, if_true, if_false, ite_self, eq_self, Bool.true_eq_false, Bool.false_eq_true, bi_0, bi_1, bi_zd, Nat.not_lt_zero, hm, q1]
      · intro a
        rw [h_319_37]
        simp (disch := omega) only [i3_add, i3_mul, i3_sub, i3_m1, i3_lt, i3_le, i3_eq, m1_lt, lt_m1, m1_le, le_m1, i3_nm1, m1_ni3, i3_cl, i3_in, i3_or, i3_and, i3_xor, i3_shl, i3_shr, sh_tb, tb_eq0, gd_tt, aI_o, aV_o, aL_o, aR_o, zd_0, zd_1, if_true, if_false, ite_self, eq_self, Bool.true_eq_false, Bool.false_eq_true, bi_0, bi_1, bi_zd, Nat.not_lt_zero, Nat.lt_irrefl]
