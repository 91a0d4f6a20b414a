/-! often: one refusal only -/
theorem op_70n {d x : Nat} {V : pV} {G : sm_G} {L : sm_L} {v : Int32} (I : Inv V G) : OpI d x V G L 70 [.ref 1, .int v] 319 [.ref 156, .int v] eN1 := by
  have I0 := I
  obtain ⟨T, K, c, H, W, hS, hh, hn⟩ := I
  have hB := hS.T.gb
  have ec := m_70 (d := d + 59) (x := x) (G := G) (L := L) (V := V) (v1 := v) hS.V
  rw [hS.c.gdn, s_31, aV_if] at ec
  refine OpI_1 (Y := ?Y) I0 ec ?_ (by decide) ?_
  rotate_left
  · intro x1 G1 hs
    have hm := hS.m.sM hS.T hS.P hs
    rw [m_319, s_250 hm.gdn (by omega)]
    simp only [aI_o]
    rw [mbad g00_0 (by decide) (by decide) (by decide)]
    rfl
  · intro h1
    obtain ⟨i, rfl, hi⟩ := rng (by omega) h1
    obtain ⟨G1, a1, hS1, hh1, hn1, hs1, hO⟩ := hS.s15 (d := d + 55) (x := x) (L := L) hh hn
    obtain ⟨g2, b1, b2, b3, b5, b6, b7, b8⟩ := hS1.lays (d := d + 56) (x := x) (L := L) hh1 hn1
    refine ⟨i3 (itr (fun m a => a + tb (dat T (H c) m) i) 0 301 0), G1, g2, ?_, hs1, ?_, b5, b6⟩
    · rw [a1]
      simp (disch := omega) only [i3_add, i3_mul, i3_sub, i3_m1, i3_lt, i3_le, i3_eq, m1_lt, lt_m1, m1_le, le_m1, i3_nm1, m1_ni3, i3_cl, i3_in, i3_or, i3_and, i3_xor, i3_shl, i3_shr, sh_tb, tb_eq0, gd_tt, aI_o, aV_o, aL_o, aR_o, zd_0, zd_1, if_true, if_false, ite_self, eq_self, Bool.true_eq_false, Bool.false_eq_true, bi_0, bi_1, bi_zd, Nat.not_lt_zero, k_54, q_54_2]
      refine loop0 (H := fun m a => hD (d + 59) 70 25 [.null, .int (i3 i), .ref 57, .int (i3 a), .int (i3 m)] 342 (RR V) x G1 L) (out := fun a => oI (i3 a) x G1 L) (N := 301) (step := fun m a => a + tb (dat T (H c) m) i) ?_ ?_ 0
      · intro m a hm
        have q1 := (hO m hm).2.2
        have q2 := (b2 m hm).2.2.2
        rw [h_70_25]
        simp (disch := omega) only [i3_add, i3_mul, i3_sub, i3_m1, i3_lt, i3_le, i3_eq, m1_lt, lt_m1, m1_le, le_m1, i3_nm1, m1_ni3, i3_cl, i3_in, i3_or, i3_and, i3_xor, i3_shl, i3_shr, sh_tb, tb_eq0, gd_tt, aI_o, aV_o, aL_o, aR_o, zd_0, zd_1, if_true, if_false, ite_self, eq_self, Bool.true_eq_false, Bool.false_eq_true, bi_0, bi_1, bi_zd, Nat.not_lt_zero, hm, ldi_e k_57 n_57, q1]
      · intro a
        rw [h_70_25]
        simp (disch := omega) only [i3_add, i3_mul, i3_sub, i3_m1, i3_lt, i3_le, i3_eq, m1_lt, lt_m1, m1_le, le_m1, i3_nm1, m1_ni3, i3_cl, i3_in, i3_or, i3_and, i3_xor, i3_shl, i3_shr, sh_tb, tb_eq0, gd_tt, aI_o, aV_o, aL_o, aR_o, zd_0, zd_1, if_true, if_false, ite_self, eq_self, Bool.true_eq_false, Bool.false_eq_true, bi_0, bi_1, bi_zd, Nat.not_lt_zero, Nat.lt_irrefl]
    · rw [b1]
      simp only [aV_o]
      refine loop0 (H := fun m a => hD (d + 59) 319 37 [.ref 156, .int (i3 i), .int (i3 a), .int (i3 m)] 342 (RR V) x g2 L) (out := fun a => oI (i3 a) x g2 L) (N := 301) (step := fun m a => a + tb (dat T (H c) m) i) ?_ ?_ 0
      · intro m a hm
        obtain ⟨_, q1, _, q2⟩ := b2 m hm
        rw [h_319_37]
        simp (disch := omega) only [i3_add, i3_mul, i3_sub, i3_m1, i3_lt, i3_le, i3_eq, m1_lt, lt_m1, m1_le, le_m1, i3_nm1, m1_ni3, i3_cl, i3_in, i3_or, i3_and, i3_xor, i3_shl, i3_shr, sh_tb, tb_eq0, gd_tt, aI_o, aV_o, aL_o, aR_o, zd_0, zd_1, if_true, if_false, ite_self, eq_self, Bool.true_eq_false, Bool.false_eq_true, bi_0, bi_1, bi_zd, Nat.not_lt_zero, hm, q1]
      · intro a
        rw [h_319_37]
        simp (disch := omega) only [i3_add, i3_mul, i3_sub, i3_m1, i3_lt, i3_le, i3_eq, m1_lt, lt_m1, m1_le, le_m1, i3_nm1, m1_ni3, i3_cl, i3_in, i3_or, i3_and, i3_xor, i3_shl, i3_shr, sh_tb, tb_eq0, gd_tt, aI_o, aV_o, aL_o, aR_o, zd_0, zd_1, if_true, if_false, ite_self, eq_self, Bool.true_eq_false, Bool.false_eq_true, bi_0, bi_1, bi_zd, Nat.not_lt_zero, Nat.lt_irrefl]

