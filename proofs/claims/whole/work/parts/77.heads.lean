/-! the model's heads of ways -/
theorem s_283 {d x : Nat} {V : pV} {G : sm_G} {L : sm_L} {v w : Int32} {n : Nat} (hn : G 160 0 = i3 n) (h : n < 1000) : sm_cv0 (d + 3) 283 342 (RR V) [.ref 156, .int v, .int w] (x, G, L) = oI (bi (decide ((¬ v < i3 0 ∧ v < i3 n) ∧ (¬ w < i3 0 ∧ w < i3 n)))) x G L := by
  rw [m_283, s_248 hn h]
  by_cases q : ¬ v < i3 0 ∧ v < i3 n
  · rw [decide_eq_true q, show bi true = i3 1 from rfl]
    simp (disch := omega) only [i3_add, i3_mul, i3_sub, i3_m1, i3_lt, i3_le, i3_eq, m1_lt, lt_m1, m1_le, le_m1, i3_nm1, m1_ni3, i3_cl, i3_in, i3_or, i3_and, i3_xor, i3_shl, i3_shr, sh_tb, tb_eq0, gd_tt, aI_o, aV_o, aL_o, aR_o, zd_0, zd_1, if_true, if_false, ite_self, eq_self, Bool.true_eq_false, Bool.false_eq_true, bi_0, bi_1, bi_zd, Nat.not_lt_zero, show ¬ (1 : Nat) = 0 by decide]
    rw [s_248 hn h]
    by_cases q2 : ¬ w < i3 0 ∧ w < i3 n
    · rw [decide_eq_true q2, decide_eq_true ⟨q, q2⟩, show bi true = i3 1 from rfl]
      simp (disch := omega) only [i3_add, i3_mul, i3_sub, i3_m1, i3_lt, i3_le, i3_eq, m1_lt, lt_m1, m1_le, le_m1, i3_nm1, m1_ni3, i3_cl, i3_in, i3_or, i3_and, i3_xor, i3_shl, i3_shr, sh_tb, tb_eq0, gd_tt, aI_o, aV_o, aL_o, aR_o, zd_0, zd_1, if_true, if_false, ite_self, eq_self, Bool.true_eq_false, Bool.false_eq_true, bi_0, bi_1, bi_zd, Nat.not_lt_zero, show ¬ (1 : Nat) = 0 by decide]
    · rw [decide_eq_false q2, decide_eq_false (fun z => q2 z.2), show bi false = i3 0 from rfl]
      simp (disch := omega) only [i3_add, i3_mul, i3_sub, i3_m1, i3_lt, i3_le, i3_eq, m1_lt, lt_m1, m1_le, le_m1, i3_nm1, m1_ni3, i3_cl, i3_in, i3_or, i3_and, i3_xor, i3_shl, i3_shr, sh_tb, tb_eq0, gd_tt, aI_o, aV_o, aL_o, aR_o, zd_0, zd_1, if_true, if_false, ite_self, eq_self, Bool.true_eq_false, Bool.false_eq_true, bi_0, bi_1, bi_zd, Nat.not_lt_zero]
  · rw [decide_eq_false q, decide_eq_false (fun z => q z.1), show bi false = i3 0 from rfl]
    simp (disch := omega) only [i3_add, i3_mul, i3_sub, i3_m1, i3_lt, i3_le, i3_eq, m1_lt, lt_m1, m1_le, le_m1, i3_nm1, m1_ni3, i3_cl, i3_in, i3_or, i3_and, i3_xor, i3_shl, i3_shr, sh_tb, tb_eq0, gd_tt, aI_o, aV_o, aL_o, aR_o, zd_0, zd_1, if_true, if_false, ite_self, eq_self, Bool.true_eq_false, Bool.false_eq_true, bi_0, bi_1, bi_zd, Nat.not_lt_zero]
