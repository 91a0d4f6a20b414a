theorem s_282 {d x : Nat} {V : pV} {G : sm_G} {L : sm_L} {v w u : Int32} {n : Nat} (hn : G 160 0 = i3 n) (h : n < 1000) (h0 : G 156 0 = i3 0) : sm_cv0 (d + 4) 282 342 (RR V) [.ref 156, .int v, .int w, .int u] (x, G, L) = if (¬ v < i3 0 ∧ v < i3 n) ∧ (¬ w < i3 0 ∧ w < i3 n) then (if ¬ u < i3 0 ∧ u ≤ i3 300 then oI (i3 0) x G L else oI (i3 1) x (sm_up (sm_up G 156 0 (i3 2)) 158 2 (G 158 2 + i3 1)) L) else oI (i3 1) x (sm_up (sm_up G 156 0 (i3 1)) 158 0 (G 158 0 + i3 1)) L := by
  have b1 := s_219b (d := d + 2) (x := x) (L := L) (V := V) (a := 1) (k := 0) (by decide) (by decide) (by decide) h0
  have b2 := s_219b (d := d + 2) (x := x) (L := L) (V := V) (a := 2) (k := 2) (by decide) (by decide) (by decide) h0
  have o1 := fun v2 v3 => s_219o (d := d + 2) (x := x) (L := L) (V := V) (v2 := v2) (v3 := v3) h0
  rw [m_282, s_283 hn h]
  by_cases q : (¬ v < i3 0 ∧ v < i3 n) ∧ (¬ w < i3 0 ∧ w < i3 n)
  · rw [decide_eq_true q, if_pos q, show bi true = i3 1 from rfl]
    simp (disch := omega) only [i3_add, i3_mul, i3_sub, i3_m1, i3_lt, i3_le, i3_eq, m1_lt, lt_m1, m1_le, le_m1, i3_nm1, m1_ni3, i3_cl, i3_in, i3_or, i3_and, i3_xor, i3_shl, i3_shr, sh_tb, tb_eq0, gd_tt, aI_o, aV_o, aL_o, aR_o, zd_0, zd_1, if_true, if_false, ite_self, eq_self, Bool.true_eq_false, Bool.false_eq_true, bi_0, bi_1, bi_zd, Nat.not_lt_zero, o1, show ¬ (1 : Nat) = 0 by decide]
    rw [h_282_23, s_253]
    by_cases q2 : ¬ u < i3 0 ∧ u ≤ i3 300
    · rw [decide_eq_true q2, if_pos q2, show bi true = i3 1 from rfl]
      simp (disch := omega) only [i3_add, i3_mul, i3_sub, i3_m1, i3_lt, i3_le, i3_eq, m1_lt, lt_m1, m1_le, le_m1, i3_nm1, m1_ni3, i3_cl, i3_in, i3_or, i3_and, i3_xor, i3_shl, i3_shr, sh_tb, tb_eq0, gd_tt, aI_o, aV_o, aL_o, aR_o, zd_0, zd_1, if_true, if_false, ite_self, eq_self, Bool.true_eq_false, Bool.false_eq_true, bi_0, bi_1, bi_zd, Nat.not_lt_zero, o1, show ¬ (1 : Nat) = 0 by decide]
    · rw [decide_eq_false q2, if_neg q2, show bi false = i3 0 from rfl]
      simp (disch := omega) only [i3_add, i3_mul, i3_sub, i3_m1, i3_lt, i3_le, i3_eq, m1_lt, lt_m1, m1_le, le_m1, i3_nm1, m1_ni3, i3_cl, i3_in, i3_or, i3_and, i3_xor, i3_shl, i3_shr, sh_tb, tb_eq0, gd_tt, aI_o, aV_o, aL_o, aR_o, zd_0, zd_1, if_true, if_false, ite_self, eq_self, Bool.true_eq_false, Bool.false_eq_true, bi_0, bi_1, bi_zd, Nat.not_lt_zero, b2, show ¬ (1 : Nat) = 0 by decide]
  · rw [decide_eq_false q, if_neg q, show bi false = i3 0 from rfl]
    simp (disch := omega) only [i3_add, i3_mul, i3_sub, i3_m1, i3_lt, i3_le, i3_eq, m1_lt, lt_m1, m1_le, le_m1, i3_nm1, m1_ni3, i3_cl, i3_in, i3_or, i3_and, i3_xor, i3_shl, i3_shr, sh_tb, tb_eq0, gd_tt, aI_o, aV_o, aL_o, aR_o, zd_0, zd_1, if_true, if_false, ite_self, eq_self, Bool.true_eq_false, Bool.false_eq_true, bi_0, bi_1, bi_zd, Nat.not_lt_zero, b1, show ¬ (1 : Nat) = 0 by decide]
