theorem pre_mi {n : Nat} (h : n < 2147483648) : i3 n - i3 1 = mi n := by
  cases n with
  | zero => decide
  | succ n => rw [mi_succ, i3_sub (by omega)]; rfl
theorem in_pre {v : Int32} {n : Nat} (h : n < 1000) : (i3 0 ≤ v ∧ v ≤ mi n) ↔ (¬ v < i3 0 ∧ v < i3 n) := by
  rcases neg_or v with hv | ⟨k, rfl, hk⟩
  · constructor
    · intro z; exact absurd hv (Int32.not_lt.mpr z.1)
    · intro z; exact absurd hv z.1
  · cases n with
    | zero =>
      simp (disch := omega) only [i3_add, i3_mul, i3_sub, i3_m1, i3_lt, i3_le, i3_eq, m1_lt, lt_m1, m1_le, le_m1, i3_nm1, m1_ni3, i3_cl, i3_in, i3_or, i3_and, i3_xor, i3_shl, i3_shr, sh_tb, tb_eq0, gd_tt, aI_o, aV_o, aL_o, aR_o, zd_0, zd_1, if_true, if_false, ite_self, eq_self, Bool.true_eq_false, Bool.false_eq_true, bi_0, bi_1, bi_zd, Nat.not_lt_zero, mi_zero, and_false]
    | succ n =>
      simp (disch := omega) only [i3_add, i3_mul, i3_sub, i3_m1, i3_lt, i3_le, i3_eq, m1_lt, lt_m1, m1_le, le_m1, i3_nm1, m1_ni3, i3_cl, i3_in, i3_or, i3_and, i3_xor, i3_shl, i3_shr, sh_tb, tb_eq0, gd_tt, aI_o, aV_o, aL_o, aR_o, zd_0, zd_1, if_true, if_false, ite_self, eq_self, Bool.true_eq_false, Bool.false_eq_true, bi_0, bi_1, bi_zd, Nat.not_lt_zero, mi_succ, not_false_iff, true_and, Nat.zero_le]
      exact ⟨fun z => by omega, fun z => by omega⟩
theorem s_253 {d x : Nat} {V : pV} {G : sm_G} {L : sm_L} {v : Int32} : sm_cv0 (d + 2) 253 342 (RR V) [.int v] (x, G, L) = oI (bi (decide (¬ v < i3 0 ∧ v ≤ i3 300))) x G L := by
  rw [m_253, s_218]
  by_cases h : ¬ v < i3 0 ∧ v ≤ i3 300
  · rw [decide_eq_true h, if_pos ⟨Int32.not_lt.mp h.1, h.2⟩]
    rfl
  · rw [decide_eq_false h, if_neg (fun z => h ⟨Int32.not_lt.mpr z.1, z.2⟩)]
    rfl
theorem s_248 {d x : Nat} {V : pV} {G : sm_G} {L : sm_L} {v : Int32} {n : Nat} (hn : G 160 0 = i3 n) (h : n < 1000) : sm_cv0 (d + 2) 248 342 (RR V) [.ref 156, .int v] (x, G, L) = oI (bi (decide (¬ v < i3 0 ∧ v < i3 n))) x G L := by
  rw [m_248, hn, pre_mi (by omega), s_218]
  by_cases q : ¬ v < i3 0 ∧ v < i3 n
  · rw [decide_eq_true q, if_pos ((in_pre h).mpr q)]
    rfl
  · rw [decide_eq_false q, if_neg (fun z => q ((in_pre h).mp z))]
    rfl
theorem s_250 {d x : Nat} {V : pV} {G : sm_G} {L : sm_L} {v : Int32} {n : Nat} (hn : G 160 1 = i3 n) (h : n < 1000) : sm_cv0 (d + 2) 250 342 (RR V) [.ref 156, .int v] (x, G, L) = oI (bi (decide (¬ v < i3 0 ∧ v < i3 n))) x G L := by
  rw [m_250, hn, pre_mi (by omega), s_218]
  by_cases q : ¬ v < i3 0 ∧ v < i3 n
  · rw [decide_eq_true q, if_pos ((in_pre h).mpr q)]
    rfl
  · rw [decide_eq_false q, if_neg (fun z => q ((in_pre h).mp z))]
    rfl
/-- when the model has noted nothing, a good one passes on -/
theorem s_219o {d x : Nat} {V : pV} {G : sm_G} {L : sm_L} {v2 v3 : Int32} (h0 : G 156 0 = i3 0) : sm_cv0 (d + 1) 219 342 (RR V) [.ref 156, .int (i3 0), .int v2, .int v3] (x, G, L) = oI (i3 0) x G L := by
  rw [s_219n, if_pos h0]
