/-! refusals -/
theorem neg_or (v : Int32) : v < i3 0 ∨ ∃ k, v = i3 k ∧ k < 2147483648 := by
  by_cases h : v < i3 0
  · exact Or.inl h
  · right
    have h0 : (0 : Int) ≤ v.toInt := by
      have := mt Int32.lt_iff_toInt_lt.mpr h
      rw [i3_toInt (by decide)] at this
      omega
    have h1 := Int32.toInt_lt v
    refine ⟨v.toInt.toNat, ?_, by omega⟩
    apply Int32.toInt_inj.mp
    rw [i3_toInt (by omega)]
    omega
/-- the class refuses for reason k -/
abbrev rfC (k x : Nat) (G : sm_G) (L : sm_L) := oX k (x + 1) (sm_up G 4 k (G 4 k + i3 1)) L
theorem s_29 {d x : Nat} {V : pV} {G : sm_G} {L : sm_L} {b : Bool} : sm_cv0 (d + 1) 29 342 (RR V) [.ref 1, .int (bi b)] (x, G, L) = if b = true then oV x G L else rfC 2 x G L := by
  rw [m_29]
  cases b
  · simp (disch := omega) only [i3_add, i3_mul, i3_sub, i3_m1, i3_lt, i3_le, i3_eq, m1_lt, lt_m1, m1_le, le_m1, i3_nm1, m1_ni3, i3_cl, i3_in, i3_or, i3_and, i3_xor, i3_shl, i3_shr, sh_tb, tb_eq0, gd_tt, aI_o, aV_o, aL_o, aR_o, zd_0, zd_1, if_true, if_false, ite_self, eq_self, Bool.true_eq_false, Bool.false_eq_true, bi_0, bi_1, bi_zd, Nat.not_lt_zero]
  · simp (disch := omega) only [i3_add, i3_mul, i3_sub, i3_m1, i3_lt, i3_le, i3_eq, m1_lt, lt_m1, m1_le, le_m1, i3_nm1, m1_ni3, i3_cl, i3_in, i3_or, i3_and, i3_xor, i3_shl, i3_shr, sh_tb, tb_eq0, gd_tt, aI_o, aV_o, aL_o, aR_o, zd_0, zd_1, if_true, if_false, ite_self, eq_self, Bool.true_eq_false, Bool.false_eq_true, bi_0, bi_1, bi_zd, Nat.not_lt_zero]
theorem s_39 {d x : Nat} {V : pV} {G : sm_G} {L : sm_L} {v : Int32} : sm_cv0 (d + 1) 39 342 (RR V) [.int v] (x, G, L) = oI (bi (decide (¬ v < i3 0 ∧ v ≤ i3 300))) x G L := by
  rw [m_39]
  by_cases h : v < i3 0
  · rw [if_pos h, decide_eq_false (fun z => z.1 h)]
    rfl
  · by_cases h2 : v ≤ i3 300
    · rw [if_neg h, if_pos h2, decide_eq_true ⟨h, h2⟩]
      rfl
    · rw [if_neg h, if_neg h2, decide_eq_false (fun z => h2 z.2)]
      rfl
theorem s_38 {d x : Nat} {V : pV} {G : sm_G} {L : sm_L} {v : Int32} : sm_cv0 (d + 2) 38 342 (RR V) [.ref 1, .int v] (x, G, L) = if ¬ v < i3 0 ∧ v ≤ i3 300 then oV x G L else rfC 2 x G L := by
  rw [m_38, s_39]
  simp only [aI_o]
  rw [s_29]
  by_cases h : ¬ v < i3 0 ∧ v ≤ i3 300
  · rw [decide_eq_true h, if_pos rfl, if_pos h]
    rfl
  · rw [decide_eq_false h, if_neg (by decide), if_neg h]
    rfl
theorem s_31 {d x : Nat} {V : pV} {G : sm_G} {L : sm_L} {v n : Int32} : sm_cv0 (d + 1) 31 342 (RR V) [.ref 1, .int v, .int n] (x, G, L) = if ¬ v < i3 0 ∧ v < n then oV x G L else rfC 1 x G L := by
  rw [m_31]
  by_cases h : v < i3 0
  · rw [if_pos h, if_neg (fun z => z.1 h)]
  · rw [if_neg h]
    by_cases h2 : v < n
    · rw [if_pos h2, if_pos ⟨h, h2⟩]
    · rw [if_neg h2, if_neg (fun z => h2 z.2)]
theorem s_41 {d x : Nat} {V : pV} {G : sm_G} {L : sm_L} {v n : Int32} (hn : G V.1 9 = n) (hV : okV V) : sm_cv0 (d + 1) 41 342 (RR V) [.ref 1, .int v] (x, G, L) = if ¬ v < i3 0 ∧ v < n then oV x G L else rfC 0 x G L := by
  first | rw [m_41 hV] | rw [m_41]
  rw [hn]
  by_cases h : v < i3 0
  · rw [if_pos h, if_neg (fun z => z.1 h)]
  · rw [if_neg h]
    by_cases h2 : v < n
    · rw [if_pos h2, if_pos ⟨h, h2⟩]
    · rw [if_neg h2, if_neg (fun z => h2 z.2)]
theorem s_33 {d x : Nat} {V : pV} {G : sm_G} {L : sm_L} {v n : Int32} : sm_cv0 (d + 2) 33 342 (RR V) [.ref 1, .int v, .int n] (x, G, L) = if ¬ v < i3 0 ∧ v ≤ n then oV x G L else rfC 2 x G L := by
  have e0 := s_29 (d := d) (x := x) (G := G) (L := L) (V := V) (b := false)
  have e1 := s_29 (d := d) (x := x) (G := G) (L := L) (V := V) (b := true)
  rw [show bi false = i3 0 from rfl, if_neg (by decide)] at e0
  rw [show bi true = i3 1 from rfl, if_pos rfl] at e1
  rw [m_33, e0, e1]
  by_cases h : v < i3 0
  · rw [if_pos h, if_neg (fun z => z.1 h)]
    rfl
  · rw [if_neg h]
    by_cases h2 : v ≤ n
    · rw [if_pos h2, if_pos ⟨h, h2⟩]
      rfl
    · rw [if_neg h2, if_neg (fun z => h2 z.2)]
      rfl
/-- the model's: it notes a refusal unless it has noted one in this call -/
theorem s_219n {d x : Nat} {V : pV} {G : sm_G} {L : sm_L} {v2 v3 : Int32} : sm_cv0 (d + 1) 219 342 (RR V) [.ref 156, .int (i3 0), .int v2, .int v3] (x, G, L) = if G 156 0 = i3 0 then oI (i3 0) x G L else oI (i3 1) x G L := by
  rw [m_219, h_219_26, if_pos rfl]
theorem s_219b {d x : Nat} {V : pV} {G : sm_G} {L : sm_L} {a k : Nat} (ha : 0 < a) (ha2 : a < 100) (hk : k < 4) (h0 : G 156 0 = i3 0) : sm_cv0 (d + 1) 219 342 (RR V) [.ref 156, .int (i3 1), .int (i3 a), .int (i3 k)] (x, G, L) = oI (i3 1) x (sm_up (sm_up G 156 0 (i3 a)) 158 k (G 158 k + i3 1)) L := by
  have e : sm_up (sm_up G 156 0 (i3 a)) 158 k (G 158 k + i3 1) 156 0 = i3 a := by rw [sm_up_ne (by omega), sm_up_same]
  have e2 : sm_up G 156 0 (i3 a) 158 k = G 158 k := sm_up_ne (by omega)
  rw [m_219]
  simp (disch := omega) only [i3_add, i3_mul, i3_sub, i3_m1, i3_lt, i3_le, i3_eq, m1_lt, lt_m1, m1_le, le_m1, i3_nm1, m1_ni3, i3_cl, i3_in, i3_or, i3_and, i3_xor, i3_shl, i3_shr, sh_tb, tb_eq0, gd_tt, aI_o, aV_o, aL_o, aR_o, zd_0, zd_1, if_true, if_false, ite_self, eq_self, Bool.true_eq_false, Bool.false_eq_true, bi_0, bi_1, bi_zd, Nat.not_lt_zero, h0, h_219_26, e2, e, show ¬ (1 : Nat) = 0 by decide, show ¬ a = 0 by omega]
