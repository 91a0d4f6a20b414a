/-! a question's answer -/
def soB (k v : Nat) (ρ : Nat → Nat) (n e o t m : Nat) : Bool := if k = 0 then decide (ρ e = v + 1) else if k = 1 then o.testBit v else if k = 2 then t.testBit v else if k = 3 then comp ρ n e else decide (v ≤ m)
theorem l_94 {d x : Nat} {V : pV} {G : sm_G} {L : sm_L} {D q : Nat} {z : Bool} (h1 : D &&& 1 = q) (hDl : D < 1000) (hq : q ≤ 1) : hD d 94 146 [.null, .null, .null, .null, .null, .int (i3 D), .int (bi z)] 342 (RR V) x G L = oI (bi (z != decide (q = 1))) x G L := by
  rw [h_94_146]
  have hq2 : q = 0 ∨ q = 1 := by omega
  rcases hq2 with rfl | rfl <;> cases z
  · simp (disch := omega) only [i3_add, i3_mul, i3_sub, i3_m1, i3_lt, i3_le, i3_eq, m1_lt, lt_m1, m1_le, le_m1, i3_nm1, m1_ni3, i3_cl, i3_in, i3_or, i3_and, i3_xor, i3_shl, i3_shr, sh_tb, tb_eq0, gd_tt, aI_o, aV_o, aL_o, aR_o, zd_0, zd_1, if_true, if_false, ite_self, eq_self, Bool.true_eq_false, Bool.false_eq_true, bi_0, bi_1, bi_zd, Nat.not_lt_zero, h1]
    rfl
  · simp (disch := omega) only [i3_add, i3_mul, i3_sub, i3_m1, i3_lt, i3_le, i3_eq, m1_lt, lt_m1, m1_le, le_m1, i3_nm1, m1_ni3, i3_cl, i3_in, i3_or, i3_and, i3_xor, i3_shl, i3_shr, sh_tb, tb_eq0, gd_tt, aI_o, aV_o, aL_o, aR_o, zd_0, zd_1, if_true, if_false, ite_self, eq_self, Bool.true_eq_false, Bool.false_eq_true, bi_0, bi_1, bi_zd, Nat.not_lt_zero, h1]
    rfl
  · simp (disch := omega) only [i3_add, i3_mul, i3_sub, i3_m1, i3_lt, i3_le, i3_eq, m1_lt, lt_m1, m1_le, le_m1, i3_nm1, m1_ni3, i3_cl, i3_in, i3_or, i3_and, i3_xor, i3_shl, i3_shr, sh_tb, tb_eq0, gd_tt, aI_o, aV_o, aL_o, aR_o, zd_0, zd_1, if_true, if_false, ite_self, eq_self, Bool.true_eq_false, Bool.false_eq_true, bi_0, bi_1, bi_zd, Nat.not_lt_zero, h1, show ¬ (1 : Nat) = 0 by decide]
    rfl
  · simp (disch := omega) only [i3_add, i3_mul, i3_sub, i3_m1, i3_lt, i3_le, i3_eq, m1_lt, lt_m1, m1_le, le_m1, i3_nm1, m1_ni3, i3_cl, i3_in, i3_or, i3_and, i3_xor, i3_shl, i3_shr, sh_tb, tb_eq0, gd_tt, aI_o, aV_o, aL_o, aR_o, zd_0, zd_1, if_true, if_false, ite_self, eq_self, Bool.true_eq_false, Bool.false_eq_true, bi_0, bi_1, bi_zd, Nat.not_lt_zero, h1, show ¬ (1 : Nat) = 0 by decide]
    rfl
theorem s_94 {d x : Nat} {V : pV} {G : sm_G} {L : sm_L} {b s wl e n p D v k q o t m : Nat} {ρ : Nat → Nat} (hb : pN b) (hs : pS s) (hw : pW wl) (hc : G s 12 = i3 n) (hn : n ≤ 4) (hr : ∀ e, e < n → G (b + 5 + 4 * e) 1 = mi (ρ e) ∧ ρ e ≤ 8) (he : e < n)
    (hp : G (b + 5 + 4 * e) 7 = i3 p) (hp40 : p < 40) (hDe : G (wl + 4) p = i3 D) (hv : G (wl + 2) p = i3 v) (hk : D >>> 1 = k) (hq : D &&& 1 = q) (hk4 : k ≤ 4) (hq1 : q ≤ 1) (hD10 : D < 10) (hv3 : v ≤ 300) (hvk : k = 1 ∨ k = 2 → v < 32) (ho : G b 4 = i3 o) (ho2 : o < 1024) (ht : G b 7 = i3 t) (ht2 : t < 1024) (hm : G b 6 = i3 m) (hm3 : m ≤ 300) :
    sm_cv0 (d + 2) 94 342 (RR V) [.ref b, .ref s, .ref (b + 5 + 4 * e), .ref wl] (x, G, L) = oI (bi (soB k v ρ n e o t m != decide (q = 1))) x G L := by
  have hK := kw_b (k := e) hb (by omega)
  have he1 := hr e he
  have l1 : ∀ z : Bool, hD (d + 1) 94 146 [.null, .null, .null, .null, .null, .int (i3 D), .int (bi z)] 342 (RR V) x G L = oI (bi (z != decide (q = 1))) x G L := fun z => l_94 hq (by omega) hq1
  have b0 : bi false = i3 0 := rfl
  have b1 : bi true = i3 1 := rfl
  have lt := l1 true
  have lf := l1 false
  rw [b1] at lt
  rw [b0] at lf
  rw [m_94 hb hs hK hw, hp]
  have hk5 : k = 0 ∨ k = 1 ∨ k = 2 ∨ k = 3 ∨ k = 4 := by omega
  rcases hk5 with rfl | rfl | rfl | rfl | rfl
  · by_cases z : ρ e = v + 1
    · have e1 : mi (ρ e) = i3 v := by rw [z, mi_succ]
      simp (disch := omega) only [i3_add, i3_mul, i3_sub, i3_m1, i3_lt, i3_le, i3_eq, m1_lt, lt_m1, m1_le, le_m1, i3_nm1, m1_ni3, i3_cl, i3_in, i3_or, i3_and, i3_xor, i3_shl, i3_shr, sh_tb, tb_eq0, gd_tt, aI_o, aV_o, aL_o, aR_o, zd_0, zd_1, if_true, if_false, ite_self, eq_self, Bool.true_eq_false, Bool.false_eq_true, bi_0, bi_1, bi_zd, Nat.not_lt_zero, hDe, hv, hk, he1.1, e1, h_94_72, lt, soB, z, mi_succ, decide_true]
    · have e1 : (mi (ρ e) = i3 v) = False := by
        rw [← mi_succ, mi_inj (by omega) (by omega)]
        exact eq_false z
      simp (disch := omega) only [i3_add, i3_mul, i3_sub, i3_m1, i3_lt, i3_le, i3_eq, m1_lt, lt_m1, m1_le, le_m1, i3_nm1, m1_ni3, i3_cl, i3_in, i3_or, i3_and, i3_xor, i3_shl, i3_shr, sh_tb, tb_eq0, gd_tt, aI_o, aV_o, aL_o, aR_o, zd_0, zd_1, if_true, if_false, ite_self, eq_self, Bool.true_eq_false, Bool.false_eq_true, bi_0, bi_1, bi_zd, Nat.not_lt_zero, hDe, hv, hk, he1.1, e1, h_94_72, lf, soB, z, decide_false]
  · have hv2 := hvk (Or.inl rfl)
    cases z : o.testBit v
    · simp (disch := omega) only [i3_add, i3_mul, i3_sub, i3_m1, i3_lt, i3_le, i3_eq, m1_lt, lt_m1, m1_le, le_m1, i3_nm1, m1_ni3, i3_cl, i3_in, i3_or, i3_and, i3_xor, i3_shl, i3_shr, sh_tb, tb_eq0, gd_tt, aI_o, aV_o, aL_o, aR_o, zd_0, zd_1, if_true, if_false, ite_self, eq_self, Bool.true_eq_false, Bool.false_eq_true, bi_0, bi_1, bi_zd, Nat.not_lt_zero, hDe, hv, hk, ho, z, h_94_94, lf, soB, show ¬ (1 : Nat) = 0 by decide]
    · simp (disch := omega) only [i3_add, i3_mul, i3_sub, i3_m1, i3_lt, i3_le, i3_eq, m1_lt, lt_m1, m1_le, le_m1, i3_nm1, m1_ni3, i3_cl, i3_in, i3_or, i3_and, i3_xor, i3_shl, i3_shr, sh_tb, tb_eq0, gd_tt, aI_o, aV_o, aL_o, aR_o, zd_0, zd_1, if_true, if_false, ite_self, eq_self, Bool.true_eq_false, Bool.false_eq_true, bi_0, bi_1, bi_zd, Nat.not_lt_zero, hDe, hv, hk, ho, z, h_94_94, lt, soB, show ¬ (1 : Nat) = 0 by decide]
  · have hv2 := hvk (Or.inr rfl)
    cases z : t.testBit v
    · simp (disch := omega) only [i3_add, i3_mul, i3_sub, i3_m1, i3_lt, i3_le, i3_eq, m1_lt, lt_m1, m1_le, le_m1, i3_nm1, m1_ni3, i3_cl, i3_in, i3_or, i3_and, i3_xor, i3_shl, i3_shr, sh_tb, tb_eq0, gd_tt, aI_o, aV_o, aL_o, aR_o, zd_0, zd_1, if_true, if_false, ite_self, eq_self, Bool.true_eq_false, Bool.false_eq_true, bi_0, bi_1, bi_zd, Nat.not_lt_zero, hDe, hv, hk, ht, z, h_94_116, lf, soB, show ¬ (2 : Nat) = 0 by decide, show ¬ (2 : Nat) = 1 by decide]
    · simp (disch := omega) only [i3_add, i3_mul, i3_sub, i3_m1, i3_lt, i3_le, i3_eq, m1_lt, lt_m1, m1_le, le_m1, i3_nm1, m1_ni3, i3_cl, i3_in, i3_or, i3_and, i3_xor, i3_shl, i3_shr, sh_tb, tb_eq0, gd_tt, aI_o, aV_o, aL_o, aR_o, zd_0, zd_1, if_true, if_false, ite_self, eq_self, Bool.true_eq_false, Bool.false_eq_true, bi_0, bi_1, bi_zd, Nat.not_lt_zero, hDe, hv, hk, ht, z, h_94_116, lt, soB, show ¬ (2 : Nat) = 0 by decide, show ¬ (2 : Nat) = 1 by decide]
  · have e95 := s_95 (d := d) (x := x) (L := L) (V := V) hb hs hc hn hr he
    simp (disch := omega) only [i3_add, i3_mul, i3_sub, i3_m1, i3_lt, i3_le, i3_eq, m1_lt, lt_m1, m1_le, le_m1, i3_nm1, m1_ni3, i3_cl, i3_in, i3_or, i3_and, i3_xor, i3_shl, i3_shr, sh_tb, tb_eq0, gd_tt, aI_o, aV_o, aL_o, aR_o, zd_0, zd_1, if_true, if_false, ite_self, eq_self, Bool.true_eq_false, Bool.false_eq_true, bi_0, bi_1, bi_zd, Nat.not_lt_zero, hDe, hv, hk, e95, h_94_127, l1, soB, show ¬ (3 : Nat) = 0 by decide, show ¬ (3 : Nat) = 1 by decide, show ¬ (3 : Nat) = 2 by decide]
  · by_cases z : v ≤ m
    · simp (disch := omega) only [i3_add, i3_mul, i3_sub, i3_m1, i3_lt, i3_le, i3_eq, m1_lt, lt_m1, m1_le, le_m1, i3_nm1, m1_ni3, i3_cl, i3_in, i3_or, i3_and, i3_xor, i3_shl, i3_shr, sh_tb, tb_eq0, gd_tt, aI_o, aV_o, aL_o, aR_o, zd_0, zd_1, if_true, if_false, ite_self, eq_self, Bool.true_eq_false, Bool.false_eq_true, bi_0, bi_1, bi_zd, Nat.not_lt_zero, hDe, hv, hk, hm, z, lt, soB, show ¬ m < v by omega, decide_true, show ¬ (4 : Nat) = 0 by decide, show ¬ (4 : Nat) = 1 by decide, show ¬ (4 : Nat) = 2 by decide, show ¬ (4 : Nat) = 3 by decide]
    · simp (disch := omega) only [i3_add, i3_mul, i3_sub, i3_m1, i3_lt, i3_le, i3_eq, m1_lt, lt_m1, m1_le, le_m1, i3_nm1, m1_ni3, i3_cl, i3_in, i3_or, i3_and, i3_xor, i3_shl, i3_shr, sh_tb, tb_eq0, gd_tt, aI_o, aV_o, aL_o, aR_o, zd_0, zd_1, if_true, if_false, ite_self, eq_self, Bool.true_eq_false, Bool.false_eq_true, bi_0, bi_1, bi_zd, Nat.not_lt_zero, hDe, hv, hk, hm, z, lf, soB, show m < v by omega, decide_false, show ¬ (4 : Nat) = 0 by decide, show ¬ (4 : Nat) = 1 by decide, show ¬ (4 : Nat) = 2 by decide, show ¬ (4 : Nat) = 3 by decide]
theorem l_274 {d x : Nat} {V : pV} {G : sm_G} {L : sm_L} {e u q : Nat} {z : Bool} (he : e < 4) (hu : u < 80) (h : G (248 + e) (3 * u + 2) = i3 q) (hq : q ≤ 1) : hD d 274 154 [.null, .null, .int (i3 u), .ref (248 + e), .null, .int (bi z)] 342 (RR V) x G L = oI (bi (z != decide (q = 1))) x G L := by
  rw [h_274_154]
  have hq2 : q = 0 ∨ q = 1 := by omega
  rcases hq2 with rfl | rfl <;> cases z
  · simp (disch := omega) only [i3_add, i3_mul, i3_sub, i3_m1, i3_lt, i3_le, i3_eq, m1_lt, lt_m1, m1_le, le_m1, i3_nm1, m1_ni3, i3_cl, i3_in, i3_or, i3_and, i3_xor, i3_shl, i3_shr, sh_tb, tb_eq0, gd_tt, aI_o, aV_o, aL_o, aR_o, zd_0, zd_1, if_true, if_false, ite_self, eq_self, Bool.true_eq_false, Bool.false_eq_true, bi_0, bi_1, bi_zd, Nat.not_lt_zero, ldr_247, h]
    rfl
  · simp (disch := omega) only [i3_add, i3_mul, i3_sub, i3_m1, i3_lt, i3_le, i3_eq, m1_lt, lt_m1, m1_le, le_m1, i3_nm1, m1_ni3, i3_cl, i3_in, i3_or, i3_and, i3_xor, i3_shl, i3_shr, sh_tb, tb_eq0, gd_tt, aI_o, aV_o, aL_o, aR_o, zd_0, zd_1, if_true, if_false, ite_self, eq_self, Bool.true_eq_false, Bool.false_eq_true, bi_0, bi_1, bi_zd, Nat.not_lt_zero, ldr_247, h]
    rfl
  · simp (disch := omega) only [i3_add, i3_mul, i3_sub, i3_m1, i3_lt, i3_le, i3_eq, m1_lt, lt_m1, m1_le, le_m1, i3_nm1, m1_ni3, i3_cl, i3_in, i3_or, i3_and, i3_xor, i3_shl, i3_shr, sh_tb, tb_eq0, gd_tt, aI_o, aV_o, aL_o, aR_o, zd_0, zd_1, if_true, if_false, ite_self, eq_self, Bool.true_eq_false, Bool.false_eq_true, bi_0, bi_1, bi_zd, Nat.not_lt_zero, ldr_247, h, show ¬ (1 : Nat) = 0 by decide]
    rfl
  · simp (disch := omega) only [i3_add, i3_mul, i3_sub, i3_m1, i3_lt, i3_le, i3_eq, m1_lt, lt_m1, m1_le, le_m1, i3_nm1, m1_ni3, i3_cl, i3_in, i3_or, i3_and, i3_xor, i3_shl, i3_shr, sh_tb, tb_eq0, gd_tt, aI_o, aV_o, aL_o, aR_o, zd_0, zd_1, if_true, if_false, ite_self, eq_self, Bool.true_eq_false, Bool.false_eq_true, bi_0, bi_1, bi_zd, Nat.not_lt_zero, ldr_247, h, show ¬ (1 : Nat) = 0 by decide]
    rfl
theorem s_274 {d x : Nat} {V : pV} {G : sm_G} {L : sm_L} {e n u v k q o t m : Nat} {ρ : Nat → Nat} (hc : G 160 4 = i3 n) (hn : n ≤ 4) (hr : ∀ e, e < n → G 325 e = mi (ρ e) ∧ ρ e ≤ 8) (he : e < n)
    (hu : u < 80) (hk : G (248 + e) (3 * u) = i3 k) (hv : G (248 + e) (3 * u + 1) = i3 v) (hq : G (248 + e) (3 * u + 2) = i3 q) (hk4 : k ≤ 4) (hq1 : q ≤ 1) (hv3 : v ≤ 300) (hvk : k = 1 ∨ k = 2 → v < 32) (ho : G 156 56 = i3 o) (ho2 : o < 1024) (hm : G 156 57 = i3 m) (hm3 : m ≤ 300) (ht : G 307 m = i3 t) (ht2 : t < 1024) :
    sm_cv0 (d + 3) 274 342 (RR V) [.ref 156, .int (i3 e), .int (i3 u)] (x, G, L) = oI (bi (soB k v ρ n e o t m != decide (q = 1))) x G L := by
  have he1 := hr e he
  have l1 : ∀ z : Bool, hD (d + 2) 274 154 [.null, .null, .int (i3 u), .ref (248 + e), .null, .int (bi z)] 342 (RR V) x G L = oI (bi (z != decide (q = 1))) x G L := fun z => l_274 (by omega) hu hq hq1
  have b0 : bi false = i3 0 := rfl
  have b1 : bi true = i3 1 := rfl
  have lt := l1 true
  have lf := l1 false
  rw [b1] at lt
  rw [b0] at lf
  rw [m_274]
  simp (disch := omega) only [i3_add, i3_mul, i3_sub, i3_m1, i3_lt, i3_le, i3_eq, m1_lt, lt_m1, m1_le, le_m1, i3_nm1, m1_ni3, i3_cl, i3_in, i3_or, i3_and, i3_xor, i3_shl, i3_shr, sh_tb, tb_eq0, gd_tt, aI_o, aV_o, aL_o, aR_o, zd_0, zd_1, if_true, if_false, ite_self, eq_self, Bool.true_eq_false, Bool.false_eq_true, bi_0, bi_1, bi_zd, Nat.not_lt_zero, rr_247, ldr_247, hv]
  rw [h_274_19]
  have hk5 : k = 0 ∨ k = 1 ∨ k = 2 ∨ k = 3 ∨ k = 4 := by omega
  rcases hk5 with rfl | rfl | rfl | rfl | rfl
  · by_cases z : ρ e = v + 1
    · have e1 : mi (ρ e) = i3 v := by rw [z, mi_succ]
      simp (disch := omega) only [i3_add, i3_mul, i3_sub, i3_m1, i3_lt, i3_le, i3_eq, m1_lt, lt_m1, m1_le, le_m1, i3_nm1, m1_ni3, i3_cl, i3_in, i3_or, i3_and, i3_xor, i3_shl, i3_shr, sh_tb, tb_eq0, gd_tt, aI_o, aV_o, aL_o, aR_o, zd_0, zd_1, if_true, if_false, ite_self, eq_self, Bool.true_eq_false, Bool.false_eq_true, bi_0, bi_1, bi_zd, Nat.not_lt_zero, ldr_247, hk, he1.1, e1, lt, soB, z, mi_succ, decide_true]
    · have e1 : (mi (ρ e) = i3 v) = False := by
        rw [← mi_succ, mi_inj (by omega) (by omega)]
        exact eq_false z
      simp (disch := omega) only [i3_add, i3_mul, i3_sub, i3_m1, i3_lt, i3_le, i3_eq, m1_lt, lt_m1, m1_le, le_m1, i3_nm1, m1_ni3, i3_cl, i3_in, i3_or, i3_and, i3_xor, i3_shl, i3_shr, sh_tb, tb_eq0, gd_tt, aI_o, aV_o, aL_o, aR_o, zd_0, zd_1, if_true, if_false, ite_self, eq_self, Bool.true_eq_false, Bool.false_eq_true, bi_0, bi_1, bi_zd, Nat.not_lt_zero, ldr_247, hk, he1.1, e1, lf, soB, z, decide_false]
  · have hv2 := hvk (Or.inl rfl)
    cases z : o.testBit v
    · simp (disch := omega) only [i3_add, i3_mul, i3_sub, i3_m1, i3_lt, i3_le, i3_eq, m1_lt, lt_m1, m1_le, le_m1, i3_nm1, m1_ni3, i3_cl, i3_in, i3_or, i3_and, i3_xor, i3_shl, i3_shr, sh_tb, tb_eq0, gd_tt, aI_o, aV_o, aL_o, aR_o, zd_0, zd_1, if_true, if_false, ite_self, eq_self, Bool.true_eq_false, Bool.false_eq_true, bi_0, bi_1, bi_zd, Nat.not_lt_zero, tb_eq1, ldr_247, hk, ho, z, lf, soB, show ¬ (1 : Nat) = 0 by decide]
    · simp (disch := omega) only [i3_add, i3_mul, i3_sub, i3_m1, i3_lt, i3_le, i3_eq, m1_lt, lt_m1, m1_le, le_m1, i3_nm1, m1_ni3, i3_cl, i3_in, i3_or, i3_and, i3_xor, i3_shl, i3_shr, sh_tb, tb_eq0, gd_tt, aI_o, aV_o, aL_o, aR_o, zd_0, zd_1, if_true, if_false, ite_self, eq_self, Bool.true_eq_false, Bool.false_eq_true, bi_0, bi_1, bi_zd, Nat.not_lt_zero, tb_eq1, ldr_247, hk, ho, z, lt, soB, show ¬ (1 : Nat) = 0 by decide]
  · have hv2 := hvk (Or.inr rfl)
    cases z : t.testBit v
    · simp (disch := omega) only [i3_add, i3_mul, i3_sub, i3_m1, i3_lt, i3_le, i3_eq, m1_lt, lt_m1, m1_le, le_m1, i3_nm1, m1_ni3, i3_cl, i3_in, i3_or, i3_and, i3_xor, i3_shl, i3_shr, sh_tb, tb_eq0, gd_tt, aI_o, aV_o, aL_o, aR_o, zd_0, zd_1, if_true, if_false, ite_self, eq_self, Bool.true_eq_false, Bool.false_eq_true, bi_0, bi_1, bi_zd, Nat.not_lt_zero, tb_eq1, ldr_247, hk, hm, ht, z, lf, soB, show ¬ (2 : Nat) = 0 by decide, show ¬ (2 : Nat) = 1 by decide]
    · simp (disch := omega) only [i3_add, i3_mul, i3_sub, i3_m1, i3_lt, i3_le, i3_eq, m1_lt, lt_m1, m1_le, le_m1, i3_nm1, m1_ni3, i3_cl, i3_in, i3_or, i3_and, i3_xor, i3_shl, i3_shr, sh_tb, tb_eq0, gd_tt, aI_o, aV_o, aL_o, aR_o, zd_0, zd_1, if_true, if_false, ite_self, eq_self, Bool.true_eq_false, Bool.false_eq_true, bi_0, bi_1, bi_zd, Nat.not_lt_zero, tb_eq1, ldr_247, hk, hm, ht, z, lt, soB, show ¬ (2 : Nat) = 0 by decide, show ¬ (2 : Nat) = 1 by decide]
  · have e275 := s_275 (d := d) (x := x) (L := L) (V := V) hc hn hr he
    simp (disch := omega) only [i3_add, i3_mul, i3_sub, i3_m1, i3_lt, i3_le, i3_eq, m1_lt, lt_m1, m1_le, le_m1, i3_nm1, m1_ni3, i3_cl, i3_in, i3_or, i3_and, i3_xor, i3_shl, i3_shr, sh_tb, tb_eq0, gd_tt, aI_o, aV_o, aL_o, aR_o, zd_0, zd_1, if_true, if_false, ite_self, eq_self, Bool.true_eq_false, Bool.false_eq_true, bi_0, bi_1, bi_zd, Nat.not_lt_zero, ldr_247, hk, e275, l1, soB, show ¬ (3 : Nat) = 0 by decide, show ¬ (3 : Nat) = 1 by decide, show ¬ (3 : Nat) = 2 by decide]
  · by_cases z : v ≤ m
    · simp (disch := omega) only [i3_add, i3_mul, i3_sub, i3_m1, i3_lt, i3_le, i3_eq, m1_lt, lt_m1, m1_le, le_m1, i3_nm1, m1_ni3, i3_cl, i3_in, i3_or, i3_and, i3_xor, i3_shl, i3_shr, sh_tb, tb_eq0, gd_tt, aI_o, aV_o, aL_o, aR_o, zd_0, zd_1, if_true, if_false, ite_self, eq_self, Bool.true_eq_false, Bool.false_eq_true, bi_0, bi_1, bi_zd, Nat.not_lt_zero, ldr_247, hk, hm, z, lt, soB, show ¬ m < v by omega, decide_true, show ¬ (4 : Nat) = 0 by decide, show ¬ (4 : Nat) = 1 by decide, show ¬ (4 : Nat) = 2 by decide, show ¬ (4 : Nat) = 3 by decide]
    · simp (disch := omega) only [i3_add, i3_mul, i3_sub, i3_m1, i3_lt, i3_le, i3_eq, m1_lt, lt_m1, m1_le, le_m1, i3_nm1, m1_ni3, i3_cl, i3_in, i3_or, i3_and, i3_xor, i3_shl, i3_shr, sh_tb, tb_eq0, gd_tt, aI_o, aV_o, aL_o, aR_o, zd_0, zd_1, if_true, if_false, ite_self, eq_self, Bool.true_eq_false, Bool.false_eq_true, bi_0, bi_1, bi_zd, Nat.not_lt_zero, ldr_247, hk, hm, z, lf, soB, show m < v by omega, decide_false, show ¬ (4 : Nat) = 0 by decide, show ¬ (4 : Nat) = 1 by decide, show ¬ (4 : Nat) = 2 by decide, show ¬ (4 : Nat) = 3 by decide]
