/-! who is kept, what is changed -/
theorem s_29c {d x : Nat} {V : pV} {G : sm_G} {L : sm_L} {C : Prop} [Decidable C] : sm_cv0 (d + 1) 29 342 (RR V) [.ref 1, .int (bi (decide C))] (x, G, L) = if C then oV x G L else rfC 2 x G L := by
  rw [s_29]
  by_cases h : C
  · rw [if_pos h, if_pos (decide_eq_true h)]
  · rw [if_neg h, if_neg (by rw [decide_eq_false h]; decide)]
theorem shr_neg {v : Int32} {k : Nat} (hk : k < 32) (hv : v < i3 0) : shr v (i3 k) ≠ i3 0 := by
  intro h
  have h1 : (shr v (i3 k)).toInt = v.toInt >>> k := by
    unfold shr
    show (v.toBitVec.sshiftRight' ((i3 k &&& 31).toBitVec.smod 32)).toInt = _
    rw [BitVec.sshiftRight', i3_s31 k hk, BitVec.toInt_sshiftRight]
    rfl
  rw [h, i3_toInt (by decide), Int.shiftRight_eq_div_pow] at h1
  have h2 : v.toInt < 0 := by
    rw [Int32.lt_iff_toInt_lt, i3_toInt (by decide)] at hv
    exact hv
  have h3 := Int.ediv_neg_of_neg_of_pos h2 (show (0 : Int) < ((2 ^ k : Nat) : Int) from Int.ofNat_lt.mpr (Nat.two_pow_pos k))
  omega
/-- bits of so many -/
def inB (v : Int32) (n : Nat) : Prop := ¬ v < i3 0 ∧ v < i3 (2 ^ n)
theorem inB_nat {v : Int32} {n : Nat} (hn : n ≤ 10) (h : inB v n) : ∃ b, v = i3 b ∧ b < 2 ^ n := rng (Nat.lt_of_le_of_lt (Nat.pow_le_pow_right (by decide) hn) (by decide)) h
theorem s_51 {d x : Nat} {V : pV} {G : sm_G} {L : sm_L} {v : Int32} {n : Nat} (hn : n ≤ 10) : sm_cv0 (d + 1) 51 342 (RR V) [.int v, .int (i3 n)] (x, G, L) = oI (bi (decide (¬ v < i3 0 ∧ v < i3 (2 ^ n)))) x G L := by
  have h10 : 2 ^ n ≤ 1024 := Nat.pow_le_pow_right (by decide) hn
  rw [m_51]
  rcases neg_or v with hv | ⟨k, rfl, hk⟩
  · rw [if_neg (shr_neg (by omega) hv), decide_eq_false (fun z => z.1 hv)]
    rfl
  · by_cases q : k < 2 ^ n
    · have e : k >>> n = 0 := by rw [Nat.shiftRight_eq_div_pow]; exact Nat.div_eq_of_lt q
      rw [decide_eq_true (show ¬ i3 k < i3 0 ∧ i3 k < i3 (2 ^ n) by simp (disch := omega) only [i3_add, i3_mul, i3_sub, i3_m1, i3_lt, i3_le, i3_eq, m1_lt, lt_m1, m1_le, le_m1, i3_nm1, m1_ni3, i3_cl, i3_in, i3_or, i3_and, i3_xor, i3_shl, i3_shr, sh_tb, tb_eq0, gd_tt, aI_o, aV_o, aL_o, aR_o, zd_0, zd_1, if_true, if_false, ite_self, eq_self, Bool.true_eq_false, Bool.false_eq_true, bi_0, bi_1, bi_zd, Nat.not_lt_zero, not_false_iff, true_and]; exact q)]
      simp (disch := omega) only [i3_add, i3_mul, i3_sub, i3_m1, i3_lt, i3_le, i3_eq, m1_lt, lt_m1, m1_le, le_m1, i3_nm1, m1_ni3, i3_cl, i3_in, i3_or, i3_and, i3_xor, i3_shl, i3_shr, sh_tb, tb_eq0, gd_tt, aI_o, aV_o, aL_o, aR_o, zd_0, zd_1, if_true, if_false, ite_self, eq_self, Bool.true_eq_false, Bool.false_eq_true, bi_0, bi_1, bi_zd, Nat.not_lt_zero, e]
      rfl
    · have e : ¬ k >>> n = 0 := by
        rw [Nat.shiftRight_eq_div_pow]
        have := Nat.div_pos (Nat.le_of_not_lt q) (Nat.two_pow_pos n)
        omega
      have hs : k >>> n ≤ k := by rw [Nat.shiftRight_eq_div_pow]; exact Nat.div_le_self _ _
      rw [decide_eq_false (show ¬ (¬ i3 k < i3 0 ∧ i3 k < i3 (2 ^ n)) by simp (disch := omega) only [i3_add, i3_mul, i3_sub, i3_m1, i3_lt, i3_le, i3_eq, m1_lt, lt_m1, m1_le, le_m1, i3_nm1, m1_ni3, i3_cl, i3_in, i3_or, i3_and, i3_xor, i3_shl, i3_shr, sh_tb, tb_eq0, gd_tt, aI_o, aV_o, aL_o, aR_o, zd_0, zd_1, if_true, if_false, ite_self, eq_self, Bool.true_eq_false, Bool.false_eq_true, bi_0, bi_1, bi_zd, Nat.not_lt_zero, not_false_iff, true_and]; exact q)]
      simp (disch := omega) only [i3_add, i3_mul, i3_sub, i3_m1, i3_lt, i3_le, i3_eq, m1_lt, lt_m1, m1_le, le_m1, i3_nm1, m1_ni3, i3_cl, i3_in, i3_or, i3_and, i3_xor, i3_shl, i3_shr, sh_tb, tb_eq0, gd_tt, aI_o, aV_o, aL_o, aR_o, zd_0, zd_1, if_true, if_false, ite_self, eq_self, Bool.true_eq_false, Bool.false_eq_true, bi_0, bi_1, bi_zd, Nat.not_lt_zero, e]
      rfl
theorem in_bits {v : Int32} {n : Nat} (hn : n ≤ 10) : (i3 0 ≤ v ∧ v ≤ shl (i3 1) (i3 n) - i3 1) ↔ (¬ v < i3 0 ∧ v < i3 (2 ^ n)) := by
  have h10 : 2 ^ n ≤ 1024 := Nat.pow_le_pow_right (by decide) hn
  have hp := Nat.two_pow_pos n
  rw [i3_shl (by omega), Nat.one_shiftLeft, i3_sub (by omega)]
  rcases neg_or v with hv | ⟨k, rfl, hk⟩
  · exact ⟨fun z => absurd hv (Int32.not_lt.mpr z.1), fun z => absurd hv z.1⟩
  · simp (disch := omega) only [i3_add, i3_mul, i3_sub, i3_m1, i3_lt, i3_le, i3_eq, m1_lt, lt_m1, m1_le, le_m1, i3_nm1, m1_ni3, i3_cl, i3_in, i3_or, i3_and, i3_xor, i3_shl, i3_shr, sh_tb, tb_eq0, gd_tt, aI_o, aV_o, aL_o, aR_o, zd_0, zd_1, if_true, if_false, ite_self, eq_self, Bool.true_eq_false, Bool.false_eq_true, bi_0, bi_1, bi_zd, Nat.not_lt_zero, not_false_iff, true_and, Nat.zero_le]
    omega
theorem s_288 {d x : Nat} {V : pV} {G : sm_G} {L : sm_L} {v : Int32} {n : Nat} (hn : G 160 0 = i3 n) (h : n ≤ 10) : sm_cv0 (d + 2) 288 342 (RR V) [.ref 156, .int v] (x, G, L) = oI (bi (decide (¬ v < i3 0 ∧ v < i3 (2 ^ n)))) x G L := by
  rw [m_288, hn, s_218]
  by_cases q : ¬ v < i3 0 ∧ v < i3 (2 ^ n)
  · rw [decide_eq_true q, if_pos ((in_bits h).mpr q)]
    rfl
  · rw [decide_eq_false q, if_neg (fun z => q ((in_bits h).mp z))]
    rfl
theorem s_296 {d x : Nat} {V : pV} {G : sm_G} {L : sm_L} {v : Int32} {n : Nat} (hn : G 160 1 = i3 n) (h : n ≤ 10) : sm_cv0 (d + 2) 296 342 (RR V) [.ref 156, .int v] (x, G, L) = oI (bi (decide (¬ v < i3 0 ∧ v < i3 (2 ^ n)))) x G L := by
  rw [m_296, hn, s_218]
  by_cases q : ¬ v < i3 0 ∧ v < i3 (2 ^ n)
  · rw [decide_eq_true q, if_pos ((in_bits h).mpr q)]
    rfl
  · rw [decide_eq_false q, if_neg (fun z => q ((in_bits h).mp z))]
    rfl
theorem op_50 {d x : Nat} {V : pV} {G : sm_G} {L : sm_L} {v : Int32} (I : Inv V G) : OpI d x V G L 50 [.ref 1, .int v] 287 [.ref 156, .int v] eA := by
  have I0 := I
  obtain ⟨T, K, c, H, W, hS, hh, hn⟩ := I
  have hB := hS.T.gb
  have hsl := pS_lt (hV1 hS.V)
  have ec := m_50 (d := d + 59) (x := x) (G := G) (L := L) (V := V) (v1 := v) hS.V
  rw [hS.c.gsl, s_51 (by omega)] at ec
  simp only [aI_o] at ec
  rw [s_29c, aV_if] at ec
  refine OpI_1 (Y := fun x1 G1 => oI (g00 G1 156 37) x1 (sm_up (g00 G1) 156 37 v) L) I0 ec ?_ (by decide) ?_
  · intro x1 G1 hs
    have hm := hS.m.sM hS.T hS.P hs
    rw [m_287, s_288 hm.gsl (by omega)]
    simp only [aI_o]
    rw [mbad (F := fun x2 G2 L2 => oI (G2 156 37) x2 (sm_up G2 156 37 v) L2) g00_0 (by decide) (by decide) (by decide)]
    rfl
  · intro h1
    obtain ⟨b, rfl, hb⟩ := inB_nat (by omega) h1
    have e37 : g00 (chg (sm_up G (V.1 + 1) 9 (i3 b))) 156 37 = i3 K := by rw [g00_ne (by omega), chg_ne (by omega), sm_up_ne (by omega)]; exact hS.m.gkp
    have fr : ∀ r k, ¬ (r = V.1 + 1 ∧ k = 9) → ¬ (r = 1 ∧ (k = 17 ∨ k = 18)) → ¬ (r = 156 ∧ (k = 0 ∨ k = 37)) → sm_up (g00 (chg (sm_up G (V.1 + 1) 9 (i3 b)))) 156 37 (i3 b) r k = G r k := fun r k a1 a2 a3 => by rw [sm_up_ne (by omega), g00_ne (by omega), chg_ne (by omega), sm_up_ne (by omega)]
    have f9 : sm_up (g00 (chg (sm_up G (V.1 + 1) 9 (i3 b)))) 156 37 (i3 b) (V.1 + 1) 9 = i3 b := by rw [sm_up_ne (by omega), g00_ne (by omega), chg_ne (by omega), sm_up_same]
    have f37 : sm_up (g00 (chg (sm_up G (V.1 + 1) 9 (i3 b)))) 156 37 (i3 b) 156 37 = i3 b := sm_up_same _ _ _ _
    have f17 : sm_up (g00 (chg (sm_up G (V.1 + 1) 9 (i3 b)))) 156 37 (i3 b) 1 17 = i3 1 := by rw [sm_up_ne (by omega), g00_ne (by omega), chg_17]
    have f18 : sm_up (g00 (chg (sm_up G (V.1 + 1) 9 (i3 b)))) 156 37 (i3 b) 1 18 = i3 1 := by rw [sm_up_ne (by omega), g00_ne (by omega), chg_18]
    have f0 : sm_up (g00 (chg (sm_up G (V.1 + 1) 9 (i3 b)))) 156 37 (i3 b) 156 0 = i3 0 := by rw [sm_up_ne (by omega)]; exact g00_0
    refine ⟨i3 K, chg (sm_up G (V.1 + 1) 9 (i3 b)), sm_up (g00 (chg (sm_up G (V.1 + 1) 9 (i3 b)))) 156 37 (i3 b), ?_, fun r k a => by rw [chg_ne (by omega), sm_up_ne (by omega)], ?_, f0, ?_⟩
    · rw [s_23, hS.p.gkp]
      rfl
    · rw [e37]
    · generalize sm_up (g00 (chg (sm_up G (V.1 + 1) 9 (i3 b)))) 156 37 (i3 b) = G2 at *
      have hp := hS.p
      have hm := hS.m
      obtain ⟨p1, p2, p3, p4, p5, p6⟩ := hp
      obtain ⟨q1, q2, q3, q4, q5, q6, q7, q8, q9, q10, q11, q12, q13, q14, q15, q16, q17, q18, q19⟩ := hm
      refine Inv_ch (hS.plan (K' := b) (c' := c) (H' := H) (fun r k a1 a2 a3 a4 a5 a6 a7 => fr r k (by omega) (fun z => a1 (by unfold sc; omega)) (by have : ¬ (r = 156 ∧ k = 0) := fun z => a1 (by unfold sc; omega); omega)) hS.P hb ⟨?_, f9, fun i hi => ?_, fun i hi => ?_, fun i hi => ?_, fun i hi => ?_⟩ ⟨?_, ?_, ?_, ?_, ?_, ?_, f37, fun k hk => ?_, fun k hk => ?_, fun k hk => ?_, fun k hk => ?_, fun k hk => ?_, fun k hk => ?_, fun k hk => ?_, fun k hk => ?_, fun k hk => ?_, fun k hk => ?_, fun k hk => ?_, fun k hk => ?_⟩ (hS.h.keep2 (by rw [fr _ _ (by omega) (by omega) (by omega)]) (fun r k a1 a2 => fr r k (by omega) (by omega) (by omega))) (hS.hm.keep hS.h.1 (fun r k a => fr r k (by omega) (by omega) (by omega)))) f17 f18
      all_goals rw [fr _ _ (by omega) (by omega) (by omega)]
      all_goals first | assumption | (apply_assumption; assumption)
