/-! what was told: plain questions -/
def eN : Nat → Nat := fun e => if e = 1 then 1 else if e = 2 then 2 else 0
def eI : Nat → Nat := fun e => if e = 0 then 1 else if e = 2 then 2 else 0
def eA : Nat → Nat := fun e => if e = 2 then 1 else 0
def eS : Nat → Nat := fun e => if e = 2 then 1 else if e = 3 then 2 else 0
theorem s_218c {d x : Nat} {V : pV} {G : sm_G} {L : sm_L} {v n : Int32} : sm_cv0 (d + 1) 218 342 (RR V) [.int v, .int (i3 0), .int n] (x, G, L) = oI (bi (decide (¬ v < i3 0 ∧ v ≤ n))) x G L := by
  rw [s_218]
  by_cases h : ¬ v < i3 0 ∧ v ≤ n
  · rw [decide_eq_true h, if_pos ⟨Int32.not_lt.mp h.1, h.2⟩]
    rfl
  · rw [decide_eq_false h, if_neg (fun z => h ⟨Int32.not_lt.mpr z.1, z.2⟩)]
    rfl
theorem Inv_g00 {V : pV} {G : sm_G} {T : pT} {K c : Nat} {H W : Nat → pT} (hS : IvS V G T K c H W) (hh : hHr G T (H c) K) (hn : nHr G T (H c) K W) : Inv V (g00 G) :=
  Inv_q hS (fun _ _ _ => rfl) hh hn (fun r k h => g00_ne (by unfold sc at h; omega))
/-- a number in range -/
theorem rng {v : Int32} {n : Nat} (hn : n < 2147483648) (h : ¬ v < i3 0 ∧ v < i3 n) : ∃ i, v = i3 i ∧ i < n := by
  obtain ⟨i, rfl, hi⟩ := (neg_or v).resolve_left h.1
  have h9 := h.2
  rw [i3_lt hi hn] at h9
  exact ⟨i, rfl, h9⟩
theorem rngl {v : Int32} {n : Nat} (hn : n < 2147483648) (h : ¬ v < i3 0 ∧ v ≤ i3 n) : ∃ i, v = i3 i ∧ i ≤ n := by
  obtain ⟨i, rfl, hi⟩ := (neg_or v).resolve_left h.1
  have h9 := h.2
  rw [i3_le hi hn] at h9
  exact ⟨i, rfl, h9⟩
theorem op_34 {d x : Nat} {V : pV} {G : sm_G} {L : sm_L} {v w : Int32} (I : Inv V G) : OpI d x V G L 34 [.ref 1, .int v, .int w] 247 [.ref 156, .int v, .int w] eN := by
  have I0 := I
  obtain ⟨T, K, c, H, W, hS, hh, hn⟩ := I
  have hB := hS.T.gb
  have ec := m_34 (d := d + 59) (x := x) (G := G) (L := L) (v1 := v) (v2 := w) hS.V
  rw [hS.c.gsl, s_31, aV_if, s_33, aV_if] at ec
  refine OpI_2 (Y := fun x1 G1 => hD (d + 59) 247 52 [.ref 156, .int v, .int w] 342 (RR V) x1 (g00 G1) L) I0 ec ?_ (by decide) (by decide) ?_
  · intro x1 G1 hs
    have hm := hS.m.sM hS.T hS.P hs
    rw [m_247, s_248 hm.gsl (by omega)]
    simp only [aI_o]
    rw [mbad g00_0 (by decide) (by decide) (by decide), h_247_27, s_218c]
    simp only [aI_o]
    rw [mbad g00_0 (by decide) (by decide) (by decide)]
    rfl
  · intro h1 h2
    obtain ⟨i, rfl, hi⟩ := rng (by omega) h1
    obtain ⟨j, rfl, hj⟩ := rngl (by omega) h2
    have hm := hS.m.sM hS.T hS.P (sM_o (G := G))
    have e1 := hS.p.gfr i hi
    have e2 := hS.p.gun i hi
    rw [show V.1 + 1 + 3 = V.1 + 4 by omega] at e1
    rw [show V.1 + 1 + 4 = V.1 + 5 by omega] at e2
    have e3 := hS.c.gwt i hi
    have e4 := hS.c.gtp i hi
    have f1 := hm.gfr i hi
    have f2 := hm.gun i hi
    have f3 := hm.gwt i hi
    have f4 := hm.gtp i hi
    have hq : j = 0 ∨ j = 1 ∨ j = 2 ∨ j = 3 := by omega
    try dsimp only
    rcases hq with rfl | rfl | rfl | rfl
    · refine ⟨i3 (fr (H c) i), G, g00 G, ?_, sM_o, ?_, g00_0, Inv_g00 hS hh hn⟩
      · simp (disch := omega) only [i3_add, i3_mul, i3_sub, i3_m1, i3_lt, i3_le, i3_eq, m1_lt, lt_m1, m1_le, le_m1, i3_nm1, m1_ni3, i3_cl, i3_in, i3_or, i3_and, i3_xor, i3_shl, i3_shr, sh_tb, tb_eq0, gd_tt, aI_o, aV_o, aL_o, aR_o, zd_0, zd_1, if_true, if_false, ite_self, eq_self, Bool.true_eq_false, Bool.false_eq_true, bi_0, bi_1, bi_zd, Nat.not_lt_zero, e1]
      · rw [h_247_52]
        simp (disch := omega) only [i3_add, i3_mul, i3_sub, i3_m1, i3_lt, i3_le, i3_eq, m1_lt, lt_m1, m1_le, le_m1, i3_nm1, m1_ni3, i3_cl, i3_in, i3_or, i3_and, i3_xor, i3_shl, i3_shr, sh_tb, tb_eq0, gd_tt, aI_o, aV_o, aL_o, aR_o, zd_0, zd_1, if_true, if_false, ite_self, eq_self, Bool.true_eq_false, Bool.false_eq_true, bi_0, bi_1, bi_zd, Nat.not_lt_zero, rr_174, ldr_174, f1, show (0 : Nat) < 3 by decide]
    · refine ⟨i3 (un (H c) i), G, g00 G, ?_, sM_o, ?_, g00_0, Inv_g00 hS hh hn⟩
      · simp (disch := omega) only [i3_add, i3_mul, i3_sub, i3_m1, i3_lt, i3_le, i3_eq, m1_lt, lt_m1, m1_le, le_m1, i3_nm1, m1_ni3, i3_cl, i3_in, i3_or, i3_and, i3_xor, i3_shl, i3_shr, sh_tb, tb_eq0, gd_tt, aI_o, aV_o, aL_o, aR_o, zd_0, zd_1, if_true, if_false, ite_self, eq_self, Bool.true_eq_false, Bool.false_eq_true, bi_0, bi_1, bi_zd, Nat.not_lt_zero, e2, show ¬ (1 : Nat) = 0 by decide]
      · rw [h_247_52]
        simp (disch := omega) only [i3_add, i3_mul, i3_sub, i3_m1, i3_lt, i3_le, i3_eq, m1_lt, lt_m1, m1_le, le_m1, i3_nm1, m1_ni3, i3_cl, i3_in, i3_or, i3_and, i3_xor, i3_shl, i3_shr, sh_tb, tb_eq0, gd_tt, aI_o, aV_o, aL_o, aR_o, zd_0, zd_1, if_true, if_false, ite_self, eq_self, Bool.true_eq_false, Bool.false_eq_true, bi_0, bi_1, bi_zd, Nat.not_lt_zero, rr_174, ldr_174, f2, show (1 : Nat) < 3 by decide]
    · refine ⟨i3 (wt T i), G, g00 G, ?_, sM_o, ?_, g00_0, Inv_g00 hS hh hn⟩
      · simp (disch := omega) only [i3_add, i3_mul, i3_sub, i3_m1, i3_lt, i3_le, i3_eq, m1_lt, lt_m1, m1_le, le_m1, i3_nm1, m1_ni3, i3_cl, i3_in, i3_or, i3_and, i3_xor, i3_shl, i3_shr, sh_tb, tb_eq0, gd_tt, aI_o, aV_o, aL_o, aR_o, zd_0, zd_1, if_true, if_false, ite_self, eq_self, Bool.true_eq_false, Bool.false_eq_true, bi_0, bi_1, bi_zd, Nat.not_lt_zero, e3, show ¬ (2 : Nat) = 0 by decide, show ¬ (2 : Nat) = 1 by decide]
      · rw [h_247_52]
        simp (disch := omega) only [i3_add, i3_mul, i3_sub, i3_m1, i3_lt, i3_le, i3_eq, m1_lt, lt_m1, m1_le, le_m1, i3_nm1, m1_ni3, i3_cl, i3_in, i3_or, i3_and, i3_xor, i3_shl, i3_shr, sh_tb, tb_eq0, gd_tt, aI_o, aV_o, aL_o, aR_o, zd_0, zd_1, if_true, if_false, ite_self, eq_self, Bool.true_eq_false, Bool.false_eq_true, bi_0, bi_1, bi_zd, Nat.not_lt_zero, rr_174, ldr_174, f3, show (2 : Nat) < 3 by decide]
    · refine ⟨mi (tp T i), G, g00 G, ?_, sM_o, ?_, g00_0, Inv_g00 hS hh hn⟩
      · simp (disch := omega) only [i3_add, i3_mul, i3_sub, i3_m1, i3_lt, i3_le, i3_eq, m1_lt, lt_m1, m1_le, le_m1, i3_nm1, m1_ni3, i3_cl, i3_in, i3_or, i3_and, i3_xor, i3_shl, i3_shr, sh_tb, tb_eq0, gd_tt, aI_o, aV_o, aL_o, aR_o, zd_0, zd_1, if_true, if_false, ite_self, eq_self, Bool.true_eq_false, Bool.false_eq_true, bi_0, bi_1, bi_zd, Nat.not_lt_zero, e4, show ¬ (3 : Nat) = 0 by decide, show ¬ (3 : Nat) = 1 by decide, show ¬ (3 : Nat) = 2 by decide]
      · rw [h_247_52]
        simp (disch := omega) only [i3_add, i3_mul, i3_sub, i3_m1, i3_lt, i3_le, i3_eq, m1_lt, lt_m1, m1_le, le_m1, i3_nm1, m1_ni3, i3_cl, i3_in, i3_or, i3_and, i3_xor, i3_shl, i3_shr, sh_tb, tb_eq0, gd_tt, aI_o, aV_o, aL_o, aR_o, zd_0, zd_1, if_true, if_false, ite_self, eq_self, Bool.true_eq_false, Bool.false_eq_true, bi_0, bi_1, bi_zd, Nat.not_lt_zero, rr_174, ldr_174, f4, show ¬ (3 : Nat) < 3 by decide]
