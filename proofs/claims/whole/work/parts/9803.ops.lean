/-! questions -/
theorem op_35 {d x : Nat} {V : pV} {G : sm_G} {L : sm_L} {v w : Int32} (I : Inv V G) : OpI d x V G L 35 [.ref 1, .int v, .int w] 249 [.ref 156, .int v, .int w] eN := by
  have I0 := I
  obtain ⟨T, K, c, H, W, hS, hh, hn⟩ := I
  have hB := hS.T.gb
  have ec := m_35 (d := d + 59) (x := x) (G := G) (L := L) (V := V) (v1 := v) (v2 := w) hS.V
  rw [hS.c.gdn, s_31, aV_if, s_33, aV_if] at ec
  refine OpI_2 (Y := ?Y) I0 ec ?_ (by decide) (by decide) ?_
  rotate_left
  · intro x1 G1 hs
    have hm := hS.m.sM hS.T hS.P hs
    rw [m_249, s_250 hm.gdn (by omega)]
    simp only [aI_o]
    rw [mbad g00_0 (by decide) (by decide) (by decide), h_249_27, s_218c]
    simp only [aI_o]
    rw [mbad g00_0 (by decide) (by decide) (by decide)]
    rfl
  · intro h1 h2
    obtain ⟨i, rfl, hi⟩ := rng (by omega) h1
    obtain ⟨j, rfl, hj⟩ := rngl (by omega) h2
    have hm := hS.m.sM hS.T hS.P (sM_o (G := G))
    have e1 := hS.c.gdA i hi
    have e2 := hS.c.gdB i hi
    have f1 := hm.gdA i hi
    have f2 := hm.gdB i hi
    have f3 := hm.gdO i hi
    have e131 := s_131 (d := d + 58) (x := x) (G := G) (L := L) (V := V) (hV1 hS.V) hS.c hS.T (show i < 10 by omega)
    have l57 : ∀ w : Int32, hD (d + 59) 249 57 [.ref 156, .int (i3 i), .int w, .int (i3 0), .int (i3 0)] 342 (RR V) x (g00 G) L = hD (d + 59) 249 57 [.ref 156, .int (i3 i), .int w, .int (i3 (sorts T i)), .int (i3 6)] 342 (RR V) x (g00 G) L := fun w => by
      refine loop0 (H := fun k a => hD (d + 59) 249 57 [.ref 156, .int (i3 i), .int w, .int (i3 a), .int (i3 k)] 342 (RR V) x (g00 G) L) (out := fun a => hD (d + 59) 249 57 [.ref 156, .int (i3 i), .int w, .int (i3 a), .int (i3 6)] 342 (RR V) x (g00 G) L) (N := 6) (step := fun k a => a ||| tb (tu T k) i <<< k) ?_ (fun _ => rfl) 0
      intro k a hk
      have t1 := hS.T.tu1 k hk
      have t2 := hm.gtu k hk
      rw [h_249_57]
      simp (disch := omega) only [i3_add, i3_mul, i3_sub, i3_m1, i3_lt, i3_le, i3_eq, m1_lt, lt_m1, m1_le, le_m1, i3_nm1, m1_ni3, i3_cl, i3_in, i3_or, i3_and, i3_xor, i3_shl, i3_shr, sh_tb, tb_eq0, gd_tt, aI_o, aV_o, aL_o, aR_o, zd_0, zd_1, if_true, if_false, ite_self, eq_self, Bool.true_eq_false, Bool.false_eq_true, bi_0, bi_1, bi_zd, Nat.not_lt_zero, hk, t2]
    have hq : j = 0 ∨ j = 1 ∨ j = 2 ∨ j = 3 := by omega
    rcases hq with rfl | rfl | rfl | rfl
    · refine ⟨i3 (dA T i), G, g00 G, ?_, sM_o, ?_, g00_0, Inv_g00 hS hh hn⟩
      · simp (disch := omega) only [i3_add, i3_mul, i3_sub, i3_m1, i3_lt, i3_le, i3_eq, m1_lt, lt_m1, m1_le, le_m1, i3_nm1, m1_ni3, i3_cl, i3_in, i3_or, i3_and, i3_xor, i3_shl, i3_shr, sh_tb, tb_eq0, gd_tt, aI_o, aV_o, aL_o, aR_o, zd_0, zd_1, if_true, if_false, ite_self, eq_self, Bool.true_eq_false, Bool.false_eq_true, bi_0, bi_1, bi_zd, Nat.not_lt_zero, e1]
      · rw [l57, h_249_57]
        simp (disch := omega) only [i3_add, i3_mul, i3_sub, i3_m1, i3_lt, i3_le, i3_eq, m1_lt, lt_m1, m1_le, le_m1, i3_nm1, m1_ni3, i3_cl, i3_in, i3_or, i3_and, i3_xor, i3_shl, i3_shr, sh_tb, tb_eq0, gd_tt, aI_o, aV_o, aL_o, aR_o, zd_0, zd_1, if_true, if_false, ite_self, eq_self, Bool.true_eq_false, Bool.false_eq_true, bi_0, bi_1, bi_zd, Nat.not_lt_zero, Nat.reduceEqDiff, Nat.reduceLeDiff, Nat.reduceLT, rr_194, ldr_194, f1]
    · refine ⟨i3 (dB T i), G, g00 G, ?_, sM_o, ?_, g00_0, Inv_g00 hS hh hn⟩
      · simp (disch := omega) only [i3_add, i3_mul, i3_sub, i3_m1, i3_lt, i3_le, i3_eq, m1_lt, lt_m1, m1_le, le_m1, i3_nm1, m1_ni3, i3_cl, i3_in, i3_or, i3_and, i3_xor, i3_shl, i3_shr, sh_tb, tb_eq0, gd_tt, aI_o, aV_o, aL_o, aR_o, zd_0, zd_1, if_true, if_false, ite_self, eq_self, Bool.true_eq_false, Bool.false_eq_true, bi_0, bi_1, bi_zd, Nat.not_lt_zero, Nat.reduceEqDiff, Nat.reduceLeDiff, Nat.reduceLT, e2]
      · rw [l57, h_249_57]
        simp (disch := omega) only [i3_add, i3_mul, i3_sub, i3_m1, i3_lt, i3_le, i3_eq, m1_lt, lt_m1, m1_le, le_m1, i3_nm1, m1_ni3, i3_cl, i3_in, i3_or, i3_and, i3_xor, i3_shl, i3_shr, sh_tb, tb_eq0, gd_tt, aI_o, aV_o, aL_o, aR_o, zd_0, zd_1, if_true, if_false, ite_self, eq_self, Bool.true_eq_false, Bool.false_eq_true, bi_0, bi_1, bi_zd, Nat.not_lt_zero, Nat.reduceEqDiff, Nat.reduceLeDiff, Nat.reduceLT, rr_194, ldr_194, f2]
    · have hfo := fo_lt hS.T
      have hO := (hS.T.gdr i hi).2.2
      have e3 : tb (fo T) i = dO T i := by
        unfold tb fo
        rw [bs_tb, decide_eq_true hi, Bool.true_and]
        by_cases q : dO T i = 1
        · rw [decide_eq_true q, if_pos rfl, q]
        · rw [decide_eq_false q, if_neg (by decide)]; omega
      refine ⟨i3 (dO T i), G, g00 G, ?_, sM_o, ?_, g00_0, Inv_g00 hS hh hn⟩
      · simp (disch := omega) only [i3_add, i3_mul, i3_sub, i3_m1, i3_lt, i3_le, i3_eq, m1_lt, lt_m1, m1_le, le_m1, i3_nm1, m1_ni3, i3_cl, i3_in, i3_or, i3_and, i3_xor, i3_shl, i3_shr, sh_tb, tb_eq0, gd_tt, aI_o, aV_o, aL_o, aR_o, zd_0, zd_1, if_true, if_false, ite_self, eq_self, Bool.true_eq_false, Bool.false_eq_true, bi_0, bi_1, bi_zd, Nat.not_lt_zero, Nat.reduceEqDiff, Nat.reduceLeDiff, Nat.reduceLT, hS.c.gfo, e3]
      · rw [l57, h_249_57]
        simp (disch := omega) only [i3_add, i3_mul, i3_sub, i3_m1, i3_lt, i3_le, i3_eq, m1_lt, lt_m1, m1_le, le_m1, i3_nm1, m1_ni3, i3_cl, i3_in, i3_or, i3_and, i3_xor, i3_shl, i3_shr, sh_tb, tb_eq0, gd_tt, aI_o, aV_o, aL_o, aR_o, zd_0, zd_1, if_true, if_false, ite_self, eq_self, Bool.true_eq_false, Bool.false_eq_true, bi_0, bi_1, bi_zd, Nat.not_lt_zero, Nat.reduceEqDiff, Nat.reduceLeDiff, Nat.reduceLT, rr_194, ldr_194, f3]
    · refine ⟨i3 (sorts T i), G, g00 G, ?_, sM_o, ?_, g00_0, Inv_g00 hS hh hn⟩
      · simp (disch := omega) only [i3_add, i3_mul, i3_sub, i3_m1, i3_lt, i3_le, i3_eq, m1_lt, lt_m1, m1_le, le_m1, i3_nm1, m1_ni3, i3_cl, i3_in, i3_or, i3_and, i3_xor, i3_shl, i3_shr, sh_tb, tb_eq0, gd_tt, aI_o, aV_o, aL_o, aR_o, zd_0, zd_1, if_true, if_false, ite_self, eq_self, Bool.true_eq_false, Bool.false_eq_true, bi_0, bi_1, bi_zd, Nat.not_lt_zero, Nat.reduceEqDiff, Nat.reduceLeDiff, Nat.reduceLT, e131]
      · rw [l57, h_249_57]
        simp (disch := omega) only [i3_add, i3_mul, i3_sub, i3_m1, i3_lt, i3_le, i3_eq, m1_lt, lt_m1, m1_le, le_m1, i3_nm1, m1_ni3, i3_cl, i3_in, i3_or, i3_and, i3_xor, i3_shl, i3_shr, sh_tb, tb_eq0, gd_tt, aI_o, aV_o, aL_o, aR_o, zd_0, zd_1, if_true, if_false, ite_self, eq_self, Bool.true_eq_false, Bool.false_eq_true, bi_0, bi_1, bi_zd, Nat.not_lt_zero, Nat.reduceEqDiff, Nat.reduceLeDiff, Nat.reduceLT]
theorem op_36 {d x : Nat} {V : pV} {G : sm_G} {L : sm_L} {v w : Int32} (I : Inv V G) : OpI d x V G L 36 [.ref 1, .int v, .int w] 251 [.ref 156, .int v, .int w] eA := by
  have I0 := I
  obtain ⟨T, K, c, H, W, hS, hh, hn⟩ := I
  have hB := hS.T.gb
  have ec := m_36 (d := d + 59) (x := x) (G := G) (L := L) (V := V) (v1 := v) (v2 := w) hS.V
  rw [s_33, aV_if] at ec
  refine OpI_1 (Y := ?Y) I0 ec ?_ (by decide) ?_
  rotate_left
  · intro x1 G1 hs
    have hm := hS.m.sM hS.T hS.P hs
    rw [m_251, s_218c]
    simp only [aI_o]
    rw [mbad g00_0 (by decide) (by decide) (by decide)]
    rfl
  · intro h1
    obtain ⟨j, rfl, hj⟩ := rngl (by omega) h1
    have hm := hS.m.sM hS.T hS.P (sM_o (G := G))
    have hnn := hS.P.gb
    have c1 := hS.p.gnn
    have e30 : ∀ x, hD (d + 59) 251 30 [.ref 156, .int v, .int (i3 j)] 342 (RR V) x (g00 G) L = sm_aI (oI (if i3 0 ≤ v ∧ v ≤ mi (nn (H c)) then i3 1 else i3 0) x (g00 G) L) (fun a2 x2 G2 L2 => if a2 = i3 0 then oI m1 x2 G2 L2 else gd (sm_in v 12) (ldi (RR V 218 v.toNatClampNeg) (i3 j) G2 (fun y3 => oI y3 x2 G2 L2))) oX := fun x => by rw [h_251_30, hm.gnn, pre_mi (by omega), s_218]
    rw [c1]
    by_cases hv : v < i3 0
    · have q1 : ¬ (i3 0 ≤ v ∧ v ≤ mi (nn (H c))) := fun z => absurd hv (Int32.not_lt.mpr z.1)
      refine ⟨m1, G, g00 G, ?_, sM_o, ?_, g00_0, Inv_g00 hS hh hn⟩
      · rw [if_pos hv]
      · rw [e30, if_neg q1]; rfl
    · by_cases hv2 : v < i3 (nn (H c))
      · have q1 : i3 0 ≤ v ∧ v ≤ mi (nn (H c)) := (in_pre (by omega)).mpr ⟨hv, hv2⟩
        obtain ⟨i, rfl, hi⟩ := rng (by omega) ⟨hv, hv2⟩
        have e1 := hS.p.gnm i hi
        have e2 := hS.p.gns i hi
        rw [show V.1 + 1 + 1 = V.1 + 2 by omega] at e1
        rw [show V.1 + 1 + 2 = V.1 + 3 by omega] at e2
        have f1 := hm.gnm i hi
        have f2 := hm.gns i hi
        rw [if_neg hv, if_pos hv2]
        rw [if_pos q1] at e30
        have hq : j = 0 ∨ j = 1 := by omega
        rcases hq with rfl | rfl
        · refine ⟨i3 (nm (H c) i), G, g00 G, ?_, sM_o, ?_, g00_0, Inv_g00 hS hh hn⟩
          · simp (disch := omega) only [i3_add, i3_mul, i3_sub, i3_m1, i3_lt, i3_le, i3_eq, m1_lt, lt_m1, m1_le, le_m1, i3_nm1, m1_ni3, i3_cl, i3_in, i3_or, i3_and, i3_xor, i3_shl, i3_shr, sh_tb, tb_eq0, gd_tt, aI_o, aV_o, aL_o, aR_o, zd_0, zd_1, if_true, if_false, ite_self, eq_self, Bool.true_eq_false, Bool.false_eq_true, bi_0, bi_1, bi_zd, Nat.not_lt_zero, e1]
          · rw [e30]
            simp (disch := omega) only [i3_add, i3_mul, i3_sub, i3_m1, i3_lt, i3_le, i3_eq, m1_lt, lt_m1, m1_le, le_m1, i3_nm1, m1_ni3, i3_cl, i3_in, i3_or, i3_and, i3_xor, i3_shl, i3_shr, sh_tb, tb_eq0, gd_tt, aI_o, aV_o, aL_o, aR_o, zd_0, zd_1, if_true, if_false, ite_self, eq_self, Bool.true_eq_false, Bool.false_eq_true, bi_0, bi_1, bi_zd, Nat.not_lt_zero, Nat.reduceEqDiff, Nat.reduceLeDiff, Nat.reduceLT, rr_218, ldr_218, f1]
        · refine ⟨i3 (ns (H c) i), G, g00 G, ?_, sM_o, ?_, g00_0, Inv_g00 hS hh hn⟩
          · simp (disch := omega) only [i3_add, i3_mul, i3_sub, i3_m1, i3_lt, i3_le, i3_eq, m1_lt, lt_m1, m1_le, le_m1, i3_nm1, m1_ni3, i3_cl, i3_in, i3_or, i3_and, i3_xor, i3_shl, i3_shr, sh_tb, tb_eq0, gd_tt, aI_o, aV_o, aL_o, aR_o, zd_0, zd_1, if_true, if_false, ite_self, eq_self, Bool.true_eq_false, Bool.false_eq_true, bi_0, bi_1, bi_zd, Nat.not_lt_zero, Nat.reduceEqDiff, Nat.reduceLeDiff, Nat.reduceLT, e2]
          · rw [e30]
            simp (disch := omega) only [i3_add, i3_mul, i3_sub, i3_m1, i3_lt, i3_le, i3_eq, m1_lt, lt_m1, m1_le, le_m1, i3_nm1, m1_ni3, i3_cl, i3_in, i3_or, i3_and, i3_xor, i3_shl, i3_shr, sh_tb, tb_eq0, gd_tt, aI_o, aV_o, aL_o, aR_o, zd_0, zd_1, if_true, if_false, ite_self, eq_self, Bool.true_eq_false, Bool.false_eq_true, bi_0, bi_1, bi_zd, Nat.not_lt_zero, Nat.reduceEqDiff, Nat.reduceLeDiff, Nat.reduceLT, rr_218, ldr_218, f2]
      · have q1 : ¬ (i3 0 ≤ v ∧ v ≤ mi (nn (H c))) := fun z => hv2 ((in_pre (by omega)).mp z).2
        refine ⟨m1, G, g00 G, ?_, sM_o, ?_, g00_0, Inv_g00 hS hh hn⟩
        · rw [if_neg hv, if_neg hv2]
        · rw [e30, if_neg q1]; rfl
theorem op_32 {d x : Nat} {V : pV} {G : sm_G} {L : sm_L} {v : Int32} (I : Inv V G) : OpI d x V G L 32 [.ref 1, .int v] 246 [.ref 156, .int v] eA := by
  have I0 := I
  obtain ⟨T, K, c, H, W, hS, hh, hn⟩ := I
  have hB := hS.T.gb
  have ec := m_32 (d := d + 59) (x := x) (G := G) (L := L) (V := V) (v1 := v) hS.V
  rw [s_33, aV_if] at ec
  refine OpI_1 (Y := ?Y) I0 ec ?_ (by decide) ?_
  rotate_left
  · intro x1 G1 hs
    have hm := hS.m.sM hS.T hS.P hs
    rw [m_246, s_218c]
    simp only [aI_o]
    rw [mbad g00_0 (by decide) (by decide) (by decide)]
    rfl
  · intro h1
    obtain ⟨j, rfl, hj⟩ := rngl (by omega) h1
    have hm := hS.m.sM hS.T hS.P (sM_o (G := G))
    have hnn := hS.P.gb
    have c1 := hS.p.gnn
    have c2 := hS.p.gkp
    have c3 := hS.c
    obtain ⟨nb, b1, b2, b3, _⟩ := hS.b
    have b4 : g00 G 156 36 = i3 nb := by rw [g00_ne (by omega)]; exact b3
    have hq : j = 0 ∨ j = 1 ∨ j = 2 ∨ j = 3 ∨ j = 4 ∨ j = 5 ∨ j = 6 ∨ j = 7 := by omega
    rcases hq with rfl | rfl | rfl | rfl | rfl | rfl | rfl | rfl
    · refine ⟨i3 (sl T), G, g00 G, ?_, sM_o, ?_, g00_0, Inv_g00 hS hh hn⟩
      · simp (disch := omega) only [i3_add, i3_mul, i3_sub, i3_m1, i3_lt, i3_le, i3_eq, m1_lt, lt_m1, m1_le, le_m1, i3_nm1, m1_ni3, i3_cl, i3_in, i3_or, i3_and, i3_xor, i3_shl, i3_shr, sh_tb, tb_eq0, gd_tt, aI_o, aV_o, aL_o, aR_o, zd_0, zd_1, if_true, if_false, ite_self, eq_self, Bool.true_eq_false, Bool.false_eq_true, bi_0, bi_1, bi_zd, Nat.not_lt_zero, c3.gsl]
      · rw [h_246_31]
        simp (disch := omega) only [i3_add, i3_mul, i3_sub, i3_m1, i3_lt, i3_le, i3_eq, m1_lt, lt_m1, m1_le, le_m1, i3_nm1, m1_ni3, i3_cl, i3_in, i3_or, i3_and, i3_xor, i3_shl, i3_shr, sh_tb, tb_eq0, gd_tt, aI_o, aV_o, aL_o, aR_o, zd_0, zd_1, if_true, if_false, ite_self, eq_self, Bool.true_eq_false, Bool.false_eq_true, bi_0, bi_1, bi_zd, Nat.not_lt_zero, Nat.reduceEqDiff, Nat.reduceLeDiff, Nat.reduceLT, hm.gsl]
    · refine ⟨i3 (dn T), G, g00 G, ?_, sM_o, ?_, g00_0, Inv_g00 hS hh hn⟩
      · simp (disch := omega) only [i3_add, i3_mul, i3_sub, i3_m1, i3_lt, i3_le, i3_eq, m1_lt, lt_m1, m1_le, le_m1, i3_nm1, m1_ni3, i3_cl, i3_in, i3_or, i3_and, i3_xor, i3_shl, i3_shr, sh_tb, tb_eq0, gd_tt, aI_o, aV_o, aL_o, aR_o, zd_0, zd_1, if_true, if_false, ite_self, eq_self, Bool.true_eq_false, Bool.false_eq_true, bi_0, bi_1, bi_zd, Nat.not_lt_zero, Nat.reduceEqDiff, Nat.reduceLeDiff, Nat.reduceLT, c3.gdn]
      · rw [h_246_31]
        simp (disch := omega) only [i3_add, i3_mul, i3_sub, i3_m1, i3_lt, i3_le, i3_eq, m1_lt, lt_m1, m1_le, le_m1, i3_nm1, m1_ni3, i3_cl, i3_in, i3_or, i3_and, i3_xor, i3_shl, i3_shr, sh_tb, tb_eq0, gd_tt, aI_o, aV_o, aL_o, aR_o, zd_0, zd_1, if_true, if_false, ite_self, eq_self, Bool.true_eq_false, Bool.false_eq_true, bi_0, bi_1, bi_zd, Nat.not_lt_zero, Nat.reduceEqDiff, Nat.reduceLeDiff, Nat.reduceLT, hm.gdn]
    · refine ⟨i3 (nn (H c)), G, g00 G, ?_, sM_o, ?_, g00_0, Inv_g00 hS hh hn⟩
      · simp (disch := omega) only [i3_add, i3_mul, i3_sub, i3_m1, i3_lt, i3_le, i3_eq, m1_lt, lt_m1, m1_le, le_m1, i3_nm1, m1_ni3, i3_cl, i3_in, i3_or, i3_and, i3_xor, i3_shl, i3_shr, sh_tb, tb_eq0, gd_tt, aI_o, aV_o, aL_o, aR_o, zd_0, zd_1, if_true, if_false, ite_self, eq_self, Bool.true_eq_false, Bool.false_eq_true, bi_0, bi_1, bi_zd, Nat.not_lt_zero, Nat.reduceEqDiff, Nat.reduceLeDiff, Nat.reduceLT, c1]
      · rw [h_246_31]
        simp (disch := omega) only [i3_add, i3_mul, i3_sub, i3_m1, i3_lt, i3_le, i3_eq, m1_lt, lt_m1, m1_le, le_m1, i3_nm1, m1_ni3, i3_cl, i3_in, i3_or, i3_and, i3_xor, i3_shl, i3_shr, sh_tb, tb_eq0, gd_tt, aI_o, aV_o, aL_o, aR_o, zd_0, zd_1, if_true, if_false, ite_self, eq_self, Bool.true_eq_false, Bool.false_eq_true, bi_0, bi_1, bi_zd, Nat.not_lt_zero, Nat.reduceEqDiff, Nat.reduceLeDiff, Nat.reduceLT, hm.gnn]
    · refine ⟨i3 (tn T), G, g00 G, ?_, sM_o, ?_, g00_0, Inv_g00 hS hh hn⟩
      · simp (disch := omega) only [i3_add, i3_mul, i3_sub, i3_m1, i3_lt, i3_le, i3_eq, m1_lt, lt_m1, m1_le, le_m1, i3_nm1, m1_ni3, i3_cl, i3_in, i3_or, i3_and, i3_xor, i3_shl, i3_shr, sh_tb, tb_eq0, gd_tt, aI_o, aV_o, aL_o, aR_o, zd_0, zd_1, if_true, if_false, ite_self, eq_self, Bool.true_eq_false, Bool.false_eq_true, bi_0, bi_1, bi_zd, Nat.not_lt_zero, Nat.reduceEqDiff, Nat.reduceLeDiff, Nat.reduceLT, c3.gtn]
      · rw [h_246_31]
        simp (disch := omega) only [i3_add, i3_mul, i3_sub, i3_m1, i3_lt, i3_le, i3_eq, m1_lt, lt_m1, m1_le, le_m1, i3_nm1, m1_ni3, i3_cl, i3_in, i3_or, i3_and, i3_xor, i3_shl, i3_shr, sh_tb, tb_eq0, gd_tt, aI_o, aV_o, aL_o, aR_o, zd_0, zd_1, if_true, if_false, ite_self, eq_self, Bool.true_eq_false, Bool.false_eq_true, bi_0, bi_1, bi_zd, Nat.not_lt_zero, Nat.reduceEqDiff, Nat.reduceLeDiff, Nat.reduceLT, hm.gtn]
    · refine ⟨i3 (dr T), G, g00 G, ?_, sM_o, ?_, g00_0, Inv_g00 hS hh hn⟩
      · simp (disch := omega) only [i3_add, i3_mul, i3_sub, i3_m1, i3_lt, i3_le, i3_eq, m1_lt, lt_m1, m1_le, le_m1, i3_nm1, m1_ni3, i3_cl, i3_in, i3_or, i3_and, i3_xor, i3_shl, i3_shr, sh_tb, tb_eq0, gd_tt, aI_o, aV_o, aL_o, aR_o, zd_0, zd_1, if_true, if_false, ite_self, eq_self, Bool.true_eq_false, Bool.false_eq_true, bi_0, bi_1, bi_zd, Nat.not_lt_zero, Nat.reduceEqDiff, Nat.reduceLeDiff, Nat.reduceLT, c3.gdr]
      · rw [h_246_31]
        simp (disch := omega) only [i3_add, i3_mul, i3_sub, i3_m1, i3_lt, i3_le, i3_eq, m1_lt, lt_m1, m1_le, le_m1, i3_nm1, m1_ni3, i3_cl, i3_in, i3_or, i3_and, i3_xor, i3_shl, i3_shr, sh_tb, tb_eq0, gd_tt, aI_o, aV_o, aL_o, aR_o, zd_0, zd_1, if_true, if_false, ite_self, eq_self, Bool.true_eq_false, Bool.false_eq_true, bi_0, bi_1, bi_zd, Nat.not_lt_zero, Nat.reduceEqDiff, Nat.reduceLeDiff, Nat.reduceLT, hm.gdr]
    · refine ⟨mi (mk T), G, g00 G, ?_, sM_o, ?_, g00_0, Inv_g00 hS hh hn⟩
      · simp (disch := omega) only [i3_add, i3_mul, i3_sub, i3_m1, i3_lt, i3_le, i3_eq, m1_lt, lt_m1, m1_le, le_m1, i3_nm1, m1_ni3, i3_cl, i3_in, i3_or, i3_and, i3_xor, i3_shl, i3_shr, sh_tb, tb_eq0, gd_tt, aI_o, aV_o, aL_o, aR_o, zd_0, zd_1, if_true, if_false, ite_self, eq_self, Bool.true_eq_false, Bool.false_eq_true, bi_0, bi_1, bi_zd, Nat.not_lt_zero, Nat.reduceEqDiff, Nat.reduceLeDiff, Nat.reduceLT, c3.gmk]
      · rw [h_246_31]
        simp (disch := omega) only [i3_add, i3_mul, i3_sub, i3_m1, i3_lt, i3_le, i3_eq, m1_lt, lt_m1, m1_le, le_m1, i3_nm1, m1_ni3, i3_cl, i3_in, i3_or, i3_and, i3_xor, i3_shl, i3_shr, sh_tb, tb_eq0, gd_tt, aI_o, aV_o, aL_o, aR_o, zd_0, zd_1, if_true, if_false, ite_self, eq_self, Bool.true_eq_false, Bool.false_eq_true, bi_0, bi_1, bi_zd, Nat.not_lt_zero, Nat.reduceEqDiff, Nat.reduceLeDiff, Nat.reduceLT, hm.gmk]
    · refine ⟨i3 K, G, g00 G, ?_, sM_o, ?_, g00_0, Inv_g00 hS hh hn⟩
      · simp (disch := omega) only [i3_add, i3_mul, i3_sub, i3_m1, i3_lt, i3_le, i3_eq, m1_lt, lt_m1, m1_le, le_m1, i3_nm1, m1_ni3, i3_cl, i3_in, i3_or, i3_and, i3_xor, i3_shl, i3_shr, sh_tb, tb_eq0, gd_tt, aI_o, aV_o, aL_o, aR_o, zd_0, zd_1, if_true, if_false, ite_self, eq_self, Bool.true_eq_false, Bool.false_eq_true, bi_0, bi_1, bi_zd, Nat.not_lt_zero, Nat.reduceEqDiff, Nat.reduceLeDiff, Nat.reduceLT, c2]
      · rw [h_246_31]
        simp (disch := omega) only [i3_add, i3_mul, i3_sub, i3_m1, i3_lt, i3_le, i3_eq, m1_lt, lt_m1, m1_le, le_m1, i3_nm1, m1_ni3, i3_cl, i3_in, i3_or, i3_and, i3_xor, i3_shl, i3_shr, sh_tb, tb_eq0, gd_tt, aI_o, aV_o, aL_o, aR_o, zd_0, zd_1, if_true, if_false, ite_self, eq_self, Bool.true_eq_false, Bool.false_eq_true, bi_0, bi_1, bi_zd, Nat.not_lt_zero, Nat.reduceEqDiff, Nat.reduceLeDiff, Nat.reduceLT, hm.gkp]
    · refine ⟨i3 nb, G, g00 G, ?_, sM_o, ?_, g00_0, Inv_g00 hS hh hn⟩
      · simp (disch := omega) only [i3_add, i3_mul, i3_sub, i3_m1, i3_lt, i3_le, i3_eq, m1_lt, lt_m1, m1_le, le_m1, i3_nm1, m1_ni3, i3_cl, i3_in, i3_or, i3_and, i3_xor, i3_shl, i3_shr, sh_tb, tb_eq0, gd_tt, aI_o, aV_o, aL_o, aR_o, zd_0, zd_1, if_true, if_false, ite_self, eq_self, Bool.true_eq_false, Bool.false_eq_true, bi_0, bi_1, bi_zd, Nat.not_lt_zero, Nat.reduceEqDiff, Nat.reduceLeDiff, Nat.reduceLT, b2]
      · rw [h_246_31]
        simp (disch := omega) only [i3_add, i3_mul, i3_sub, i3_m1, i3_lt, i3_le, i3_eq, m1_lt, lt_m1, m1_le, le_m1, i3_nm1, m1_ni3, i3_cl, i3_in, i3_or, i3_and, i3_xor, i3_shl, i3_shr, sh_tb, tb_eq0, gd_tt, aI_o, aV_o, aL_o, aR_o, zd_0, zd_1, if_true, if_false, ite_self, eq_self, Bool.true_eq_false, Bool.false_eq_true, bi_0, bi_1, bi_zd, Nat.not_lt_zero, Nat.reduceEqDiff, Nat.reduceLeDiff, Nat.reduceLT, b4]
theorem op_12 {d x : Nat} {V : pV} {G : sm_G} {L : sm_L} {E : Nat → Nat} (I : Inv V G) : OpI d x V G L 12 [.ref 1] 245 [.ref 156] E := by
  have I0 := I
  obtain ⟨T, K, c, H, W, hS, hh, hn⟩ := I
  have hB := hS.T.gb
  have ec := m_12 (d := d + 59) (x := x) (G := G) (L := L) (V := V)
  refine OpI_0 ec ?_
  refine ⟨G 1 16, G, g00 G, rfl, ?_, g00_0, Inv_g00 hS hh hn⟩
  rw [m_245, sm_up_ne (by omega), hS.r.2]
theorem op_27 {d x : Nat} {V : pV} {G : sm_G} {L : sm_L} {v : Int32} {E : Nat → Nat} (I : Inv V G) : OpI d x V G L 27 [.ref 1, .int v] 332 [.ref 156, .int v] E := by
  have I0 := I
  obtain ⟨T, K, c, H, W, hS, hh, hn⟩ := I
  have hB := hS.T.gb
  have ec := m_27 (d := d + 59) (x := x) (G := G) (L := L) (V := V) (v1 := v)
  refine OpI_0 ec ?_
  rcases neg_or v with hv | ⟨i, rfl, hi⟩
  · refine ⟨m1, G, g00 G, if_pos hv, ?_, g00_0, Inv_g00 hS hh hn⟩
    rw [m_332, s_218c, decide_eq_false (fun z => z.1 hv), show bi false = i3 0 from rfl]
    simp (disch := omega) only [i3_add, i3_mul, i3_sub, i3_m1, i3_lt, i3_le, i3_eq, m1_lt, lt_m1, m1_le, le_m1, i3_nm1, m1_ni3, i3_cl, i3_in, i3_or, i3_and, i3_xor, i3_shl, i3_shr, sh_tb, tb_eq0, gd_tt, aI_o, aV_o, aL_o, aR_o, zd_0, zd_1, if_true, if_false, ite_self, eq_self, Bool.true_eq_false, Bool.false_eq_true, bi_0, bi_1, bi_zd, Nat.not_lt_zero]
  · by_cases q : i < 4
    · refine ⟨G 4 i, G, g00 G, ?_, ?_, g00_0, Inv_g00 hS hh hn⟩
      · simp (disch := omega) only [i3_add, i3_mul, i3_sub, i3_m1, i3_lt, i3_le, i3_eq, m1_lt, lt_m1, m1_le, le_m1, i3_nm1, m1_ni3, i3_cl, i3_in, i3_or, i3_and, i3_xor, i3_shl, i3_shr, sh_tb, tb_eq0, gd_tt, aI_o, aV_o, aL_o, aR_o, zd_0, zd_1, if_true, if_false, ite_self, eq_self, Bool.true_eq_false, Bool.false_eq_true, bi_0, bi_1, bi_zd, Nat.not_lt_zero, q]
      · rw [m_332, s_218c, decide_eq_true (show ¬ i3 i < i3 0 ∧ i3 i ≤ i3 3 by simp (disch := omega) only [i3_add, i3_mul, i3_sub, i3_m1, i3_lt, i3_le, i3_eq, m1_lt, lt_m1, m1_le, le_m1, i3_nm1, m1_ni3, i3_cl, i3_in, i3_or, i3_and, i3_xor, i3_shl, i3_shr, sh_tb, tb_eq0, gd_tt, aI_o, aV_o, aL_o, aR_o, zd_0, zd_1, if_true, if_false, ite_self, eq_self, Bool.true_eq_false, Bool.false_eq_true, bi_0, bi_1, bi_zd, Nat.not_lt_zero, not_false_iff, true_and]; omega), show bi true = i3 1 from rfl, hS.r.1 i q]
        have e1 : sm_up G 156 0 (i3 0) 158 i = G 158 i := sm_up_ne (by omega)
        simp (disch := omega) only [i3_add, i3_mul, i3_sub, i3_m1, i3_lt, i3_le, i3_eq, m1_lt, lt_m1, m1_le, le_m1, i3_nm1, m1_ni3, i3_cl, i3_in, i3_or, i3_and, i3_xor, i3_shl, i3_shr, sh_tb, tb_eq0, gd_tt, aI_o, aV_o, aL_o, aR_o, zd_0, zd_1, if_true, if_false, ite_self, eq_self, Bool.true_eq_false, Bool.false_eq_true, bi_0, bi_1, bi_zd, Nat.not_lt_zero, Nat.reduceEqDiff, Nat.reduceLeDiff, Nat.reduceLT, e1]
    · refine ⟨m1, G, g00 G, ?_, ?_, g00_0, Inv_g00 hS hh hn⟩
      · simp (disch := omega) only [i3_add, i3_mul, i3_sub, i3_m1, i3_lt, i3_le, i3_eq, m1_lt, lt_m1, m1_le, le_m1, i3_nm1, m1_ni3, i3_cl, i3_in, i3_or, i3_and, i3_xor, i3_shl, i3_shr, sh_tb, tb_eq0, gd_tt, aI_o, aV_o, aL_o, aR_o, zd_0, zd_1, if_true, if_false, ite_self, eq_self, Bool.true_eq_false, Bool.false_eq_true, bi_0, bi_1, bi_zd, Nat.not_lt_zero, q]
      · rw [m_332, s_218c, decide_eq_false (show ¬ (¬ i3 i < i3 0 ∧ i3 i ≤ i3 3) by simp (disch := omega) only [i3_add, i3_mul, i3_sub, i3_m1, i3_lt, i3_le, i3_eq, m1_lt, lt_m1, m1_le, le_m1, i3_nm1, m1_ni3, i3_cl, i3_in, i3_or, i3_and, i3_xor, i3_shl, i3_shr, sh_tb, tb_eq0, gd_tt, aI_o, aV_o, aL_o, aR_o, zd_0, zd_1, if_true, if_false, ite_self, eq_self, Bool.true_eq_false, Bool.false_eq_true, bi_0, bi_1, bi_zd, Nat.not_lt_zero, not_false_iff, true_and]; omega), show bi false = i3 0 from rfl]
        simp (disch := omega) only [i3_add, i3_mul, i3_sub, i3_m1, i3_lt, i3_le, i3_eq, m1_lt, lt_m1, m1_le, le_m1, i3_nm1, m1_ni3, i3_cl, i3_in, i3_or, i3_and, i3_xor, i3_shl, i3_shr, sh_tb, tb_eq0, gd_tt, aI_o, aV_o, aL_o, aR_o, zd_0, zd_1, if_true, if_false, ite_self, eq_self, Bool.true_eq_false, Bool.false_eq_true, bi_0, bi_1, bi_zd, Nat.not_lt_zero]
theorem op_28 {d x : Nat} {V : pV} {G : sm_G} {L : sm_L} {v : Int32} {E : Nat → Nat} (I : Inv V G) : OpI d x V G L 28 [.ref 1, .int v] 333 [.ref 156, .int v] E := by
  have I0 := I
  obtain ⟨T, K, c, H, W, hS, hh, hn⟩ := I
  have hB := hS.T.gb
  have ec := m_28 (d := d + 59) (x := x) (G := G) (L := L) (V := V) (v1 := v) hS.V
  refine OpI_0 ec ?_
  obtain ⟨nt, t1, t2, t3, _⟩ := hS.t
  obtain ⟨ni, i1, i2, i3', _⟩ := hS.i
  have c1 := hS.h.2.1
  have c2 := hS.hm.1
  by_cases q0 : v = i3 0
  · refine ⟨i3 ni, G, g00 G, ?_, ?_, g00_0, Inv_g00 hS hh hn⟩
    · rw [if_pos q0, i2]
    · rw [m_333, if_pos q0, sm_up_ne (by omega), i3']
  · by_cases q1 : v = i3 1
    · refine ⟨i3 nt, G, g00 G, ?_, ?_, g00_0, Inv_g00 hS hh hn⟩
      · rw [if_neg q0, if_pos q1, t2]
      · rw [m_333, if_neg q0, if_pos q1, sm_up_ne (by omega), t3]
    · by_cases q2 : v = i3 2
      · refine ⟨i3 c, G, g00 G, ?_, ?_, g00_0, Inv_g00 hS hh hn⟩
        · rw [if_neg q0, if_neg q1, if_pos q2, c1]
        · rw [m_333, if_neg q0, if_neg q1, if_pos q2, sm_up_ne (by omega), c2]
      · refine ⟨m1, G, g00 G, ?_, ?_, g00_0, Inv_g00 hS hh hn⟩
        · rw [if_neg q0, if_neg q1, if_neg q2]
        · rw [m_333, if_neg q0, if_neg q1, if_neg q2]
