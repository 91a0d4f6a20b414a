/-! far, lonely, crowd, whose -/
theorem fo_tb {T : pT} {i : Nat} (hi : i < dn T) : (fo T).testBit i = decide (dO T i = 1) := by
  unfold fo
  rw [bs_tb, decide_eq_true hi, Bool.true_and]
/-- the model goes once through the doors that are open at first -/
theorem l_313 {d x : Nat} {V : pV} {G : sm_G} {L : sm_L} {T P : pT} {K b r n : Nat} (hm : mH G T P K) (hT : okT T) (hr : r < 256) : hD d 313 62 [.ref 156, .null, .int (i3 b), .int (i3 r), .int (i3 n), .int (i3 r), .int (i3 0)] 342 (RR V) x G L = hD d 313 37 [.ref 156, .null, .int (i3 b), .int (i3 (r ||| bhi T r (fo T) 0)), .int (i3 (n + 1)), .null, .null] 342 (RR V) x G L := by
  have hB := hT.gb
  rw [← bhi_or]
  refine loop0 (H := fun i a => hD d 313 62 [.ref 156, .null, .int (i3 b), .int (i3 r), .int (i3 n), .int (i3 a), .int (i3 i)] 342 (RR V) x G L) (out := fun a => hD d 313 37 [.ref 156, .null, .int (i3 b), .int (i3 a), .int (i3 (n + 1)), .null, .null] 342 (RR V) x G L) (N := dn T) (step := fun d a => if (fo T).testBit d = false then a else (a ||| tb r (dA T d) <<< dB T d) ||| tb r (dB T d) <<< dA T d) ?_ ?_ r
  · intro i a hi
    have hd := hT.gdr i hi
    have e1 := hm.gdA i hi
    have e2 := hm.gdB i hi
    have e3 := hm.gdO i hi
    have e4 := fo_tb hi
    rw [h_313_62, hm.gdn]
    by_cases q : dO T i = 1
    · rw [decide_eq_true q] at e4
      simp (disch := omega) only [i3_add, i3_mul, i3_sub, i3_m1, i3_lt, i3_le, i3_eq, m1_lt, lt_m1, m1_le, le_m1, i3_nm1, m1_ni3, i3_cl, i3_in, i3_or, i3_and, i3_xor, i3_shl, i3_shr, sh_tb, tb_eq0, gd_tt, aI_o, aV_o, aL_o, aR_o, zd_0, zd_1, if_true, if_false, ite_self, eq_self, Bool.true_eq_false, Bool.false_eq_true, bi_0, bi_1, bi_zd, Nat.not_lt_zero, Nat.reduceEqDiff, Nat.reduceLeDiff, Nat.reduceLT, hi, rr_194, ldr_194, e1, e2, e3, q, e4, h_313_147]
    · rw [decide_eq_false q] at e4
      have q0 : dO T i = 0 := by omega
      simp (disch := omega) only [i3_add, i3_mul, i3_sub, i3_m1, i3_lt, i3_le, i3_eq, m1_lt, lt_m1, m1_le, le_m1, i3_nm1, m1_ni3, i3_cl, i3_in, i3_or, i3_and, i3_xor, i3_shl, i3_shr, sh_tb, tb_eq0, gd_tt, aI_o, aV_o, aL_o, aR_o, zd_0, zd_1, if_true, if_false, ite_self, eq_self, Bool.true_eq_false, Bool.false_eq_true, bi_0, bi_1, bi_zd, Nat.not_lt_zero, Nat.reduceEqDiff, Nat.reduceLeDiff, Nat.reduceLT, hi, rr_194, ldr_194, e1, e2, e3, q0, e4, h_313_147]
  · intro a
    rw [h_313_62, hm.gdn]
    simp (disch := omega) only [i3_add, i3_mul, i3_sub, i3_m1, i3_lt, i3_le, i3_eq, m1_lt, lt_m1, m1_le, le_m1, i3_nm1, m1_ni3, i3_cl, i3_in, i3_or, i3_and, i3_xor, i3_shl, i3_shr, sh_tb, tb_eq0, gd_tt, aI_o, aV_o, aL_o, aR_o, zd_0, zd_1, if_true, if_false, ite_self, eq_self, Bool.true_eq_false, Bool.false_eq_true, bi_0, bi_1, bi_zd, Nat.not_lt_zero, Nat.lt_irrefl]
theorem l_far {d x : Nat} {V : pV} {G : sm_G} {L : sm_L} {d' x' : Nat} {U : pV} {g : sm_G} {L' : sm_L} {s K b : Nat} {T P : pT} (hs : pS s) (hc : cS G s T) (hm : mH g T P K) (hT : okT T) (hb : b < 8) : ∀ k n r, n + k = 8 → r < 256 → ∃ z, hD (d + 1) 156 8 [.null, .ref s, .null, .int (i3 b), .int (i3 r), .int (i3 n)] 342 (RR V) x G L = oI z x G L ∧ hD d' 313 37 [.ref 156, .null, .int (i3 b), .int (i3 r), .int (i3 n), .null, .null] 342 (RR U) x' g L' = oI z x' g L'
  | 0, n, r, h, hr => by
    refine ⟨m1, ?_, ?_⟩
    · rw [h_156_8 hs]
      simp (disch := omega) only [i3_add, i3_mul, i3_sub, i3_m1, i3_lt, i3_le, i3_eq, m1_lt, lt_m1, m1_le, le_m1, i3_nm1, m1_ni3, i3_cl, i3_in, i3_or, i3_and, i3_xor, i3_shl, i3_shr, sh_tb, tb_eq0, gd_tt, aI_o, aV_o, aL_o, aR_o, zd_0, zd_1, if_true, if_false, ite_self, eq_self, Bool.true_eq_false, Bool.false_eq_true, bi_0, bi_1, bi_zd, Nat.not_lt_zero, show ¬ n < 8 by omega]
    · rw [h_313_37]
      simp (disch := omega) only [i3_add, i3_mul, i3_sub, i3_m1, i3_lt, i3_le, i3_eq, m1_lt, lt_m1, m1_le, le_m1, i3_nm1, m1_ni3, i3_cl, i3_in, i3_or, i3_and, i3_xor, i3_shl, i3_shr, sh_tb, tb_eq0, gd_tt, aI_o, aV_o, aL_o, aR_o, zd_0, zd_1, if_true, if_false, ite_self, eq_self, Bool.true_eq_false, Bool.false_eq_true, bi_0, bi_1, bi_zd, Nat.not_lt_zero, show ¬ n < 8 by omega]
  | k + 1, n, r, h, hr => by
    have hfo := fo_lt hT
    have hbl := bhi_lt hT (r := r) (o := fo T)
    cases q : r.testBit b
    · obtain ⟨z, h1, h2⟩ := l_far (d := d) (x := x) (G := G) (L := L) (V := V) (d' := d') (x' := x') (U := U) (L' := L') hs hc hm hT hb k (n + 1) (r ||| bhi T r (fo T) 0) (by omega) (Nat.or_lt_two_pow (n := 8) hr hbl)
      have e119 := s_119 (d := d) (x := x) (G := G) (L := L) (V := V) hs hc hT (show r < 1024 by omega) hfo
      refine ⟨z, ?_, ?_⟩
      · rw [← h1, h_156_8 hs, hc.gfo]
        simp (disch := omega) only [i3_add, i3_mul, i3_sub, i3_m1, i3_lt, i3_le, i3_eq, m1_lt, lt_m1, m1_le, le_m1, i3_nm1, m1_ni3, i3_cl, i3_in, i3_or, i3_and, i3_xor, i3_shl, i3_shr, sh_tb, tb_eq0, gd_tt, aI_o, aV_o, aL_o, aR_o, zd_0, zd_1, if_true, if_false, ite_self, eq_self, Bool.true_eq_false, Bool.false_eq_true, bi_0, bi_1, bi_zd, Nat.not_lt_zero, show n < 8 by omega, q, e119]
      · rw [← h2, ← l_313 hm hT hr, h_313_37]
        simp (disch := omega) only [i3_add, i3_mul, i3_sub, i3_m1, i3_lt, i3_le, i3_eq, m1_lt, lt_m1, m1_le, le_m1, i3_nm1, m1_ni3, i3_cl, i3_in, i3_or, i3_and, i3_xor, i3_shl, i3_shr, sh_tb, tb_eq0, gd_tt, aI_o, aV_o, aL_o, aR_o, zd_0, zd_1, if_true, if_false, ite_self, eq_self, Bool.true_eq_false, Bool.false_eq_true, bi_0, bi_1, bi_zd, Nat.not_lt_zero, tb_eq1, show n < 8 by omega, q]
    · refine ⟨i3 n, ?_, ?_⟩
      · rw [h_156_8 hs]
        simp (disch := omega) only [i3_add, i3_mul, i3_sub, i3_m1, i3_lt, i3_le, i3_eq, m1_lt, lt_m1, m1_le, le_m1, i3_nm1, m1_ni3, i3_cl, i3_in, i3_or, i3_and, i3_xor, i3_shl, i3_shr, sh_tb, tb_eq0, gd_tt, aI_o, aV_o, aL_o, aR_o, zd_0, zd_1, if_true, if_false, ite_self, eq_self, Bool.true_eq_false, Bool.false_eq_true, bi_0, bi_1, bi_zd, Nat.not_lt_zero, show n < 8 by omega, q]
      · rw [h_313_37]
        simp (disch := omega) only [i3_add, i3_mul, i3_sub, i3_m1, i3_lt, i3_le, i3_eq, m1_lt, lt_m1, m1_le, le_m1, i3_nm1, m1_ni3, i3_cl, i3_in, i3_or, i3_and, i3_xor, i3_shl, i3_shr, sh_tb, tb_eq0, gd_tt, aI_o, aV_o, aL_o, aR_o, zd_0, zd_1, if_true, if_false, ite_self, eq_self, Bool.true_eq_false, Bool.false_eq_true, bi_0, bi_1, bi_zd, Nat.not_lt_zero, tb_eq1, show n < 8 by omega, q]
def eI0 : Nat → Nat := fun e => if e = 0 then 1 else 0
theorem op_67 {d x : Nat} {V : pV} {G : sm_G} {L : sm_L} {v w : Int32} (I : Inv V G) : OpI d x V G L 67 [.ref 1, .int v, .int w] 313 [.ref 156, .int v, .int w] eI0 := by
  have I0 := I
  obtain ⟨T, K, c, H, W, hS, hh, hn⟩ := I
  have hB := hS.T.gb
  have ec := m_67 (d := d + 59) (x := x) (G := G) (L := L) (V := V) (v1 := v) (v2 := w)
  rw [s_47 hS.c.gsl hS.V, aV_if] at ec
  refine OpI_1 (Y := ?Y) I0 ec ?_ (by decide) ?_
  rotate_left
  · intro x1 G1 hs
    have hm := hS.m.sM hS.T hS.P hs
    rw [m_313, s_283 hm.gsl (by omega)]
    simp only [aI_o]
    rw [mbad g00_0 (by decide) (by decide) (by decide)]
    rfl
  · intro h1
    obtain ⟨a, rfl, ha⟩ := rng (by omega) h1.1
    obtain ⟨b, rfl, hb⟩ := rng (by omega) h1.2
    have hm := hS.m.sM hS.T hS.P (sM_o (G := G))
    have ha8 := shl_lt8 (show a < 8 by omega)
    obtain ⟨z, e1, e2⟩ := l_far (d := d + 57) (x := x) (G := G) (L := L) (V := V) (d' := d + 59) (x' := x) (U := V) (g := g00 G) (L' := L) (b := b) (hV1 hS.V) hS.c hm hS.T (by omega) 8 0 (1 <<< a) (by omega) ha8
    refine ⟨z, G, g00 G, ?_, sM_o, ?_, g00_0, Inv_g00 hS hh hn⟩
    · rw [m_156 (hV1 hS.V)]
      simp (disch := omega) only [i3_add, i3_mul, i3_sub, i3_m1, i3_lt, i3_le, i3_eq, m1_lt, lt_m1, m1_le, le_m1, i3_nm1, m1_ni3, i3_cl, i3_in, i3_or, i3_and, i3_xor, i3_shl, i3_shr, sh_tb, tb_eq0, gd_tt, aI_o, aV_o, aL_o, aR_o, zd_0, zd_1, if_true, if_false, ite_self, eq_self, Bool.true_eq_false, Bool.false_eq_true, bi_0, bi_1, bi_zd, Nat.not_lt_zero, e1]
    · simp (disch := omega) only [i3_add, i3_mul, i3_sub, i3_m1, i3_lt, i3_le, i3_eq, m1_lt, lt_m1, m1_le, le_m1, i3_nm1, m1_ni3, i3_cl, i3_in, i3_or, i3_and, i3_xor, i3_shl, i3_shr, sh_tb, tb_eq0, gd_tt, aI_o, aV_o, aL_o, aR_o, zd_0, zd_1, if_true, if_false, ite_self, eq_self, Bool.true_eq_false, Bool.false_eq_true, bi_0, bi_1, bi_zd, Nat.not_lt_zero]
      exact e2
theorem op_68 {d x : Nat} {V : pV} {G : sm_G} {L : sm_L} {v : Int32} (I : Inv V G) : OpI d x V G L 68 [.ref 1, .int v] 315 [.ref 156, .int v] eI0 := by
  have I0 := I
  obtain ⟨T, K, c, H, W, hS, hh, hn⟩ := I
  have hB := hS.T.gb
  have ec := m_68 (d := d + 59) (x := x) (G := G) (L := L) (V := V) (v1 := v)
  rw [s_41 hS.c.gsl hS.V, aV_if] at ec
  refine OpI_1 (Y := ?Y) I0 ec ?_ (by decide) ?_
  rotate_left
  · intro x1 G1 hs
    have hm := hS.m.sM hS.T hS.P hs
    rw [m_315, s_248 hm.gsl (by omega)]
    simp only [aI_o]
    rw [mbad g00_0 (by decide) (by decide) (by decide)]
    rfl
  · intro h1
    obtain ⟨i, rfl, hi⟩ := rng (by omega) h1
    obtain ⟨G0, a0, hS0, hh0, hn0, hs0, hO0, h17⟩ := hS.s15b (d := d + 55) (x := x) (L := L) hh hn
    obtain ⟨G1, a1, hS1, hh1, hn1, hs1, hr1, hO1⟩ := hS0.s14h (d := d + 47) (x := x) (L := L) hO0 h17 hn0
    obtain ⟨g2, b1, b2, b3, b4, b5, b6⟩ := hS1.night (d := d + 19) (x := x) (L := L) (V := V) hh1 hn1 hr1
    have hrow : ∀ m, m < 301 → G1 56 m = i3 (tB T (H c) K m) := by
      intro m hm
      exact (hO1 m hm).2.1
    have key : ∀ k m a, m + k = 301 → ∃ z, hD (d + 59) 68 24 [.ref 1, .int (i3 i), .ref 56, .ref 63, .int (i3 a), .int (i3 m)] 342 (RR V) x G1 L = oI z x G1 L ∧ hD (d + 59) 315 38 [.ref 156, .int (i3 i), .int (i3 a), .int (i3 m)] 342 (RR V) x g2 L = oI z x g2 L := by
      intro k
      induction k with
      | zero =>
        intro m a h
        refine ⟨i3 a, ?_, ?_⟩
        · rw [h_68_24 (Or.inl rfl)]
          simp (disch := omega) only [i3_add, i3_mul, i3_sub, i3_m1, i3_lt, i3_le, i3_eq, m1_lt, lt_m1, m1_le, le_m1, i3_nm1, m1_ni3, i3_cl, i3_in, i3_or, i3_and, i3_xor, i3_shl, i3_shr, sh_tb, tb_eq0, gd_tt, aI_o, aV_o, aL_o, aR_o, zd_0, zd_1, if_true, if_false, ite_self, eq_self, Bool.true_eq_false, Bool.false_eq_true, bi_0, bi_1, bi_zd, Nat.not_lt_zero, show ¬ m < 301 by omega]
        · rw [h_315_38]
          simp (disch := omega) only [i3_add, i3_mul, i3_sub, i3_m1, i3_lt, i3_le, i3_eq, m1_lt, lt_m1, m1_le, le_m1, i3_nm1, m1_ni3, i3_cl, i3_in, i3_or, i3_and, i3_xor, i3_shl, i3_shr, sh_tb, tb_eq0, gd_tt, aI_o, aV_o, aL_o, aR_o, zd_0, zd_1, if_true, if_false, ite_self, eq_self, Bool.true_eq_false, Bool.false_eq_true, bi_0, bi_1, bi_zd, Nat.not_lt_zero, show ¬ m < 301 by omega]
      | succ k ih =>
        intro m a h
        obtain ⟨_, pl, p1, p2⟩ := b2.2 m (by omega)
        have e101 := s_101 (d := d + 57) (x := x) (G := G1) (L := L) (V := V) (b := 63) (s := V.1) (r := i) (m := m) (Or.inl rfl) (hV1 hS.V) hS.T hS1.c (by omega) (by omega) p1 (fun e he => (p2 e he).1)
        have e316 := s_316 (d := d + 57) (x := x) (G := g2) (L := L) (V := V) (r := i) (m := m) hS.T b4 (by omega) (by omega) p2
        have r1 := hrow m (by omega)
        have r2 := (b3 m (by omega)).1
        have r3 := (b3 m (by omega)).2.2.1
        generalize itr (fun e a => if pl e = i + 1 then a + 1 else a) 0 (dr T) 0 = cn at e101 e316
        obtain ⟨z1, y1, y2⟩ := ih (m + 1) (a + 1) (by omega)
        obtain ⟨z0, w1, w2⟩ := ih (m + 1) a (by omega)
        cases q : (tB T (H c) K m).testBit i
        · refine ⟨z0, ?_, ?_⟩
          · rw [← w1, h_68_24 (Or.inl rfl)]
            simp (disch := omega) only [i3_add, i3_mul, i3_sub, i3_m1, i3_lt, i3_le, i3_eq, m1_lt, lt_m1, m1_le, le_m1, i3_nm1, m1_ni3, i3_cl, i3_in, i3_or, i3_and, i3_xor, i3_shl, i3_shr, sh_tb, tb_eq0, gd_tt, aI_o, aV_o, aL_o, aR_o, zd_0, zd_1, if_true, if_false, ite_self, eq_self, Bool.true_eq_false, Bool.false_eq_true, bi_0, bi_1, bi_zd, Nat.not_lt_zero, ldi_e k_56 n_56, show m < 301 by omega, r1, q]
          · rw [← w2, h_315_38]
            simp (disch := omega) only [i3_add, i3_mul, i3_sub, i3_m1, i3_lt, i3_le, i3_eq, m1_lt, lt_m1, m1_le, le_m1, i3_nm1, m1_ni3, i3_cl, i3_in, i3_or, i3_and, i3_xor, i3_shl, i3_shr, sh_tb, tb_eq0, gd_tt, aI_o, aV_o, aL_o, aR_o, zd_0, zd_1, if_true, if_false, ite_self, eq_self, Bool.true_eq_false, Bool.false_eq_true, bi_0, bi_1, bi_zd, Nat.not_lt_zero, tb_eq1, show m < 301 by omega, r2, q, Nat.add_zero]
        · by_cases q0 : i3 cn = i3 0
          · refine ⟨z1, ?_, ?_⟩
            · rw [← y1, h_68_24 (Or.inl rfl)]
              simp (disch := omega) only [i3_add, i3_mul, i3_sub, i3_m1, i3_lt, i3_le, i3_eq, m1_lt, lt_m1, m1_le, le_m1, i3_nm1, m1_ni3, i3_cl, i3_in, i3_or, i3_and, i3_xor, i3_shl, i3_shr, sh_tb, tb_eq0, gd_tt, aI_o, aV_o, aL_o, aR_o, zd_0, zd_1, if_true, if_false, ite_self, eq_self, Bool.true_eq_false, Bool.false_eq_true, bi_0, bi_1, bi_zd, Nat.not_lt_zero, ldi_e k_56 n_56, show m < 301 by omega, r1, q, e101]
              rw [if_pos q0]
            · rw [← y2, h_315_38]
              simp (disch := omega) only [i3_add, i3_mul, i3_sub, i3_m1, i3_lt, i3_le, i3_eq, m1_lt, lt_m1, m1_le, le_m1, i3_nm1, m1_ni3, i3_cl, i3_in, i3_or, i3_and, i3_xor, i3_shl, i3_shr, sh_tb, tb_eq0, gd_tt, aI_o, aV_o, aL_o, aR_o, zd_0, zd_1, if_true, if_false, ite_self, eq_self, Bool.true_eq_false, Bool.false_eq_true, bi_0, bi_1, bi_zd, Nat.not_lt_zero, tb_eq1, show m < 301 by omega, r2, q, e316]
              rw [if_pos q0]
          · refine ⟨z0, ?_, ?_⟩
            · rw [← w1, h_68_24 (Or.inl rfl)]
              simp (disch := omega) only [i3_add, i3_mul, i3_sub, i3_m1, i3_lt, i3_le, i3_eq, m1_lt, lt_m1, m1_le, le_m1, i3_nm1, m1_ni3, i3_cl, i3_in, i3_or, i3_and, i3_xor, i3_shl, i3_shr, sh_tb, tb_eq0, gd_tt, aI_o, aV_o, aL_o, aR_o, zd_0, zd_1, if_true, if_false, ite_self, eq_self, Bool.true_eq_false, Bool.false_eq_true, bi_0, bi_1, bi_zd, Nat.not_lt_zero, ldi_e k_56 n_56, show m < 301 by omega, r1, q, e101]
              rw [if_neg q0]
            · rw [← w2, h_315_38]
              simp (disch := omega) only [i3_add, i3_mul, i3_sub, i3_m1, i3_lt, i3_le, i3_eq, m1_lt, lt_m1, m1_le, le_m1, i3_nm1, m1_ni3, i3_cl, i3_in, i3_or, i3_and, i3_xor, i3_shl, i3_shr, sh_tb, tb_eq0, gd_tt, aI_o, aV_o, aL_o, aR_o, zd_0, zd_1, if_true, if_false, ite_self, eq_self, Bool.true_eq_false, Bool.false_eq_true, bi_0, bi_1, bi_zd, Nat.not_lt_zero, tb_eq1, show m < 301 by omega, r2, q, e316, Nat.add_zero]
              rw [if_neg q0]
    obtain ⟨z, e1, e2⟩ := key 301 0 0 (by omega)
    refine ⟨z, G1, g2, ?_, fun r k a => (hs1 r k a).trans (hs0 r k a), ?_, b5, b6⟩
    · rw [a0]
      simp (disch := omega) only [i3_add, i3_mul, i3_sub, i3_m1, i3_lt, i3_le, i3_eq, m1_lt, lt_m1, m1_le, le_m1, i3_nm1, m1_ni3, i3_cl, i3_in, i3_or, i3_and, i3_xor, i3_shl, i3_shr, sh_tb, tb_eq0, gd_tt, aI_o, aV_o, aL_o, aR_o, zd_0, zd_1, if_true, if_false, ite_self, eq_self, Bool.true_eq_false, Bool.false_eq_true, bi_0, bi_1, bi_zd, Nat.not_lt_zero, aR_o, k_54, q_54_1]
      rw [a1]
      simp (disch := omega) only [i3_add, i3_mul, i3_sub, i3_m1, i3_lt, i3_le, i3_eq, m1_lt, lt_m1, m1_le, le_m1, i3_nm1, m1_ni3, i3_cl, i3_in, i3_or, i3_and, i3_xor, i3_shl, i3_shr, sh_tb, tb_eq0, gd_tt, aI_o, aV_o, aL_o, aR_o, zd_0, zd_1, if_true, if_false, ite_self, eq_self, Bool.true_eq_false, Bool.false_eq_true, bi_0, bi_1, bi_zd, Nat.not_lt_zero, aR_o]
      rw [h_68_21 (Or.inl rfl)]
      exact e1
    · rw [b1]
      simp only [aI_o]
      exact e2
theorem op_69 {d x : Nat} {V : pV} {G : sm_G} {L : sm_L} {v : Int32} (I : Inv V G) : OpI d x V G L 69 [.ref 1, .int v] 318 [.ref 156, .int v] eA := by
  have I0 := I
  obtain ⟨T, K, c, H, W, hS, hh, hn⟩ := I
  have hB := hS.T.gb
  have ec := m_69 (d := d + 59) (x := x) (G := G) (L := L) (V := V) (v1 := v)
  rw [s_33, aV_if] at ec
  refine OpI_1 (Y := ?Y) I0 ec ?_ (by decide) ?_
  rotate_left
  · intro x1 G1 hs
    have hm := hS.m.sM hS.T hS.P hs
    rw [m_318, s_218c]
    simp only [aI_o]
    rw [mbad g00_0 (by decide) (by decide) (by decide)]
    rfl
  · intro h1
    obtain ⟨j, rfl, hj⟩ := rngl (by omega) h1
    obtain ⟨G1, a1, hS1, hh1, hn1, hs1, hr1⟩ := hS.s14 (d := d + 47) (x := x) (L := L) hh hn
    obtain ⟨g2, b1, b2, b3, b4, b5, b6⟩ := hS1.night (d := d + 19) (x := x) (L := L) (V := V) hh1 hn1 hr1
    have key : ∀ k m (a e : Int32), m + k = 301 → ∃ z, hD (d + 59) 69 19 [.ref 1, .int (i3 j), .ref 63, .int a, .int e, .int (i3 m), .null, .null] 342 (RR V) x G1 L = oI z x G1 L ∧ hD (d + 59) 318 42 [.ref 156, .int (i3 j), .int a, .int e, .int (i3 m), .null] 342 (RR V) x g2 L = oI z x g2 L := by
      intro k
      induction k with
      | zero =>
        intro m a e h
        refine ⟨if j = 0 then a else e, ?_, ?_⟩
        · rw [h_69_19 (Or.inl rfl)]
          simp (disch := omega) only [i3_add, i3_mul, i3_sub, i3_m1, i3_lt, i3_le, i3_eq, m1_lt, lt_m1, m1_le, le_m1, i3_nm1, m1_ni3, i3_cl, i3_in, i3_or, i3_and, i3_xor, i3_shl, i3_shr, sh_tb, tb_eq0, gd_tt, aI_o, aV_o, aL_o, aR_o, zd_0, zd_1, if_true, if_false, ite_self, eq_self, Bool.true_eq_false, Bool.false_eq_true, bi_0, bi_1, bi_zd, Nat.not_lt_zero, show ¬ m < 301 by omega]
          split <;> rfl
        · rw [h_318_42]
          simp (disch := omega) only [i3_add, i3_mul, i3_sub, i3_m1, i3_lt, i3_le, i3_eq, m1_lt, lt_m1, m1_le, le_m1, i3_nm1, m1_ni3, i3_cl, i3_in, i3_or, i3_and, i3_xor, i3_shl, i3_shr, sh_tb, tb_eq0, gd_tt, aI_o, aV_o, aL_o, aR_o, zd_0, zd_1, if_true, if_false, ite_self, eq_self, Bool.true_eq_false, Bool.false_eq_true, bi_0, bi_1, bi_zd, Nat.not_lt_zero, show ¬ m < 301 by omega]
          split <;> rfl
      | succ k ih =>
        intro m a e h
        obtain ⟨_, pl, p1, p2⟩ := b2.2 m (by omega)
        have inner : ∀ k2 i (a e : Int32), i + k2 = sl T → ∃ z, hD (d + 59) 69 30 [.ref 1, .int (i3 j), .ref 63, .int a, .int e, .int (i3 m), .int (i3 i), .null] 342 (RR V) x G1 L = oI z x G1 L ∧ hD (d + 59) 318 53 [.ref 156, .int (i3 j), .int a, .int e, .int (i3 m), .int (i3 i)] 342 (RR V) x g2 L = oI z x g2 L := by
          intro k2
          induction k2 with
          | zero =>
            intro i a e hi
            obtain ⟨z, y1, y2⟩ := ih (m + 1) a e (by omega)
            refine ⟨z, ?_, ?_⟩
            · rw [← y1, h_69_30 hS.V (Or.inl rfl), hS1.c.gsl]
              simp (disch := omega) only [i3_add, i3_mul, i3_sub, i3_m1, i3_lt, i3_le, i3_eq, m1_lt, lt_m1, m1_le, le_m1, i3_nm1, m1_ni3, i3_cl, i3_in, i3_or, i3_and, i3_xor, i3_shl, i3_shr, sh_tb, tb_eq0, gd_tt, aI_o, aV_o, aL_o, aR_o, zd_0, zd_1, if_true, if_false, ite_self, eq_self, Bool.true_eq_false, Bool.false_eq_true, bi_0, bi_1, bi_zd, Nat.not_lt_zero, show ¬ i < sl T by omega]
            · rw [← y2, h_318_53, b4.gsl]
              simp (disch := omega) only [i3_add, i3_mul, i3_sub, i3_m1, i3_lt, i3_le, i3_eq, m1_lt, lt_m1, m1_le, le_m1, i3_nm1, m1_ni3, i3_cl, i3_in, i3_or, i3_and, i3_xor, i3_shl, i3_shr, sh_tb, tb_eq0, gd_tt, aI_o, aV_o, aL_o, aR_o, zd_0, zd_1, if_true, if_false, ite_self, eq_self, Bool.true_eq_false, Bool.false_eq_true, bi_0, bi_1, bi_zd, Nat.not_lt_zero, show ¬ i < sl T by omega]
          | succ k2 ih2 =>
            intro i a e hi
            have e101 := s_101 (d := d + 57) (x := x) (G := G1) (L := L) (V := V) (b := 63) (s := V.1) (r := i) (m := m) (Or.inl rfl) (hV1 hS.V) hS.T hS1.c (by omega) (by omega) p1 (fun e he => (p2 e he).1)
            have e316 := s_316 (d := d + 57) (x := x) (G := g2) (L := L) (V := V) (r := i) (m := m) hS.T b4 (by omega) (by omega) p2
            generalize itr (fun e a => if pl e = i + 1 then a + 1 else a) 0 (dr T) 0 = cn at e101 e316
            by_cases q : i3 cn ≤ a
            · obtain ⟨z, y1, y2⟩ := ih2 (i + 1) a e (by omega)
              refine ⟨z, ?_, ?_⟩
              · rw [← y1, h_69_30 hS.V (Or.inl rfl), hS1.c.gsl]
                simp (disch := omega) only [i3_add, i3_mul, i3_sub, i3_m1, i3_lt, i3_le, i3_eq, m1_lt, lt_m1, m1_le, le_m1, i3_nm1, m1_ni3, i3_cl, i3_in, i3_or, i3_and, i3_xor, i3_shl, i3_shr, sh_tb, tb_eq0, gd_tt, aI_o, aV_o, aL_o, aR_o, zd_0, zd_1, if_true, if_false, ite_self, eq_self, Bool.true_eq_false, Bool.false_eq_true, bi_0, bi_1, bi_zd, Nat.not_lt_zero, show i < sl T by omega, e101, q]
                rw [h_69_69 (Or.inl rfl), i3_add]
              · rw [← y2, h_318_53, b4.gsl]
                simp (disch := omega) only [i3_add, i3_mul, i3_sub, i3_m1, i3_lt, i3_le, i3_eq, m1_lt, lt_m1, m1_le, le_m1, i3_nm1, m1_ni3, i3_cl, i3_in, i3_or, i3_and, i3_xor, i3_shl, i3_shr, sh_tb, tb_eq0, gd_tt, aI_o, aV_o, aL_o, aR_o, zd_0, zd_1, if_true, if_false, ite_self, eq_self, Bool.true_eq_false, Bool.false_eq_true, bi_0, bi_1, bi_zd, Nat.not_lt_zero, show i < sl T by omega, e316, q]
                rw [h_318_94]
            · obtain ⟨z, y1, y2⟩ := ih2 (i + 1) (i3 cn) (i3 m) (by omega)
              refine ⟨z, ?_, ?_⟩
              · rw [← y1, h_69_30 hS.V (Or.inl rfl), hS1.c.gsl]
                simp (disch := omega) only [i3_add, i3_mul, i3_sub, i3_m1, i3_lt, i3_le, i3_eq, m1_lt, lt_m1, m1_le, le_m1, i3_nm1, m1_ni3, i3_cl, i3_in, i3_or, i3_and, i3_xor, i3_shl, i3_shr, sh_tb, tb_eq0, gd_tt, aI_o, aV_o, aL_o, aR_o, zd_0, zd_1, if_true, if_false, ite_self, eq_self, Bool.true_eq_false, Bool.false_eq_true, bi_0, bi_1, bi_zd, Nat.not_lt_zero, show i < sl T by omega, e101, q]
                rw [h_69_69 (Or.inl rfl), i3_add]
              · rw [← y2, h_318_53, b4.gsl]
                simp (disch := omega) only [i3_add, i3_mul, i3_sub, i3_m1, i3_lt, i3_le, i3_eq, m1_lt, lt_m1, m1_le, le_m1, i3_nm1, m1_ni3, i3_cl, i3_in, i3_or, i3_and, i3_xor, i3_shl, i3_shr, sh_tb, tb_eq0, gd_tt, aI_o, aV_o, aL_o, aR_o, zd_0, zd_1, if_true, if_false, ite_self, eq_self, Bool.true_eq_false, Bool.false_eq_true, bi_0, bi_1, bi_zd, Nat.not_lt_zero, show i < sl T by omega, e316, q]
                rw [h_318_94]
        obtain ⟨z, y1, y2⟩ := inner (sl T) 0 a e (by omega)
        refine ⟨z, ?_, ?_⟩
        · rw [← y1, h_69_19 (Or.inl rfl)]
          simp (disch := omega) only [i3_add, i3_mul, i3_sub, i3_m1, i3_lt, i3_le, i3_eq, m1_lt, lt_m1, m1_le, le_m1, i3_nm1, m1_ni3, i3_cl, i3_in, i3_or, i3_and, i3_xor, i3_shl, i3_shr, sh_tb, tb_eq0, gd_tt, aI_o, aV_o, aL_o, aR_o, zd_0, zd_1, if_true, if_false, ite_self, eq_self, Bool.true_eq_false, Bool.false_eq_true, bi_0, bi_1, bi_zd, Nat.not_lt_zero, show m < 301 by omega]
        · rw [← y2, h_318_42]
          simp (disch := omega) only [i3_add, i3_mul, i3_sub, i3_m1, i3_lt, i3_le, i3_eq, m1_lt, lt_m1, m1_le, le_m1, i3_nm1, m1_ni3, i3_cl, i3_in, i3_or, i3_and, i3_xor, i3_shl, i3_shr, sh_tb, tb_eq0, gd_tt, aI_o, aV_o, aL_o, aR_o, zd_0, zd_1, if_true, if_false, ite_self, eq_self, Bool.true_eq_false, Bool.false_eq_true, bi_0, bi_1, bi_zd, Nat.not_lt_zero, show m < 301 by omega]
    obtain ⟨z, e1, e2⟩ := key 301 0 (i3 0) m1 (by omega)
    refine ⟨z, G1, g2, ?_, hs1, ?_, b5, b6⟩
    · rw [a1]
      simp (disch := omega) only [i3_add, i3_mul, i3_sub, i3_m1, i3_lt, i3_le, i3_eq, m1_lt, lt_m1, m1_le, le_m1, i3_nm1, m1_ni3, i3_cl, i3_in, i3_or, i3_and, i3_xor, i3_shl, i3_shr, sh_tb, tb_eq0, gd_tt, aI_o, aV_o, aL_o, aR_o, zd_0, zd_1, if_true, if_false, ite_self, eq_self, Bool.true_eq_false, Bool.false_eq_true, bi_0, bi_1, bi_zd, Nat.not_lt_zero, aR_o]
      rw [h_69_16 (Or.inl rfl)]
      exact e1
    · rw [b1]
      simp only [aI_o]
      exact e2
theorem op_16 {d x : Nat} {V : pV} {G : sm_G} {L : sm_L} {E : Nat → Nat} (I : Inv V G) : OpI d x V G L 16 [.ref 1] 298 [.ref 156] E := by
  have I0 := I
  obtain ⟨T, K, c, H, W, hS, hh, hn⟩ := I
  have hB := hS.T.gb
  have ec := m_16 (d := d + 59) (x := x) (G := G) (L := L) (V := V)
  refine OpI_0 ec ?_
  obtain ⟨G1, a1, hS1, hh1, hn1, hs1, hO⟩ := hS.s15 (d := d + 55) (x := x) (L := L) hh hn
  obtain ⟨g2, b1, b2, b3, b5, b6, b7, b8⟩ := hS1.lays (d := d + 56) (x := x) (L := L) hh1 hn1
  obtain ⟨n, n1, n2, n3, n4⟩ := hS1.b
  have n3' : g2 156 36 = i3 n := by rw [b8 _ _ (by omega) (by omega)]; exact n3
  have b0 : bi false = i3 0 := rfl
  have b1' : bi true = i3 1 := rfl
  have hbk := hS.V.2.2.2.1
  have hst : ∀ j, j < sl T → ∃ z : Bool, sm_cv0 (d + 59) 74 342 (RR V) [.ref V.2.2.2.1, .int (i3 j), .ref 56] (x, G1, L) = oI (bi z) x G1 L ∧ ∀ a, hD (d + 59) 298 28 [.ref 156, .int (i3 a), .int (i3 j), .int (i3 1), .int (i3 0)] 342 (RR V) x g2 L = hD (d + 59) 298 13 [.ref 156, .int (i3 (if z = true then a ||| 1 <<< j else a)), .int (i3 (j + 1)), .null, .null] 342 (RR V) x g2 L := by
    intro j hj
    have key : ∀ k i (f : Bool), i + k = n → ∃ z : Bool, hD (d + 58) 74 5 [.ref V.2.2.2.1, .int (i3 j), .ref 56, .int (bi f), .int (i3 i)] 342 (RR V) x G1 L = oI (bi z) x G1 L ∧ ∀ a, hD (d + 59) 298 28 [.ref 156, .int (i3 a), .int (i3 j), .int (bi f), .int (i3 i)] 342 (RR V) x g2 L = hD (d + 59) 298 13 [.ref 156, .int (i3 (if z = true then a ||| 1 <<< j else a)), .int (i3 (j + 1)), .null, .null] 342 (RR V) x g2 L := by
      intro k
      induction k with
      | zero =>
        intro i f hi
        refine ⟨f, ?_, fun a => ?_⟩
        · rw [h_74_5 hbk, n2]
          simp (disch := omega) only [i3_add, i3_mul, i3_sub, i3_m1, i3_lt, i3_le, i3_eq, m1_lt, lt_m1, m1_le, le_m1, i3_nm1, m1_ni3, i3_cl, i3_in, i3_or, i3_and, i3_xor, i3_shl, i3_shr, sh_tb, tb_eq0, gd_tt, aI_o, aV_o, aL_o, aR_o, zd_0, zd_1, if_true, if_false, ite_self, eq_self, Bool.true_eq_false, Bool.false_eq_true, bi_0, bi_1, bi_zd, Nat.not_lt_zero, show ¬ i < n by omega]
        · rw [h_298_28, n3']
          cases f
          · simp (disch := omega) only [i3_add, i3_mul, i3_sub, i3_m1, i3_lt, i3_le, i3_eq, m1_lt, lt_m1, m1_le, le_m1, i3_nm1, m1_ni3, i3_cl, i3_in, i3_or, i3_and, i3_xor, i3_shl, i3_shr, sh_tb, tb_eq0, gd_tt, aI_o, aV_o, aL_o, aR_o, zd_0, zd_1, if_true, if_false, ite_self, eq_self, Bool.true_eq_false, Bool.false_eq_true, bi_0, bi_1, bi_zd, Nat.not_lt_zero, show ¬ i < n by omega, b0, Nat.or_zero]
          · simp (disch := omega) only [i3_add, i3_mul, i3_sub, i3_m1, i3_lt, i3_le, i3_eq, m1_lt, lt_m1, m1_le, le_m1, i3_nm1, m1_ni3, i3_cl, i3_in, i3_or, i3_and, i3_xor, i3_shl, i3_shr, sh_tb, tb_eq0, gd_tt, aI_o, aV_o, aL_o, aR_o, zd_0, zd_1, if_true, if_false, ite_self, eq_self, Bool.true_eq_false, Bool.false_eq_true, bi_0, bi_1, bi_zd, Nat.not_lt_zero, Nat.reduceEqDiff, Nat.reduceLeDiff, Nat.reduceLT, show ¬ i < n by omega, b1']
      | succ k ih =>
        intro i f hi
        obtain ⟨m, s, m1', m2, m3, m4, m5, m6⟩ := n4 i (by omega)
        have c1 := (hO m (by omega)).2.1
        have c2 := (b2 m (by omega)).1
        have c3 := (b2 m (by omega)).2.2.1
        have m5' : g2 (253 + i) 1 = i3 m := by rw [b8 _ _ (by omega) (by omega)]; exact m5
        have m6' : g2 (253 + i) 0 = i3 s := by rw [b8 _ _ (by omega) (by omega)]; exact m6
        have htl := tb_lt (tB T (H c) K m) j
        obtain ⟨z1, y1, y2⟩ := ih (i + 1) true (by omega)
        obtain ⟨z0, w1, w2⟩ := ih (i + 1) false (by omega)
        rw [b1'] at y1 y2
        rw [b0] at w1 w2
        cases f
        · refine ⟨z0, ?_, fun a => ?_⟩
          · rw [← w1, h_74_5 hbk, n2]
            simp (disch := omega) only [i3_add, i3_mul, i3_sub, i3_m1, i3_lt, i3_le, i3_eq, m1_lt, lt_m1, m1_le, le_m1, i3_nm1, m1_ni3, i3_cl, i3_in, i3_or, i3_and, i3_xor, i3_shl, i3_shr, sh_tb, tb_eq0, gd_tt, aI_o, aV_o, aL_o, aR_o, zd_0, zd_1, if_true, if_false, ite_self, eq_self, Bool.true_eq_false, Bool.false_eq_true, bi_0, bi_1, bi_zd, Nat.not_lt_zero, show i < n by omega, b0]
          · rw [← w2, h_298_28, n3']
            simp (disch := omega) only [i3_add, i3_mul, i3_sub, i3_m1, i3_lt, i3_le, i3_eq, m1_lt, lt_m1, m1_le, le_m1, i3_nm1, m1_ni3, i3_cl, i3_in, i3_or, i3_and, i3_xor, i3_shl, i3_shr, sh_tb, tb_eq0, gd_tt, aI_o, aV_o, aL_o, aR_o, zd_0, zd_1, if_true, if_false, ite_self, eq_self, Bool.true_eq_false, Bool.false_eq_true, bi_0, bi_1, bi_zd, Nat.not_lt_zero, show i < n by omega, b0]
        · by_cases q : tb (tB T (H c) K m) j = s
          · refine ⟨z1, ?_, fun a => ?_⟩
            · rw [← y1, h_74_5 hbk, n2]
              simp (disch := omega) only [i3_add, i3_mul, i3_sub, i3_m1, i3_lt, i3_le, i3_eq, m1_lt, lt_m1, m1_le, le_m1, i3_nm1, m1_ni3, i3_cl, i3_in, i3_or, i3_and, i3_xor, i3_shl, i3_shr, sh_tb, tb_eq0, gd_tt, aI_o, aV_o, aL_o, aR_o, zd_0, zd_1, if_true, if_false, ite_self, eq_self, Bool.true_eq_false, Bool.false_eq_true, bi_0, bi_1, bi_zd, Nat.not_lt_zero, Nat.reduceEqDiff, Nat.reduceLeDiff, Nat.reduceLT, show i < n by omega, b1', m3, m4, ldi_e k_56 n_56, c1, q]
            · rw [← y2, h_298_28, n3']
              simp (disch := omega) only [i3_add, i3_mul, i3_sub, i3_m1, i3_lt, i3_le, i3_eq, m1_lt, lt_m1, m1_le, le_m1, i3_nm1, m1_ni3, i3_cl, i3_in, i3_or, i3_and, i3_xor, i3_shl, i3_shr, sh_tb, tb_eq0, gd_tt, aI_o, aV_o, aL_o, aR_o, zd_0, zd_1, if_true, if_false, ite_self, eq_self, Bool.true_eq_false, Bool.false_eq_true, bi_0, bi_1, bi_zd, Nat.not_lt_zero, Nat.reduceEqDiff, Nat.reduceLeDiff, Nat.reduceLT, show i < n by omega, b1', rr_252, ldr_252, m5', m6', c2, q]
          · refine ⟨z0, ?_, fun a => ?_⟩
            · rw [← w1, h_74_5 hbk, n2]
              simp (disch := omega) only [i3_add, i3_mul, i3_sub, i3_m1, i3_lt, i3_le, i3_eq, m1_lt, lt_m1, m1_le, le_m1, i3_nm1, m1_ni3, i3_cl, i3_in, i3_or, i3_and, i3_xor, i3_shl, i3_shr, sh_tb, tb_eq0, gd_tt, aI_o, aV_o, aL_o, aR_o, zd_0, zd_1, if_true, if_false, ite_self, eq_self, Bool.true_eq_false, Bool.false_eq_true, bi_0, bi_1, bi_zd, Nat.not_lt_zero, Nat.reduceEqDiff, Nat.reduceLeDiff, Nat.reduceLT, show i < n by omega, b1', m3, m4, ldi_e k_56 n_56, c1, q]
            · rw [← w2, h_298_28, n3']
              simp (disch := omega) only [i3_add, i3_mul, i3_sub, i3_m1, i3_lt, i3_le, i3_eq, m1_lt, lt_m1, m1_le, le_m1, i3_nm1, m1_ni3, i3_cl, i3_in, i3_or, i3_and, i3_xor, i3_shl, i3_shr, sh_tb, tb_eq0, gd_tt, aI_o, aV_o, aL_o, aR_o, zd_0, zd_1, if_true, if_false, ite_self, eq_self, Bool.true_eq_false, Bool.false_eq_true, bi_0, bi_1, bi_zd, Nat.not_lt_zero, Nat.reduceEqDiff, Nat.reduceLeDiff, Nat.reduceLT, show i < n by omega, b1', rr_252, ldr_252, m5', m6', c2, q]
    obtain ⟨z, y1, y2⟩ := key n 0 true (by omega)
    refine ⟨z, ?_, y2⟩
    rw [m_74 hbk]
    exact y1
  have fin : ∀ k j a, j + k = sl T → ∃ z, hD (d + 59) 16 9 [.ref 1, .ref 54, .int (i3 a), .int (i3 j)] 342 (RR V) x G1 L = oI z x G1 L ∧ hD (d + 59) 298 13 [.ref 156, .int (i3 a), .int (i3 j), .null, .null] 342 (RR V) x g2 L = oI z x g2 L := by
    intro k
    induction k with
    | zero =>
      intro j a hj
      refine ⟨i3 a, ?_, ?_⟩
      · rw [h_16_9 hS.V, hS1.c.gsl]
        simp (disch := omega) only [i3_add, i3_mul, i3_sub, i3_m1, i3_lt, i3_le, i3_eq, m1_lt, lt_m1, m1_le, le_m1, i3_nm1, m1_ni3, i3_cl, i3_in, i3_or, i3_and, i3_xor, i3_shl, i3_shr, sh_tb, tb_eq0, gd_tt, aI_o, aV_o, aL_o, aR_o, zd_0, zd_1, if_true, if_false, ite_self, eq_self, Bool.true_eq_false, Bool.false_eq_true, bi_0, bi_1, bi_zd, Nat.not_lt_zero, show ¬ j < sl T by omega]
      · rw [h_298_13, b3.gsl]
        simp (disch := omega) only [i3_add, i3_mul, i3_sub, i3_m1, i3_lt, i3_le, i3_eq, m1_lt, lt_m1, m1_le, le_m1, i3_nm1, m1_ni3, i3_cl, i3_in, i3_or, i3_and, i3_xor, i3_shl, i3_shr, sh_tb, tb_eq0, gd_tt, aI_o, aV_o, aL_o, aR_o, zd_0, zd_1, if_true, if_false, ite_self, eq_self, Bool.true_eq_false, Bool.false_eq_true, bi_0, bi_1, bi_zd, Nat.not_lt_zero, show ¬ j < sl T by omega]
    | succ k ih =>
      intro j a hj
      obtain ⟨z, y1, y2⟩ := hst j (by omega)
      obtain ⟨r, r1, r2⟩ := ih (j + 1) (if z = true then a ||| 1 <<< j else a) (by omega)
      refine ⟨r, ?_, ?_⟩
      · rw [← r1, h_16_9 hS.V, hS1.c.gsl, y1]
        cases z
        · simp (disch := omega) only [i3_add, i3_mul, i3_sub, i3_m1, i3_lt, i3_le, i3_eq, m1_lt, lt_m1, m1_le, le_m1, i3_nm1, m1_ni3, i3_cl, i3_in, i3_or, i3_and, i3_xor, i3_shl, i3_shr, sh_tb, tb_eq0, gd_tt, aI_o, aV_o, aL_o, aR_o, zd_0, zd_1, if_true, if_false, ite_self, eq_self, Bool.true_eq_false, Bool.false_eq_true, bi_0, bi_1, bi_zd, Nat.not_lt_zero, show j < sl T by omega, b0]
        · simp (disch := omega) only [i3_add, i3_mul, i3_sub, i3_m1, i3_lt, i3_le, i3_eq, m1_lt, lt_m1, m1_le, le_m1, i3_nm1, m1_ni3, i3_cl, i3_in, i3_or, i3_and, i3_xor, i3_shl, i3_shr, sh_tb, tb_eq0, gd_tt, aI_o, aV_o, aL_o, aR_o, zd_0, zd_1, if_true, if_false, ite_self, eq_self, Bool.true_eq_false, Bool.false_eq_true, bi_0, bi_1, bi_zd, Nat.not_lt_zero, Nat.reduceEqDiff, Nat.reduceLeDiff, Nat.reduceLT, show j < sl T by omega, b1']
      · rw [← r2, h_298_13, b3.gsl]
        simp (disch := omega) only [i3_add, i3_mul, i3_sub, i3_m1, i3_lt, i3_le, i3_eq, m1_lt, lt_m1, m1_le, le_m1, i3_nm1, m1_ni3, i3_cl, i3_in, i3_or, i3_and, i3_xor, i3_shl, i3_shr, sh_tb, tb_eq0, gd_tt, aI_o, aV_o, aL_o, aR_o, zd_0, zd_1, if_true, if_false, ite_self, eq_self, Bool.true_eq_false, Bool.false_eq_true, bi_0, bi_1, bi_zd, Nat.not_lt_zero, show j < sl T by omega, y2]
  obtain ⟨z, e1, e2⟩ := fin (sl T) 0 0 (by omega)
  refine ⟨z, G1, g2, ?_, ?_, b5, b6⟩
  · rw [a1]
    simp (disch := omega) only [i3_add, i3_mul, i3_sub, i3_m1, i3_lt, i3_le, i3_eq, m1_lt, lt_m1, m1_le, le_m1, i3_nm1, m1_ni3, i3_cl, i3_in, i3_or, i3_and, i3_xor, i3_shl, i3_shr, sh_tb, tb_eq0, gd_tt, aI_o, aV_o, aL_o, aR_o, zd_0, zd_1, if_true, if_false, ite_self, eq_self, Bool.true_eq_false, Bool.false_eq_true, bi_0, bi_1, bi_zd, Nat.not_lt_zero, aR_o]
    exact e1
  · rw [m_298, b1]
    simp only [aV_o]
    exact e2
