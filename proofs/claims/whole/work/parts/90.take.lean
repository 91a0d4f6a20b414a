/-! a step of the model's -/
section STEPN
variable {d x e st h u : Nat} {V : pV} {G : sm_G} {L : sm_L} {W : pT}
theorem l_104_stuck (he : e < 4) (hs : G 326 e = i3 st) (hst : st < wS W) (hS : wS W ≤ 37) (hW : mWl G e W) (hk : 3 ≤ wt2 W (5 * st)) (hk2 : wt2 W (5 * st) ≤ 5) (hu : G 329 e = i3 60) : hD (d + 4) 267 104 [.ref 156, .int (i3 e), .null, .null, .null, .null] 342 (RR V) x G L = oV x (sm_up (sm_up G 330 e (i3 1)) (315 + e) 5 (i3 1)) L := by
  have a0 := hW.2.1 (5 * st) (by omega)
  have a1 := hW.2.1 (5 * st + 1) (by omega)
  have e269 := s_269 (d := d + 3) (x := x) (L := L) (V := V) he hu (by omega)
  rw [if_pos rfl] at e269
  rw [h_267_104]
  simp (disch := omega) only [i3_add, i3_mul, i3_sub, i3_m1, i3_lt, i3_le, i3_eq, m1_lt, lt_m1, m1_le, le_m1, i3_nm1, m1_ni3, i3_cl, i3_in, i3_or, i3_and, i3_xor, i3_shl, i3_shr, sh_tb, tb_eq0, gd_tt, aI_o, aV_o, aL_o, aR_o, zd_0, zd_1, if_true, if_false, ite_self, eq_self, Bool.true_eq_false, Bool.false_eq_true, bi_0, bi_1, bi_zd, Nat.not_lt_zero, rr_242, ldr_242, hs, a0]
  rw [h_267_125]
  simp (disch := omega) only [i3_add, i3_mul, i3_sub, i3_m1, i3_lt, i3_le, i3_eq, m1_lt, lt_m1, m1_le, le_m1, i3_nm1, m1_ni3, i3_cl, i3_in, i3_or, i3_and, i3_xor, i3_shl, i3_shr, sh_tb, tb_eq0, gd_tt, aI_o, aV_o, aL_o, aR_o, zd_0, zd_1, if_true, if_false, ite_self, eq_self, Bool.true_eq_false, Bool.false_eq_true, bi_0, bi_1, bi_zd, Nat.not_lt_zero, rr_242, ldr_242, a1, show ¬ wt2 W (5 * st) < 3 by omega, e269]
theorem l_104_3z (he : e < 4) (hs : G 326 e = i3 st) (hst : st < wS W) (hS : wS W ≤ 37) (hW : mWl G e W) (hk : wt2 W (5 * st) = 3) (hv : wt2 W (5 * st + 1) = 0) (hu : G 329 e = i3 u) (hu2 : u < 60) : hD (d + 4) 267 104 [.ref 156, .int (i3 e), .null, .null, .null, .null] 342 (RR V) x G L = hD (d + 4) 267 27 [.ref 156, .int (i3 e), .null, .null, .null, .null] 342 (RR V) x (sm_up (sm_up G 329 e (i3 (u + 1))) 326 e (i3 (wt2 W (5 * st + 4)))) L := by
  have a0 := hW.2.1 (5 * st) (by omega)
  have a1 := hW.2.1 (5 * st + 1) (by omega)
  have a4 := hW.2.1 (5 * st + 4) (by omega)
  rw [hk] at a0
  rw [hv] at a1
  have e269 := s_269 (d := d + 3) (x := x) (L := L) (V := V) he hu (by omega)
  rw [if_neg (by omega)] at e269
  have b4 : sm_up G 329 e (i3 (u + 1)) (243 + e) (5 * st + 4) = i3 (wt2 W (5 * st + 4)) := by rw [sm_up_ne (by omega)]; exact a4
  rw [h_267_104]
  simp (disch := omega) only [i3_add, i3_mul, i3_sub, i3_m1, i3_lt, i3_le, i3_eq, m1_lt, lt_m1, m1_le, le_m1, i3_nm1, m1_ni3, i3_cl, i3_in, i3_or, i3_and, i3_xor, i3_shl, i3_shr, sh_tb, tb_eq0, gd_tt, aI_o, aV_o, aL_o, aR_o, zd_0, zd_1, if_true, if_false, ite_self, eq_self, Bool.true_eq_false, Bool.false_eq_true, bi_0, bi_1, bi_zd, Nat.not_lt_zero, rr_242, ldr_242, hs, a0]
  rw [h_267_125]
  simp (disch := omega) only [i3_add, i3_mul, i3_sub, i3_m1, i3_lt, i3_le, i3_eq, m1_lt, lt_m1, m1_le, le_m1, i3_nm1, m1_ni3, i3_cl, i3_in, i3_or, i3_and, i3_xor, i3_shl, i3_shr, sh_tb, tb_eq0, gd_tt, aI_o, aV_o, aL_o, aR_o, zd_0, zd_1, if_true, if_false, ite_self, eq_self, Bool.true_eq_false, Bool.false_eq_true, bi_0, bi_1, bi_zd, Nat.not_lt_zero, Nat.reduceEqDiff, Nat.reduceLeDiff, Nat.reduceLT, rr_242, ldr_242, a1, e269, b4]
theorem l_104_3p {v : Nat} (he : e < 4) (hs : G 326 e = i3 st) (hst : st < wS W) (hS : wS W ≤ 37) (hW : mWl G e W) (hk : wt2 W (5 * st) = 3) (hv : wt2 W (5 * st + 1) = v) (hv0 : 0 < v) (hv2 : v < 1000) (hu : G 329 e = i3 u) (hu2 : u < 60) (hh : G 327 e = i3 h) (hh2 : h < 8) : hD (d + 4) 267 104 [.ref 156, .int (i3 e), .null, .null, .null, .null] 342 (RR V) x G L = hD (d + 4) 267 27 [.ref 156, .int (i3 e), .null, .null, .null, .null] 342 (RR V) x (sm_up (sm_up (sm_up (sm_up (sm_up (sm_up (sm_up G 329 e (i3 (u + 1))) 327 e (i3 (h + 1))) (320 + e) (4 * h) (i3 st)) (320 + e) (4 * h + 1) (i3 (st + 1))) (320 + e) (4 * h + 2) (i3 (wt2 W (5 * st + 3)))) (320 + e) (4 * h + 3) (i3 v)) 326 e (i3 (st + 1))) L := by
  have a0 := hW.2.1 (5 * st) (by omega)
  have a1 := hW.2.1 (5 * st + 1) (by omega)
  have a4 := hW.2.1 (5 * st + 3) (by omega)
  rw [hk] at a0
  rw [hv] at a1
  have e269 := s_269 (d := d + 3) (x := x) (L := L) (V := V) he hu (by omega)
  rw [if_neg (by omega)] at e269
  have b4 : sm_up G 329 e (i3 (u + 1)) (243 + e) (5 * st + 3) = i3 (wt2 W (5 * st + 3)) := by rw [sm_up_ne (by omega)]; exact a4
  have bh : sm_up G 329 e (i3 (u + 1)) 327 e = i3 h := by rw [sm_up_ne (by omega)]; exact hh
  have e273 := s_273 (d := d + 3) (x := x) (L := L) (V := V) (e := e) (h := h) (s := st) (f0 := st + 1) (f1 := wt2 W (5 * st + 3)) (u := v) he bh hh2 (by omega)
  rw [h_267_104]
  simp (disch := omega) only [i3_add, i3_mul, i3_sub, i3_m1, i3_lt, i3_le, i3_eq, m1_lt, lt_m1, m1_le, le_m1, i3_nm1, m1_ni3, i3_cl, i3_in, i3_or, i3_and, i3_xor, i3_shl, i3_shr, sh_tb, tb_eq0, gd_tt, aI_o, aV_o, aL_o, aR_o, zd_0, zd_1, if_true, if_false, ite_self, eq_self, Bool.true_eq_false, Bool.false_eq_true, bi_0, bi_1, bi_zd, Nat.not_lt_zero, rr_242, ldr_242, hs, a0]
  rw [h_267_125]
  simp (disch := omega) only [i3_add, i3_mul, i3_sub, i3_m1, i3_lt, i3_le, i3_eq, m1_lt, lt_m1, m1_le, le_m1, i3_nm1, m1_ni3, i3_cl, i3_in, i3_or, i3_and, i3_xor, i3_shl, i3_shr, sh_tb, tb_eq0, gd_tt, aI_o, aV_o, aL_o, aR_o, zd_0, zd_1, if_true, if_false, ite_self, eq_self, Bool.true_eq_false, Bool.false_eq_true, bi_0, bi_1, bi_zd, Nat.not_lt_zero, Nat.reduceEqDiff, Nat.reduceLeDiff, Nat.reduceLT, rr_242, ldr_242, a1, e269, b4, e273, show ¬ v = 0 by omega]
theorem l_104_4 {t : Nat} {z : Bool} (he : e < 4) (hs : G 326 e = i3 st) (hst : st < wS W) (hS : wS W ≤ 37) (hW : mWl G e W) (hk : wt2 W (5 * st) = 4) (ht : wt2 W (5 * st + 2) = t) (hu : G 329 e = i3 u) (hu2 : u < 60) (hh : G 327 e = i3 h) (hh2 : h < 8)
    (hz : sm_cv0 (d + 4) 274 342 (RR V) [.ref 156, .int (i3 e), .int (i3 t)] (x, sm_up G 329 e (i3 (u + 1)), L) = oI (bi z) x (sm_up G 329 e (i3 (u + 1))) L) : hD (d + 4) 267 104 [.ref 156, .int (i3 e), .null, .null, .null, .null] 342 (RR V) x G L = hD (d + 4) 267 27 [.ref 156, .int (i3 e), .null, .null, .null, .null] 342 (RR V) x (if z = true then sm_up (sm_up G 329 e (i3 (u + 1))) 326 e (i3 (wt2 W (5 * st + 4))) else sm_up (sm_up (sm_up (sm_up (sm_up (sm_up (sm_up G 329 e (i3 (u + 1))) 327 e (i3 (h + 1))) (320 + e) (4 * h) (i3 st)) (320 + e) (4 * h + 1) (i3 (st + 1))) (320 + e) (4 * h + 2) (i3 (wt2 W (5 * st + 3)))) (320 + e) (4 * h + 3) (i3 0)) 326 e (i3 (st + 1))) L := by
  have a0 := hW.2.1 (5 * st) (by omega)
  have a1 := hW.2.1 (5 * st + 1) (by omega)
  have a2 := hW.2.1 (5 * st + 2) (by omega)
  have a3 := hW.2.1 (5 * st + 3) (by omega)
  have a4 := hW.2.1 (5 * st + 4) (by omega)
  rw [hk] at a0
  rw [ht] at a2
  have e269 := s_269 (d := d + 3) (x := x) (L := L) (V := V) he hu (by omega)
  rw [if_neg (by omega)] at e269
  have b2 : sm_up G 329 e (i3 (u + 1)) (243 + e) (5 * st + 2) = i3 t := by rw [sm_up_ne (by omega)]; exact a2
  have b3 : sm_up G 329 e (i3 (u + 1)) (243 + e) (5 * st + 3) = i3 (wt2 W (5 * st + 3)) := by rw [sm_up_ne (by omega)]; exact a3
  have b4 : sm_up G 329 e (i3 (u + 1)) (243 + e) (5 * st + 4) = i3 (wt2 W (5 * st + 4)) := by rw [sm_up_ne (by omega)]; exact a4
  have bh : sm_up G 329 e (i3 (u + 1)) 327 e = i3 h := by rw [sm_up_ne (by omega)]; exact hh
  have e273 := s_273 (d := d + 3) (x := x) (L := L) (V := V) (e := e) (h := h) (s := st) (f0 := st + 1) (f1 := wt2 W (5 * st + 3)) (u := 0) he bh hh2 (by omega)
  rw [h_267_104]
  simp (disch := omega) only [i3_add, i3_mul, i3_sub, i3_m1, i3_lt, i3_le, i3_eq, m1_lt, lt_m1, m1_le, le_m1, i3_nm1, m1_ni3, i3_cl, i3_in, i3_or, i3_and, i3_xor, i3_shl, i3_shr, sh_tb, tb_eq0, gd_tt, aI_o, aV_o, aL_o, aR_o, zd_0, zd_1, if_true, if_false, ite_self, eq_self, Bool.true_eq_false, Bool.false_eq_true, bi_0, bi_1, bi_zd, Nat.not_lt_zero, rr_242, ldr_242, hs, a0]
  rw [h_267_125]
  cases z
  · rw [show bi false = i3 0 from rfl] at hz
    simp (disch := omega) only [i3_add, i3_mul, i3_sub, i3_m1, i3_lt, i3_le, i3_eq, m1_lt, lt_m1, m1_le, le_m1, i3_nm1, m1_ni3, i3_cl, i3_in, i3_or, i3_and, i3_xor, i3_shl, i3_shr, sh_tb, tb_eq0, gd_tt, aI_o, aV_o, aL_o, aR_o, zd_0, zd_1, if_true, if_false, ite_self, eq_self, Bool.true_eq_false, Bool.false_eq_true, bi_0, bi_1, bi_zd, Nat.not_lt_zero, Nat.reduceEqDiff, Nat.reduceLeDiff, Nat.reduceLT, rr_242, ldr_242, a1, e269, b2, b3, hz, e273]
  · rw [show bi true = i3 1 from rfl] at hz
    simp (disch := omega) only [i3_add, i3_mul, i3_sub, i3_m1, i3_lt, i3_le, i3_eq, m1_lt, lt_m1, m1_le, le_m1, i3_nm1, m1_ni3, i3_cl, i3_in, i3_or, i3_and, i3_xor, i3_shl, i3_shr, sh_tb, tb_eq0, gd_tt, aI_o, aV_o, aL_o, aR_o, zd_0, zd_1, if_true, if_false, ite_self, eq_self, Bool.true_eq_false, Bool.false_eq_true, bi_0, bi_1, bi_zd, Nat.not_lt_zero, Nat.reduceEqDiff, Nat.reduceLeDiff, Nat.reduceLT, rr_242, ldr_242, a1, e269, b2, b4, hz]
theorem l_104_5 {t : Nat} {z : Bool} (he : e < 4) (hs : G 326 e = i3 st) (hst : st < wS W) (hS : wS W ≤ 37) (hW : mWl G e W) (hk : wt2 W (5 * st) = 5) (ht : wt2 W (5 * st + 2) = t) (hu : G 329 e = i3 u) (hu2 : u < 60) (hh : G 327 e = i3 h) (hh2 : h < 8)
    (hz : sm_cv0 (d + 4) 274 342 (RR V) [.ref 156, .int (i3 e), .int (i3 t)] (x, sm_up G 329 e (i3 (u + 1)), L) = oI (bi z) x (sm_up G 329 e (i3 (u + 1))) L) : hD (d + 4) 267 104 [.ref 156, .int (i3 e), .null, .null, .null, .null] 342 (RR V) x G L = hD (d + 4) 267 27 [.ref 156, .int (i3 e), .null, .null, .null, .null] 342 (RR V) x (if z = true then sm_up (sm_up (sm_up (sm_up (sm_up (sm_up (sm_up G 329 e (i3 (u + 1))) 327 e (i3 (h + 1))) (320 + e) (4 * h) (i3 st)) (320 + e) (4 * h + 1) (i3 (st + 1))) (320 + e) (4 * h + 2) (i3 (wt2 W (5 * st + 3)))) (320 + e) (4 * h + 3) (i3 0)) 326 e (i3 (st + 1)) else sm_up (sm_up (sm_up (sm_up (sm_up (sm_up (sm_up G 329 e (i3 (u + 1))) 327 e (i3 (h + 1))) (320 + e) (4 * h) (i3 st)) (320 + e) (4 * h + 1) (i3 (wt2 W (5 * st + 3)))) (320 + e) (4 * h + 2) (i3 (wt2 W (5 * st + 4)))) (320 + e) (4 * h + 3) (i3 0)) 326 e (i3 (wt2 W (5 * st + 3)))) L := by
  have a0 := hW.2.1 (5 * st) (by omega)
  have a1 := hW.2.1 (5 * st + 1) (by omega)
  have a2 := hW.2.1 (5 * st + 2) (by omega)
  have a3 := hW.2.1 (5 * st + 3) (by omega)
  have a4 := hW.2.1 (5 * st + 4) (by omega)
  rw [hk] at a0
  rw [ht] at a2
  have e269 := s_269 (d := d + 3) (x := x) (L := L) (V := V) he hu (by omega)
  rw [if_neg (by omega)] at e269
  have b2 : sm_up G 329 e (i3 (u + 1)) (243 + e) (5 * st + 2) = i3 t := by rw [sm_up_ne (by omega)]; exact a2
  have b3 : sm_up G 329 e (i3 (u + 1)) (243 + e) (5 * st + 3) = i3 (wt2 W (5 * st + 3)) := by rw [sm_up_ne (by omega)]; exact a3
  have b4 : sm_up G 329 e (i3 (u + 1)) (243 + e) (5 * st + 4) = i3 (wt2 W (5 * st + 4)) := by rw [sm_up_ne (by omega)]; exact a4
  have bh : sm_up G 329 e (i3 (u + 1)) 327 e = i3 h := by rw [sm_up_ne (by omega)]; exact hh
  have e273 := s_273 (d := d + 3) (x := x) (L := L) (V := V) (e := e) (h := h) (s := st) (f0 := st + 1) (f1 := wt2 W (5 * st + 3)) (u := 0) he bh hh2 (by omega)
  have e273b := s_273 (d := d + 3) (x := x) (L := L) (V := V) (e := e) (h := h) (s := st) (f0 := wt2 W (5 * st + 3)) (f1 := wt2 W (5 * st + 4)) (u := 0) he bh hh2 (by omega)
  rw [h_267_104]
  simp (disch := omega) only [i3_add, i3_mul, i3_sub, i3_m1, i3_lt, i3_le, i3_eq, m1_lt, lt_m1, m1_le, le_m1, i3_nm1, m1_ni3, i3_cl, i3_in, i3_or, i3_and, i3_xor, i3_shl, i3_shr, sh_tb, tb_eq0, gd_tt, aI_o, aV_o, aL_o, aR_o, zd_0, zd_1, if_true, if_false, ite_self, eq_self, Bool.true_eq_false, Bool.false_eq_true, bi_0, bi_1, bi_zd, Nat.not_lt_zero, rr_242, ldr_242, hs, a0]
  rw [h_267_125]
  cases z
  · rw [show bi false = i3 0 from rfl] at hz
    simp (disch := omega) only [i3_add, i3_mul, i3_sub, i3_m1, i3_lt, i3_le, i3_eq, m1_lt, lt_m1, m1_le, le_m1, i3_nm1, m1_ni3, i3_cl, i3_in, i3_or, i3_and, i3_xor, i3_shl, i3_shr, sh_tb, tb_eq0, gd_tt, aI_o, aV_o, aL_o, aR_o, zd_0, zd_1, if_true, if_false, ite_self, eq_self, Bool.true_eq_false, Bool.false_eq_true, bi_0, bi_1, bi_zd, Nat.not_lt_zero, Nat.reduceEqDiff, Nat.reduceLeDiff, Nat.reduceLT, rr_242, ldr_242, a1, e269, b2, b3, b4, hz, e273b]
  · rw [show bi true = i3 1 from rfl] at hz
    simp (disch := omega) only [i3_add, i3_mul, i3_sub, i3_m1, i3_lt, i3_le, i3_eq, m1_lt, lt_m1, m1_le, le_m1, i3_nm1, m1_ni3, i3_cl, i3_in, i3_or, i3_and, i3_xor, i3_shl, i3_shr, sh_tb, tb_eq0, gd_tt, aI_o, aV_o, aL_o, aR_o, zd_0, zd_1, if_true, if_false, ite_self, eq_self, Bool.true_eq_false, Bool.false_eq_true, bi_0, bi_1, bi_zd, Nat.not_lt_zero, Nat.reduceEqDiff, Nat.reduceLeDiff, Nat.reduceLT, rr_242, ldr_242, a1, e269, b2, b3, hz, e273]
theorem l_104_0 {v : Nat} {G' : sm_G} (he : e < 4) (hs : G 326 e = i3 st) (hst : st < wS W) (hS : wS W ≤ 37) (hW : mWl G e W) (hk : wt2 W (5 * st) = 0) (hv : wt2 W (5 * st + 1) = v)
    (hz : sm_cv0 (d + 4) 270 342 (RR V) [.ref 156, .int (i3 e), .int (i3 v)] (x, sm_up G 326 e (i3 (st + 1)), L) = oV x G' L) : hD (d + 4) 267 104 [.ref 156, .int (i3 e), .null, .null, .null, .null] 342 (RR V) x G L = oV x G' L := by
  have a0 := hW.2.1 (5 * st) (by omega)
  have a1 := hW.2.1 (5 * st + 1) (by omega)
  rw [hk] at a0
  rw [hv] at a1
  rw [h_267_104]
  simp (disch := omega) only [i3_add, i3_mul, i3_sub, i3_m1, i3_lt, i3_le, i3_eq, m1_lt, lt_m1, m1_le, le_m1, i3_nm1, m1_ni3, i3_cl, i3_in, i3_or, i3_and, i3_xor, i3_shl, i3_shr, sh_tb, tb_eq0, gd_tt, aI_o, aV_o, aL_o, aR_o, zd_0, zd_1, if_true, if_false, ite_self, eq_self, Bool.true_eq_false, Bool.false_eq_true, bi_0, bi_1, bi_zd, Nat.not_lt_zero, rr_242, ldr_242, hs, a0]
  rw [h_267_125]
  simp (disch := omega) only [i3_add, i3_mul, i3_sub, i3_m1, i3_lt, i3_le, i3_eq, m1_lt, lt_m1, m1_le, le_m1, i3_nm1, m1_ni3, i3_cl, i3_in, i3_or, i3_and, i3_xor, i3_shl, i3_shr, sh_tb, tb_eq0, gd_tt, aI_o, aV_o, aL_o, aR_o, zd_0, zd_1, if_true, if_false, ite_self, eq_self, Bool.true_eq_false, Bool.false_eq_true, bi_0, bi_1, bi_zd, Nat.not_lt_zero, Nat.reduceEqDiff, Nat.reduceLeDiff, Nat.reduceLT, rr_242, ldr_242, hs, a1, hz]
  rw [h_267_165]
  simp (disch := omega) only [i3_add, i3_mul, i3_sub, i3_m1, i3_lt, i3_le, i3_eq, m1_lt, lt_m1, m1_le, le_m1, i3_nm1, m1_ni3, i3_cl, i3_in, i3_or, i3_and, i3_xor, i3_shl, i3_shr, sh_tb, tb_eq0, gd_tt, aI_o, aV_o, aL_o, aR_o, zd_0, zd_1, if_true, if_false, ite_self, eq_self, Bool.true_eq_false, Bool.false_eq_true, bi_0, bi_1, bi_zd, Nat.not_lt_zero, Nat.reduceEqDiff, Nat.reduceLeDiff, Nat.reduceLT]
theorem l_104_1 {v : Nat} (he : e < 4) (hs : G 326 e = i3 st) (hst : st < wS W) (hS : wS W ≤ 37) (hW : mWl G e W) (hk : wt2 W (5 * st) = 1) (hv : wt2 W (5 * st + 1) = v + 1) : hD (d + 4) 267 104 [.ref 156, .int (i3 e), .null, .null, .null, .null] 342 (RR V) x G L = oV x (sm_up (sm_up G 326 e (i3 (st + 1))) 328 e (i3 v)) L := by
  have a0 := hW.2.1 (5 * st) (by omega)
  have a1 := hW.2.1 (5 * st + 1) (by omega)
  rw [hk] at a0
  rw [hv] at a1
  have e1 : i3 (v + 1) - i3 1 = i3 v := by rw [i3_sub (by omega)]; rfl
  rw [h_267_104]
  simp (disch := omega) only [i3_add, i3_mul, i3_sub, i3_m1, i3_lt, i3_le, i3_eq, m1_lt, lt_m1, m1_le, le_m1, i3_nm1, m1_ni3, i3_cl, i3_in, i3_or, i3_and, i3_xor, i3_shl, i3_shr, sh_tb, tb_eq0, gd_tt, aI_o, aV_o, aL_o, aR_o, zd_0, zd_1, if_true, if_false, ite_self, eq_self, Bool.true_eq_false, Bool.false_eq_true, bi_0, bi_1, bi_zd, Nat.not_lt_zero, rr_242, ldr_242, hs, a0]
  rw [h_267_125]
  simp (disch := omega) only [i3_add, i3_mul, i3_sub, i3_m1, i3_lt, i3_le, i3_eq, m1_lt, lt_m1, m1_le, le_m1, i3_nm1, m1_ni3, i3_cl, i3_in, i3_or, i3_and, i3_xor, i3_shl, i3_shr, sh_tb, tb_eq0, gd_tt, aI_o, aV_o, aL_o, aR_o, zd_0, zd_1, if_true, if_false, ite_self, eq_self, Bool.true_eq_false, Bool.false_eq_true, bi_0, bi_1, bi_zd, Nat.not_lt_zero, Nat.reduceEqDiff, Nat.reduceLeDiff, Nat.reduceLT, rr_242, ldr_242, hs, a1]
  rw [h_267_165]
  simp (disch := omega) only [i3_add, i3_mul, i3_sub, i3_m1, i3_lt, i3_le, i3_eq, m1_lt, lt_m1, m1_le, le_m1, i3_nm1, m1_ni3, i3_cl, i3_in, i3_or, i3_and, i3_xor, i3_shl, i3_shr, sh_tb, tb_eq0, gd_tt, aI_o, aV_o, aL_o, aR_o, zd_0, zd_1, if_true, if_false, ite_self, eq_self, Bool.true_eq_false, Bool.false_eq_true, bi_0, bi_1, bi_zd, Nat.not_lt_zero, Nat.reduceEqDiff, Nat.reduceLeDiff, Nat.reduceLT, e1]
theorem l_104_2 {v : Nat} (he : e < 4) (hs : G 326 e = i3 st) (hst : st < wS W) (hS : wS W ≤ 37) (hW : mWl G e W) (hk : wt2 W (5 * st) = 2) (hv : wt2 W (5 * st + 1) = v) (hv6 : v < 6) : hD (d + 4) 267 104 [.ref 156, .int (i3 e), .null, .null, .null, .null] 342 (RR V) x G L = oV x (sm_up (sm_up (sm_up G 326 e (i3 (st + 1))) 156 56 (G 156 56 ^^^ G 164 v)) (315 + e) 3 (G (315 + e) 3 + i3 1)) L := by
  have a0 := hW.2.1 (5 * st) (by omega)
  have a1 := hW.2.1 (5 * st + 1) (by omega)
  rw [hk] at a0
  rw [hv] at a1
  have c1 : sm_up G 326 e (i3 (st + 1)) 156 56 = G 156 56 := sm_up_ne (by omega)
  have c2 : sm_up G 326 e (i3 (st + 1)) 164 v = G 164 v := sm_up_ne (by omega)
  have c3 : ∀ z, sm_up (sm_up G 326 e (i3 (st + 1))) 156 56 z (315 + e) 3 = G (315 + e) 3 := fun z => by rw [sm_up_ne (by omega), sm_up_ne (by omega)]
  rw [h_267_104]
  simp (disch := omega) only [i3_add, i3_mul, i3_sub, i3_m1, i3_lt, i3_le, i3_eq, m1_lt, lt_m1, m1_le, le_m1, i3_nm1, m1_ni3, i3_cl, i3_in, i3_or, i3_and, i3_xor, i3_shl, i3_shr, sh_tb, tb_eq0, gd_tt, aI_o, aV_o, aL_o, aR_o, zd_0, zd_1, if_true, if_false, ite_self, eq_self, Bool.true_eq_false, Bool.false_eq_true, bi_0, bi_1, bi_zd, Nat.not_lt_zero, rr_242, ldr_242, hs, a0]
  rw [h_267_125]
  simp (disch := omega) only [i3_add, i3_mul, i3_sub, i3_m1, i3_lt, i3_le, i3_eq, m1_lt, lt_m1, m1_le, le_m1, i3_nm1, m1_ni3, i3_cl, i3_in, i3_or, i3_and, i3_xor, i3_shl, i3_shr, sh_tb, tb_eq0, gd_tt, aI_o, aV_o, aL_o, aR_o, zd_0, zd_1, if_true, if_false, ite_self, eq_self, Bool.true_eq_false, Bool.false_eq_true, bi_0, bi_1, bi_zd, Nat.not_lt_zero, Nat.reduceEqDiff, Nat.reduceLeDiff, Nat.reduceLT, rr_242, ldr_242, hs, a1]
  rw [h_267_165]
  simp (disch := omega) only [i3_add, i3_mul, i3_sub, i3_m1, i3_lt, i3_le, i3_eq, m1_lt, lt_m1, m1_le, le_m1, i3_nm1, m1_ni3, i3_cl, i3_in, i3_or, i3_and, i3_xor, i3_shl, i3_shr, sh_tb, tb_eq0, gd_tt, aI_o, aV_o, aL_o, aR_o, zd_0, zd_1, if_true, if_false, ite_self, eq_self, Bool.true_eq_false, Bool.false_eq_true, bi_0, bi_1, bi_zd, Nat.not_lt_zero, Nat.reduceEqDiff, Nat.reduceLeDiff, Nat.reduceLT, m_272, rr_165, ldr_165, kr_165, nr_165, rr_174, ldr_174, kr_174, nr_174, rr_183, ldr_183, kr_183, nr_183, rr_194, ldr_194, kr_194, nr_194, rr_205, ldr_205, kr_205, nr_205, rr_218, ldr_218, kr_218, nr_218, rr_231, ldr_231, kr_231, nr_231, rr_236, ldr_236, kr_236, nr_236, rr_242, ldr_242, kr_242, nr_242, rr_247, ldr_247, kr_247, nr_247, rr_252, ldr_252, kr_252, nr_252, rr_265, ldr_265, kr_265, nr_265, rr_278, ldr_278, kr_278, nr_278, rr_282, ldr_282, kr_282, nr_282, rr_309, ldr_309, kr_309, nr_309, rr_314, ldr_314, kr_314, nr_314, rr_319, ldr_319, kr_319, nr_319, rr_332, ldr_332, kr_332, nr_332, c1, c2, c3]
end STEPN
