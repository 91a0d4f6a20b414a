/-! counting -/
def ct (p : Nat → Bool) (n : Nat) : Nat := itr (fun m a => if p m = true then a + 1 else a) 0 n 0
theorem ct_succ (p : Nat → Bool) (n : Nat) : ct p (n + 1) = if p n = true then ct p n + 1 else ct p n := by
  unfold ct
  rw [itr_succ, Nat.zero_add]
theorem ct_le (p : Nat → Bool) : ∀ n, ct p n ≤ n
  | 0 => Nat.le_refl _
  | n + 1 => by
    rw [ct_succ]
    have := ct_le p n
    split <;> omega
theorem ct_all : ∀ n, ct (fun _ => true) n = n
  | 0 => rfl
  | n + 1 => by rw [ct_succ, if_pos rfl, ct_all n]
theorem ct_congr {p q : Nat → Bool} : ∀ n, (∀ m, m < n → p m = q m) → ct p n = ct q n
  | 0, _ => rfl
  | n + 1, h => by rw [ct_succ, ct_succ, h n (by omega), ct_congr n (fun m hm => h m (by omega))]
theorem ct_but (p : Nat → Bool) (j : Nat) : ∀ n, ct (fun m => p m && decide (j ≠ m)) n + (if j < n ∧ p j = true then 1 else 0) = ct p n
  | 0 => by rw [if_neg (by omega)]; rfl
  | n + 1 => by
    have ih := ct_but p j n
    rw [ct_succ, ct_succ]
    by_cases q : j = n
    · subst q
      rw [if_neg (by omega)] at ih
      rw [decide_eq_false (fun z => z rfl), Bool.and_false, if_neg (by decide)]
      by_cases q2 : p j = true
      · rw [if_pos ⟨by omega, q2⟩, if_pos q2]; omega
      · rw [if_neg (fun z => q2 z.2), if_neg q2]; omega
    · rw [decide_eq_true q, Bool.and_true]
      have e : (j < n + 1 ∧ p j = true) ↔ (j < n ∧ p j = true) := ⟨fun z => ⟨by omega, z.2⟩, fun z => ⟨by omega, z.2⟩⟩
      by_cases q2 : p n = true
      · rw [if_pos q2, if_pos q2]
        by_cases q3 : j < n ∧ p j = true
        · rw [if_pos (e.mpr q3)]; rw [if_pos q3] at ih; omega
        · rw [if_neg (fun z => q3 (e.mp z))]; rw [if_neg q3] at ih; omega
      · rw [if_neg q2, if_neg q2]
        by_cases q3 : j < n ∧ p j = true
        · rw [if_pos (e.mpr q3)]; rw [if_pos q3] at ih; omega
        · rw [if_neg (fun z => q3 (e.mp z))]; rw [if_neg q3] at ih; omega
/-- no noise of the first n is in minute m -/
def qu (P : pT) : Nat → Nat → Bool
  | 0, _ => true
  | n + 1, m => qu P n m && decide (nm P n ≠ m)
theorem qu_ct {T P : pT} (hP : okP T P) : ∀ n, n ≤ nn P → ct (qu P n) 301 + ct (fun i => qu P i (nm P i)) n = 301
  | 0, _ => by rw [ct_congr (p := qu P 0) (q := fun _ => true) 301 (fun m _ => rfl), ct_all]; rfl
  | n + 1, h => by
    have ih := qu_ct hP n (by omega)
    have hb := ct_but (qu P n) (nm P n) 301
    have h1 := (hP.gnz n (by omega)).1
    rw [ct_succ (fun i => qu P i (nm P i)), ct_congr (p := qu P (n + 1)) (q := fun m => qu P n m && decide (nm P n ≠ m)) 301 (fun m _ => rfl)]
    by_cases q : qu P n (nm P n) = true
    · rw [if_pos ⟨by omega, q⟩] at hb
      rw [if_pos q]
      omega
    · rw [if_neg (fun z => q z.2)] at hb
      rw [if_neg q]
      omega
theorem s_102 {d x : Nat} {V : pV} {G : sm_G} {L : sm_L} {p K : Nat} {T P : pT} (hp : pP p) (hc : cP G p T P K) (hP : okP T P) : sm_cv0 (d + 1) 102 342 (RR V) [.ref p] (x, G, L) = oI (i3 (ct (fun i => qu P i (nm P i)) (nn P))) x G L := by
  have hB := hP.gb
  have b0 : bi false = i3 0 := rfl
  have b1 : bi true = i3 1 := rfl
  rw [m_102 hp]
  refine loop0 (H := fun i a => hD d 102 4 [.ref p, .int (i3 a), .int (i3 i), .null, .null] 342 (RR V) x G L) (out := fun a => oI (i3 a) x G L) (N := nn P) (step := fun i a => if qu P i (nm P i) = true then a + 1 else a) ?_ ?_ 0
  · intro i a hi
    have e1 := hc.gnm i hi
    have inner := loop0 (H := fun k (z : Bool) => hD d 102 17 [.ref p, .int (i3 a), .int (i3 i), .int (bi z), .int (i3 k)] 342 (RR V) x G L) (out := fun z => hD d 102 4 [.ref p, .int (i3 (if z = false then a + 1 else a)), .int (i3 (i + 1)), .null, .null] 342 (RR V) x G L) (N := i) (step := fun k z => z || decide (nm P k = nm P i)) ?_ ?_ false
    · have key : ∀ n m, itr (fun k z => z || decide (nm P k = m)) 0 n false = !qu P n m := by
        intro n m
        induction n with
        | zero => rfl
        | succ n ih =>
          rw [itr_succ, Nat.zero_add, ih]
          show _ = !(qu P n m && decide (nm P n ≠ m))
          by_cases q : nm P n = m
          · rw [decide_eq_true q, decide_eq_false (fun z => z q)]; cases qu P n m <;> rfl
          · rw [decide_eq_false q, decide_eq_true q]; cases qu P n m <;> rfl
      rw [key] at inner
      rw [h_102_4 hp, hc.gnn]
      have inner2 : hD d 102 17 [.ref p, .int (i3 a), .int (i3 i), .int (i3 0), .int (i3 0)] 342 (RR V) x G L = hD d 102 4 [.ref p, .int (i3 (if (!qu P i (nm P i)) = false then a + 1 else a)), .int (i3 (i + 1)), .null, .null] 342 (RR V) x G L := inner
      simp (disch := omega) only [i3_add, i3_mul, i3_sub, i3_m1, i3_lt, i3_le, i3_eq, m1_lt, lt_m1, m1_le, le_m1, i3_nm1, m1_ni3, i3_cl, i3_in, i3_or, i3_and, i3_xor, i3_shl, i3_shr, sh_tb, tb_eq0, gd_tt, aI_o, aV_o, aL_o, aR_o, zd_0, zd_1, if_true, if_false, ite_self, eq_self, Bool.true_eq_false, Bool.false_eq_true, bi_0, bi_1, bi_zd, Nat.not_lt_zero, hi, inner2]
      cases qu P i (nm P i) <;> rfl
    · intro k z hk
      have e2 := hc.gnm k (by omega)
      rw [h_102_17 hp]
      cases z
      · by_cases q : nm P k = nm P i
        · have := (hP.gnz k (by omega)).1
          simp (disch := omega) only [i3_add, i3_mul, i3_sub, i3_m1, i3_lt, i3_le, i3_eq, m1_lt, lt_m1, m1_le, le_m1, i3_nm1, m1_ni3, i3_cl, i3_in, i3_or, i3_and, i3_xor, i3_shl, i3_shr, sh_tb, tb_eq0, gd_tt, aI_o, aV_o, aL_o, aR_o, zd_0, zd_1, if_true, if_false, ite_self, eq_self, Bool.true_eq_false, Bool.false_eq_true, bi_0, bi_1, bi_zd, Nat.not_lt_zero, hk, e1, e2, b0, b1, eq_true q, decide_true, Bool.false_or]
        · have h8 := (hP.gnz k (by omega)).1
          have h9 := (hP.gnz i (by omega)).1
          simp (disch := omega) only [i3_add, i3_mul, i3_sub, i3_m1, i3_lt, i3_le, i3_eq, m1_lt, lt_m1, m1_le, le_m1, i3_nm1, m1_ni3, i3_cl, i3_in, i3_or, i3_and, i3_xor, i3_shl, i3_shr, sh_tb, tb_eq0, gd_tt, aI_o, aV_o, aL_o, aR_o, zd_0, zd_1, if_true, if_false, ite_self, eq_self, Bool.true_eq_false, Bool.false_eq_true, bi_0, bi_1, bi_zd, Nat.not_lt_zero, hk, e1, e2, b0, b1, eq_false q, decide_false, Bool.false_or]
      · simp (disch := omega) only [i3_add, i3_mul, i3_sub, i3_m1, i3_lt, i3_le, i3_eq, m1_lt, lt_m1, m1_le, le_m1, i3_nm1, m1_ni3, i3_cl, i3_in, i3_or, i3_and, i3_xor, i3_shl, i3_shr, sh_tb, tb_eq0, gd_tt, aI_o, aV_o, aL_o, aR_o, zd_0, zd_1, if_true, if_false, ite_self, eq_self, Bool.true_eq_false, Bool.false_eq_true, bi_0, bi_1, bi_zd, Nat.not_lt_zero, Nat.reduceEqDiff, Nat.reduceLeDiff, Nat.reduceLT, hk, b1, Bool.true_or]
    · intro z
      rw [h_102_17 hp]
      cases z
      · simp (disch := omega) only [i3_add, i3_mul, i3_sub, i3_m1, i3_lt, i3_le, i3_eq, m1_lt, lt_m1, m1_le, le_m1, i3_nm1, m1_ni3, i3_cl, i3_in, i3_or, i3_and, i3_xor, i3_shl, i3_shr, sh_tb, tb_eq0, gd_tt, aI_o, aV_o, aL_o, aR_o, zd_0, zd_1, if_true, if_false, ite_self, eq_self, Bool.true_eq_false, Bool.false_eq_true, bi_0, bi_1, bi_zd, Nat.not_lt_zero, Nat.lt_irrefl, b0]
      · simp (disch := omega) only [i3_add, i3_mul, i3_sub, i3_m1, i3_lt, i3_le, i3_eq, m1_lt, lt_m1, m1_le, le_m1, i3_nm1, m1_ni3, i3_cl, i3_in, i3_or, i3_and, i3_xor, i3_shl, i3_shr, sh_tb, tb_eq0, gd_tt, aI_o, aV_o, aL_o, aR_o, zd_0, zd_1, if_true, if_false, ite_self, eq_self, Bool.true_eq_false, Bool.false_eq_true, bi_0, bi_1, bi_zd, Nat.not_lt_zero, Nat.reduceEqDiff, Nat.reduceLeDiff, Nat.reduceLT, Nat.lt_irrefl, b1, Nat.add_zero]
  · intro a
    rw [h_102_4 hp, hc.gnn]
    simp (disch := omega) only [i3_add, i3_mul, i3_sub, i3_m1, i3_lt, i3_le, i3_eq, m1_lt, lt_m1, m1_le, le_m1, i3_nm1, m1_ni3, i3_cl, i3_in, i3_or, i3_and, i3_xor, i3_shl, i3_shr, sh_tb, tb_eq0, gd_tt, aI_o, aV_o, aL_o, aR_o, zd_0, zd_1, if_true, if_false, ite_self, eq_self, Bool.true_eq_false, Bool.false_eq_true, bi_0, bi_1, bi_zd, Nat.not_lt_zero, Nat.lt_irrefl]
theorem hP1 {V : pV} (h : okV V) : pP (V.1 + 1) := by
  rcases h.1 with h | h <;> rw [h] <;> unfold pP <;> omega
theorem op_17 {d x : Nat} {V : pV} {G : sm_G} {L : sm_L} {E : Nat → Nat} (I : Inv V G) : OpI d x V G L 17 [.ref 1] 314 [.ref 156] E := by
  have I0 := I
  obtain ⟨T, K, c, H, W, hS, hh, hn⟩ := I
  have hB := hS.T.gb
  have ec := m_17 (d := d + 59) (x := x) (G := G) (L := L) (V := V) hS.V
  refine OpI_0 ec ?_
  have e102 := s_102 (d := d + 58) (x := x) (G := G) (L := L) (V := V) (hP1 hS.V) hS.p hS.P
  have hm := hS.m.sM hS.T hS.P (sM_o (G := G))
  have hnn := hS.P.gb
  have hct := qu_ct hS.P (nn (H c)) (Nat.le_refl _)
  have b0 : bi false = i3 0 := rfl
  have b1 : bi true = i3 1 := rfl
  refine ⟨i3 (ct (qu (H c) (nn (H c))) 301), G, g00 G, ?_, ?_, g00_0, Inv_g00 hS hh hn⟩
  · rw [e102]
    simp only [aI_o]
    rw [i3_sub (by omega)]
    congr 2
    omega
  · rw [m_314]
    refine loop0 (H := fun m a => hD (d + 59) 314 9 [.ref 156, .int (i3 a), .int (i3 m), .null, .null] 342 (RR V) x (g00 G) L) (out := fun a => oI (i3 a) x (g00 G) L) (N := 301) (step := fun m a => if qu (H c) (nn (H c)) m = true then a + 1 else a) ?_ ?_ 0
    · intro m a hm1
      have inner := loop0 (H := fun k (z : Bool) => hD (d + 59) 314 21 [.ref 156, .int (i3 a), .int (i3 m), .int (bi z), .int (i3 k)] 342 (RR V) x (g00 G) L) (out := fun z => hD (d + 59) 314 9 [.ref 156, .int (i3 (if z = true then a + 1 else a)), .int (i3 (m + 1)), .null, .null] 342 (RR V) x (g00 G) L) (N := nn (H c)) (step := fun k z => z && decide (nm (H c) k ≠ m)) ?_ ?_ true
      · have key : ∀ n, itr (fun k z => z && decide (nm (H c) k ≠ m)) 0 n true = qu (H c) n m := by
          intro n
          induction n with
          | zero => rfl
          | succ n ih => rw [itr_succ, Nat.zero_add, ih]; rfl
        rw [key] at inner
        rw [h_314_9]
        have inner2 : hD (d + 59) 314 21 [.ref 156, .int (i3 a), .int (i3 m), .int (i3 1), .int (i3 0)] 342 (RR V) x (g00 G) L = _ := inner
        simp (disch := omega) only [i3_add, i3_mul, i3_sub, i3_m1, i3_lt, i3_le, i3_eq, m1_lt, lt_m1, m1_le, le_m1, i3_nm1, m1_ni3, i3_cl, i3_in, i3_or, i3_and, i3_xor, i3_shl, i3_shr, sh_tb, tb_eq0, gd_tt, aI_o, aV_o, aL_o, aR_o, zd_0, zd_1, if_true, if_false, ite_self, eq_self, Bool.true_eq_false, Bool.false_eq_true, bi_0, bi_1, bi_zd, Nat.not_lt_zero, hm1, inner2]
      · intro k z hk
        have e2 := hm.gnm k hk
        have h8 := (hS.P.gnz k hk).1
        rw [h_314_21, hm.gnn]
        cases z
        · simp (disch := omega) only [i3_add, i3_mul, i3_sub, i3_m1, i3_lt, i3_le, i3_eq, m1_lt, lt_m1, m1_le, le_m1, i3_nm1, m1_ni3, i3_cl, i3_in, i3_or, i3_and, i3_xor, i3_shl, i3_shr, sh_tb, tb_eq0, gd_tt, aI_o, aV_o, aL_o, aR_o, zd_0, zd_1, if_true, if_false, ite_self, eq_self, Bool.true_eq_false, Bool.false_eq_true, bi_0, bi_1, bi_zd, Nat.not_lt_zero, hk, b0, Bool.false_and]
        · by_cases q : nm (H c) k = m
          · simp (disch := omega) only [i3_add, i3_mul, i3_sub, i3_m1, i3_lt, i3_le, i3_eq, m1_lt, lt_m1, m1_le, le_m1, i3_nm1, m1_ni3, i3_cl, i3_in, i3_or, i3_and, i3_xor, i3_shl, i3_shr, sh_tb, tb_eq0, gd_tt, aI_o, aV_o, aL_o, aR_o, zd_0, zd_1, if_true, if_false, ite_self, eq_self, Bool.true_eq_false, Bool.false_eq_true, bi_0, bi_1, bi_zd, Nat.not_lt_zero, Nat.reduceEqDiff, Nat.reduceLeDiff, Nat.reduceLT, hk, b0, b1, rr_218, ldr_218, e2, q, ne_eq, not_true, decide_false, Bool.true_and]
          · simp (disch := omega) only [i3_add, i3_mul, i3_sub, i3_m1, i3_lt, i3_le, i3_eq, m1_lt, lt_m1, m1_le, le_m1, i3_nm1, m1_ni3, i3_cl, i3_in, i3_or, i3_and, i3_xor, i3_shl, i3_shr, sh_tb, tb_eq0, gd_tt, aI_o, aV_o, aL_o, aR_o, zd_0, zd_1, if_true, if_false, ite_self, eq_self, Bool.true_eq_false, Bool.false_eq_true, bi_0, bi_1, bi_zd, Nat.not_lt_zero, Nat.reduceEqDiff, Nat.reduceLeDiff, Nat.reduceLT, hk, b0, b1, rr_218, ldr_218, e2, q, ne_eq, not_false_iff, decide_true, Bool.true_and]
      · intro z
        rw [h_314_21, hm.gnn]
        cases z
        · simp (disch := omega) only [i3_add, i3_mul, i3_sub, i3_m1, i3_lt, i3_le, i3_eq, m1_lt, lt_m1, m1_le, le_m1, i3_nm1, m1_ni3, i3_cl, i3_in, i3_or, i3_and, i3_xor, i3_shl, i3_shr, sh_tb, tb_eq0, gd_tt, aI_o, aV_o, aL_o, aR_o, zd_0, zd_1, if_true, if_false, ite_self, eq_self, Bool.true_eq_false, Bool.false_eq_true, bi_0, bi_1, bi_zd, Nat.not_lt_zero, Nat.lt_irrefl, b0, Nat.add_zero, Bool.false_eq_true]
        · simp (disch := omega) only [i3_add, i3_mul, i3_sub, i3_m1, i3_lt, i3_le, i3_eq, m1_lt, lt_m1, m1_le, le_m1, i3_nm1, m1_ni3, i3_cl, i3_in, i3_or, i3_and, i3_xor, i3_shl, i3_shr, sh_tb, tb_eq0, gd_tt, aI_o, aV_o, aL_o, aR_o, zd_0, zd_1, if_true, if_false, ite_self, eq_self, Bool.true_eq_false, Bool.false_eq_true, bi_0, bi_1, bi_zd, Nat.not_lt_zero, Nat.reduceEqDiff, Nat.reduceLeDiff, Nat.reduceLT, Nat.lt_irrefl, b1]
    · intro a
      rw [h_314_9]
      simp (disch := omega) only [i3_add, i3_mul, i3_sub, i3_m1, i3_lt, i3_le, i3_eq, m1_lt, lt_m1, m1_le, le_m1, i3_nm1, m1_ni3, i3_cl, i3_in, i3_or, i3_and, i3_xor, i3_shl, i3_shr, sh_tb, tb_eq0, gd_tt, aI_o, aV_o, aL_o, aR_o, zd_0, zd_1, if_true, if_false, ite_self, eq_self, Bool.true_eq_false, Bool.false_eq_true, bi_0, bi_1, bi_zd, Nat.not_lt_zero, Nat.lt_irrefl]
/-- the longest row of minutes -/
def lsS (f : Nat → Bool) (m : Nat) (a : Int32 × Int32 × Int32) : Int32 × Int32 × Int32 :=
  let n := if f m = true then a.1 + i3 1 else i3 0
  if n ≤ a.2.1 then (n, a.2) else (n, n, (i3 m - n) + i3 1)
theorem op_65 {d x : Nat} {V : pV} {G : sm_G} {L : sm_L} {v w : Int32} (I : Inv V G) : OpI d x V G L 65 [.ref 1, .int v, .int w] 310 [.ref 156, .int v, .int w] eI := by
  have I0 := I
  obtain ⟨T, K, c, H, W, hS, hh, hn⟩ := I
  have hB := hS.T.gb
  have ec := m_65 (d := d + 59) (x := x) (G := G) (L := L) (V := V) (v1 := v) (v2 := w)
  rw [s_41 hS.c.gsl hS.V, aV_if, s_33, aV_if] at ec
  refine OpI_2 (Y := ?Y) I0 ec ?_ (by decide) (by decide) ?_
  rotate_left
  · intro x1 G1 hs
    have hm := hS.m.sM hS.T hS.P hs
    rw [m_310, s_248 hm.gsl (by omega)]
    simp only [aI_o]
    rw [mbad g00_0 (by decide) (by decide) (by decide), h_310_27, s_218c]
    simp only [aI_o]
    rw [mbad g00_0 (by decide) (by decide) (by decide)]
    rfl
  · intro h1 h2
    obtain ⟨i, rfl, hi⟩ := rng (by omega) h1
    obtain ⟨j, rfl, hj⟩ := rngl (by omega) h2
    obtain ⟨G1, a1, hS1, hh1, hn1, hs1, hO⟩ := hS.s15 (d := d + 55) (x := x) (L := L) hh hn
    obtain ⟨g2, b1, b2, b3, b5, b6, b7, b8⟩ := hS1.lays (d := d + 56) (x := x) (L := L) hh1 hn1
    have hfin : ∃ r, r = itr (lsS (fun m => (tB T (H c) K m).testBit i)) 0 301 (i3 0, i3 0, m1) := ⟨_, rfl⟩
    obtain ⟨r, hr⟩ := hfin
    refine ⟨if j = 0 then r.2.1 else r.2.2, G1, g2, ?_, hs1, ?_, b5, b6⟩
    · rw [a1]
      simp (disch := omega) only [i3_add, i3_mul, i3_sub, i3_m1, i3_lt, i3_le, i3_eq, m1_lt, lt_m1, m1_le, le_m1, i3_nm1, m1_ni3, i3_cl, i3_in, i3_or, i3_and, i3_xor, i3_shl, i3_shr, sh_tb, tb_eq0, gd_tt, aI_o, aV_o, aL_o, aR_o, zd_0, zd_1, if_true, if_false, ite_self, eq_self, Bool.true_eq_false, Bool.false_eq_true, bi_0, bi_1, bi_zd, Nat.not_lt_zero, k_54, q_54_1]
      rw [h_65_25, hr]
      refine loop0 (H := fun m (a : Int32 × Int32 × Int32) => hD (d + 59) 65 31 [.null, .int (i3 i), .int (i3 j), .ref 56, .int a.2.1, .int a.2.2, .int a.1, .int (i3 m)] 342 (RR V) x G1 L) (out := fun a => oI (if j = 0 then a.2.1 else a.2.2) x G1 L) (N := 301) (step := lsS (fun m => (tB T (H c) K m).testBit i)) ?_ ?_ (i3 0, i3 0, m1)
      · rintro m ⟨a, b, e⟩ hm
        have q1 := (hO m hm).2.1
        have q2 := (b2 m hm).2.2.1
        rw [h_65_31]
        unfold lsS
        cases q : (tB T (H c) K m).testBit i
        · simp (disch := omega) only [i3_add, i3_mul, i3_sub, i3_m1, i3_lt, i3_le, i3_eq, m1_lt, lt_m1, m1_le, le_m1, i3_nm1, m1_ni3, i3_cl, i3_in, i3_or, i3_and, i3_xor, i3_shl, i3_shr, sh_tb, tb_eq0, gd_tt, aI_o, aV_o, aL_o, aR_o, zd_0, zd_1, if_true, if_false, ite_self, eq_self, Bool.true_eq_false, Bool.false_eq_true, bi_0, bi_1, bi_zd, Nat.not_lt_zero, hm, ldi_e k_56 n_56, q1, q]
          rw [h_65_60]
          split
          · first | (rw [h_65_83, i3_add]; done) | (rw [h_65_83, i3_add, i3_sub (Nat.zero_le _), i3_add])
          · first | (rw [h_65_83, i3_add]; done) | (rw [h_65_83, i3_add, i3_sub (Nat.zero_le _), i3_add])
        · simp (disch := omega) only [i3_add, i3_mul, i3_sub, i3_m1, i3_lt, i3_le, i3_eq, m1_lt, lt_m1, m1_le, le_m1, i3_nm1, m1_ni3, i3_cl, i3_in, i3_or, i3_and, i3_xor, i3_shl, i3_shr, sh_tb, tb_eq0, gd_tt, aI_o, aV_o, aL_o, aR_o, zd_0, zd_1, if_true, if_false, ite_self, eq_self, Bool.true_eq_false, Bool.false_eq_true, bi_0, bi_1, bi_zd, Nat.not_lt_zero, hm, ldi_e k_56 n_56, q1, q]
          rw [h_65_60]
          split
          · first | (rw [h_65_83, i3_add]; done) | (rw [h_65_83, i3_add, i3_sub (Nat.zero_le _), i3_add])
          · first | (rw [h_65_83, i3_add]; done) | (rw [h_65_83, i3_add, i3_sub (Nat.zero_le _), i3_add])
      · rintro ⟨a, b, e⟩
        rw [h_65_31]
        simp (disch := omega) only [i3_add, i3_mul, i3_sub, i3_m1, i3_lt, i3_le, i3_eq, m1_lt, lt_m1, m1_le, le_m1, i3_nm1, m1_ni3, i3_cl, i3_in, i3_or, i3_and, i3_xor, i3_shl, i3_shr, sh_tb, tb_eq0, gd_tt, aI_o, aV_o, aL_o, aR_o, zd_0, zd_1, if_true, if_false, ite_self, eq_self, Bool.true_eq_false, Bool.false_eq_true, bi_0, bi_1, bi_zd, Nat.not_lt_zero, Nat.lt_irrefl]
        split <;> rfl
    · rw [b1]
      simp only [aV_o]
      rw [h_310_64, hr]
      refine loop0 (H := fun m (a : Int32 × Int32 × Int32) => hD (d + 59) 310 67 [.ref 156, .int (i3 i), .int (i3 j), .int a.1, .int a.2.1, .int a.2.2, .int (i3 m)] 342 (RR V) x g2 L) (out := fun a => oI (if j = 0 then a.2.1 else a.2.2) x g2 L) (N := 301) (step := lsS (fun m => (tB T (H c) K m).testBit i)) ?_ ?_ (i3 0, i3 0, m1)
      · rintro m ⟨a, b, e⟩ hm
        have q1 := (b2 m hm).1
        have q2 := (b2 m hm).2.2.1
        rw [h_310_67]
        unfold lsS
        cases q : (tB T (H c) K m).testBit i
        · simp (disch := omega) only [i3_add, i3_mul, i3_sub, i3_m1, i3_lt, i3_le, i3_eq, m1_lt, lt_m1, m1_le, le_m1, i3_nm1, m1_ni3, i3_cl, i3_in, i3_or, i3_and, i3_xor, i3_shl, i3_shr, sh_tb, tb_eq0, gd_tt, aI_o, aV_o, aL_o, aR_o, zd_0, zd_1, if_true, if_false, ite_self, eq_self, Bool.true_eq_false, Bool.false_eq_true, bi_0, bi_1, bi_zd, Nat.not_lt_zero, tb_eq1, hm, q1, q]
          rw [h_310_98]
          split
          · first | (rw [h_310_121, i3_add]; done) | (rw [h_310_121, i3_add, i3_sub (Nat.zero_le _), i3_add])
          · first | (rw [h_310_121, i3_add]; done) | (rw [h_310_121, i3_add, i3_sub (Nat.zero_le _), i3_add])
        · simp (disch := omega) only [i3_add, i3_mul, i3_sub, i3_m1, i3_lt, i3_le, i3_eq, m1_lt, lt_m1, m1_le, le_m1, i3_nm1, m1_ni3, i3_cl, i3_in, i3_or, i3_and, i3_xor, i3_shl, i3_shr, sh_tb, tb_eq0, gd_tt, aI_o, aV_o, aL_o, aR_o, zd_0, zd_1, if_true, if_false, ite_self, eq_self, Bool.true_eq_false, Bool.false_eq_true, bi_0, bi_1, bi_zd, Nat.not_lt_zero, tb_eq1, hm, q1, q]
          rw [h_310_98]
          split
          · first | (rw [h_310_121, i3_add]; done) | (rw [h_310_121, i3_add, i3_sub (Nat.zero_le _), i3_add])
          · first | (rw [h_310_121, i3_add]; done) | (rw [h_310_121, i3_add, i3_sub (Nat.zero_le _), i3_add])
      · rintro ⟨a, b, e⟩
        rw [h_310_67]
        simp (disch := omega) only [i3_add, i3_mul, i3_sub, i3_m1, i3_lt, i3_le, i3_eq, m1_lt, lt_m1, m1_le, le_m1, i3_nm1, m1_ni3, i3_cl, i3_in, i3_or, i3_and, i3_xor, i3_shl, i3_shr, sh_tb, tb_eq0, gd_tt, aI_o, aV_o, aL_o, aR_o, zd_0, zd_1, if_true, if_false, ite_self, eq_self, Bool.true_eq_false, Bool.false_eq_true, bi_0, bi_1, bi_zd, Nat.not_lt_zero, Nat.lt_irrefl]
        split <;> rfl
