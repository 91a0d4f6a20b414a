theorem gbk_sub (T : pT) (t dm : Nat → Nat) (R also last : Nat) : ∀ k, t (last - k) &&& gbk T t dm R also last k = gbk T t dm R also last k
  | 0 => by
    show t last &&& (R &&& t last) = R &&& t last
    rw [Nat.and_comm, Nat.and_assoc, Nat.and_self]
  | k + 1 => by
    show t (last - (k + 1)) &&& ((bhi T (gbk T t dm R also last k) (dm (last - k)) (gbk T t dm R also last k) ||| also) &&& t (last - k - 1)) = _
    rw [show last - (k + 1) = last - k - 1 by omega, Nat.and_comm, Nat.and_assoc, Nat.and_self]
    rfl
/-- whom the end leaves cut off: the model asks one after another -/
theorem l_321 {d x : Nat} {V : pV} {G : sm_G} {L : sm_L} {T P : pT} {K : Nat} {t dm : Nat → Nat} {m : Nat} (hm : mH G T P K) (hT : okT T) (hw : mW G t dm) (hmm : m < 301) (ht : t m < 2 ^ sl T) :
    hD (d + 2) 321 36 [.ref 156, .int (i3 m), .int (i3 0), .int (i3 0)] 342 (RR V) x G L = oI (i3 (t m ^^^ (t m &&& gbk T t dm (t 300) 0 300 (300 - m)))) x G L := by
  have hB := hT.gb
  have hE : bs (fun i => (t m).testBit i && decide (rch T t dm (300 - m) m (1 <<< i &&& t m) = 0)) (sl T) = t m ^^^ (t m &&& gbk T t dm (t 300) 0 300 (300 - m)) := by
    apply eqb
    intro k
    rw [bs_tb, ndf_tb]
    cases q : (t m).testBit k
    · simp
    · have hk : k < sl T := by
        cases Nat.lt_or_ge k (sl T) with
        | inl h => exact h
        | inr h =>
          rw [Nat.testBit_lt_two_pow (Nat.lt_of_lt_of_le ht (Nat.pow_le_pow_right (by decide) h))] at q
          cases q
      rw [decide_eq_true hk]
      have hb := rch_back T t dm 300 (300 - m) m (1 <<< k &&& t m) (by omega) (by rw [Nat.and_assoc, Nat.and_self])
      have hg := gbk_sub T t dm (t 300) 0 300 (300 - m)
      rw [show 300 - (300 - m) = m by omega] at hg
      rw [Nat.and_assoc, hg, Nat.and_comm (1 <<< k) (gbk T t dm (t 300) 0 300 (300 - m)), one_and] at hb
      simp only [Bool.true_and]
      cases q2 : (gbk T t dm (t 300) 0 300 (300 - m)).testBit k
      · rw [decide_eq_true (hb.mpr q2)]
        rfl
      · rw [decide_eq_false (fun z => by rw [hb.mp z] at q2; cases q2)]
        rfl
  rw [← hE, ← bs_itr]
  refine loop0 (H := fun i a => hD (d + 2) 321 36 [.ref 156, .int (i3 m), .int (i3 a), .int (i3 i)] 342 (RR V) x G L) (out := fun a => oI (i3 a) x G L) ?_ ?_ 0
  · intro i a hi
    have e1 := s_312 (d := d) (x := x) (L := L) (V := V) (A := 1 <<< i) hm hT hw hmm (show 300 < 301 by decide) (by omega)
    have hr : ∀ n m R, R < 256 → m + n < 301 → rch T t dm n m R < 256 := by
      intro n
      induction n with
      | zero => intro m R h _; exact h
      | succ n ih => intro m R h h2; exact ih _ _ (Nat.lt_of_le_of_lt (nxt_le _ _ _ _ _) (hw (m + 1) (by omega)).2.2.1) (by omega)
    have hr := hr (300 - m) m (1 <<< i &&& t m) (Nat.lt_of_le_of_lt Nat.and_le_right (hw m hmm).2.2.1) (by omega)
    have h5 := (hw m hmm).2.2.1
    rw [h_321_36, hm.gsl]
    cases q : (t m).testBit i
    · simp (disch := omega) only [i3_add, i3_mul, i3_sub, i3_m1, i3_lt, i3_le, i3_eq, m1_lt, lt_m1, m1_le, le_m1, i3_nm1, m1_ni3, i3_cl, i3_in, i3_or, i3_and, i3_xor, i3_shl, i3_shr, sh_tb, tb_eq0, gd_tt, aI_o, aV_o, aL_o, aR_o, zd_0, zd_1, if_true, if_false, ite_self, eq_self, Bool.true_eq_false, Bool.false_eq_true, bi_0, bi_1, bi_zd, Nat.not_lt_zero, tb_eq1, hi, (hw m hmm).1, q, Bool.false_and, Nat.or_zero]
    · by_cases q2 : rch T t dm (300 - m) m (1 <<< i &&& t m) = 0
      · simp (disch := omega) only [i3_add, i3_mul, i3_sub, i3_m1, i3_lt, i3_le, i3_eq, m1_lt, lt_m1, m1_le, le_m1, i3_nm1, m1_ni3, i3_cl, i3_in, i3_or, i3_and, i3_xor, i3_shl, i3_shr, sh_tb, tb_eq0, gd_tt, aI_o, aV_o, aL_o, aR_o, zd_0, zd_1, if_true, if_false, ite_self, eq_self, Bool.true_eq_false, Bool.false_eq_true, bi_0, bi_1, bi_zd, Nat.not_lt_zero, tb_eq1, hi, (hw m hmm).1, q, e1, q2, Bool.true_and, decide_true]
      · simp (disch := omega) only [i3_add, i3_mul, i3_sub, i3_m1, i3_lt, i3_le, i3_eq, m1_lt, lt_m1, m1_le, le_m1, i3_nm1, m1_ni3, i3_cl, i3_in, i3_or, i3_and, i3_xor, i3_shl, i3_shr, sh_tb, tb_eq0, gd_tt, aI_o, aV_o, aL_o, aR_o, zd_0, zd_1, if_true, if_false, ite_self, eq_self, Bool.true_eq_false, Bool.false_eq_true, bi_0, bi_1, bi_zd, Nat.not_lt_zero, tb_eq1, hi, (hw m hmm).1, q, e1, q2, Bool.true_and, decide_false, Nat.or_zero]
  · intro a
    rw [h_321_36, hm.gsl]
    simp (disch := omega) only [i3_add, i3_mul, i3_sub, i3_m1, i3_lt, i3_le, i3_eq, m1_lt, lt_m1, m1_le, le_m1, i3_nm1, m1_ni3, i3_cl, i3_in, i3_or, i3_and, i3_xor, i3_shl, i3_shr, sh_tb, tb_eq0, gd_tt, aI_o, aV_o, aL_o, aR_o, zd_0, zd_1, if_true, if_false, ite_self, eq_self, Bool.true_eq_false, Bool.false_eq_true, bi_0, bi_1, bi_zd, Nat.not_lt_zero, Nat.lt_irrefl]
theorem l_279 {d x : Nat} {V : pV} {G : sm_G} {L : sm_L} {T P : pT} {K : Nat} {t dm : Nat → Nat} {a m : Nat} (hm : mH G T P K) (hT : okT T) (hw : mW G t dm) (hmm : m < 301) (ha : a < 8) :
    hD (d + 1) 279 68 [.ref 156, .null, .int (i3 m), .int (i3 (1 <<< a &&& t m)), .int (i3 0)] 342 (RR V) x G L = oI (i3 (t m ^^^ (t m &&& wit T t dm m (1 <<< a &&& t m)))) x G L := by
  have hR : 1 <<< a &&& t m < 256 := Nat.lt_of_le_of_lt Nat.and_le_right (hw m hmm).2.2.1
  have key := loopP (H := fun i R => hD (d + 1) 279 68 [.ref 156, .null, .int (i3 m), .int (i3 R), .int (i3 i)] 342 (RR V) x G L) (out := fun R => oI (i3 (t m ^^^ (t m &&& R))) x G L) (N := 8) (step := fun _ R => nxt T t dm R m) (fun _ R => R < 256) ?_ ?_ 8 0 _ (by omega) hR
  · exact key.1
  · intro i R hi h3
    have e1 := s_280 (d := d) (x := x) (L := L) (V := V) hm hT hw h3 hmm
    refine ⟨?_, Nat.lt_of_le_of_lt (nxt_le _ _ _ _ _) (hw m hmm).2.2.1⟩
    rw [h_279_68]
    simp (disch := omega) only [i3_add, i3_mul, i3_sub, i3_m1, i3_lt, i3_le, i3_eq, m1_lt, lt_m1, m1_le, le_m1, i3_nm1, m1_ni3, i3_cl, i3_in, i3_or, i3_and, i3_xor, i3_shl, i3_shr, sh_tb, tb_eq0, gd_tt, aI_o, aV_o, aL_o, aR_o, zd_0, zd_1, if_true, if_false, ite_self, eq_self, Bool.true_eq_false, Bool.false_eq_true, bi_0, bi_1, bi_zd, Nat.not_lt_zero, hi, e1]
  · intro R _
    rw [h_279_68]
    simp (disch := omega) only [i3_add, i3_mul, i3_sub, i3_m1, i3_lt, i3_le, i3_eq, m1_lt, lt_m1, m1_le, le_m1, i3_nm1, m1_ni3, i3_cl, i3_in, i3_or, i3_and, i3_xor, i3_shl, i3_shr, sh_tb, tb_eq0, gd_tt, aI_o, aV_o, aL_o, aR_o, zd_0, zd_1, if_true, if_false, ite_self, eq_self, Bool.true_eq_false, Bool.false_eq_true, bi_0, bi_1, bi_zd, Nat.not_lt_zero, Nat.lt_irrefl, (hw m hmm).1, i3_andn]
