theorem kin (K i : Nat) : (K ^^^ (K &&& i) = 0) ↔ (i &&& K = K) := by
  constructor
  · intro h
    apply eqb
    intro k
    have := congrArg (fun z => z.testBit k) h
    simp only [ndf_tb, Nat.zero_testBit] at this
    rw [Nat.testBit_and]
    revert this
    cases K.testBit k <;> cases i.testBit k <;> decide
  · intro h
    apply eqb
    intro k
    have := congrArg (fun z => z.testBit k) h
    simp only [Nat.testBit_and] at this
    rw [ndf_tb, Nat.zero_testBit]
    revert this
    cases K.testBit k <;> cases i.testBit k <;> decide
/-- the fewest, as the class seeks them -/
def cst (w : Nat → Bool) (K i a : Nat) : Nat := if i &&& K = K ∧ pc i 10 < pc a 10 ∧ w i = true then i else a
/-- and as the model does: 0 is none, else one more -/
def mst (w : Nat → Bool) (K i a : Nat) : Nat := if i &&& K = K ∧ (a = 0 ∨ pc i 10 < pc (a - 1) 10) ∧ w i = true then i + 1 else a
theorem pc_full : ∀ n, n < 9 → ∀ i, i < 2 ^ n - 1 → pc i 10 < pc (2 ^ n - 1) 10 := by decide +kernel
theorem cm_best {w : Nat → Bool} {K F : Nat} (hpc : ∀ i, i < F → pc i 10 < pc F 10) (hK : F &&& K = K) (hF : w F = true) : ∀ n, n ≤ F → (itr (mst w K) 0 n 0 = 0 ∧ itr (cst w K) 0 n F = F) ∨ (itr (mst w K) 0 n 0 = itr (cst w K) 0 n F + 1 ∧ itr (cst w K) 0 n F < F) := by
  intro n
  induction n with
  | zero => intro _; exact Or.inl ⟨rfl, rfl⟩
  | succ n ih =>
    intro hn
    rw [itr_succ, itr_succ, Nat.zero_add]
    have hp := hpc n (by omega)
    rcases ih (by omega) with ⟨h1, h2⟩ | ⟨h1, h2⟩
    · rw [h1, h2]
      unfold mst cst
      by_cases q : n &&& K = K ∧ w n = true
      · rw [if_pos ⟨q.1, Or.inl rfl, q.2⟩, if_pos ⟨q.1, hp, q.2⟩]
        exact Or.inr ⟨rfl, by omega⟩
      · rw [if_neg (fun z => q ⟨z.1, z.2.2⟩), if_neg (fun z => q ⟨z.1, z.2.2⟩)]
        exact Or.inl ⟨rfl, rfl⟩
    · rw [h1]
      generalize itr (cst w K) 0 n F = c at h2 ⊢
      unfold mst cst
      by_cases q : n &&& K = K ∧ pc n 10 < pc c 10 ∧ w n = true
      · rw [if_pos q, if_pos ⟨q.1, Or.inr q.2.1, q.2.2⟩]
        exact Or.inr ⟨rfl, by omega⟩
      · rw [if_neg q, if_neg (fun z => q ⟨z.1, z.2.1.elim (fun y => by omega) id, z.2.2⟩)]
        exact Or.inr ⟨rfl, h2⟩
theorem best_w {w : Nat → Bool} {K F : Nat} (hpc : ∀ i, i < F → pc i 10 < pc F 10) (hK : F &&& K = K) (hF : w F = true) : itr (mst w K) 0 (F + 1) 0 = itr (cst w K) 0 F F + 1 := by
  rw [itr_succ, Nat.zero_add]
  rcases cm_best hpc hK hF F (Nat.le_refl _) with ⟨h1, h2⟩ | ⟨h1, h2⟩
  · rw [h1, h2]
    unfold mst
    rw [if_pos ⟨hK, Or.inl rfl, hF⟩]
  · rw [h1]
    unfold mst
    have hp := hpc _ h2
    rw [if_neg (fun z => z.2.1.elim (fun y => by omega) (fun y => by rw [Nat.add_sub_cancel] at y; omega))]
theorem best_n {w : Nat → Bool} {K n : Nat} (hw : ∀ i, i < n → w i = false) : itr (mst w K) 0 n 0 = 0 := by
  induction n with
  | zero => rfl
  | succ n ih =>
    rw [itr_succ, ih (fun i hi => hw i (by omega)), Nat.zero_add]
    unfold mst
    rw [if_neg (fun z => by rw [hw n (by omega)] at z; exact Bool.false_ne_true z.2.2)]
theorem pc_le (a : Nat) : ∀ n, pc a n ≤ n
  | 0 => Nat.le_refl _
  | n + 1 => by
    have h := pc_le a n
    have h2 := tb_lt a n
    show pc a n + tb a n ≤ n + 1
    omega
theorem full_in {K n : Nat} (hK : K < 2 ^ n) : (2 ^ n - 1) &&& K = K := by
  rw [Nat.and_comm, Nat.and_two_pow_sub_one_eq_mod, Nat.mod_eq_of_lt hK]
theorem s_164 {d x : Nat} {V : pV} {G : sm_G} {L : sm_L} {s K : Nat} {T P : pT} {t dm : Nat → Nat} {a b m : Nat} {both : Bool} (hs : pS s) (hc : cS G s T) (hp : cP G (s + 1) T P K) (hT : okT T) (hw : cW G t dm) (hK : K < 2 ^ sl T) (ha : a < 8) (hb : b < 8) (hm : m < 301) :
    sm_cv0 (d + 5) 164 342 (RR V) [.ref 61, .ref s, .ref 54, .int (i3 a), .int (i3 b), .int (i3 m), .int (bi both)] (x, G, L) = oI (mi (if wk T (fun m => t m ||| rmB T (2 ^ sl T - 1).testBit) dm a b m both = true then itr (cst (fun E => wk T (fun m => t m ||| rmB T E.testBit) dm a b m both) K) 0 (2 ^ sl T - 1) (2 ^ sl T - 1) + 1 else 0)) x G L := by
  have hB := hT.gb
  have hpos : 0 < 2 ^ sl T := Nat.two_pow_pos _
  have hF2 := pw8 hT (show 2 ^ sl T - 1 < 2 ^ sl T by omega)
  have eF : shl (i3 1) (i3 (sl T)) - i3 1 = i3 (2 ^ sl T - 1) := by
    simp (disch := omega) only [i3_shl, Nat.one_shiftLeft, i3_sub]
  have e165 := fun E (hE : E < 2 ^ sl T) => s_165 (d := d) (x := x) (L := L) (V := V) (both := both) hs hc hT hw hE ha hb hm
  have hin : ∀ E, E &&& K < 2147483648 := fun E => Nat.lt_of_le_of_lt Nat.and_le_right (Nat.lt_trans (pw8 hT hK) (by decide))
  have hpc := fun E => pc_le E 10
  have hK8 := pw8 hT hK
  rw [m_164 hs, hc.gsl, eF, e165 _ (by omega)]
  generalize hWW : (fun E : Nat => wk T (fun m => t m ||| rmB T E.testBit) dm a b m both) = W
  have eW : ∀ E : Nat, wk T (fun m => t m ||| rmB T E.testBit) dm a b m both = W E := fun E => by rw [← hWW]
  simp only [eW] at e165 ⊢
  cases q : W (2 ^ sl T - 1)
  · simp (disch := omega) only [i3_add, i3_mul, i3_sub, i3_m1, i3_lt, i3_le, i3_eq, m1_lt, lt_m1, m1_le, le_m1, i3_nm1, m1_ni3, i3_cl, i3_in, i3_or, i3_and, i3_xor, i3_shl, i3_shr, sh_tb, tb_eq0, gd_tt, aI_o, aV_o, aL_o, aR_o, zd_0, zd_1, if_true, if_false, ite_self, eq_self, Bool.true_eq_false, Bool.false_eq_true, bi_0, bi_1, bi_zd, Nat.not_lt_zero, mi_zero]
  · simp (disch := omega) only [i3_add, i3_mul, i3_sub, i3_m1, i3_lt, i3_le, i3_eq, m1_lt, lt_m1, m1_le, le_m1, i3_nm1, m1_ni3, i3_cl, i3_in, i3_or, i3_and, i3_xor, i3_shl, i3_shr, sh_tb, tb_eq0, gd_tt, aI_o, aV_o, aL_o, aR_o, zd_0, zd_1, if_true, if_false, ite_self, eq_self, Bool.true_eq_false, Bool.false_eq_true, bi_0, bi_1, bi_zd, Nat.not_lt_zero, mi_succ]
    have key := loopP (H := fun i c => hD (d + 4) 164 37 [.ref 61, .ref s, .ref 54, .int (i3 a), .int (i3 b), .int (i3 m), .int (bi both), .int (i3 (2 ^ sl T - 1)), .int (i3 c), .int (i3 i)] 342 (RR V) x G L) (out := fun c => oI (i3 c) x G L) (N := 2 ^ sl T - 1) (step := cst W K) (fun _ c => c < 2 ^ sl T) ?_ ?_ (2 ^ sl T - 1) 0 _ (by omega) (show 2 ^ sl T - 1 < 2 ^ sl T by omega)
    · exact key.1
    · intro i c hi hc2
      have hc3 := pw8 hT hc2
      have h1 := hin i
      have h2 := hpc i
      have h3 := hpc c
      have e7 := s_7 (d := d + 3) (x := x) (L := L) (V := V) (G := G) (show i < 1024 by omega)
      have e7c := s_7 (d := d + 3) (x := x) (L := L) (V := V) (G := G) (show c < 1024 by omega)
      have e5 := e165 i (by omega)
      refine ⟨?_, by unfold cst; split <;> omega⟩
      rw [h_164_37 hs]
      unfold cst
      by_cases q1 : i &&& K = K
      · by_cases q2 : pc i 10 < pc c 10
        · cases q3 : W i
          · simp (disch := omega) only [i3_add, i3_mul, i3_sub, i3_m1, i3_lt, i3_le, i3_eq, m1_lt, lt_m1, m1_le, le_m1, i3_nm1, m1_ni3, i3_cl, i3_in, i3_or, i3_and, i3_xor, i3_shl, i3_shr, sh_tb, tb_eq0, gd_tt, aI_o, aV_o, aL_o, aR_o, zd_0, zd_1, if_true, if_false, ite_self, eq_self, Bool.true_eq_false, Bool.false_eq_true, bi_0, bi_1, bi_zd, Nat.not_lt_zero, hi, hp.gkp, q1, e7, e7c, q2, e5, q3, and_false, and_true, true_and]
          · simp (disch := omega) only [i3_add, i3_mul, i3_sub, i3_m1, i3_lt, i3_le, i3_eq, m1_lt, lt_m1, m1_le, le_m1, i3_nm1, m1_ni3, i3_cl, i3_in, i3_or, i3_and, i3_xor, i3_shl, i3_shr, sh_tb, tb_eq0, gd_tt, aI_o, aV_o, aL_o, aR_o, zd_0, zd_1, if_true, if_false, ite_self, eq_self, Bool.true_eq_false, Bool.false_eq_true, bi_0, bi_1, bi_zd, Nat.not_lt_zero, hi, hp.gkp, q1, e7, e7c, q2, e5, q3, and_true, true_and]
        · simp (disch := omega) only [i3_add, i3_mul, i3_sub, i3_m1, i3_lt, i3_le, i3_eq, m1_lt, lt_m1, m1_le, le_m1, i3_nm1, m1_ni3, i3_cl, i3_in, i3_or, i3_and, i3_xor, i3_shl, i3_shr, sh_tb, tb_eq0, gd_tt, aI_o, aV_o, aL_o, aR_o, zd_0, zd_1, if_true, if_false, ite_self, eq_self, Bool.true_eq_false, Bool.false_eq_true, bi_0, bi_1, bi_zd, Nat.not_lt_zero, hi, hp.gkp, q1, e7, e7c, q2, false_and, and_false]
      · simp (disch := omega) only [i3_add, i3_mul, i3_sub, i3_m1, i3_lt, i3_le, i3_eq, m1_lt, lt_m1, m1_le, le_m1, i3_nm1, m1_ni3, i3_cl, i3_in, i3_or, i3_and, i3_xor, i3_shl, i3_shr, sh_tb, tb_eq0, gd_tt, aI_o, aV_o, aL_o, aR_o, zd_0, zd_1, if_true, if_false, ite_self, eq_self, Bool.true_eq_false, Bool.false_eq_true, bi_0, bi_1, bi_zd, Nat.not_lt_zero, hi, hp.gkp, q1, false_and]
    · intro c _
      rw [h_164_37 hs]
      simp (disch := omega) only [i3_add, i3_mul, i3_sub, i3_m1, i3_lt, i3_le, i3_eq, m1_lt, lt_m1, m1_le, le_m1, i3_nm1, m1_ni3, i3_cl, i3_in, i3_or, i3_and, i3_xor, i3_shl, i3_shr, sh_tb, tb_eq0, gd_tt, aI_o, aV_o, aL_o, aR_o, zd_0, zd_1, if_true, if_false, ite_self, eq_self, Bool.true_eq_false, Bool.false_eq_true, bi_0, bi_1, bi_zd, Nat.not_lt_zero, Nat.lt_irrefl]
