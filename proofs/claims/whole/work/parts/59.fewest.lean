theorem mst_congr {w w' : Nat → Bool} {K : Nat} (h : ∀ E, E &&& K = K → w E = w' E) : mst w K = mst w' K := by
  funext i a
  unfold mst
  by_cases q : i &&& K = K
  · rw [h i q]
  · rw [if_neg (fun z => q z.1), if_neg (fun z => q z.1)]
theorem cst_congr {w w' : Nat → Bool} {K : Nat} (h : ∀ E, E &&& K = K → w E = w' E) : cst w K = cst w' K := by
  funext i a
  unfold cst
  by_cases q : i &&& K = K
  · rw [h i q]
  · rw [if_neg (fun z => q z.1), if_neg (fun z => q z.1)]
/-- what the model's tries leave alone -/
def fI (G g : sm_G) : Prop := ∀ r k, r ≠ 307 → ¬ (r = 156 ∧ k = 41) → g r k = G r k
theorem l_290 {d x : Nat} {V : pV} {G : sm_G} {L : sm_L} {T P : pT} {K a b m : Nat} {dm : Nat → Nat} {both : Bool} (hm : mH G T P K) (hT : okT T) (hP : okP T P) (hK : K < 2 ^ sl T) (hw : ∀ k, k < sl T → G 305 k = i3 k) (he : ∀ k, k < sl T → G 306 k = i3 1000) (hd : ∀ m, m < 301 → G 308 m = i3 (dm m) ∧ dm m < 1024) (ha : a < 8) (hb : b < 8) (hmm : m < 301) :
    ∀ n i c g, i + n = 2 ^ sl T → c ≤ i → fI G g → ∃ G', hD (d + 2) 290 10 [.ref 156, .int (i3 a), .int (i3 m), .int (i3 b), .int (bi both), .int (mi c), .int (i3 i)] 342 (RR V) x g L = oI (mi (itr (mst (fun E => wk T (tB T P E) dm a b m both) K) i n c)) x G' L ∧ fI G G' := by
  have hB := hT.gb
  have hK8 := pw8 hT hK
  have hp8 : 2 ^ sl T ≤ 256 := show 2 ^ sl T ≤ 2 ^ 8 from Nat.pow_le_pow_right (by decide) hB.1
  have hpc := fun E => pc_le E 10
  intro n
  induction n with
  | zero =>
    intro i c g h1 h2 hI
    refine ⟨g, ?_, hI⟩
    have hm' : mH g T P K := hm.keep hT hP (fun r k h => hI r k (by unfold inM at h; omega) (by unfold inM at h; omega))
    rw [h_290_10, hm'.gsl]
    simp (disch := omega) only [i3_add, i3_mul, i3_sub, i3_m1, i3_lt, i3_le, i3_eq, m1_lt, lt_m1, m1_le, le_m1, i3_nm1, m1_ni3, i3_cl, i3_in, i3_or, i3_and, i3_xor, i3_shl, i3_shr, sh_tb, tb_eq0, gd_tt, aI_o, aV_o, aL_o, aR_o, zd_0, zd_1, if_true, if_false, ite_self, eq_self, Bool.true_eq_false, Bool.false_eq_true, bi_0, bi_1, bi_zd, Nat.not_lt_zero, Nat.one_shiftLeft, show ¬ i < 2 ^ sl T by omega]
    rfl
  | succ n ih =>
    intro i c g h1 h2 hI
    have hm' : mH g T P K := hm.keep hT hP (fun r k h => hI r k (by unfold inM at h; omega) (by unfold inM at h; omega))
    have hx : K ^^^ (K &&& i) < 2147483648 := Nat.lt_of_lt_of_le (Nat.xor_lt_two_pow (n := 8) hK8 (Nat.lt_of_le_of_lt Nat.and_le_left hK8)) (by decide)
    show ∃ G', _ = oI (mi (itr (mst (fun E => wk T (tB T P E) dm a b m both) K) (i + 1) n (mst (fun E => wk T (tB T P E) dm a b m both) K i c))) x G' L ∧ fI G G'
    by_cases q1 : i &&& K = K
    · by_cases q2 : c = 0 ∨ pc i 10 < pc (c - 1) 10
      · have hgo : hD (d + 2) 290 10 [.ref 156, .int (i3 a), .int (i3 m), .int (i3 b), .int (bi both), .int (mi c), .int (i3 i)] 342 (RR V) x g L = hD (d + 2) 290 57 [.ref 156, .int (i3 a), .int (i3 m), .int (i3 b), .int (bi both), .int (mi c), .int (i3 i)] 342 (RR V) x g L := by
          have p1 := hpc i
          have p2 := hpc (c - 1)
          rw [h_290_10, hm'.gsl, hm'.gkp, i3_andn]
          by_cases q3 : c = 0
          · simp (disch := omega) only [i3_add, i3_mul, i3_sub, i3_m1, i3_lt, i3_le, i3_eq, m1_lt, lt_m1, m1_le, le_m1, i3_nm1, m1_ni3, i3_cl, i3_in, i3_or, i3_and, i3_xor, i3_shl, i3_shr, sh_tb, tb_eq0, gd_tt, aI_o, aV_o, aL_o, aR_o, zd_0, zd_1, if_true, if_false, ite_self, eq_self, Bool.true_eq_false, Bool.false_eq_true, bi_0, bi_1, bi_zd, Nat.not_lt_zero, Nat.one_shiftLeft, show i < 2 ^ sl T by omega, kin, q1, mi_m1, q3]
          · have e1 := s_291 (d := d + 1) (x := x) (L := L) (V := V) (G := g) (show i < 1024 by omega)
            have e2 := s_291 (d := d + 1) (x := x) (L := L) (V := V) (G := g) (show c - 1 < 1024 by omega)
            have q4 : pc i 10 < pc (c - 1) 10 := q2.elim (fun z => absurd z q3) id
            simp (disch := omega) only [i3_add, i3_mul, i3_sub, i3_m1, i3_lt, i3_le, i3_eq, m1_lt, lt_m1, m1_le, le_m1, i3_nm1, m1_ni3, i3_cl, i3_in, i3_or, i3_and, i3_xor, i3_shl, i3_shr, sh_tb, tb_eq0, gd_tt, aI_o, aV_o, aL_o, aR_o, zd_0, zd_1, if_true, if_false, ite_self, eq_self, Bool.true_eq_false, Bool.false_eq_true, bi_0, bi_1, bi_zd, Nat.not_lt_zero, Nat.one_shiftLeft, show i < 2 ^ sl T by omega, kin, q1, mi_m1, q3, mi_s q3, e1, e2, q4]
        rw [hgo, h_290_57]
        have e258 := s_258 (d := d) (x := x) (L := L) (V := V) (G := g) (w := fun k => k) (e := fun _ => 1000) hm' hT hP (show i < 1024 by omega) (fun k hk => ⟨by rw [hI 305 k (by decide) (by omega)]; exact hw k hk, by omega⟩) (fun k hk => ⟨by rw [hI 306 k (by decide) (by omega)]; exact he k hk, by decide⟩)
        rw [e258]
        simp only [aV_o]
        generalize hg2 : fill (sm_up g 156 41 (i3 i)) 307 301 (fun m => i3 (rmB T (fun k => slp T P (fun k => k) (fun _ => 1000) i k m))) = g2
        have hI2 : fI G g2 := fun r k z1 z2 => by rw [← hg2, fill_ne z1, sm_up_ne (by omega)]; exact hI r k z1 z2
        have hm2 : mH g2 T P K := hm.keep hT hP (fun r k h => hI2 r k (by unfold inM at h; omega) (by unfold inM at h; omega))
        have hw2 : mW g2 (tB T P i) dm := fun m hm => ⟨by rw [← hg2, fill_at hm]; rfl, by rw [hI2 308 m (by decide) (by omega)]; exact (hd m hm).1, rmB_lt T hT _, (hd m hm).2⟩
        have e284 := s_284 (d := d) (x := x) (L := L) (V := V) (e := 300) hm2 hT hw2 ha hb hmm (by decide)
        have e292 := s_292 (d := d) (x := x) (L := L) (V := V) hm2 hT hw2 ha hb hmm
        have hf := fs_le T (tB T P i) dm b (301 - m) m (1 <<< a &&& tB T P i m)
        have hg := tg_le T (tB T P i) dm (301 - m) m (1 <<< a &&& tB T P i m) (1 <<< b &&& tB T P i m)
        have e284 : sm_cv0 (d + 2) 284 342 (RR V) [.ref 156, .int (i3 a), .int (i3 m), .int (i3 b), .int (i3 300)] (x, g2, L) = oI (mi (fs T (tB T P i) dm b (301 - m) m (1 <<< a &&& tB T P i m))) x g2 L := e284
        have c0 : bi false = i3 0 := rfl
        have c1 : bi true = i3 1 := rfl
        have ih0 := ih (i + 1) c g2 (by omega) (by omega) hI2
        have ih1 := ih (i + 1) (i + 1) g2 (by omega) (Nat.le_refl _) hI2
        rw [mi_succ] at ih1
        cases q5 : wk T (tB T P i) dm a b m both
        · have em : mst (fun E => wk T (tB T P E) dm a b m both) K i c = c := by
            unfold mst
            rw [if_neg (fun z => by have h9 : wk T (tB T P i) dm a b m both = true := z.2.2; rw [q5] at h9; cases h9)]
          rw [em]
          obtain ⟨G', f1, f2⟩ := ih0
          refine ⟨G', ?_, f2⟩
          rw [← f1]
          unfold wk at q5
          cases both
          · have q6 : fs T (tB T P i) dm b (301 - m) m (1 <<< a &&& tB T P i m) = 0 := by simpa using q5
            simp (disch := omega) only [i3_add, i3_mul, i3_sub, i3_m1, i3_lt, i3_le, i3_eq, m1_lt, lt_m1, m1_le, le_m1, i3_nm1, m1_ni3, i3_cl, i3_in, i3_or, i3_and, i3_xor, i3_shl, i3_shr, sh_tb, tb_eq0, gd_tt, aI_o, aV_o, aL_o, aR_o, zd_0, zd_1, if_true, if_false, ite_self, eq_self, Bool.true_eq_false, Bool.false_eq_true, bi_0, bi_1, bi_zd, Nat.not_lt_zero, c0, e284, mi_m1, q6]
          · have q6 : tg T (tB T P i) dm (301 - m) m (1 <<< a &&& tB T P i m) (1 <<< b &&& tB T P i m) = 0 := by simpa using q5
            simp (disch := omega) only [i3_add, i3_mul, i3_sub, i3_m1, i3_lt, i3_le, i3_eq, m1_lt, lt_m1, m1_le, le_m1, i3_nm1, m1_ni3, i3_cl, i3_in, i3_or, i3_and, i3_xor, i3_shl, i3_shr, sh_tb, tb_eq0, gd_tt, aI_o, aV_o, aL_o, aR_o, zd_0, zd_1, if_true, if_false, ite_self, eq_self, Bool.true_eq_false, Bool.false_eq_true, bi_0, bi_1, bi_zd, Nat.not_lt_zero, c1, e292, mi_m1, q6, show ¬ (1 : Nat) = 0 by decide]
        · have em : mst (fun E => wk T (tB T P E) dm a b m both) K i c = i + 1 := by
            unfold mst
            rw [if_pos ⟨q1, q2, q5⟩]
          rw [em]
          obtain ⟨G', f1, f2⟩ := ih1
          refine ⟨G', ?_, f2⟩
          rw [← f1]
          unfold wk at q5
          cases both
          · have q6 : ¬ fs T (tB T P i) dm b (301 - m) m (1 <<< a &&& tB T P i m) = 0 := by simpa using q5
            simp (disch := omega) only [i3_add, i3_mul, i3_sub, i3_m1, i3_lt, i3_le, i3_eq, m1_lt, lt_m1, m1_le, le_m1, i3_nm1, m1_ni3, i3_cl, i3_in, i3_or, i3_and, i3_xor, i3_shl, i3_shr, sh_tb, tb_eq0, gd_tt, aI_o, aV_o, aL_o, aR_o, zd_0, zd_1, if_true, if_false, ite_self, eq_self, Bool.true_eq_false, Bool.false_eq_true, bi_0, bi_1, bi_zd, Nat.not_lt_zero, c0, e284, mi_m1, q6]
          · have q6 : ¬ tg T (tB T P i) dm (301 - m) m (1 <<< a &&& tB T P i m) (1 <<< b &&& tB T P i m) = 0 := by simpa using q5
            simp (disch := omega) only [i3_add, i3_mul, i3_sub, i3_m1, i3_lt, i3_le, i3_eq, m1_lt, lt_m1, m1_le, le_m1, i3_nm1, m1_ni3, i3_cl, i3_in, i3_or, i3_and, i3_xor, i3_shl, i3_shr, sh_tb, tb_eq0, gd_tt, aI_o, aV_o, aL_o, aR_o, zd_0, zd_1, if_true, if_false, ite_self, eq_self, Bool.true_eq_false, Bool.false_eq_true, bi_0, bi_1, bi_zd, Nat.not_lt_zero, c1, e292, mi_m1, q6, show ¬ (1 : Nat) = 0 by decide]
      · have em : mst (fun E => wk T (tB T P E) dm a b m both) K i c = c := by
          unfold mst
          rw [if_neg (fun z => q2 z.2.1)]
        rw [em]
        obtain ⟨G', f1, f2⟩ := ih (i + 1) c g (by omega) (by omega) hI
        refine ⟨G', ?_, f2⟩
        rw [← f1]
        have q3 : ¬ c = 0 := fun z => q2 (Or.inl z)
        have q4 : ¬ pc i 10 < pc (c - 1) 10 := fun z => q2 (Or.inr z)
        have p1 := hpc i
        have p2 := hpc (c - 1)
        have e1 := s_291 (d := d + 1) (x := x) (L := L) (V := V) (G := g) (show i < 1024 by omega)
        have e2 := s_291 (d := d + 1) (x := x) (L := L) (V := V) (G := g) (show c - 1 < 1024 by omega)
        rw [h_290_10, hm'.gsl, hm'.gkp, i3_andn]
        simp (disch := omega) only [i3_add, i3_mul, i3_sub, i3_m1, i3_lt, i3_le, i3_eq, m1_lt, lt_m1, m1_le, le_m1, i3_nm1, m1_ni3, i3_cl, i3_in, i3_or, i3_and, i3_xor, i3_shl, i3_shr, sh_tb, tb_eq0, gd_tt, aI_o, aV_o, aL_o, aR_o, zd_0, zd_1, if_true, if_false, ite_self, eq_self, Bool.true_eq_false, Bool.false_eq_true, bi_0, bi_1, bi_zd, Nat.not_lt_zero, Nat.one_shiftLeft, show i < 2 ^ sl T by omega, kin, q1, mi_m1, q3, mi_s q3, e1, e2, q4]
    · have em : mst (fun E => wk T (tB T P E) dm a b m both) K i c = c := by
        unfold mst
        rw [if_neg (fun z => q1 z.1)]
      rw [em]
      obtain ⟨G', f1, f2⟩ := ih (i + 1) c g (by omega) (by omega) hI
      refine ⟨G', ?_, f2⟩
      rw [← f1]
      rw [h_290_10, hm'.gsl, hm'.gkp, i3_andn]
      simp (disch := omega) only [i3_add, i3_mul, i3_sub, i3_m1, i3_lt, i3_le, i3_eq, m1_lt, lt_m1, m1_le, le_m1, i3_nm1, m1_ni3, i3_cl, i3_in, i3_or, i3_and, i3_xor, i3_shl, i3_shr, sh_tb, tb_eq0, gd_tt, aI_o, aV_o, aL_o, aR_o, zd_0, zd_1, if_true, if_false, ite_self, eq_self, Bool.true_eq_false, Bool.false_eq_true, bi_0, bi_1, bi_zd, Nat.not_lt_zero, Nat.one_shiftLeft, show i < 2 ^ sl T by omega, kin, q1]
/-- the class's least set is the model's -/
theorem least_eq {T P : pT} {K a b m : Nat} {dm : Nat → Nat} {both : Bool} (hT : okT T) (hK : K < 2 ^ sl T) :
    (if wk T (fun m => tB T P K m ||| rmB T (2 ^ sl T - 1).testBit) dm a b m both = true then itr (cst (fun E => wk T (fun m => tB T P K m ||| rmB T E.testBit) dm a b m both) K) 0 (2 ^ sl T - 1) (2 ^ sl T - 1) + 1 else 0) = itr (mst (fun E => wk T (tB T P E) dm a b m both) K) 0 (2 ^ sl T) 0 := by
  have hB := hT.gb
  have hpos : 0 < 2 ^ sl T := Nat.two_pow_pos _
  have hin := full_in hK
  have e1 : ∀ E, E &&& K = K → wk T (fun m => tB T P K m ||| rmB T E.testBit) dm a b m both = wk T (tB T P E) dm a b m both := fun E hE => by
    rw [show (fun m => tB T P K m ||| rmB T E.testBit) = tB T P E from funext (fun m => tB_or hE m)]
  rw [e1 _ hin, cst_congr e1]
  have hs : 2 ^ sl T = (2 ^ sl T - 1) + 1 := by omega
  cases q : wk T (tB T P (2 ^ sl T - 1)) dm a b m both
  · rw [if_neg Bool.false_ne_true]
    have mono : ∀ E, E < 2 ^ sl T → wk T (tB T P E) dm a b m both = true → wk T (tB T P (2 ^ sl T - 1)) dm a b m both = true := fun E hE h => by
      have hEF := full_in hE
      refine wk_sub T (fun m => ?_) a b m both h
      rw [← tB_or hEF m]
      intro k hk
      rw [Nat.testBit_or, hk, Bool.true_or]
    refine (best_n (fun E hE => ?_)).symm
    cases q2 : wk T (tB T P E) dm a b m both
    · rfl
    · rw [mono E hE q2] at q
      cases q
  · rw [if_pos rfl]
    have := best_w (w := fun E => wk T (tB T P E) dm a b m both) (pc_full (sl T) (by omega)) hin q
    rw [← hs] at this
    exact this.symm
