theorem s_302c {V : pV} {d x l : Nat} {g : sm_G} {L : sm_L} {P m : Nat} {z : bT} (hz : okB z) (hC : okC P l m) (hl : 1 ≤ l) (hE : mEn g L z) : ∃ g' L', hD d 302 43 [.ref 156, .null, .null, .null, .null, .null, .null, .null, .null, .null, .null, .long (i6 m), .null, .int (i3 l), .long (i6 P), .null, .null, .null] 342 (RR V) x g L = oV x g' L' ∧ (∀ r k, ¬ (r = 156 ∧ k = 64) → g' r k = g r k) ∧ mEn g' L' (upS z P l m) := by
  obtain ⟨s1, s2⟩ := scl_le hC
  have hl8 := hC.2.2.1
  have shift : ∀ k j, l + j + k = 8 → hD d 302 47 [.ref 156, .null, .null, .null, .null, .null, .null, .null, .null, .null, .null, .long (i6 m), .null, .int (i3 l), .long (i6 (P * 16 ^ j)), .null, .int (i3 (l + j)), .null] 342 (RR V) x g L = hD d 302 47 [.ref 156, .null, .null, .null, .null, .null, .null, .null, .null, .null, .null, .long (i6 m), .null, .int (i3 l), .long (i6 (P * 16 ^ (j + k))), .null, .int (i3 8), .null] 342 (RR V) x g L := by
    intro k
    induction k with
    | zero => intro j h; rw [show l + j = 8 by omega]; rfl
    | succ k ih =>
      intro j h
      rw [h_302_47]
      simp (disch := omega) only [i3_add, i3_mul, i3_sub, i3_m1, i3_lt, i3_le, i3_eq, m1_lt, lt_m1, m1_le, le_m1, i3_nm1, m1_ni3, i3_cl, i3_in, i3_or, i3_and, i3_xor, i3_shl, i3_shr, sh_tb, tb_eq0, gd_tt, aI_o, aV_o, aL_o, aR_o, zd_0, zd_1, if_true, if_false, ite_self, eq_self, Bool.true_eq_false, Bool.false_eq_true, bi_0, bi_1, bi_zd, Nat.not_lt_zero, show l + j < 8 by omega, i6_mul, h_302_65]
      have := ih (j + 1) (by omega)
      rw [Nat.pow_succ, ← Nat.mul_assoc, show j + 1 + k = j + (k + 1) by omega] at this
      exact this
  have e := shift (8 - l) 0 (by omega)
  rw [Nat.pow_zero, Nat.mul_one, Nat.add_zero, Nat.zero_add, show (16 : Nat) = 2 ^ 4 from rfl, ← Nat.pow_mul] at e
  have e : hD d 302 47 [.ref 156, .null, .null, .null, .null, .null, .null, .null, .null, .null, .null, .long (i6 m), .null, .int (i3 l), .long (i6 P), .null, .int (i3 l), .null] 342 (RR V) x g L = hD d 302 47 [.ref 156, .null, .null, .null, .null, .null, .null, .null, .null, .null, .null, .long (i6 m), .null, .int (i3 l), .long (i6 (scl P l)), .null, .int (i3 8), .null] 342 (RR V) x g L := e
  have new : ∃ g' L', hD d 302 106 [.ref 156, .null, .null, .null, .null, .null, .null, .null, .null, .null, .null, .long (i6 m), .null, .int (i3 l), .long (i6 (scl P l)), .null, .null, .null] 342 (RR V) x g L = oV x g' L' ∧ (∀ r k, ¬ (r = 156 ∧ k = 64) → g' r k = g r k) ∧ mEn g' L' (some (P, l, m)) := by
    refine ⟨_, _, h_302_106, fun r k a => by rw [sm_up_ne (by omega)], sm_up_same _ _ _ _, ?_, ?_⟩
    · unfold sm_up
      rfl
    · unfold sm_up
      rfl
  rw [h_302_43, e, h_302_47]
  simp (disch := omega) only [i3_add, i3_mul, i3_sub, i3_m1, i3_lt, i3_le, i3_eq, m1_lt, lt_m1, m1_le, le_m1, i3_nm1, m1_ni3, i3_cl, i3_in, i3_or, i3_and, i3_xor, i3_shl, i3_shr, sh_tb, tb_eq0, gd_tt, aI_o, aV_o, aL_o, aR_o, zd_0, zd_1, if_true, if_false, ite_self, eq_self, Bool.true_eq_false, Bool.false_eq_true, bi_0, bi_1, bi_zd, Nat.not_lt_zero, Nat.lt_irrefl]
  cases z with
  | none =>
    have hE : g 156 64 = m1 := hE
    rw [if_pos hE]
    exact new
  | some c =>
    obtain ⟨P', l', m'⟩ := c
    have hs' := scl_le hz.1
    have hl' := hz.1.2.2.1
    have he0 := hE
    obtain ⟨h1, h2, h3⟩ := hE
    rw [h1, h2, if_neg (nm1 (by omega))]
    simp (disch := omega) only [i6_lt, i6_eq, i3_lt]
    unfold upS
    simp only
    by_cases q1 : scl P l < scl P' l'
    · simp only [if_pos q1]
      exact ⟨g, L, rfl, fun _ _ _ => rfl, he0⟩
    · simp only [if_neg q1]
      by_cases q2 : scl P l = scl P' l'
      · simp only [if_pos q2]
        by_cases q3 : l < l'
        · simp only [if_pos q3]
          exact new
        · simp only [if_neg q3]
          exact ⟨g, L, rfl, fun _ _ _ => rfl, he0⟩
      · simp only [if_neg q2]
        exact new
theorem s_302 {T Pn : pT} {K b : Nat} {V : pV} (hT : okT T) (hP : okP T Pn) (hb8 : b < 8) : ∀ (n d x : Nat) (g : sm_G) (L : sm_L) (vis v l P m : Nat) (z : bT), n + l = 8 → pc vis 10 = l → vis < 256 → vis.testBit v = false → v < sl T → okC P l m → okB z → mH g T Pn K → mEn g L z → ∃ g' L', sm_cv0 (d + n + 1) 302 342 (RR V) [.ref 156, .int (i3 v), .int (i3 b), .int (i3 (vis ||| 1 <<< v)), .int (i3 l), .long (i6 P), .long (i6 m)] (x, g, L) = oV x g' L' ∧ (∀ r k, ¬ (r = 156 ∧ k = 64) → g' r k = g r k) ∧ mEn g' L' (srch T b n vis v l P m z) ∧ okB (srch T b n vis v l P m z) := by
  have hB := hT.gb
  intro n
  induction n with
  | zero =>
    intro d x g L vis v l P m z hn hpc hvis htb hv _ _ _ _
    have := (vis_ok vis hvis v (by omega) htb).1
    omega
  | succ n ih =>
    intro d x g L vis v l P m z hn hpc hvis htb hv hC hz hS hE
    obtain ⟨a1, a2, a3⟩ := vis_ok vis hvis v (by omega) htb
    have hw := hT.gwt v hv
    have hC2 := okC_s hC (by omega) hw (show v < 8 by omega)
    obtain ⟨bP, bm⟩ := okC_b hC
    obtain ⟨bP2, bm2⟩ := okC_b hC2
    have ew := hS.gwt v hv
    have e1 : i6 P * Int32.toInt64 (i3 (16 - wt T v)) = i6 (P * (16 - wt T v)) := by rw [i6_of (by omega), i6_mul]
    have e2 : i6 10 * i6 m + Int32.toInt64 (i3 v) = i6 (m * 10 + v) := by rw [i6_of (by omega), i6_mul, i6_add, Nat.mul_comm]
    show ∃ g' L', sm_cv0 (d + (n + 1) + 1) 302 _ _ _ _ = _ ∧ _ ∧ mEn g' L' (if v = b then upS z (P * (16 - wt T v)) (l + 1) (m * 10 + v) else itr (fun j z => if ((bhi T (1 <<< v) (fo T) 0).testBit j && !(vis ||| 1 <<< v).testBit j) = true then srch T b n (vis ||| 1 <<< v) j (l + 1) (P * (16 - wt T v)) (m * 10 + v) z else z) 0 (sl T) z) ∧ okB (if v = b then upS z (P * (16 - wt T v)) (l + 1) (m * 10 + v) else itr (fun j z => if ((bhi T (1 <<< v) (fo T) 0).testBit j && !(vis ||| 1 <<< v).testBit j) = true then srch T b n (vis ||| 1 <<< v) j (l + 1) (P * (16 - wt T v)) (m * 10 + v) z else z) 0 (sl T) z)
    rw [m_302]
    simp (disch := omega) only [i3_add, i3_mul, i3_sub, i3_m1, i3_lt, i3_le, i3_eq, m1_lt, lt_m1, m1_le, le_m1, i3_nm1, m1_ni3, i3_cl, i3_in, i3_or, i3_and, i3_xor, i3_shl, i3_shr, sh_tb, tb_eq0, gd_tt, aI_o, aV_o, aL_o, aR_o, zd_0, zd_1, if_true, if_false, ite_self, eq_self, Bool.true_eq_false, Bool.false_eq_true, bi_0, bi_1, bi_zd, Nat.not_lt_zero, rr_165, ldr_165, kr_165, nr_165, rr_174, ldr_174, kr_174, nr_174, rr_183, ldr_183, kr_183, nr_183, rr_194, ldr_194, kr_194, nr_194, rr_205, ldr_205, kr_205, nr_205, rr_218, ldr_218, kr_218, nr_218, rr_231, ldr_231, kr_231, nr_231, rr_236, ldr_236, kr_236, nr_236, rr_242, ldr_242, kr_242, nr_242, rr_247, ldr_247, kr_247, nr_247, rr_252, ldr_252, kr_252, nr_252, rr_265, ldr_265, kr_265, nr_265, rr_278, ldr_278, kr_278, nr_278, rr_282, ldr_282, kr_282, nr_282, rr_309, ldr_309, kr_309, nr_309, rr_314, ldr_314, kr_314, nr_314, rr_319, ldr_319, kr_319, nr_319, rr_332, ldr_332, kr_332, nr_332, ew, e1, e2]
    rw [h_302_28]
    simp (disch := omega) only [i3_add, i3_mul, i3_sub, i3_m1, i3_lt, i3_le, i3_eq, m1_lt, lt_m1, m1_le, le_m1, i3_nm1, m1_ni3, i3_cl, i3_in, i3_or, i3_and, i3_xor, i3_shl, i3_shr, sh_tb, tb_eq0, gd_tt, aI_o, aV_o, aL_o, aR_o, zd_0, zd_1, if_true, if_false, ite_self, eq_self, Bool.true_eq_false, Bool.false_eq_true, bi_0, bi_1, bi_zd, Nat.not_lt_zero]
    by_cases q : v = b
    · obtain ⟨g', L', k1, k2, k3⟩ := s_302c (V := V) (d := d + (n + 1)) (x := x) (m := m * 10 + v) hz hC2 (by omega) hE
      simp only [if_pos q]
      exact ⟨g', L', k1, k2, k3, upS_ok hz hC2 (by omega)⟩
    · simp only [if_neg q]
      generalize hf : (fun j z => if ((bhi T (1 <<< v) (fo T) 0).testBit j && !(vis ||| 1 <<< v).testBit j) = true then srch T b n (vis ||| 1 <<< v) j (l + 1) (P * (16 - wt T v)) (m * 10 + v) z else z) = step
      have hstep : ∀ j z, step j z = if ((bhi T (1 <<< v) (fo T) 0).testBit j && !(vis ||| 1 <<< v).testBit j) = true then srch T b n (vis ||| 1 <<< v) j (l + 1) (P * (16 - wt T v)) (m * 10 + v) z else z := fun j z => by rw [← hf]
      have door : ∀ j gj Lj, j < sl T → mH gj T Pn K → hD (d + (n + 1)) 302 128 [.ref 156, .int (i3 v), .int (i3 b), .int (i3 (vis ||| 1 <<< v)), .null, .null, .null, .null, .null, .long (i6 (P * (16 - wt T v))), .null, .long (i6 (m * 10 + v)), .null, .int (i3 (l + 1)), .int (i3 j), .null, .null, .null] 342 (RR V) x gj Lj = hD (d + (n + 1)) 302 220 [.ref 156, .int (i3 v), .int (i3 b), .int (i3 (vis ||| 1 <<< v)), .null, .null, .null, .null, .null, .long (i6 (P * (16 - wt T v))), .null, .long (i6 (m * 10 + v)), .null, .int (i3 (l + 1)), .int (i3 j), .null, .int (bi ((bhi T (1 <<< v) (fo T) 0).testBit j && !(vis ||| 1 <<< v).testBit j)), .null] 342 (RR V) x gj Lj := fun j gj Lj hj hm => s_302d (d := d + n) hT hv hj hm (by omega)
      have := loopE (H := fun j (s : sm_G × sm_L × bT) => hD (d + (n + 1)) 302 128 [.ref 156, .int (i3 v), .int (i3 b), .int (i3 (vis ||| 1 <<< v)), .null, .null, .null, .null, .null, .long (i6 (P * (16 - wt T v))), .null, .long (i6 (m * 10 + v)), .null, .int (i3 (l + 1)), .int (i3 j), .null, .null, .null] 342 (RR V) x s.1 s.2.1) (Q := fun o' => ∃ g' L', o' = oV x g' L' ∧ (∀ r k, ¬ (r = 156 ∧ k = 64) → g' r k = g r k) ∧ mEn g' L' (itr step 0 (sl T) z) ∧ okB (itr step 0 (sl T) z)) (N := sl T)
        (fun j s => (∀ r k, ¬ (r = 156 ∧ k = 64) → s.1 r k = g r k) ∧ mEn s.1 s.2.1 (itr step 0 j z) ∧ okB (itr step 0 j z)) ?_ ?_ (sl T) 0 (g, L, none) (by omega) ⟨fun _ _ _ => rfl, hE, hz⟩
      · exact this
      · rintro j ⟨gj, Lj, _⟩ hj ⟨w1, w2, w3⟩
        have hSj : mH gj T Pn K := hS.keep hT hP (fun r k a => w1 r k (by unfold inM at a; omega))
        have es : itr step 0 (j + 1) z = step j (itr step 0 j z) := by rw [itr_succ, Nat.zero_add]
        rw [hstep] at es
        cases hc : ((bhi T (1 <<< v) (fo T) 0).testBit j && !(vis ||| 1 <<< v).testBit j) with
        | false =>
          rw [hc, if_neg (by decide)] at es
          refine ⟨(gj, Lj, none), ?_, w1, by rw [es]; exact w2, by rw [es]; exact w3⟩
          show hD (d + (n + 1)) 302 128 _ 342 (RR V) x gj Lj = _
          rw [door j gj Lj hj hSj, hc, h_302_220]
          simp (disch := omega) only [i3_add, i3_mul, i3_sub, i3_m1, i3_lt, i3_le, i3_eq, m1_lt, lt_m1, m1_le, le_m1, i3_nm1, m1_ni3, i3_cl, i3_in, i3_or, i3_and, i3_xor, i3_shl, i3_shr, sh_tb, tb_eq0, gd_tt, aI_o, aV_o, aL_o, aR_o, zd_0, zd_1, if_true, if_false, ite_self, eq_self, Bool.true_eq_false, Bool.false_eq_true, bi_0, bi_1, bi_zd, Nat.not_lt_zero]
        | true =>
          rw [hc, if_pos rfl] at es
          have hx : (vis ||| 1 <<< v).testBit j = false := by
            cases h : (vis ||| 1 <<< v).testBit j with
            | false => rfl
            | true => rw [h, Bool.not_true, Bool.and_false] at hc; cases hc
          obtain ⟨g', L', k1, k2, k3, k4⟩ := ih d x gj Lj (vis ||| 1 <<< v) j (l + 1) (P * (16 - wt T v)) (m * 10 + v) (itr step 0 j z) (by omega) (by omega) a3 hx hj hC2 w3 hSj w2
          refine ⟨(g', L', none), ?_, fun r k a => (k2 r k a).trans (w1 r k a), by rw [es]; exact k3, by rw [es]; exact k4⟩
          show hD (d + (n + 1)) 302 128 _ 342 (RR V) x gj Lj = _
          have k1' : sm_cv0 (d + (n + 1)) 302 342 (RR V) [.ref 156, .int (i3 j), .int (i3 b), .int (i3 (vis ||| 1 <<< v ||| 1 <<< j)), .int (i3 (l + 1)), .long (i6 (P * (16 - wt T v))), .long (i6 (m * 10 + v))] (x, gj, Lj) = oV x g' L' := k1
          rw [door j gj Lj hj hSj, hc, h_302_220]
          simp (disch := omega) only [i3_add, i3_mul, i3_sub, i3_m1, i3_lt, i3_le, i3_eq, m1_lt, lt_m1, m1_le, le_m1, i3_nm1, m1_ni3, i3_cl, i3_in, i3_or, i3_and, i3_xor, i3_shl, i3_shr, sh_tb, tb_eq0, gd_tt, aI_o, aV_o, aL_o, aR_o, zd_0, zd_1, if_true, if_false, ite_self, eq_self, Bool.true_eq_false, Bool.false_eq_true, bi_0, bi_1, bi_zd, Nat.not_lt_zero, k1']
      · rintro ⟨gj, Lj, _⟩ ⟨w1, w2, w3⟩
        have hSj : mH gj T Pn K := hS.keep hT hP (fun r k a => w1 r k (by unfold inM at a; omega))
        refine ⟨gj, Lj, ?_, w1, w2, w3⟩
        show hD (d + (n + 1)) 302 128 _ 342 (RR V) x gj Lj = _
        rw [h_302_128, hSj.gsl]
        simp (disch := omega) only [i3_add, i3_mul, i3_sub, i3_m1, i3_lt, i3_le, i3_eq, m1_lt, lt_m1, m1_le, le_m1, i3_nm1, m1_ni3, i3_cl, i3_in, i3_or, i3_and, i3_xor, i3_shl, i3_shr, sh_tb, tb_eq0, gd_tt, aI_o, aV_o, aL_o, aR_o, zd_0, zd_1, if_true, if_false, ite_self, eq_self, Bool.true_eq_false, Bool.false_eq_true, bi_0, bi_1, bi_zd, Nat.not_lt_zero, Nat.lt_irrefl]
