/-! who comes, who is lost -/
section COME
variable {d x d' x' b s e : Nat} {V U : pV} {L L' : sm_L} {T P W : pT} {K m t r : Nat} {G g : sm_G}
/-- his room and 1 once he has come -/
def arr (T : pT) (m e r : Nat) : Nat := if cM T e = m then cR T e + 1 else r
def gone (t r : Nat) : Bool := decide (r ≠ 0) && !t.testBit (r - 1)
theorem gone_t {t r : Nat} (h0 : r ≠ 0) (h : t.testBit (r - 1) = false) : gone t r = true := by unfold gone; rw [h, decide_eq_true h0]; rfl
theorem gone_f {t r : Nat} (h : r = 0 ∨ t.testBit (r - 1) = true) : gone t r = false := by
  unfold gone
  rcases h with h | h
  · rw [decide_eq_false (fun z => z h)]; rfl
  · rw [h]; exact Bool.and_false _
theorem wR.room {G' g' : sm_G} {r' : Nat} (h : wR G g b e T W r) (he : e < 4) (hG : ∀ a k, ¬ (a = b + 5 + 4 * e ∧ (k = 1 ∨ k = 2)) → G' a k = G a k) (hg : ∀ a k, ¬ (a = 325 ∧ k = e) → ¬ (a = 315 + e ∧ k = 0) → g' a k = g a k) (h1 : G' (b + 5 + 4 * e) 1 = mi r') (h2 : g' 325 e = mi r') (hr : r' ≤ sl T) (h3 : G' (b + 5 + 4 * e) 2 = g' (315 + e) 0) : wR G' g' b e T W r' := by
  obtain ⟨_, _, _, ⟨a1, a2, a3, a4, a5⟩, ⟨z, b1, b2, b3, b4⟩, ⟨n, c1, c2, c3, c4⟩, p, st, h, d1, d2, d3, d4, n2, f, q, e1, e2⟩ := h
  refine ⟨h1, h2, hr, ⟨h3, ?_, ?_, ?_, ?_⟩, ⟨z, b1, ?_, ?_, ?_⟩, ⟨n, c1, ?_, ?_, ?_⟩, p, st, h, ?_, ?_, ?_, d4, n2, f, q, e1, e2.keep (fun k _ => hG _ _ (by omega)) (fun j _ => hg _ _ (by omega) (by omega))⟩
  · rw [hG _ _ (by omega), hg _ _ (by omega) (by omega)]; exact a2
  · rw [hG _ _ (by omega), hg _ _ (by omega) (by omega)]; exact a3
  · rw [hG _ _ (by omega), hg _ _ (by omega) (by omega)]; exact a4
  · rw [hG _ _ (by omega), hg _ _ (by omega) (by omega)]; exact a5
  · rw [hG _ _ (by omega)]; exact b2
  · rw [hg _ _ (by omega) (by omega)]; exact b3
  · rw [hg _ _ (by omega) (by omega)]; exact b4
  · rw [hG _ _ (by omega)]; exact c2
  · rw [hg _ _ (by omega) (by omega)]; exact c3
  · rw [hg _ _ (by omega) (by omega)]; exact c4
  · rw [hG _ _ (by omega)]; exact d1
  · rw [hg _ _ (by omega) (by omega)]; exact d2
  · rw [hg _ _ (by omega) (by omega)]; exact d3
theorem s_come (hb : pN b) (hT : okT T) (he : e < dr T) (hR : wR G g b e T W r) (hr : r ≠ 0 → cM T e < m) (ht : t < 1024) (hm : m ≤ 300) (b7 : G b 7 = i3 t) (b6 : G b 6 = i3 m) (m57 : g 156 57 = i3 m) (m307 : g 307 m = i3 t) (q0 : g (237 + e) 0 = i3 (cR T e)) (q1 : g (237 + e) 1 = i3 (cM T e)) :
    ∃ G' g', sm_cv0 (d + 2) 89 342 (RR V) [.ref b, .ref (b + 5 + 4 * e), .int (i3 (cR T e)), .int (i3 (cM T e))] (x, G, L) = oV x G' L ∧ sm_cv0 (d' + 2) 265 342 (RR U) [.ref 156, .int (i3 e)] (x', g, L') = oV x' g' L' ∧
      (∀ a k, ¬ (a = b + 5 + 4 * e ∧ (k = 1 ∨ k = 2)) → G' a k = G a k) ∧ (∀ a k, ¬ (a = 325 ∧ k = e) → ¬ (a = 315 + e ∧ k = 0) → g' a k = g a k) ∧ wR G' g' b e T W (if gone t (arr T m e r) = true then 0 else arr T m e r) ∧ g' (315 + e) 0 = if gone t (arr T m e r) = true then i3 m else g (315 + e) 0 := by
  have hB := hT.gb
  have hbl := pN_lt hb
  have hw := kw_b (k := e) hb (by omega)
  have hd := hT.gdm e he
  have hR0 := hR
  obtain ⟨r1, r2, r3, es, _⟩ := hR
  have b0 : bi false = i3 0 := rfl
  have b1 : bi true = i3 1 := rfl
  have e266 := s_266 (d := d') (x := x') (L := L') (V := U) (G := g) (e := e) (by omega) r2 (by omega)
  have hGl : ∀ a k, ¬ (a = b + 5 + 4 * e ∧ (k = 1 ∨ k = 2)) → sm_up (sm_up G (b + 5 + 4 * e) 1 m1) (b + 5 + 4 * e) 2 (i3 m) a k = G a k := fun a k q => by rw [sm_up_ne (by omega), sm_up_ne (by omega)]
  have hgl : ∀ a k, ¬ (a = 325 ∧ k = e) → ¬ (a = 315 + e ∧ k = 0) → sm_up (sm_up g 325 e m1) (315 + e) 0 (i3 m) a k = g a k := fun a k q q2 => by rw [sm_up_ne (by omega), sm_up_ne (by omega)]
  have c6 : ∀ v, sm_up G (b + 5 + 4 * e) 1 v b 6 = i3 m := fun v => by rw [sm_up_ne (by omega)]; exact b6
  have c57 : ∀ v, sm_up g 325 e v 156 57 = i3 m := fun v => by rw [sm_up_ne (by omega)]; exact m57
  by_cases hr0 : r = 0
  · subst hr0
    rw [mi_zero] at r1 r2
    have e266 : sm_cv0 (d' + 1) 266 342 (RR U) [.ref 156, .int (i3 e)] (x', g, L') = oI (i3 0) x' g L' := e266
    by_cases hcm : cM T e = m
    · have ea : arr T m e 0 = cR T e + 1 := if_pos hcm
      rw [ea]
      cases hbit : t.testBit (cR T e)
      · rw [gone_t (r := cR T e + 1) (by omega) hbit, if_pos rfl, if_pos rfl]
        have u1 : sm_up (sm_up G (b + 5 + 4 * e) 1 (i3 (cR T e))) (b + 5 + 4 * e) 1 m1 = sm_up G (b + 5 + 4 * e) 1 m1 := by
          funext a k
          by_cases q : a = b + 5 + 4 * e ∧ k = 1
          · obtain ⟨rfl, rfl⟩ := q
            rw [sm_up_same, sm_up_same]
          · rw [sm_up_ne (by omega), sm_up_ne (by omega), sm_up_ne (by omega)]
        refine ⟨sm_up (sm_up G (b + 5 + 4 * e) 1 m1) (b + 5 + 4 * e) 2 (i3 m), sm_up (sm_up g 325 e m1) (315 + e) 0 (i3 m), ?_, ?_, hGl, hgl, hR0.room (by omega) hGl hgl (by rw [sm_up_ne (by omega), sm_up_same]; rfl) (by rw [sm_up_ne (by omega), sm_up_same]; rfl) (Nat.zero_le _) (by rw [sm_up_same, sm_up_same]), sm_up_same _ _ _ _⟩
        · have c7 : sm_up G (b + 5 + 4 * e) 1 (i3 (cR T e)) b 7 = i3 t := by rw [sm_up_ne (by omega)]; exact b7
          rw [m_89 hb hw, b6]
          simp (disch := omega) only [i3_add, i3_mul, i3_sub, i3_m1, i3_lt, i3_le, i3_eq, m1_lt, lt_m1, m1_le, le_m1, i3_nm1, m1_ni3, i3_cl, i3_in, i3_or, i3_and, i3_xor, i3_shl, i3_shr, sh_tb, tb_eq0, gd_tt, aI_o, aV_o, aL_o, aR_o, zd_0, zd_1, if_true, if_false, ite_self, eq_self, Bool.true_eq_false, Bool.false_eq_true, bi_0, bi_1, bi_zd, Nat.not_lt_zero, hcm, h_89_13 hb hw, sm_up_same, c7, hbit, u1, c6]
        · rw [m_265, m57]
          simp (disch := omega) only [i3_add, i3_mul, i3_sub, i3_m1, i3_lt, i3_le, i3_eq, m1_lt, lt_m1, m1_le, le_m1, i3_nm1, m1_ni3, i3_cl, i3_in, i3_or, i3_and, i3_xor, i3_shl, i3_shr, sh_tb, tb_eq0, gd_tt, aI_o, aV_o, aL_o, aR_o, zd_0, zd_1, if_true, if_false, ite_self, eq_self, Bool.true_eq_false, Bool.false_eq_true, bi_0, bi_1, bi_zd, Nat.not_lt_zero, e266, rr_236, ldr_236, q0, m307, tb_eq1, hbit]
          rw [h_265_47, e266]
          simp (disch := omega) only [i3_add, i3_mul, i3_sub, i3_m1, i3_lt, i3_le, i3_eq, m1_lt, lt_m1, m1_le, le_m1, i3_nm1, m1_ni3, i3_cl, i3_in, i3_or, i3_and, i3_xor, i3_shl, i3_shr, sh_tb, tb_eq0, gd_tt, aI_o, aV_o, aL_o, aR_o, zd_0, zd_1, if_true, if_false, ite_self, eq_self, Bool.true_eq_false, Bool.false_eq_true, bi_0, bi_1, bi_zd, Nat.not_lt_zero]
          rw [h_265_59, m57]
          simp (disch := omega) only [i3_add, i3_mul, i3_sub, i3_m1, i3_lt, i3_le, i3_eq, m1_lt, lt_m1, m1_le, le_m1, i3_nm1, m1_ni3, i3_cl, i3_in, i3_or, i3_and, i3_xor, i3_shl, i3_shr, sh_tb, tb_eq0, gd_tt, aI_o, aV_o, aL_o, aR_o, zd_0, zd_1, if_true, if_false, ite_self, eq_self, Bool.true_eq_false, Bool.false_eq_true, bi_0, bi_1, bi_zd, Nat.not_lt_zero, rr_165, ldr_165, kr_165, nr_165, rr_174, ldr_174, kr_174, nr_174, rr_183, ldr_183, kr_183, nr_183, rr_194, ldr_194, kr_194, nr_194, rr_205, ldr_205, kr_205, nr_205, rr_218, ldr_218, kr_218, nr_218, rr_231, ldr_231, kr_231, nr_231, rr_236, ldr_236, kr_236, nr_236, rr_242, ldr_242, kr_242, nr_242, rr_247, ldr_247, kr_247, nr_247, rr_252, ldr_252, kr_252, nr_252, rr_265, ldr_265, kr_265, nr_265, rr_278, ldr_278, kr_278, nr_278, rr_282, ldr_282, kr_282, nr_282, rr_309, ldr_309, kr_309, nr_309, rr_314, ldr_314, kr_314, nr_314, rr_319, ldr_319, kr_319, nr_319, rr_332, ldr_332, kr_332, nr_332, q1, hcm, c57]
      · rw [gone_f (r := cR T e + 1) (Or.inr hbit), if_neg (by decide), if_neg (by decide)]
        refine ⟨sm_up G (b + 5 + 4 * e) 1 (i3 (cR T e)), sm_up g 325 e (i3 (cR T e)), ?_, ?_, fun a k q => sm_up_ne (by omega), fun a k q q2 => sm_up_ne (by omega), hR0.room (by omega) (fun a k q => sm_up_ne (by omega)) (fun a k q q2 => sm_up_ne (by omega)) (by rw [sm_up_same, mi_succ]) (by rw [sm_up_same, mi_succ]) (by omega) (by rw [sm_up_ne (by omega), sm_up_ne (by omega)]; exact es.1), sm_up_ne (by omega)⟩
        · have c7 : sm_up G (b + 5 + 4 * e) 1 (i3 (cR T e)) b 7 = i3 t := by rw [sm_up_ne (by omega)]; exact b7
          rw [m_89 hb hw, b6]
          simp (disch := omega) only [i3_add, i3_mul, i3_sub, i3_m1, i3_lt, i3_le, i3_eq, m1_lt, lt_m1, m1_le, le_m1, i3_nm1, m1_ni3, i3_cl, i3_in, i3_or, i3_and, i3_xor, i3_shl, i3_shr, sh_tb, tb_eq0, gd_tt, aI_o, aV_o, aL_o, aR_o, zd_0, zd_1, if_true, if_false, ite_self, eq_self, Bool.true_eq_false, Bool.false_eq_true, bi_0, bi_1, bi_zd, Nat.not_lt_zero, Nat.reduceEqDiff, Nat.reduceLeDiff, Nat.reduceLT, hcm, h_89_13 hb hw, sm_up_same, c7, hbit]
        · rw [m_265, m57]
          simp (disch := omega) only [i3_add, i3_mul, i3_sub, i3_m1, i3_lt, i3_le, i3_eq, m1_lt, lt_m1, m1_le, le_m1, i3_nm1, m1_ni3, i3_cl, i3_in, i3_or, i3_and, i3_xor, i3_shl, i3_shr, sh_tb, tb_eq0, gd_tt, aI_o, aV_o, aL_o, aR_o, zd_0, zd_1, if_true, if_false, ite_self, eq_self, Bool.true_eq_false, Bool.false_eq_true, bi_0, bi_1, bi_zd, Nat.not_lt_zero, e266, rr_236, ldr_236, q0, m307, tb_eq1, hbit]
          rw [h_265_47, e266]
          simp (disch := omega) only [i3_add, i3_mul, i3_sub, i3_m1, i3_lt, i3_le, i3_eq, m1_lt, lt_m1, m1_le, le_m1, i3_nm1, m1_ni3, i3_cl, i3_in, i3_or, i3_and, i3_xor, i3_shl, i3_shr, sh_tb, tb_eq0, gd_tt, aI_o, aV_o, aL_o, aR_o, zd_0, zd_1, if_true, if_false, ite_self, eq_self, Bool.true_eq_false, Bool.false_eq_true, bi_0, bi_1, bi_zd, Nat.not_lt_zero]
          rw [h_265_59, m57]
          simp (disch := omega) only [i3_add, i3_mul, i3_sub, i3_m1, i3_lt, i3_le, i3_eq, m1_lt, lt_m1, m1_le, le_m1, i3_nm1, m1_ni3, i3_cl, i3_in, i3_or, i3_and, i3_xor, i3_shl, i3_shr, sh_tb, tb_eq0, gd_tt, aI_o, aV_o, aL_o, aR_o, zd_0, zd_1, if_true, if_false, ite_self, eq_self, Bool.true_eq_false, Bool.false_eq_true, bi_0, bi_1, bi_zd, Nat.not_lt_zero, Nat.reduceEqDiff, Nat.reduceLeDiff, Nat.reduceLT, rr_165, ldr_165, kr_165, nr_165, rr_174, ldr_174, kr_174, nr_174, rr_183, ldr_183, kr_183, nr_183, rr_194, ldr_194, kr_194, nr_194, rr_205, ldr_205, kr_205, nr_205, rr_218, ldr_218, kr_218, nr_218, rr_231, ldr_231, kr_231, nr_231, rr_236, ldr_236, kr_236, nr_236, rr_242, ldr_242, kr_242, nr_242, rr_247, ldr_247, kr_247, nr_247, rr_252, ldr_252, kr_252, nr_252, rr_265, ldr_265, kr_265, nr_265, rr_278, ldr_278, kr_278, nr_278, rr_282, ldr_282, kr_282, nr_282, rr_309, ldr_309, kr_309, nr_309, rr_314, ldr_314, kr_314, nr_314, rr_319, ldr_319, kr_319, nr_319, rr_332, ldr_332, kr_332, nr_332, q1, hcm]
          rw [h_265_100, m57]
          simp (disch := omega) only [i3_add, i3_mul, i3_sub, i3_m1, i3_lt, i3_le, i3_eq, m1_lt, lt_m1, m1_le, le_m1, i3_nm1, m1_ni3, i3_cl, i3_in, i3_or, i3_and, i3_xor, i3_shl, i3_shr, sh_tb, tb_eq0, gd_tt, aI_o, aV_o, aL_o, aR_o, zd_0, zd_1, if_true, if_false, ite_self, eq_self, Bool.true_eq_false, Bool.false_eq_true, bi_0, bi_1, bi_zd, Nat.not_lt_zero, rr_165, ldr_165, kr_165, nr_165, rr_174, ldr_174, kr_174, nr_174, rr_183, ldr_183, kr_183, nr_183, rr_194, ldr_194, kr_194, nr_194, rr_205, ldr_205, kr_205, nr_205, rr_218, ldr_218, kr_218, nr_218, rr_231, ldr_231, kr_231, nr_231, rr_236, ldr_236, kr_236, nr_236, rr_242, ldr_242, kr_242, nr_242, rr_247, ldr_247, kr_247, nr_247, rr_252, ldr_252, kr_252, nr_252, rr_265, ldr_265, kr_265, nr_265, rr_278, ldr_278, kr_278, nr_278, rr_282, ldr_282, kr_282, nr_282, rr_309, ldr_309, kr_309, nr_309, rr_314, ldr_314, kr_314, nr_314, rr_319, ldr_319, kr_319, nr_319, rr_332, ldr_332, kr_332, nr_332, q1, hcm, q0]
    · have ea : arr T m e 0 = 0 := if_neg hcm
      rw [ea, gone_f (r := 0) (Or.inl rfl), if_neg (by decide), if_neg (by decide)]
      refine ⟨G, g, ?_, ?_, fun _ _ _ => rfl, fun _ _ _ _ => rfl, hR0, rfl⟩
      · rw [m_89 hb hw, b6]
        simp (disch := omega) only [i3_add, i3_mul, i3_sub, i3_m1, i3_lt, i3_le, i3_eq, m1_lt, lt_m1, m1_le, le_m1, i3_nm1, m1_ni3, i3_cl, i3_in, i3_or, i3_and, i3_xor, i3_shl, i3_shr, sh_tb, tb_eq0, gd_tt, aI_o, aV_o, aL_o, aR_o, zd_0, zd_1, if_true, if_false, ite_self, eq_self, Bool.true_eq_false, Bool.false_eq_true, bi_0, bi_1, bi_zd, Nat.not_lt_zero, hcm, h_89_13 hb hw, r1]
      · rw [m_265, m57]
        simp (disch := omega) only [i3_add, i3_mul, i3_sub, i3_m1, i3_lt, i3_le, i3_eq, m1_lt, lt_m1, m1_le, le_m1, i3_nm1, m1_ni3, i3_cl, i3_in, i3_or, i3_and, i3_xor, i3_shl, i3_shr, sh_tb, tb_eq0, gd_tt, aI_o, aV_o, aL_o, aR_o, zd_0, zd_1, if_true, if_false, ite_self, eq_self, Bool.true_eq_false, Bool.false_eq_true, bi_0, bi_1, bi_zd, Nat.not_lt_zero, e266, rr_236, ldr_236, q0, m307, tb_eq1]
        have fin : ∀ z : Bool, hD (d' + 1) 265 47 [.ref 156, .int (i3 e), .int (bi z)] 342 (RR U) x' g L' = oV x' g L' := fun z => by
          rw [h_265_47, e266]
          simp (disch := omega) only [i3_add, i3_mul, i3_sub, i3_m1, i3_lt, i3_le, i3_eq, m1_lt, lt_m1, m1_le, le_m1, i3_nm1, m1_ni3, i3_cl, i3_in, i3_or, i3_and, i3_xor, i3_shl, i3_shr, sh_tb, tb_eq0, gd_tt, aI_o, aV_o, aL_o, aR_o, zd_0, zd_1, if_true, if_false, ite_self, eq_self, Bool.true_eq_false, Bool.false_eq_true, bi_0, bi_1, bi_zd, Nat.not_lt_zero]
          rw [h_265_59, m57]
          simp (disch := omega) only [i3_add, i3_mul, i3_sub, i3_m1, i3_lt, i3_le, i3_eq, m1_lt, lt_m1, m1_le, le_m1, i3_nm1, m1_ni3, i3_cl, i3_in, i3_or, i3_and, i3_xor, i3_shl, i3_shr, sh_tb, tb_eq0, gd_tt, aI_o, aV_o, aL_o, aR_o, zd_0, zd_1, if_true, if_false, ite_self, eq_self, Bool.true_eq_false, Bool.false_eq_true, bi_0, bi_1, bi_zd, Nat.not_lt_zero, rr_165, ldr_165, kr_165, nr_165, rr_174, ldr_174, kr_174, nr_174, rr_183, ldr_183, kr_183, nr_183, rr_194, ldr_194, kr_194, nr_194, rr_205, ldr_205, kr_205, nr_205, rr_218, ldr_218, kr_218, nr_218, rr_231, ldr_231, kr_231, nr_231, rr_236, ldr_236, kr_236, nr_236, rr_242, ldr_242, kr_242, nr_242, rr_247, ldr_247, kr_247, nr_247, rr_252, ldr_252, kr_252, nr_252, rr_265, ldr_265, kr_265, nr_265, rr_278, ldr_278, kr_278, nr_278, rr_282, ldr_282, kr_282, nr_282, rr_309, ldr_309, kr_309, nr_309, rr_314, ldr_314, kr_314, nr_314, rr_319, ldr_319, kr_319, nr_319, rr_332, ldr_332, kr_332, nr_332, q1, hcm]
          rw [h_265_100, m57]
          simp (disch := omega) only [i3_add, i3_mul, i3_sub, i3_m1, i3_lt, i3_le, i3_eq, m1_lt, lt_m1, m1_le, le_m1, i3_nm1, m1_ni3, i3_cl, i3_in, i3_or, i3_and, i3_xor, i3_shl, i3_shr, sh_tb, tb_eq0, gd_tt, aI_o, aV_o, aL_o, aR_o, zd_0, zd_1, if_true, if_false, ite_self, eq_self, Bool.true_eq_false, Bool.false_eq_true, bi_0, bi_1, bi_zd, Nat.not_lt_zero, rr_165, ldr_165, kr_165, nr_165, rr_174, ldr_174, kr_174, nr_174, rr_183, ldr_183, kr_183, nr_183, rr_194, ldr_194, kr_194, nr_194, rr_205, ldr_205, kr_205, nr_205, rr_218, ldr_218, kr_218, nr_218, rr_231, ldr_231, kr_231, nr_231, rr_236, ldr_236, kr_236, nr_236, rr_242, ldr_242, kr_242, nr_242, rr_247, ldr_247, kr_247, nr_247, rr_252, ldr_252, kr_252, nr_252, rr_265, ldr_265, kr_265, nr_265, rr_278, ldr_278, kr_278, nr_278, rr_282, ldr_282, kr_282, nr_282, rr_309, ldr_309, kr_309, nr_309, rr_314, ldr_314, kr_314, nr_314, rr_319, ldr_319, kr_319, nr_319, rr_332, ldr_332, kr_332, nr_332, q1, hcm]
        have fin0 := fin false
        have fin1 := fin true
        rw [b0] at fin0
        rw [b1] at fin1
        rw [fin0, fin1, ite_self]
  · have hcm : ¬ cM T e = m := by have := hr hr0; omega
    have ea : arr T m e r = r := if_neg hcm
    rw [ea]
    have er : r = (r - 1) + 1 := by omega
    rw [decide_eq_true hr0, b1] at e266
    have r1' : G (b + 5 + 4 * e) 1 = i3 (r - 1) := by rw [r1, er, mi_succ]; rfl
    have r2' : g 325 e = i3 (r - 1) := by rw [r2, er, mi_succ]; rfl
    cases hbit : t.testBit (r - 1)
    · rw [gone_t hr0 hbit, if_pos rfl, if_pos rfl]
      refine ⟨sm_up (sm_up G (b + 5 + 4 * e) 1 m1) (b + 5 + 4 * e) 2 (i3 m), sm_up (sm_up g 325 e m1) (315 + e) 0 (i3 m), ?_, ?_, hGl, hgl, hR0.room (by omega) hGl hgl (by rw [sm_up_ne (by omega), sm_up_same]; rfl) (by rw [sm_up_ne (by omega), sm_up_same]; rfl) (Nat.zero_le _) (by rw [sm_up_same, sm_up_same]), sm_up_same _ _ _ _⟩
      · rw [m_89 hb hw, b6]
        simp (disch := omega) only [i3_add, i3_mul, i3_sub, i3_m1, i3_lt, i3_le, i3_eq, m1_lt, lt_m1, m1_le, le_m1, i3_nm1, m1_ni3, i3_cl, i3_in, i3_or, i3_and, i3_xor, i3_shl, i3_shr, sh_tb, tb_eq0, gd_tt, aI_o, aV_o, aL_o, aR_o, zd_0, zd_1, if_true, if_false, ite_self, eq_self, Bool.true_eq_false, Bool.false_eq_true, bi_0, bi_1, bi_zd, Nat.not_lt_zero, hcm, h_89_13 hb hw, r1', b7, hbit, c6]
      · rw [m_265, m57]
        simp (disch := omega) only [i3_add, i3_mul, i3_sub, i3_m1, i3_lt, i3_le, i3_eq, m1_lt, lt_m1, m1_le, le_m1, i3_nm1, m1_ni3, i3_cl, i3_in, i3_or, i3_and, i3_xor, i3_shl, i3_shr, sh_tb, tb_eq0, gd_tt, aI_o, aV_o, aL_o, aR_o, zd_0, zd_1, if_true, if_false, ite_self, eq_self, Bool.true_eq_false, Bool.false_eq_true, bi_0, bi_1, bi_zd, Nat.not_lt_zero, Nat.reduceEqDiff, Nat.reduceLeDiff, Nat.reduceLT, e266, r2', m307, tb_eq1, hbit]
        rw [h_265_47, e266]
        simp (disch := omega) only [i3_add, i3_mul, i3_sub, i3_m1, i3_lt, i3_le, i3_eq, m1_lt, lt_m1, m1_le, le_m1, i3_nm1, m1_ni3, i3_cl, i3_in, i3_or, i3_and, i3_xor, i3_shl, i3_shr, sh_tb, tb_eq0, gd_tt, aI_o, aV_o, aL_o, aR_o, zd_0, zd_1, if_true, if_false, ite_self, eq_self, Bool.true_eq_false, Bool.false_eq_true, bi_0, bi_1, bi_zd, Nat.not_lt_zero, Nat.reduceEqDiff, Nat.reduceLeDiff, Nat.reduceLT, rr_165, ldr_165, kr_165, nr_165, rr_174, ldr_174, kr_174, nr_174, rr_183, ldr_183, kr_183, nr_183, rr_194, ldr_194, kr_194, nr_194, rr_205, ldr_205, kr_205, nr_205, rr_218, ldr_218, kr_218, nr_218, rr_231, ldr_231, kr_231, nr_231, rr_236, ldr_236, kr_236, nr_236, rr_242, ldr_242, kr_242, nr_242, rr_247, ldr_247, kr_247, nr_247, rr_252, ldr_252, kr_252, nr_252, rr_265, ldr_265, kr_265, nr_265, rr_278, ldr_278, kr_278, nr_278, rr_282, ldr_282, kr_282, nr_282, rr_309, ldr_309, kr_309, nr_309, rr_314, ldr_314, kr_314, nr_314, rr_319, ldr_319, kr_319, nr_319, rr_332, ldr_332, kr_332, nr_332, c57]
    · rw [gone_f (Or.inr hbit), if_neg (by decide), if_neg (by decide)]
      refine ⟨G, g, ?_, ?_, fun _ _ _ => rfl, fun _ _ _ _ => rfl, hR0, rfl⟩
      · rw [m_89 hb hw, b6]
        simp (disch := omega) only [i3_add, i3_mul, i3_sub, i3_m1, i3_lt, i3_le, i3_eq, m1_lt, lt_m1, m1_le, le_m1, i3_nm1, m1_ni3, i3_cl, i3_in, i3_or, i3_and, i3_xor, i3_shl, i3_shr, sh_tb, tb_eq0, gd_tt, aI_o, aV_o, aL_o, aR_o, zd_0, zd_1, if_true, if_false, ite_self, eq_self, Bool.true_eq_false, Bool.false_eq_true, bi_0, bi_1, bi_zd, Nat.not_lt_zero, Nat.reduceEqDiff, Nat.reduceLeDiff, Nat.reduceLT, hcm, h_89_13 hb hw, r1', b7, hbit]
      · rw [m_265, m57]
        simp (disch := omega) only [i3_add, i3_mul, i3_sub, i3_m1, i3_lt, i3_le, i3_eq, m1_lt, lt_m1, m1_le, le_m1, i3_nm1, m1_ni3, i3_cl, i3_in, i3_or, i3_and, i3_xor, i3_shl, i3_shr, sh_tb, tb_eq0, gd_tt, aI_o, aV_o, aL_o, aR_o, zd_0, zd_1, if_true, if_false, ite_self, eq_self, Bool.true_eq_false, Bool.false_eq_true, bi_0, bi_1, bi_zd, Nat.not_lt_zero, Nat.reduceEqDiff, Nat.reduceLeDiff, Nat.reduceLT, e266, r2', m307, tb_eq1, hbit]
        rw [h_265_47, e266]
        simp (disch := omega) only [i3_add, i3_mul, i3_sub, i3_m1, i3_lt, i3_le, i3_eq, m1_lt, lt_m1, m1_le, le_m1, i3_nm1, m1_ni3, i3_cl, i3_in, i3_or, i3_and, i3_xor, i3_shl, i3_shr, sh_tb, tb_eq0, gd_tt, aI_o, aV_o, aL_o, aR_o, zd_0, zd_1, if_true, if_false, ite_self, eq_self, Bool.true_eq_false, Bool.false_eq_true, bi_0, bi_1, bi_zd, Nat.not_lt_zero, Nat.reduceEqDiff, Nat.reduceLeDiff, Nat.reduceLT]
        rw [h_265_59, m57]
        simp (disch := omega) only [i3_add, i3_mul, i3_sub, i3_m1, i3_lt, i3_le, i3_eq, m1_lt, lt_m1, m1_le, le_m1, i3_nm1, m1_ni3, i3_cl, i3_in, i3_or, i3_and, i3_xor, i3_shl, i3_shr, sh_tb, tb_eq0, gd_tt, aI_o, aV_o, aL_o, aR_o, zd_0, zd_1, if_true, if_false, ite_self, eq_self, Bool.true_eq_false, Bool.false_eq_true, bi_0, bi_1, bi_zd, Nat.not_lt_zero, rr_165, ldr_165, kr_165, nr_165, rr_174, ldr_174, kr_174, nr_174, rr_183, ldr_183, kr_183, nr_183, rr_194, ldr_194, kr_194, nr_194, rr_205, ldr_205, kr_205, nr_205, rr_218, ldr_218, kr_218, nr_218, rr_231, ldr_231, kr_231, nr_231, rr_236, ldr_236, kr_236, nr_236, rr_242, ldr_242, kr_242, nr_242, rr_247, ldr_247, kr_247, nr_247, rr_252, ldr_252, kr_252, nr_252, rr_265, ldr_265, kr_265, nr_265, rr_278, ldr_278, kr_278, nr_278, rr_282, ldr_282, kr_282, nr_282, rr_309, ldr_309, kr_309, nr_309, rr_314, ldr_314, kr_314, nr_314, rr_319, ldr_319, kr_319, nr_319, rr_332, ldr_332, kr_332, nr_332, q1, hcm]
        rw [h_265_100, m57]
        simp (disch := omega) only [i3_add, i3_mul, i3_sub, i3_m1, i3_lt, i3_le, i3_eq, m1_lt, lt_m1, m1_le, le_m1, i3_nm1, m1_ni3, i3_cl, i3_in, i3_or, i3_and, i3_xor, i3_shl, i3_shr, sh_tb, tb_eq0, gd_tt, aI_o, aV_o, aL_o, aR_o, zd_0, zd_1, if_true, if_false, ite_self, eq_self, Bool.true_eq_false, Bool.false_eq_true, bi_0, bi_1, bi_zd, Nat.not_lt_zero, rr_165, ldr_165, kr_165, nr_165, rr_174, ldr_174, kr_174, nr_174, rr_183, ldr_183, kr_183, nr_183, rr_194, ldr_194, kr_194, nr_194, rr_205, ldr_205, kr_205, nr_205, rr_218, ldr_218, kr_218, nr_218, rr_231, ldr_231, kr_231, nr_231, rr_236, ldr_236, kr_236, nr_236, rr_242, ldr_242, kr_242, nr_242, rr_247, ldr_247, kr_247, nr_247, rr_252, ldr_252, kr_252, nr_252, rr_265, ldr_265, kr_265, nr_265, rr_278, ldr_278, kr_278, nr_278, rr_282, ldr_282, kr_282, nr_282, rr_309, ldr_309, kr_309, nr_309, rr_314, ldr_314, kr_314, nr_314, rr_319, ldr_319, kr_319, nr_319, rr_332, ldr_332, kr_332, nr_332, q1, hcm]
end COME
