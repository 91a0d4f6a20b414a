theorem bv_v {T : pT} {mx : Bool} {f : Nat → Nat} {c y : Nat} (h : bv T mx f = some (c, y)) : c < 6 ∧ tu T c ≠ 0 ∧ y = f c ∧ ∀ v, v < c → tu T v ≠ 0 → f v ≠ y := by
  have := bv_ok T mx f
  rw [h] at this
  obtain ⟨h1, h2, h3, h4⟩ := this
  refine ⟨h1, h2, h3, fun v hv ht => ?_⟩
  have := h4 v (by omega) ht
  split at this <;> omega
theorem s_300 {d x : Nat} {V : pV} {G : sm_G} {L : sm_L} {T P : pT} {K n : Nat} (hm : mH G T P K) (hT : okT T) (hP : okP T P) (hn : n ≤ 8) : ∃ G', sm_cv0 (d + 2) 300 342 (RR V) [.ref 156, .int (i3 n)] (x, G, L) = oV x G' L ∧ (∀ r k, ¬ (333 ≤ r ∧ r < 342) → G' r k = G r k) ∧ ∀ r D, r ≤ n → D < 2 ^ dn T → G' (333 + r) D = i3 (wv T n r D) := by
  have hB := hT.gb
  have h10 : 2 ^ dn T ≤ 1024 := Nat.pow_le_pow_right (by decide) hB.2.1
  rw [m_300]
  -- one state
  have cell : ∀ r D g, r ≤ n → D < 2 ^ dn T → (∀ r k, ¬ (333 ≤ r ∧ r < 342) → g r k = G r k) → (∀ r' D', r' < r → D' < 2 ^ dn T → g (333 + r') D' = i3 (wv T n r' D')) → hD (d + 1) 300 43 [.ref 156, .int (i3 n), .int (i3 r), .int (bi (decide ((n - r) % 2 = 0))), .int (i3 D), .int m1, .int (i3 0), .null] 342 (RR V) x g L = hD (d + 1) 300 24 [.ref 156, .int (i3 n), .int (i3 r), .int (bi (decide ((n - r) % 2 = 0))), .int (i3 (D + 1)), .null, .null, .null] 342 (RR V) x (sm_up g (333 + r) D (i3 (wv T n r D))) L := by
    intro r D g hr hD' hfr hlow
    have e291 := fun x => s_291 (d := d) (x := x) (V := V) (G := g) (L := L) (a := D) (by omega)
    cases r with
    | zero =>
      rw [h_300_43]
      simp (disch := omega) only [i3_add, i3_mul, i3_sub, i3_m1, i3_lt, i3_le, i3_eq, m1_lt, lt_m1, m1_le, le_m1, i3_nm1, m1_ni3, i3_cl, i3_in, i3_or, i3_and, i3_xor, i3_shl, i3_shr, sh_tb, tb_eq0, gd_tt, aI_o, aV_o, aL_o, aR_o, zd_0, zd_1, if_true, if_false, ite_self, eq_self, Bool.true_eq_false, Bool.false_eq_true, bi_0, bi_1, bi_zd, Nat.not_lt_zero]
      rw [if_pos (by omega), h_300_130]
      simp (disch := omega) only [i3_add, i3_mul, i3_sub, i3_m1, i3_lt, i3_le, i3_eq, m1_lt, lt_m1, m1_le, le_m1, i3_nm1, m1_ni3, i3_cl, i3_in, i3_or, i3_and, i3_xor, i3_shl, i3_shr, sh_tb, tb_eq0, gd_tt, aI_o, aV_o, aL_o, aR_o, zd_0, zd_1, if_true, if_false, ite_self, eq_self, Bool.true_eq_false, Bool.false_eq_true, bi_0, bi_1, bi_zd, Nat.not_lt_zero, rr_165, ldr_165, kr_165, nr_165, rr_174, ldr_174, kr_174, nr_174, rr_183, ldr_183, kr_183, nr_183, rr_194, ldr_194, kr_194, nr_194, rr_205, ldr_205, kr_205, nr_205, rr_218, ldr_218, kr_218, nr_218, rr_231, ldr_231, kr_231, nr_231, rr_236, ldr_236, kr_236, nr_236, rr_242, ldr_242, kr_242, nr_242, rr_247, ldr_247, kr_247, nr_247, rr_252, ldr_252, kr_252, nr_252, rr_265, ldr_265, kr_265, nr_265, rr_278, ldr_278, kr_278, nr_278, rr_282, ldr_282, kr_282, nr_282, rr_309, ldr_309, kr_309, nr_309, rr_314, ldr_314, kr_314, nr_314, rr_319, ldr_319, kr_319, nr_319, rr_332, ldr_332, kr_332, nr_332, e291]
      rfl
    | succ r =>
      have hk := bv_ok T (decide ((n - (r + 1)) % 2 = 0)) (fun v => wv T n r (D ^^^ tu T v))
      have e := (loopP (H := fun v b => hD (d + 1) 300 43 [.ref 156, .int (i3 n), .int (i3 (r + 1)), .int (bi (decide ((n - (r + 1)) % 2 = 0))), .int (i3 D), .int (ecm b), .int (i3 v), .null] 342 (RR V) x g L) (out := fun b => hD (d + 1) 300 130 [.ref 156, .int (i3 n), .int (i3 (r + 1)), .int (bi (decide ((n - (r + 1)) % 2 = 0))), .int (i3 D), .int (ecm b), .null, .null] 342 (RR V) x g L) (N := 6) (step := bwt T (decide ((n - (r + 1)) % 2 = 0)) (fun v => wv T n r (D ^^^ tu T v))) (bok T (decide ((n - (r + 1)) % 2 = 0)) (fun v => wv T n r (D ^^^ tu T v))) ?_ ?_ 6 0 none (by omega) (fun v hv => by omega)).1
      · show hD (d + 1) 300 43 [.ref 156, .int (i3 n), .int (i3 (r + 1)), .int (bi (decide ((n - (r + 1)) % 2 = 0))), .int (i3 D), .int (ecm none), .int (i3 0), .null] 342 (RR V) x g L = _
        rw [show hD (d + 1) 300 43 [.ref 156, .int (i3 n), .int (i3 (r + 1)), .int (bi (decide ((n - (r + 1)) % 2 = 0))), .int (i3 D), .int (ecm none), .int (i3 0), .null] 342 (RR V) x g L = hD (d + 1) 300 130 [.ref 156, .int (i3 n), .int (i3 (r + 1)), .int (bi (decide ((n - (r + 1)) % 2 = 0))), .int (i3 D), .int (ecm (bv T (decide ((n - (r + 1)) % 2 = 0)) (fun v => wv T n r (D ^^^ tu T v)))), .null, .null] 342 (RR V) x g L from e]
        have hw : wv T n (r + 1) D = match bv T (decide ((n - (r + 1)) % 2 = 0)) (fun v => wv T n r (D ^^^ tu T v)) with
          | none => pc D 10
          | some (_, y) => y := rfl
        rw [h_300_130, hw]
        have hle := wv_le T n r
        generalize bv T (decide ((n - (r + 1)) % 2 = 0)) (fun v => wv T n r (D ^^^ tu T v)) = b at hk
        cases b with
        | none =>
          simp (disch := omega) only [i3_add, i3_mul, i3_sub, i3_m1, i3_lt, i3_le, i3_eq, m1_lt, lt_m1, m1_le, le_m1, i3_nm1, m1_ni3, i3_cl, i3_in, i3_or, i3_and, i3_xor, i3_shl, i3_shr, sh_tb, tb_eq0, gd_tt, aI_o, aV_o, aL_o, aR_o, zd_0, zd_1, if_true, if_false, ite_self, eq_self, Bool.true_eq_false, Bool.false_eq_true, bi_0, bi_1, bi_zd, Nat.not_lt_zero, rr_165, ldr_165, kr_165, nr_165, rr_174, ldr_174, kr_174, nr_174, rr_183, ldr_183, kr_183, nr_183, rr_194, ldr_194, kr_194, nr_194, rr_205, ldr_205, kr_205, nr_205, rr_218, ldr_218, kr_218, nr_218, rr_231, ldr_231, kr_231, nr_231, rr_236, ldr_236, kr_236, nr_236, rr_242, ldr_242, kr_242, nr_242, rr_247, ldr_247, kr_247, nr_247, rr_252, ldr_252, kr_252, nr_252, rr_265, ldr_265, kr_265, nr_265, rr_278, ldr_278, kr_278, nr_278, rr_282, ldr_282, kr_282, nr_282, rr_309, ldr_309, kr_309, nr_309, rr_314, ldr_314, kr_314, nr_314, rr_319, ldr_319, kr_319, nr_319, rr_332, ldr_332, kr_332, nr_332, show ecm none = m1 from rfl, e291]
        | some cy =>
          obtain ⟨c, y⟩ := cy
          obtain ⟨b1, b2, b3, b4⟩ := hk
          have hy : y ≤ 10 := by rw [b3]; exact hle _
          simp (disch := omega) only [i3_add, i3_mul, i3_sub, i3_m1, i3_lt, i3_le, i3_eq, m1_lt, lt_m1, m1_le, le_m1, i3_nm1, m1_ni3, i3_cl, i3_in, i3_or, i3_and, i3_xor, i3_shl, i3_shr, sh_tb, tb_eq0, gd_tt, aI_o, aV_o, aL_o, aR_o, zd_0, zd_1, if_true, if_false, ite_self, eq_self, Bool.true_eq_false, Bool.false_eq_true, bi_0, bi_1, bi_zd, Nat.not_lt_zero, rr_165, ldr_165, kr_165, nr_165, rr_174, ldr_174, kr_174, nr_174, rr_183, ldr_183, kr_183, nr_183, rr_194, ldr_194, kr_194, nr_194, rr_205, ldr_205, kr_205, nr_205, rr_218, ldr_218, kr_218, nr_218, rr_231, ldr_231, kr_231, nr_231, rr_236, ldr_236, kr_236, nr_236, rr_242, ldr_242, kr_242, nr_242, rr_247, ldr_247, kr_247, nr_247, rr_252, ldr_252, kr_252, nr_252, rr_265, ldr_265, kr_265, nr_265, rr_278, ldr_278, kr_278, nr_278, rr_282, ldr_282, kr_282, nr_282, rr_309, ldr_309, kr_309, nr_309, rr_314, ldr_314, kr_314, nr_314, rr_319, ldr_319, kr_319, nr_319, rr_332, ldr_332, kr_332, nr_332, show ecm (some (c, y)) = i3 y from rfl]
      · intro v b hv hb
        refine ⟨?_, bok_s hb⟩
        have et := hm.gtu v hv
        have et : g 164 v = i3 (tu T v) := by rw [hfr _ _ (by omega)]; exact et
        have htv := hT.gtu v hv
        have hx : D ^^^ tu T v < 2 ^ dn T := Nat.xor_lt_two_pow hD' htv
        have ew := hlow r (D ^^^ tu T v) (by omega) hx
        have hwv := wv_le T n r (D ^^^ tu T v)
        have e1 : i3 (r + 1) - i3 1 = i3 r := by rw [i3_sub (by omega)]; rfl
        rw [h_300_43]
        unfold bwt
        by_cases q : tu T v = 0
        · simp (disch := omega) only [i3_add, i3_mul, i3_sub, i3_m1, i3_lt, i3_le, i3_eq, m1_lt, lt_m1, m1_le, le_m1, i3_nm1, m1_ni3, i3_cl, i3_in, i3_or, i3_and, i3_xor, i3_shl, i3_shr, sh_tb, tb_eq0, gd_tt, aI_o, aV_o, aL_o, aR_o, zd_0, zd_1, if_true, if_false, ite_self, eq_self, Bool.true_eq_false, Bool.false_eq_true, bi_0, bi_1, bi_zd, Nat.not_lt_zero, hv, show ¬ r + 1 ≤ 0 by omega, et, q, h_300_124]
        · cases b with
          | none =>
            simp (disch := omega) only [i3_add, i3_mul, i3_sub, i3_m1, i3_lt, i3_le, i3_eq, m1_lt, lt_m1, m1_le, le_m1, i3_nm1, m1_ni3, i3_cl, i3_in, i3_or, i3_and, i3_xor, i3_shl, i3_shr, sh_tb, tb_eq0, gd_tt, aI_o, aV_o, aL_o, aR_o, zd_0, zd_1, if_true, if_false, ite_self, eq_self, Bool.true_eq_false, Bool.false_eq_true, bi_0, bi_1, bi_zd, Nat.not_lt_zero, rr_165, ldr_165, kr_165, nr_165, rr_174, ldr_174, kr_174, nr_174, rr_183, ldr_183, kr_183, nr_183, rr_194, ldr_194, kr_194, nr_194, rr_205, ldr_205, kr_205, nr_205, rr_218, ldr_218, kr_218, nr_218, rr_231, ldr_231, kr_231, nr_231, rr_236, ldr_236, kr_236, nr_236, rr_242, ldr_242, kr_242, nr_242, rr_247, ldr_247, kr_247, nr_247, rr_252, ldr_252, kr_252, nr_252, rr_265, ldr_265, kr_265, nr_265, rr_278, ldr_278, kr_278, nr_278, rr_282, ldr_282, kr_282, nr_282, rr_309, ldr_309, kr_309, nr_309, rr_314, ldr_314, kr_314, nr_314, rr_319, ldr_319, kr_319, nr_319, rr_332, ldr_332, kr_332, nr_332, hv, show ¬ r + 1 ≤ 0 by omega, et, q, e1, ew, show ecm none = m1 from rfl, h_300_124]
            rfl
          | some cy =>
            obtain ⟨c, y⟩ := cy
            obtain ⟨b1, b2, b3, b4⟩ := hb
            have hy : y ≤ 10 := by rw [b3]; exact wv_le T n r _
            by_cases qm : (n - (r + 1)) % 2 = 0
            · rw [decide_eq_true qm]
              simp (disch := omega) only [i3_add, i3_mul, i3_sub, i3_m1, i3_lt, i3_le, i3_eq, m1_lt, lt_m1, m1_le, le_m1, i3_nm1, m1_ni3, i3_cl, i3_in, i3_or, i3_and, i3_xor, i3_shl, i3_shr, sh_tb, tb_eq0, gd_tt, aI_o, aV_o, aL_o, aR_o, zd_0, zd_1, if_true, if_false, ite_self, eq_self, Bool.true_eq_false, Bool.false_eq_true, bi_0, bi_1, bi_zd, Nat.not_lt_zero, rr_165, ldr_165, kr_165, nr_165, rr_174, ldr_174, kr_174, nr_174, rr_183, ldr_183, kr_183, nr_183, rr_194, ldr_194, kr_194, nr_194, rr_205, ldr_205, kr_205, nr_205, rr_218, ldr_218, kr_218, nr_218, rr_231, ldr_231, kr_231, nr_231, rr_236, ldr_236, kr_236, nr_236, rr_242, ldr_242, kr_242, nr_242, rr_247, ldr_247, kr_247, nr_247, rr_252, ldr_252, kr_252, nr_252, rr_265, ldr_265, kr_265, nr_265, rr_278, ldr_278, kr_278, nr_278, rr_282, ldr_282, kr_282, nr_282, rr_309, ldr_309, kr_309, nr_309, rr_314, ldr_314, kr_314, nr_314, rr_319, ldr_319, kr_319, nr_319, rr_332, ldr_332, kr_332, nr_332, hv, show ¬ r + 1 ≤ 0 by omega, et, q, e1, ew, show ecm (some (c, y)) = i3 y from rfl, h_300_124]
              by_cases q2 : wv T n r (D ^^^ tu T v) ≤ y
              · rw [if_pos q2, if_neg (by omega)]
                rfl
              · rw [if_neg q2, if_pos (by omega)]
                rfl
            · rw [decide_eq_false qm]
              simp (disch := omega) only [i3_add, i3_mul, i3_sub, i3_m1, i3_lt, i3_le, i3_eq, m1_lt, lt_m1, m1_le, le_m1, i3_nm1, m1_ni3, i3_cl, i3_in, i3_or, i3_and, i3_xor, i3_shl, i3_shr, sh_tb, tb_eq0, gd_tt, aI_o, aV_o, aL_o, aR_o, zd_0, zd_1, if_true, if_false, ite_self, eq_self, Bool.true_eq_false, Bool.false_eq_true, bi_0, bi_1, bi_zd, Nat.not_lt_zero, rr_165, ldr_165, kr_165, nr_165, rr_174, ldr_174, kr_174, nr_174, rr_183, ldr_183, kr_183, nr_183, rr_194, ldr_194, kr_194, nr_194, rr_205, ldr_205, kr_205, nr_205, rr_218, ldr_218, kr_218, nr_218, rr_231, ldr_231, kr_231, nr_231, rr_236, ldr_236, kr_236, nr_236, rr_242, ldr_242, kr_242, nr_242, rr_247, ldr_247, kr_247, nr_247, rr_252, ldr_252, kr_252, nr_252, rr_265, ldr_265, kr_265, nr_265, rr_278, ldr_278, kr_278, nr_278, rr_282, ldr_282, kr_282, nr_282, rr_309, ldr_309, kr_309, nr_309, rr_314, ldr_314, kr_314, nr_314, rr_319, ldr_319, kr_319, nr_319, rr_332, ldr_332, kr_332, nr_332, hv, show ¬ r + 1 ≤ 0 by omega, et, q, e1, ew, show ecm (some (c, y)) = i3 y from rfl, h_300_124]
              by_cases q2 : wv T n r (D ^^^ tu T v) < y
              · rw [if_pos q2, if_pos q2]
                rfl
              · rw [if_neg q2, if_neg q2]
                rfl
      · intro b _
        show hD (d + 1) 300 43 [.ref 156, .int (i3 n), .int (i3 (r + 1)), .int (bi (decide ((n - (r + 1)) % 2 = 0))), .int (i3 D), .int (ecm b), .int (i3 6), .null] 342 (RR V) x g L = _
        rw [h_300_43]
        simp (disch := omega) only [i3_add, i3_mul, i3_sub, i3_m1, i3_lt, i3_le, i3_eq, m1_lt, lt_m1, m1_le, le_m1, i3_nm1, m1_ni3, i3_cl, i3_in, i3_or, i3_and, i3_xor, i3_shl, i3_shr, sh_tb, tb_eq0, gd_tt, aI_o, aV_o, aL_o, aR_o, zd_0, zd_1, if_true, if_false, ite_self, eq_self, Bool.true_eq_false, Bool.false_eq_true, bi_0, bi_1, bi_zd, Nat.not_lt_zero, Nat.lt_irrefl]
  -- one row
  have row : ∀ r g, r ≤ n → (∀ r k, ¬ (333 ≤ r ∧ r < 342) → g r k = G r k) → (∀ r' D', r' < r → D' < 2 ^ dn T → g (333 + r') D' = i3 (wv T n r' D')) → ∃ g', hD (d + 1) 300 24 [.ref 156, .int (i3 n), .int (i3 r), .int (bi (decide ((n - r) % 2 = 0))), .int (i3 0), .null, .null, .null] 342 (RR V) x g L = hD (d + 1) 300 2 [.ref 156, .int (i3 n), .int (i3 (r + 1)), .null, .null, .null, .null, .null] 342 (RR V) x g' L ∧ (∀ r k, ¬ (333 ≤ r ∧ r < 342) → g' r k = G r k) ∧ ∀ r' D', r' < r + 1 → D' < 2 ^ dn T → g' (333 + r') D' = i3 (wv T n r' D') := by
    intro r g hr hfr hlow
    refine loopE (H := fun D (g : sm_G) => hD (d + 1) 300 24 [.ref 156, .int (i3 n), .int (i3 r), .int (bi (decide ((n - r) % 2 = 0))), .int (i3 D), .null, .null, .null] 342 (RR V) x g L) (Q := fun o' => ∃ g', o' = hD (d + 1) 300 2 [.ref 156, .int (i3 n), .int (i3 (r + 1)), .null, .null, .null, .null, .null] 342 (RR V) x g' L ∧ (∀ r k, ¬ (333 ≤ r ∧ r < 342) → g' r k = G r k) ∧ ∀ r' D', r' < r + 1 → D' < 2 ^ dn T → g' (333 + r') D' = i3 (wv T n r' D')) (N := 2 ^ dn T)
      (fun D g => (∀ r k, ¬ (333 ≤ r ∧ r < 342) → g r k = G r k) ∧ (∀ r' D', r' < r → D' < 2 ^ dn T → g (333 + r') D' = i3 (wv T n r' D')) ∧ ∀ D', D' < D → g (333 + r) D' = i3 (wv T n r D')) ?_ ?_ (2 ^ dn T) 0 g (by omega) ⟨hfr, hlow, fun D' h => by omega⟩
    · rintro D g hD' ⟨w1, w2, w3⟩
      refine ⟨sm_up g (333 + r) D (i3 (wv T n r D)), ?_, fun r' k h => by rw [sm_up_ne (by omega)]; exact w1 r' k h, fun r' D' h1 h2 => by rw [sm_up_ne (by omega)]; exact w2 r' D' h1 h2, fun D' h => ?_⟩
      · rw [h_300_24, w1 _ _ (by omega), hm.gdn]
        simp (disch := omega) only [i3_add, i3_mul, i3_sub, i3_m1, i3_lt, i3_le, i3_eq, m1_lt, lt_m1, m1_le, le_m1, i3_nm1, m1_ni3, i3_cl, i3_in, i3_or, i3_and, i3_xor, i3_shl, i3_shr, sh_tb, tb_eq0, gd_tt, aI_o, aV_o, aL_o, aR_o, zd_0, zd_1, if_true, if_false, ite_self, eq_self, Bool.true_eq_false, Bool.false_eq_true, bi_0, bi_1, bi_zd, Nat.not_lt_zero, Nat.one_shiftLeft, hD']
        exact cell r D g hr hD' w1 w2
      · by_cases z : D' = D
        · subst z; exact sm_up_same _ _ _ _
        · rw [sm_up_ne (by omega)]; exact w3 D' (by omega)
    · rintro g ⟨w1, w2, w3⟩
      refine ⟨g, ?_, w1, fun r' D' h1 h2 => ?_⟩
      · show hD (d + 1) 300 24 [.ref 156, .int (i3 n), .int (i3 r), .int (bi (decide ((n - r) % 2 = 0))), .int (i3 (2 ^ dn T)), .null, .null, .null] 342 (RR V) x g L = _
        rw [h_300_24, w1 _ _ (by omega), hm.gdn]
        simp (disch := omega) only [i3_add, i3_mul, i3_sub, i3_m1, i3_lt, i3_le, i3_eq, m1_lt, lt_m1, m1_le, le_m1, i3_nm1, m1_ni3, i3_cl, i3_in, i3_or, i3_and, i3_xor, i3_shl, i3_shr, sh_tb, tb_eq0, gd_tt, aI_o, aV_o, aL_o, aR_o, zd_0, zd_1, if_true, if_false, ite_self, eq_self, Bool.true_eq_false, Bool.false_eq_true, bi_0, bi_1, bi_zd, Nat.not_lt_zero, Nat.one_shiftLeft, Nat.lt_irrefl]
      · by_cases z : r' = r
        · subst z; exact w3 D' h2
        · exact w2 r' D' (by omega) h2
  refine loopE (H := fun r (g : sm_G) => hD (d + 1) 300 2 [.ref 156, .int (i3 n), .int (i3 r), .null, .null, .null, .null, .null] 342 (RR V) x g L) (Q := fun o' => ∃ G', o' = oV x G' L ∧ (∀ r k, ¬ (333 ≤ r ∧ r < 342) → G' r k = G r k) ∧ ∀ r D, r ≤ n → D < 2 ^ dn T → G' (333 + r) D = i3 (wv T n r D)) (N := n + 1)
    (fun r g => (∀ r k, ¬ (333 ≤ r ∧ r < 342) → g r k = G r k) ∧ ∀ r' D', r' < r → D' < 2 ^ dn T → g (333 + r') D' = i3 (wv T n r' D')) ?_ ?_ (n + 1) 0 G (by omega) ⟨fun _ _ _ => rfl, fun r' D' h => by omega⟩
  · rintro r g hr ⟨w1, w2⟩
    obtain ⟨g', k1, k2, k3⟩ := row r g (by omega) w1 w2
    refine ⟨g', ?_, k2, k3⟩
    show hD (d + 1) 300 2 [.ref 156, .int (i3 n), .int (i3 r), .null, .null, .null, .null, .null] 342 (RR V) x g L = _
    rw [h_300_2, ← k1, i3_sub (by omega)]
    simp (disch := omega) only [i3_add, i3_mul, i3_sub, i3_m1, i3_lt, i3_le, i3_eq, m1_lt, lt_m1, m1_le, le_m1, i3_nm1, m1_ni3, i3_cl, i3_in, i3_or, i3_and, i3_xor, i3_shl, i3_shr, sh_tb, tb_eq0, gd_tt, aI_o, aV_o, aL_o, aR_o, zd_0, zd_1, if_true, if_false, ite_self, eq_self, Bool.true_eq_false, Bool.false_eq_true, bi_0, bi_1, bi_zd, Nat.not_lt_zero, show r ≤ n by omega, irem2]
    by_cases q : (n - r) % 2 = 0
    · rw [if_pos q, decide_eq_true q]
      rfl
    · rw [if_neg q, decide_eq_false q]
      rfl
  · rintro g ⟨w1, w2⟩
    refine ⟨g, ?_, w1, fun r D h1 h2 => w2 r D (by omega) h2⟩
    show hD (d + 1) 300 2 [.ref 156, .int (i3 n), .int (i3 (n + 1)), .null, .null, .null, .null, .null] 342 (RR V) x g L = _
    rw [h_300_2]
    simp (disch := omega) only [i3_add, i3_mul, i3_sub, i3_m1, i3_lt, i3_le, i3_eq, m1_lt, lt_m1, m1_le, le_m1, i3_nm1, m1_ni3, i3_cl, i3_in, i3_or, i3_and, i3_xor, i3_shl, i3_shr, sh_tb, tb_eq0, gd_tt, aI_o, aV_o, aL_o, aR_o, zd_0, zd_1, if_true, if_false, ite_self, eq_self, Bool.true_eq_false, Bool.false_eq_true, bi_0, bi_1, bi_zd, Nat.not_lt_zero, show ¬ n + 1 ≤ n by omega]
theorem s_299l {d x : Nat} {V : pV} {G : sm_G} {L : sm_L} {T P : pT} {K n : Nat} (hm : mH G T P K) (hT : okT T) (hn : n ≤ 8) (hv : ∀ r D, r ≤ n → D < 2 ^ dn T → G (333 + r) D = i3 (wv T n r D)) : hD d 299 70 [.ref 156, .int (i3 n), .null, .int (i3 (fo T)), .int (i3 (wv T n n (fo T))), .int (i3 0)] 342 (RR V) x G L = oI (ecl (fcl T n 0)) x G L := by
  have hB := hT.gb
  have h10 : 2 ^ dn T ≤ 1024 := Nat.pow_le_pow_right (by decide) hB.2.1
  have hfo : fo T < 2 ^ dn T := bs_lt _ _
  unfold fcl
  cases n with
  | zero =>
    rw [h_299_70]
    simp (disch := omega) only [i3_add, i3_mul, i3_sub, i3_m1, i3_lt, i3_le, i3_eq, m1_lt, lt_m1, m1_le, le_m1, i3_nm1, m1_ni3, i3_cl, i3_in, i3_or, i3_and, i3_xor, i3_shl, i3_shr, sh_tb, tb_eq0, gd_tt, aI_o, aV_o, aL_o, aR_o, zd_0, zd_1, if_true, if_false, ite_self, eq_self, Bool.true_eq_false, Bool.false_eq_true, bi_0, bi_1, bi_zd, Nat.not_lt_zero, Nat.le_refl]
    rfl
  | succ n =>
    rw [if_neg (by omega)]
    have e1 : i3 (n + 1) - i3 1 = i3 n := by rw [i3_sub (by omega)]; rfl
    have hws := wv_s (T := T) (n := n + 1) (t := 0) (D := fo T) (by omega)
    have hle := wv_le T (n + 1)
    have z : ∀ v, v < 6 → G 164 v = i3 (tu T v) ∧ tu T v < 2 ^ dn T ∧ G (333 + n) (fo T ^^^ tu T v) = i3 (wv T (n + 1) n (fo T ^^^ tu T v)) ∧ fo T ^^^ tu T v < 2 ^ dn T := fun v h => by
      have h1 := hT.gtu v h
      have h2 : fo T ^^^ tu T v < 2 ^ dn T := Nat.xor_lt_two_pow hfo h1
      exact ⟨hm.gtu v h, h1, hv n _ (by omega) h2, h2⟩
    rw [show n + 1 - 0 = n + 1 from rfl, show n + 1 - (0 + 1) = n by omega] at hws
    rw [show n + 1 - (0 + 1) = n by omega]
    have hle1 := hle (n + 1) (fo T)
    -- those before it
    have skip : ∀ m v, v + m ≤ 6 → (∀ u, v ≤ u → u < v + m → tu T u ≠ 0 → wv T (n + 1) n (fo T ^^^ tu T u) ≠ wv T (n + 1) (n + 1) (fo T)) → hD d 299 70 [.ref 156, .int (i3 (n + 1)), .null, .int (i3 (fo T)), .int (i3 (wv T (n + 1) (n + 1) (fo T))), .int (i3 v)] 342 (RR V) x G L = hD d 299 70 [.ref 156, .int (i3 (n + 1)), .null, .int (i3 (fo T)), .int (i3 (wv T (n + 1) (n + 1) (fo T))), .int (i3 (v + m))] 342 (RR V) x G L := by
      intro m
      induction m with
      | zero => intro v _ _; rfl
      | succ m ih =>
        intro v hv6 hne
        obtain ⟨z1, z2, z3, z4⟩ := z v (by omega)
        have hle2 := hle n (fo T ^^^ tu T v)
        have := ih (v + 1) (by omega) (fun u a b c => hne u (by omega) (by omega) c)
        rw [show v + 1 + m = v + (m + 1) by omega] at this
        rw [← this, h_299_70]
        by_cases q : tu T v = 0
        · simp (disch := omega) only [i3_add, i3_mul, i3_sub, i3_m1, i3_lt, i3_le, i3_eq, m1_lt, lt_m1, m1_le, le_m1, i3_nm1, m1_ni3, i3_cl, i3_in, i3_or, i3_and, i3_xor, i3_shl, i3_shr, sh_tb, tb_eq0, gd_tt, aI_o, aV_o, aL_o, aR_o, zd_0, zd_1, if_true, if_false, ite_self, eq_self, Bool.true_eq_false, Bool.false_eq_true, bi_0, bi_1, bi_zd, Nat.not_lt_zero, show v < 6 by omega, show ¬ n + 1 ≤ 0 by omega, z1, q]
        · simp (disch := omega) only [i3_add, i3_mul, i3_sub, i3_m1, i3_lt, i3_le, i3_eq, m1_lt, lt_m1, m1_le, le_m1, i3_nm1, m1_ni3, i3_cl, i3_in, i3_or, i3_and, i3_xor, i3_shl, i3_shr, sh_tb, tb_eq0, gd_tt, aI_o, aV_o, aL_o, aR_o, zd_0, zd_1, if_true, if_false, ite_self, eq_self, Bool.true_eq_false, Bool.false_eq_true, bi_0, bi_1, bi_zd, Nat.not_lt_zero, rr_165, ldr_165, kr_165, nr_165, rr_174, ldr_174, kr_174, nr_174, rr_183, ldr_183, kr_183, nr_183, rr_194, ldr_194, kr_194, nr_194, rr_205, ldr_205, kr_205, nr_205, rr_218, ldr_218, kr_218, nr_218, rr_231, ldr_231, kr_231, nr_231, rr_236, ldr_236, kr_236, nr_236, rr_242, ldr_242, kr_242, nr_242, rr_247, ldr_247, kr_247, nr_247, rr_252, ldr_252, kr_252, nr_252, rr_265, ldr_265, kr_265, nr_265, rr_278, ldr_278, kr_278, nr_278, rr_282, ldr_282, kr_282, nr_282, rr_309, ldr_309, kr_309, nr_309, rr_314, ldr_314, kr_314, nr_314, rr_319, ldr_319, kr_319, nr_319, rr_332, ldr_332, kr_332, nr_332, show v < 6 by omega, show ¬ n + 1 ≤ 0 by omega, z1, q, e1, z3, hne v (Nat.le_refl _) (by omega) q]
    cases hb : bv T (decide (0 % 2 = 0)) (fun v => wv T (n + 1) n (fo T ^^^ tu T v)) with
    | none =>
      have h0 := bv_none hb
      rw [skip 6 0 (by omega) (fun u a b c => absurd (h0 u (by omega)) c), h_299_70]
      simp (disch := omega) only [i3_add, i3_mul, i3_sub, i3_m1, i3_lt, i3_le, i3_eq, m1_lt, lt_m1, m1_le, le_m1, i3_nm1, m1_ni3, i3_cl, i3_in, i3_or, i3_and, i3_xor, i3_shl, i3_shr, sh_tb, tb_eq0, gd_tt, aI_o, aV_o, aL_o, aR_o, zd_0, zd_1, if_true, if_false, ite_self, eq_self, Bool.true_eq_false, Bool.false_eq_true, bi_0, bi_1, bi_zd, Nat.not_lt_zero, Nat.lt_irrefl, Nat.reduceAdd, Nat.reduceLT]
      rfl
    | some cy =>
      obtain ⟨c, y⟩ := cy
      obtain ⟨b1, b2, b3, b4⟩ := bv_v hb
      rw [hb] at hws
      have hws : wv T (n + 1) (n + 1) (fo T) = y := hws
      obtain ⟨z1, z2, z3, z4⟩ := z c b1
      have hle2 := hle n (fo T ^^^ tu T c)
      rw [skip c 0 (by omega) (fun u a b q => by rw [hws]; exact b4 u (by omega) q), Nat.zero_add, h_299_70]
      have ey : wv T (n + 1) n (fo T ^^^ tu T c) = wv T (n + 1) (n + 1) (fo T) := by rw [hws, b3]
      simp (disch := omega) only [i3_add, i3_mul, i3_sub, i3_m1, i3_lt, i3_le, i3_eq, m1_lt, lt_m1, m1_le, le_m1, i3_nm1, m1_ni3, i3_cl, i3_in, i3_or, i3_and, i3_xor, i3_shl, i3_shr, sh_tb, tb_eq0, gd_tt, aI_o, aV_o, aL_o, aR_o, zd_0, zd_1, if_true, if_false, ite_self, eq_self, Bool.true_eq_false, Bool.false_eq_true, bi_0, bi_1, bi_zd, Nat.not_lt_zero, rr_165, ldr_165, kr_165, nr_165, rr_174, ldr_174, kr_174, nr_174, rr_183, ldr_183, kr_183, nr_183, rr_194, ldr_194, kr_194, nr_194, rr_205, ldr_205, kr_205, nr_205, rr_218, ldr_218, kr_218, nr_218, rr_231, ldr_231, kr_231, nr_231, rr_236, ldr_236, kr_236, nr_236, rr_242, ldr_242, kr_242, nr_242, rr_247, ldr_247, kr_247, nr_247, rr_252, ldr_252, kr_252, nr_252, rr_265, ldr_265, kr_265, nr_265, rr_278, ldr_278, kr_278, nr_278, rr_282, ldr_282, kr_282, nr_282, rr_309, ldr_309, kr_309, nr_309, rr_314, ldr_314, kr_314, nr_314, rr_319, ldr_319, kr_319, nr_319, rr_332, ldr_332, kr_332, nr_332, b1, show ¬ n + 1 ≤ 0 by omega, z1, b2, e1, z3, ey]
      rfl
theorem op_56 {d x : Nat} {V : pV} {G : sm_G} {L : sm_L} {v w : Int32} (I : Inv V G) : OpI d x V G L 56 [.ref 1, .int v, .int w] 299 [.ref 156, .int v, .int w] eA := by
  have I0 := I
  obtain ⟨T, K, c, H, W, hS, hh, hn⟩ := I
  have hB := hS.T.gb
  have hfo : fo T < 2 ^ dn T := bs_lt _ _
  have h10 : 2 ^ dn T ≤ 1024 := Nat.pow_le_pow_right (by decide) hB.2.1
  refine OpI_1 (C1 := (¬ v < i3 0 ∧ v ≤ i3 8) ∧ ¬ w < i3 0 ∧ w ≤ i3 1) (k1 := 2) (X := sm_aV (sm_cv0 (d + 59) 116 342 (RR V) [.ref 105, .ref V.1, .int v] (x, G, L)) (fun x2 G2 L2 => if w = (i3 0) then (oI (G2 105 2) x2 G2 L2) else (oI (G2 105 3) x2 G2 L2)) oX) (Y := fun x1 G1 => hD (d + 59) 299 40 [.ref 156, .int v, .int w, .null, .null, .null] 342 (RR V) x1 (g00 G1) L) I0 ?_ ?_ (by decide) ?_
  · have e29 : ∀ x, sm_cv0 (d + 59) 29 342 (RR V) [.ref 1, .int (i3 0)] (x, G, L) = rfC 2 x G L := fun x => s_29 (b := false)
    have e29' : ∀ x, sm_cv0 (d + 59) 29 342 (RR V) [.ref 1, .int (i3 1)] (x, G, L) = oV x G L := fun x => s_29 (b := true)
    rw [m_56]
    by_cases h1 : v < i3 0
    · rw [if_pos h1, e29, if_neg (fun z => z.1.1 h1)]
      rfl
    · rw [if_neg h1]
      by_cases h2 : v ≤ i3 8
      · rw [if_pos h2, e29']
        simp only [aV_o]
        rw [h_56_19, s_33, aV_if]
        by_cases h4 : ¬ w < i3 0 ∧ w ≤ i3 1
        · rw [if_pos h4, if_pos ⟨⟨h1, h2⟩, h4⟩]
        · rw [if_neg h4, if_neg (fun z => h4 z.2)]
      · rw [if_neg h2, e29, if_neg (fun z => h2 z.1.2)]
        rfl
  · intro x1 G1 hs
    have bad : ∀ (F : Nat → sm_G → sm_L → Option (sm_Res × sm_D)), sm_aI (sm_cv0 (d + 59) 219 342 (RR V) [.ref 156, .int (i3 1), .int (i3 1), .int (i3 2)] (x1, g00 G1, L)) (fun a2 x2 G2 L2 => if a2 = i3 0 then F x2 G2 L2 else oI (i3 0) x2 G2 L2) oX = oI (i3 0) x1 (noted G1 1 2) L := fun F => by
      rw [s_219b (by decide) (by decide) (by decide) g00_0]
      rfl
    rw [m_299, s_218c]
    simp only [aI_o]
    by_cases h1 : ¬ v < i3 0 ∧ v ≤ i3 8
    · rw [decide_eq_true h1, if_neg (by decide), s_218c]
      simp only [aI_o]
      rw [mbad g00_0 (by decide) (by decide) (by decide)]
      by_cases h4 : ¬ w < i3 0 ∧ w ≤ i3 1
      · rw [if_pos h4, if_pos ⟨h1, h4⟩]
      · rw [if_neg h4, if_neg (fun z => h4 z.2)]
        rfl
    · rw [decide_eq_false h1, if_pos (by decide), bad, if_neg (fun z => h1 z.1)]
      rfl
  · rintro ⟨h1, h4⟩
    obtain ⟨n, rfl, hn8⟩ := rngl (by omega) h1
    obtain ⟨G1, k1, k2, k3, k4⟩ := s_116 (d := d + 56) (x := x) (V := V) (G := G) (L := L) hS.V hS.c hS.T hn8
    have hs1 : sM G G1 := fun r k a => k2 r k (by omega) (by omega) (by omega)
    have hm := hS.m.sM hS.T hS.P hs1
    obtain ⟨G2, p1, p2, p3⟩ := s_300 (d := d + 57) (x := x) (V := V) (L := L) hm hS.T hS.P hn8
    have hm2 : mH G2 T (H c) K := hm.keep hS.T hS.P (fun r k a => p2 r k (by unfold inM at a; omega))
    have e260 := fun x => s_260 (d := d + 58) (x := x) (L := L) (V := V) hm2 hS.T
    have e0 : G2 156 0 = i3 0 := by rw [p2 _ _ (by omega)]; exact g00_0
    have ev := p3 n (fo T) (Nat.le_refl _) hfo
    have hwl := wv_le T n n (fo T)
    have el := s_299l (d := d + 59) (x := x) (V := V) (L := L) hm2 hS.T hn8 p3
    have IV : Inv V G2 := Inv_q (G1 := G1) hS (fun r k a => k2 r k (fun z => a (by unfold sc; omega)) (fun z => a (by unfold sc; omega)) (fun z => a (by unfold sc; omega))) (hh.keep (k2 _ _ (by omega) (by omega) (by omega)) (fun r k _ _ => k2 r k (by omega) (by omega) (by omega))) (hn.keep hS.T (k2 _ _ (by omega) (by omega) (by omega)) (fun r k _ _ => k2 r k (by omega) (by omega) (by omega))) (fun r k a => by unfold sc at a; rw [p2 r k (by omega), g00_ne (by omega)])
    refine ⟨if w = i3 0 then i3 (wv T n n (fo T)) else ecl (fcl T n 0), G1, G2, ?_, hs1, ?_, e0, IV⟩
    · rw [k1]
      simp only [aV_o]
      rw [k3, k4]
      split <;> rfl
    · show hD (d + 59) 299 40 _ 342 (RR V) x (g00 G1) L = _
      rw [h_299_40, p1]
      simp (disch := omega) only [i3_add, i3_mul, i3_sub, i3_m1, i3_lt, i3_le, i3_eq, m1_lt, lt_m1, m1_le, le_m1, i3_nm1, m1_ni3, i3_cl, i3_in, i3_or, i3_and, i3_xor, i3_shl, i3_shr, sh_tb, tb_eq0, gd_tt, aI_o, aV_o, aL_o, aR_o, zd_0, zd_1, if_true, if_false, ite_self, eq_self, Bool.true_eq_false, Bool.false_eq_true, bi_0, bi_1, bi_zd, Nat.not_lt_zero, rr_165, ldr_165, kr_165, nr_165, rr_174, ldr_174, kr_174, nr_174, rr_183, ldr_183, kr_183, nr_183, rr_194, ldr_194, kr_194, nr_194, rr_205, ldr_205, kr_205, nr_205, rr_218, ldr_218, kr_218, nr_218, rr_231, ldr_231, kr_231, nr_231, rr_236, ldr_236, kr_236, nr_236, rr_242, ldr_242, kr_242, nr_242, rr_247, ldr_247, kr_247, nr_247, rr_252, ldr_252, kr_252, nr_252, rr_265, ldr_265, kr_265, nr_265, rr_278, ldr_278, kr_278, nr_278, rr_282, ldr_282, kr_282, nr_282, rr_309, ldr_309, kr_309, nr_309, rr_314, ldr_314, kr_314, nr_314, rr_319, ldr_319, kr_319, nr_319, rr_332, ldr_332, kr_332, nr_332, e260, ev, el]
      split <;> rfl
