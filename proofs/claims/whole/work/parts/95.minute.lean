/-! one minute of a night -/
theorem mi_a1 (n : Nat) : mi n + i3 1 = i3 n := by
  cases n with
  | zero => decide
  | succ n => rw [mi_succ, i3_add]
theorem kind_7 {w : Nat} (h : pK w) : sm_is w 342 7 = true := iw_K h
section MINUTE
variable {d x d' x' b s : Nat} {V U : pV} {L L' : sm_L} {T P : pT} {K m t o : Nat} {W : Nat → pT} {ρ : Nat → Nat}
theorem l_96 {G : sm_G} (hb : pN b) (hs : pS s) (hT : okT T) (hc : cS G s T) (hm : m ≤ 300) (b6 : G b 6 = i3 m) (hR : ∀ f, f < dr T → G (b + 5 + 4 * f) 1 = mi (ρ f) ∧ ρ f ≤ 8) (b4 : G b 4 = i3 o) :
    ∃ G', sm_cv0 (d + 2) 96 342 (RR V) [.ref b, .ref s] (x, G, L) = oV x G' L ∧ (∀ r k, (∀ f, f < 4 → ¬ (r = b + 5 + 4 * f ∧ k = 6)) → ¬ ((r = b + 3 ∨ r = b + 4) ∧ k = m) → G' r k = G r k) ∧ (∀ f, f < dr T → G' (b + 5 + 4 * f) 6 = G (b + 5 + 4 * f) 6 + bi (comp ρ (dr T) f)) ∧ G' (b + 3) m = i3 (pk ρ (dr T)) ∧ G' (b + 4) m = i3 o := by
  have hB := hT.gb
  have hbl := pN_lt hb
  have hsl := pS_lt hs
  have b0 : bi false = i3 0 := rfl
  have b1 : bi true = i3 1 := rfl
  rw [m_96 hb hs, b6, b4]
  simp (disch := omega) only [i3_add, i3_mul, i3_sub, i3_m1, i3_lt, i3_le, i3_eq, m1_lt, lt_m1, m1_le, le_m1, i3_nm1, m1_ni3, i3_cl, i3_in, i3_or, i3_and, i3_xor, i3_shl, i3_shr, sh_tb, tb_eq0, gd_tt, aI_o, aV_o, aL_o, aR_o, zd_0, zd_1, if_true, if_false, ite_self, eq_self, Bool.true_eq_false, Bool.false_eq_true, bi_0, bi_1, bi_zd, Nat.not_lt_zero]
  have Gx : ∀ r k, ¬ (r = b + 4 ∧ k = m) → sm_up G (b + 4) m (i3 o) r k = G r k := fun r k q => sm_up_ne (by omega)
  have Gm : sm_up G (b + 4) m (i3 o) (b + 4) m = i3 o := sm_up_same _ _ _ _
  generalize sm_up G (b + 4) m (i3 o) = G0 at Gx Gm ⊢
  refine loopE (H := fun i (ag : Nat × sm_G) => hD (d + 1) 96 17 [.ref b, .ref s, .int (i3 ag.1), .int (i3 i), .null] 342 (RR V) x ag.2 L) (Q := fun o' => ∃ G', o' = oV x G' L ∧ (∀ r k, (∀ f, f < 4 → ¬ (r = b + 5 + 4 * f ∧ k = 6)) → ¬ ((r = b + 3 ∨ r = b + 4) ∧ k = m) → G' r k = G r k) ∧ (∀ f, f < dr T → G' (b + 5 + 4 * f) 6 = G (b + 5 + 4 * f) 6 + bi (comp ρ (dr T) f)) ∧ G' (b + 3) m = i3 (pk ρ (dr T)) ∧ G' (b + 4) m = i3 o) (N := dr T)
    (fun i ag => ag.1 = pk ρ i ∧ (∀ r k, (∀ f, f < 4 → ¬ (r = b + 5 + 4 * f ∧ k = 6)) → ag.2 r k = G0 r k) ∧ (∀ f, f < i → ag.2 (b + 5 + 4 * f) 6 = G (b + 5 + 4 * f) 6 + bi (comp ρ (dr T) f)) ∧ (∀ f, i ≤ f → f < 4 → ag.2 (b + 5 + 4 * f) 6 = G (b + 5 + 4 * f) 6)) ?_ ?_ (dr T) 0 (0, G0) (by omega) ⟨rfl, fun _ _ _ => rfl, fun f hf => by omega, fun f _ hf => Gx _ _ (by omega)⟩
  · rintro i ⟨a, G1⟩ hi ⟨h1, h2, h3, h4⟩
    dsimp only at h1 h2 h3 h4
    subst h1
    have hw := kw_b (k := i) hb (by omega)
    have e1 := rw_b (V := V) (k := i) hb (by omega)
    have e2 := iw_K hw
    have f1 : ∀ f, f < dr T → G1 (b + 5 + 4 * f) 1 = mi (ρ f) ∧ ρ f ≤ 8 := fun f hf => by
      rw [h2 _ _ (fun f' _ => by omega), Gx _ _ (by omega)]; exact hR f hf
    have hc1 : cS G1 s T := hc.keep (fun r k q => by unfold inC at q; rw [h2 _ _ (fun f' _ => by omega), Gx _ _ (by omega)])
    have e95 := s_95 (d := d) (x := x) (L := L) (V := V) (e := i) hb hs hc1.gdr (by omega) f1 hi
    have r1 := (f1 i hi).1
    have h46 := h4 i (Nat.le_refl _) (by omega)
    refine ⟨(pk ρ (i + 1), sm_up G1 (b + 5 + 4 * i) 6 (G (b + 5 + 4 * i) 6 + bi (comp ρ (dr T) i))), ?_, rfl, fun r k q => by dsimp only; rw [sm_up_ne (by have := q i (by omega); omega)]; exact h2 r k q, fun f hf => ?_, fun f hf hf4 => by dsimp only; rw [sm_up_ne (by omega)]; exact h4 f (by omega) hf4⟩
    · dsimp only
      rw [h_96_17 hb hs, hc1.gdr]
      cases z : comp ρ (dr T) i
      · rw [z] at e95
        simp (disch := omega) only [i3_add, i3_mul, i3_sub, i3_m1, i3_lt, i3_le, i3_eq, m1_lt, lt_m1, m1_le, le_m1, i3_nm1, m1_ni3, i3_cl, i3_in, i3_or, i3_and, i3_xor, i3_shl, i3_shr, sh_tb, tb_eq0, gd_tt, aI_o, aV_o, aL_o, aR_o, zd_0, zd_1, if_true, if_false, ite_self, eq_self, Bool.true_eq_false, Bool.false_eq_true, bi_0, bi_1, bi_zd, Nat.not_lt_zero, hi, e1, e2, e95, b0, r1, mi_a1, h_96_75 hb hs, h46]
        rfl
      · rw [z] at e95
        simp (disch := omega) only [i3_add, i3_mul, i3_sub, i3_m1, i3_lt, i3_le, i3_eq, m1_lt, lt_m1, m1_le, le_m1, i3_nm1, m1_ni3, i3_cl, i3_in, i3_or, i3_and, i3_xor, i3_shl, i3_shr, sh_tb, tb_eq0, gd_tt, aI_o, aV_o, aL_o, aR_o, zd_0, zd_1, if_true, if_false, ite_self, eq_self, Bool.true_eq_false, Bool.false_eq_true, bi_0, bi_1, bi_zd, Nat.not_lt_zero, Nat.reduceEqDiff, Nat.reduceLeDiff, Nat.reduceLT, hi, e1, e2, e95, b1, r1, mi_a1, h_96_75 hb hs, h46]
        rfl
    · dsimp only
      by_cases q : f = i
      · subst q
        exact sm_up_same _ _ _ _
      · rw [sm_up_ne (by omega)]
        exact h3 f (by omega)
  · rintro ⟨a, G1⟩ ⟨h1, h2, h3, h4⟩
    dsimp only at h1 h2 h3 h4
    subst h1
    have hc1 : cS G1 s T := hc.keep (fun r k q => by unfold inC at q; rw [h2 _ _ (fun f' _ => by omega), Gx _ _ (by omega)])
    have b61 : G1 b 6 = i3 m := by rw [h2 _ _ (fun f' _ => by omega), Gx _ _ (by omega)]; exact b6
    refine ⟨sm_up G1 (b + 3) m (i3 (pk ρ (dr T))), ?_, fun r k q q2 => by rw [sm_up_ne (by omega), h2 r k q]; exact Gx r k (by omega), fun f hf => by rw [sm_up_ne (by omega)]; exact h3 f hf, sm_up_same _ _ _ _, by rw [sm_up_ne (by omega), h2 _ _ (fun f' _ => by omega)]; exact Gm⟩
    dsimp only
    rw [h_96_17 hb hs, hc1.gdr, b61]
    simp (disch := omega) only [i3_add, i3_mul, i3_sub, i3_m1, i3_lt, i3_le, i3_eq, m1_lt, lt_m1, m1_le, le_m1, i3_nm1, m1_ni3, i3_cl, i3_in, i3_or, i3_and, i3_xor, i3_shl, i3_shr, sh_tb, tb_eq0, gd_tt, aI_o, aV_o, aL_o, aR_o, zd_0, zd_1, if_true, if_false, ite_self, eq_self, Bool.true_eq_false, Bool.false_eq_true, bi_0, bi_1, bi_zd, Nat.not_lt_zero, Nat.lt_irrefl]
theorem l_209 {g : sm_G} {v1 : Int32} (hT : okT T) (hP : okP T P) (hmH : mH g T P K) (hm : m ≤ 300) (m57 : g 156 57 = i3 m) (hR : ∀ f, f < dr T → g 325 f = mi (ρ f) ∧ ρ f ≤ 8) :
    ∃ g', hD (d' + 3) 264 209 [.ref 156, .int v1, .int (i3 0), .null] 342 (RR U) x' g L' = hD (d' + 3) 264 99 [.ref 156, .int v1, .null, .null] 342 (RR U) x' g' L' ∧ (∀ r k, ¬ (310 ≤ r ∧ r < 314 ∧ k = m) → ¬ (315 ≤ r ∧ r < 319 ∧ k = 4) → ¬ (r = 156 ∧ k = 57) → g' r k = g r k) ∧ (∀ f, f < dr T → g' (310 + f) m = mi (ρ f) ∧ g' (315 + f) 4 = g (315 + f) 4 + bi (comp ρ (dr T) f)) ∧ g' 156 57 = i3 (m + 1) := by
  have hB := hT.gb
  have b0 : bi false = i3 0 := rfl
  have b1 : bi true = i3 1 := rfl
  refine loopE (H := fun i (g1 : sm_G) => hD (d' + 3) 264 209 [.ref 156, .int v1, .int (i3 i), .null] 342 (RR U) x' g1 L') (Q := fun o' => ∃ g', o' = hD (d' + 3) 264 99 [.ref 156, .int v1, .null, .null] 342 (RR U) x' g' L' ∧ (∀ r k, ¬ (310 ≤ r ∧ r < 314 ∧ k = m) → ¬ (315 ≤ r ∧ r < 319 ∧ k = 4) → ¬ (r = 156 ∧ k = 57) → g' r k = g r k) ∧ (∀ f, f < dr T → g' (310 + f) m = mi (ρ f) ∧ g' (315 + f) 4 = g (315 + f) 4 + bi (comp ρ (dr T) f)) ∧ g' 156 57 = i3 (m + 1)) (N := dr T)
    (fun i g1 => (∀ r k, ¬ (310 ≤ r ∧ r < 314 ∧ k = m) → ¬ (315 ≤ r ∧ r < 319 ∧ k = 4) → g1 r k = g r k) ∧ (∀ f, f < i → g1 (310 + f) m = mi (ρ f) ∧ g1 (315 + f) 4 = g (315 + f) 4 + bi (comp ρ (dr T) f)) ∧ (∀ f, i ≤ f → f < 4 → g1 (315 + f) 4 = g (315 + f) 4)) ?_ ?_ (dr T) 0 g (by omega) ⟨fun _ _ _ _ => rfl, fun f hf => by omega, fun _ _ _ => rfl⟩
  · rintro i g1 hi ⟨h1, h2, h3⟩
    have hm1 : mH g1 T P K := hmH.keep hT hP (fun r k q => h1 r k (by unfold inM at q; omega) (by unfold inM at q; omega))
    have m571 : g1 156 57 = i3 m := by rw [h1 _ _ (by omega) (by omega)]; exact m57
    have hr : g1 325 i = mi (ρ i) := by rw [h1 _ _ (by omega) (by omega)]; exact (hR i hi).1
    have hr8 := (hR i hi).2
    have h34 := h3 i (Nat.le_refl _) (by omega)
    have gx : ∀ r k, ¬ (r = 310 + i ∧ k = m) → sm_up g1 (310 + i) m (mi (ρ i)) r k = g1 r k := fun r k q => sm_up_ne (by omega)
    have gs : sm_up g1 (310 + i) m (mi (ρ i)) (310 + i) m = mi (ρ i) := sm_up_same _ _ _ _
    rw [h_264_209, hm1.gdr, m571]
    simp (disch := omega) only [i3_add, i3_mul, i3_sub, i3_m1, i3_lt, i3_le, i3_eq, m1_lt, lt_m1, m1_le, le_m1, i3_nm1, m1_ni3, i3_cl, i3_in, i3_or, i3_and, i3_xor, i3_shl, i3_shr, sh_tb, tb_eq0, gd_tt, aI_o, aV_o, aL_o, aR_o, zd_0, zd_1, if_true, if_false, ite_self, eq_self, Bool.true_eq_false, Bool.false_eq_true, bi_0, bi_1, bi_zd, Nat.not_lt_zero, rr_165, ldr_165, kr_165, nr_165, rr_174, ldr_174, kr_174, nr_174, rr_183, ldr_183, kr_183, nr_183, rr_194, ldr_194, kr_194, nr_194, rr_205, ldr_205, kr_205, nr_205, rr_218, ldr_218, kr_218, nr_218, rr_231, ldr_231, kr_231, nr_231, rr_236, ldr_236, kr_236, nr_236, rr_242, ldr_242, kr_242, nr_242, rr_247, ldr_247, kr_247, nr_247, rr_252, ldr_252, kr_252, nr_252, rr_265, ldr_265, kr_265, nr_265, rr_278, ldr_278, kr_278, nr_278, rr_282, ldr_282, kr_282, nr_282, rr_309, ldr_309, kr_309, nr_309, rr_314, ldr_314, kr_314, nr_314, rr_319, ldr_319, kr_319, nr_319, rr_332, ldr_332, kr_332, nr_332, hi, hr]
    generalize sm_up g1 (310 + i) m (mi (ρ i)) = g2 at gx gs ⊢
    have e266 := s_266 (d := d' + 2) (x := x') (L := L') (V := U) (G := g2) (e := i) (r := ρ i) (by omega) (by rw [gx _ _ (by omega)]; exact hr) (by omega)
    have e275 := s_275 (d := d' + 1) (x := x') (L := L') (V := U) (G := g2) (e := i) (n := dr T) (ρ := ρ) (by rw [gx _ _ (by omega)]; exact hm1.gdr) (by omega) (fun f hf => by rw [gx _ _ (by omega), h1 _ _ (by omega) (by omega)]; exact hR f hf) hi
    have e4 : g2 (315 + i) 4 = g (315 + i) 4 := by rw [gx _ _ (by omega)]; exact h34
    refine ⟨sm_up g2 (315 + i) 4 (g (315 + i) 4 + bi (comp ρ (dr T) i)), ?_, fun r k q q2 => by rw [sm_up_ne (by omega), gx r k (by omega)]; exact h1 r k q q2, fun f hf => ?_, fun f hf hf4 => by rw [sm_up_ne (by omega), gx _ _ (by omega)]; exact h3 f (by omega) hf4⟩
    · by_cases q : ρ i = 0
      · have hcz : comp ρ (dr T) i = false := by unfold comp; rw [decide_eq_false (fun z => z q)]; rfl
        rw [hcz, b0]
        rw [decide_eq_false (fun z => z q), b0] at e266
        simp (disch := omega) only [i3_add, i3_mul, i3_sub, i3_m1, i3_lt, i3_le, i3_eq, m1_lt, lt_m1, m1_le, le_m1, i3_nm1, m1_ni3, i3_cl, i3_in, i3_or, i3_and, i3_xor, i3_shl, i3_shr, sh_tb, tb_eq0, gd_tt, aI_o, aV_o, aL_o, aR_o, zd_0, zd_1, if_true, if_false, ite_self, eq_self, Bool.true_eq_false, Bool.false_eq_true, bi_0, bi_1, bi_zd, Nat.not_lt_zero, rr_165, ldr_165, kr_165, nr_165, rr_174, ldr_174, kr_174, nr_174, rr_183, ldr_183, kr_183, nr_183, rr_194, ldr_194, kr_194, nr_194, rr_205, ldr_205, kr_205, nr_205, rr_218, ldr_218, kr_218, nr_218, rr_231, ldr_231, kr_231, nr_231, rr_236, ldr_236, kr_236, nr_236, rr_242, ldr_242, kr_242, nr_242, rr_247, ldr_247, kr_247, nr_247, rr_252, ldr_252, kr_252, nr_252, rr_265, ldr_265, kr_265, nr_265, rr_278, ldr_278, kr_278, nr_278, rr_282, ldr_282, kr_282, nr_282, rr_309, ldr_309, kr_309, nr_309, rr_314, ldr_314, kr_314, nr_314, rr_319, ldr_319, kr_319, nr_319, rr_332, ldr_332, kr_332, nr_332, e266, e4]
      · rw [decide_eq_true q, b1] at e266
        cases z : comp ρ (dr T) i
        · rw [z, b0] at e275
          simp (disch := omega) only [i3_add, i3_mul, i3_sub, i3_m1, i3_lt, i3_le, i3_eq, m1_lt, lt_m1, m1_le, le_m1, i3_nm1, m1_ni3, i3_cl, i3_in, i3_or, i3_and, i3_xor, i3_shl, i3_shr, sh_tb, tb_eq0, gd_tt, aI_o, aV_o, aL_o, aR_o, zd_0, zd_1, if_true, if_false, ite_self, eq_self, Bool.true_eq_false, Bool.false_eq_true, bi_0, bi_1, bi_zd, Nat.not_lt_zero, Nat.reduceEqDiff, Nat.reduceLeDiff, Nat.reduceLT, rr_165, ldr_165, kr_165, nr_165, rr_174, ldr_174, kr_174, nr_174, rr_183, ldr_183, kr_183, nr_183, rr_194, ldr_194, kr_194, nr_194, rr_205, ldr_205, kr_205, nr_205, rr_218, ldr_218, kr_218, nr_218, rr_231, ldr_231, kr_231, nr_231, rr_236, ldr_236, kr_236, nr_236, rr_242, ldr_242, kr_242, nr_242, rr_247, ldr_247, kr_247, nr_247, rr_252, ldr_252, kr_252, nr_252, rr_265, ldr_265, kr_265, nr_265, rr_278, ldr_278, kr_278, nr_278, rr_282, ldr_282, kr_282, nr_282, rr_309, ldr_309, kr_309, nr_309, rr_314, ldr_314, kr_314, nr_314, rr_319, ldr_319, kr_319, nr_319, rr_332, ldr_332, kr_332, nr_332, e266, e275, e4, b0]
        · rw [z, b1] at e275
          simp (disch := omega) only [i3_add, i3_mul, i3_sub, i3_m1, i3_lt, i3_le, i3_eq, m1_lt, lt_m1, m1_le, le_m1, i3_nm1, m1_ni3, i3_cl, i3_in, i3_or, i3_and, i3_xor, i3_shl, i3_shr, sh_tb, tb_eq0, gd_tt, aI_o, aV_o, aL_o, aR_o, zd_0, zd_1, if_true, if_false, ite_self, eq_self, Bool.true_eq_false, Bool.false_eq_true, bi_0, bi_1, bi_zd, Nat.not_lt_zero, Nat.reduceEqDiff, Nat.reduceLeDiff, Nat.reduceLT, rr_165, ldr_165, kr_165, nr_165, rr_174, ldr_174, kr_174, nr_174, rr_183, ldr_183, kr_183, nr_183, rr_194, ldr_194, kr_194, nr_194, rr_205, ldr_205, kr_205, nr_205, rr_218, ldr_218, kr_218, nr_218, rr_231, ldr_231, kr_231, nr_231, rr_236, ldr_236, kr_236, nr_236, rr_242, ldr_242, kr_242, nr_242, rr_247, ldr_247, kr_247, nr_247, rr_252, ldr_252, kr_252, nr_252, rr_265, ldr_265, kr_265, nr_265, rr_278, ldr_278, kr_278, nr_278, rr_282, ldr_282, kr_282, nr_282, rr_309, ldr_309, kr_309, nr_309, rr_314, ldr_314, kr_314, nr_314, rr_319, ldr_319, kr_319, nr_319, rr_332, ldr_332, kr_332, nr_332, e266, e275, e4, b1]
    · by_cases q : f = i
      · subst q
        exact ⟨by rw [sm_up_ne (by omega)]; exact gs, sm_up_same _ _ _ _⟩
      · rw [sm_up_ne (by omega), sm_up_ne (by omega), gx _ _ (by omega), gx _ _ (by omega)]
        exact h2 f (by omega)
  · rintro g1 ⟨h1, h2, h3⟩
    have hm1 : mH g1 T P K := hmH.keep hT hP (fun r k q => h1 r k (by unfold inM at q; omega) (by unfold inM at q; omega))
    have m571 : g1 156 57 = i3 m := by rw [h1 _ _ (by omega) (by omega)]; exact m57
    refine ⟨sm_up g1 156 57 (i3 (m + 1)), ?_, fun r k q q2 q3 => by rw [sm_up_ne (by omega)]; exact h1 r k q q2, fun f hf => by rw [sm_up_ne (by omega), sm_up_ne (by omega)]; exact h2 f hf, sm_up_same _ _ _ _⟩
    rw [h_264_209, hm1.gdr, m571]
    simp (disch := omega) only [i3_add, i3_mul, i3_sub, i3_m1, i3_lt, i3_le, i3_eq, m1_lt, lt_m1, m1_le, le_m1, i3_nm1, m1_ni3, i3_cl, i3_in, i3_or, i3_and, i3_xor, i3_shl, i3_shr, sh_tb, tb_eq0, gd_tt, aI_o, aV_o, aL_o, aR_o, zd_0, zd_1, if_true, if_false, ite_self, eq_self, Bool.true_eq_false, Bool.false_eq_true, bi_0, bi_1, bi_zd, Nat.not_lt_zero, Nat.lt_irrefl]
end MINUTE
