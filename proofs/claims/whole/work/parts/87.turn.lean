/-! one turn of a dreamer's, the class's -/
theorem bi_dl {z : Bool} : bi z = i3 0 ∨ bi z = i3 1 := by cases z; exact Or.inl rfl; exact Or.inr rfl
section TURN
variable {d x b s w wl p t : Nat} {V : pV} {G : sm_G} {L : sm_L} {W : pT}
theorem s_93_3 {k v : Nat} (hb : pN b) (hs : pS s) (hw : pK w) (hl : pW wl) (hp : G w 7 = i3 p) (hp40 : p < 40) (ht : G w 9 = i3 t) (hWl : cWl G wl W) (hpz : p < wZ W) (hwl : wl + 9 < w ∨ w + 9 < wl) (hd : wD W p = 3) (he : wE W p = k) (hk : k < 6) (hv : wN W p = v) (hv2 : v ≤ 20) :
    sm_cv0 (d + 3) 93 342 (RR V) [.ref b, .ref s, .ref w, .ref wl] (x, G, L) = oV x (sm_up (sm_up (sm_up G w 9 (i3 (t + 1))) (w + 1) k (i3 v)) w 7 (i3 (if v = 0 then wG W p else p + 1))) L := by
  obtain ⟨a1, a2, a3, a4⟩ := hWl.2.2 p hpz
  rw [hd] at a1
  rw [hv] at a2
  rw [he] at a4
  have g : ∀ r j, r ≠ w → sm_up G w 9 (i3 (t + 1)) r j = G r j := fun r j h => sm_up_ne (by omega)
  have g2 : ∀ r j, r ≠ w → r ≠ w + 1 → sm_up (sm_up G w 9 (i3 (t + 1))) (w + 1) k (i3 v) r j = G r j := fun r j h h2 => by rw [sm_up_ne (by omega), sm_up_ne (by omega)]
  have c1 := g (wl + 1) p (by omega)
  have c2 := g (wl + 2) p (by omega)
  have c3 := g2 (wl + 3) p (by omega) (by omega)
  have c4 := g2 (wl + 2) p (by omega) (by omega)
  rw [m_93 hb hs hw hl, hp]
  simp (disch := omega) only [i3_add, i3_mul, i3_sub, i3_m1, i3_lt, i3_le, i3_eq, m1_lt, lt_m1, m1_le, le_m1, i3_nm1, m1_ni3, i3_cl, i3_in, i3_or, i3_and, i3_xor, i3_shl, i3_shr, sh_tb, tb_eq0, gd_tt, aI_o, aV_o, aL_o, aR_o, zd_0, zd_1, if_true, if_false, ite_self, eq_self, Bool.true_eq_false, Bool.false_eq_true, bi_0, bi_1, bi_zd, Nat.not_lt_zero, a4, a1, s_4, ht, show ¬ 5 < k by omega, show ¬ (3 : Nat) = 7 by decide, h_93_45 hb hs hw hl]
  by_cases q : v = 0
  · subst q
    simp (disch := omega) only [i3_add, i3_mul, i3_sub, i3_m1, i3_lt, i3_le, i3_eq, m1_lt, lt_m1, m1_le, le_m1, i3_nm1, m1_ni3, i3_cl, i3_in, i3_or, i3_and, i3_xor, i3_shl, i3_shr, sh_tb, tb_eq0, gd_tt, aI_o, aV_o, aL_o, aR_o, zd_0, zd_1, if_true, if_false, ite_self, eq_self, Bool.true_eq_false, Bool.false_eq_true, bi_0, bi_1, bi_zd, Nat.not_lt_zero, c1, c2, c3, c4, a1, a2, a3, Nat.le_refl]
  · simp (disch := omega) only [i3_add, i3_mul, i3_sub, i3_m1, i3_lt, i3_le, i3_eq, m1_lt, lt_m1, m1_le, le_m1, i3_nm1, m1_ni3, i3_cl, i3_in, i3_or, i3_and, i3_xor, i3_shl, i3_shr, sh_tb, tb_eq0, gd_tt, aI_o, aV_o, aL_o, aR_o, zd_0, zd_1, if_true, if_false, ite_self, eq_self, Bool.true_eq_false, Bool.false_eq_true, bi_0, bi_1, bi_zd, Nat.not_lt_zero, c1, c2, c3, c4, a1, a2, a3, show ¬ v ≤ 0 by omega, q]
theorem s_93_4 {k u : Nat} (hb : pN b) (hs : pS s) (hw : pK w) (hl : pW wl) (hp : G w 7 = i3 p) (hp40 : p < 40) (ht : G w 9 = i3 t) (hWl : cWl G wl W) (hpz : p < wZ W) (hwl : wl + 9 < w ∨ w + 9 < wl) (hd : wD W p = 4) (he : wE W p = k) (hk : k < 6) (hu : G (w + 1) k = i3 (u + 1)) (hu2 : u ≤ 20) :
    sm_cv0 (d + 3) 93 342 (RR V) [.ref b, .ref s, .ref w, .ref wl] (x, G, L) = oV x (sm_up (sm_up (sm_up G w 9 (i3 (t + 1))) (w + 1) k (i3 u)) w 7 (i3 (if u = 0 then p + 1 else wG W p))) L := by
  obtain ⟨a1, a2, a3, a4⟩ := hWl.2.2 p hpz
  rw [hd] at a1
  rw [he] at a4
  have g : ∀ r j, r ≠ w → sm_up G w 9 (i3 (t + 1)) r j = G r j := fun r j h => sm_up_ne (by omega)
  have g2 : ∀ r j, r ≠ w → r ≠ w + 1 → sm_up (sm_up G w 9 (i3 (t + 1))) (w + 1) k (i3 u) r j = G r j := fun r j h h2 => by rw [sm_up_ne (by omega), sm_up_ne (by omega)]
  have c1 := g (wl + 1) p (by omega)
  have c2 := g (w + 1) k (by omega)
  have c3 := g2 (wl + 3) p (by omega) (by omega)
  have c4 : sm_up (sm_up G w 9 (i3 (t + 1))) (w + 1) k (i3 u) (w + 1) k = i3 u := sm_up_same _ _ _ _
  have e1 : i3 (u + 1) - i3 1 = i3 u := by rw [i3_sub (by omega)]; rfl
  rw [m_93 hb hs hw hl, hp]
  simp (disch := omega) only [i3_add, i3_mul, i3_sub, i3_m1, i3_lt, i3_le, i3_eq, m1_lt, lt_m1, m1_le, le_m1, i3_nm1, m1_ni3, i3_cl, i3_in, i3_or, i3_and, i3_xor, i3_shl, i3_shr, sh_tb, tb_eq0, gd_tt, aI_o, aV_o, aL_o, aR_o, zd_0, zd_1, if_true, if_false, ite_self, eq_self, Bool.true_eq_false, Bool.false_eq_true, bi_0, bi_1, bi_zd, Nat.not_lt_zero, a4, a1, s_4, ht, show ¬ 5 < k by omega, show ¬ (4 : Nat) = 7 by decide, h_93_45 hb hs hw hl]
  by_cases q : u = 0
  · subst q
    simp (disch := omega) only [i3_add, i3_mul, i3_sub, i3_m1, i3_lt, i3_le, i3_eq, m1_lt, lt_m1, m1_le, le_m1, i3_nm1, m1_ni3, i3_cl, i3_in, i3_or, i3_and, i3_xor, i3_shl, i3_shr, sh_tb, tb_eq0, gd_tt, aI_o, aV_o, aL_o, aR_o, zd_0, zd_1, if_true, if_false, ite_self, eq_self, Bool.true_eq_false, Bool.false_eq_true, bi_0, bi_1, bi_zd, Nat.not_lt_zero, c1, c2, c3, c4, a1, hu, e1, show ¬ (4 : Nat) = 3 by decide, Nat.le_refl]
  · simp (disch := omega) only [i3_add, i3_mul, i3_sub, i3_m1, i3_lt, i3_le, i3_eq, m1_lt, lt_m1, m1_le, le_m1, i3_nm1, m1_ni3, i3_cl, i3_in, i3_or, i3_and, i3_xor, i3_shl, i3_shr, sh_tb, tb_eq0, gd_tt, aI_o, aV_o, aL_o, aR_o, zd_0, zd_1, if_true, if_false, ite_self, eq_self, Bool.true_eq_false, Bool.false_eq_true, bi_0, bi_1, bi_zd, Nat.not_lt_zero, c1, c2, c3, c4, a1, a3, hu, e1, show ¬ (4 : Nat) = 3 by decide, show ¬ u ≤ 0 by omega, q]
theorem s_93_7 (hb : pN b) (hs : pS s) (hw : pK w) (hl : pW wl) (hp : G w 7 = i3 p) (hp40 : p < 40) (ht : G w 9 = i3 t) (hWl : cWl G wl W) (hpz : p < wZ W) (hwl : wl + 9 < w ∨ w + 9 < wl) (hd : wD W p = 7) :
    sm_cv0 (d + 3) 93 342 (RR V) [.ref b, .ref s, .ref w, .ref wl] (x, G, L) = oV x (sm_up (sm_up G w 9 (i3 t)) w 7 (i3 (wG W p))) L := by
  obtain ⟨a1, a2, a3, a4⟩ := hWl.2.2 p hpz
  rw [hd] at a1
  have g : ∀ r j, r ≠ w → sm_up G w 9 (i3 t) r j = G r j := fun r j h => sm_up_ne (by omega)
  have c1 := g (wl + 1) p (by omega)
  have c3 := g (wl + 3) p (by omega)
  rw [m_93 hb hs hw hl, hp, s_4]
  simp (disch := omega) only [i3_add, i3_mul, i3_sub, i3_m1, i3_lt, i3_le, i3_eq, m1_lt, lt_m1, m1_le, le_m1, i3_nm1, m1_ni3, i3_cl, i3_in, i3_or, i3_and, i3_xor, i3_shl, i3_shr, sh_tb, tb_eq0, gd_tt, aI_o, aV_o, aL_o, aR_o, zd_0, zd_1, if_true, if_false, ite_self, eq_self, Bool.true_eq_false, Bool.false_eq_true, bi_0, bi_1, bi_zd, Nat.not_lt_zero, a1, ht, Nat.add_zero, h_93_45 hb hs hw hl, c1, c3, a3, show ¬ (7 : Nat) = 3 by decide, show ¬ (7 : Nat) = 4 by decide, show ¬ (7 : Nat) = 5 by decide, show ¬ (7 : Nat) = 6 by decide]
theorem s_93_5 {z : Bool} (hb : pN b) (hs : pS s) (hw : pK w) (hl : pW wl) (hp : G w 7 = i3 p) (hp40 : p < 40) (ht : G w 9 = i3 t) (hWl : cWl G wl W) (hpz : p < wZ W) (hwl : wl + 9 < w ∨ w + 9 < wl) (hd : wD W p = 5)
    (hz : sm_cv0 (d + 2) 94 342 (RR V) [.ref b, .ref s, .ref w, .ref wl] (x, sm_up G w 9 (i3 (t + 1)), L) = oI (bi z) x (sm_up G w 9 (i3 (t + 1))) L) :
    sm_cv0 (d + 3) 93 342 (RR V) [.ref b, .ref s, .ref w, .ref wl] (x, G, L) = oV x (sm_up (sm_up G w 9 (i3 (t + 1))) w 7 (i3 (if z = true then wG W p else p + 1))) L := by
  obtain ⟨a1, a2, a3, a4⟩ := hWl.2.2 p hpz
  rw [hd] at a1
  have g : ∀ r j, r ≠ w → sm_up G w 9 (i3 (t + 1)) r j = G r j := fun r j h => sm_up_ne (by omega)
  have c1 := g (wl + 1) p (by omega)
  have c3 := g (wl + 3) p (by omega)
  rw [m_93 hb hs hw hl, hp, s_4]
  cases z
  · rw [show bi false = i3 0 from rfl] at hz
    simp (disch := omega) only [i3_add, i3_mul, i3_sub, i3_m1, i3_lt, i3_le, i3_eq, m1_lt, lt_m1, m1_le, le_m1, i3_nm1, m1_ni3, i3_cl, i3_in, i3_or, i3_and, i3_xor, i3_shl, i3_shr, sh_tb, tb_eq0, gd_tt, aI_o, aV_o, aL_o, aR_o, zd_0, zd_1, if_true, if_false, ite_self, eq_self, Bool.true_eq_false, Bool.false_eq_true, bi_0, bi_1, bi_zd, Nat.not_lt_zero, a1, ht, h_93_45 hb hs hw hl, c1, c3, a3, hz, show ¬ (5 : Nat) = 3 by decide, show ¬ (5 : Nat) = 4 by decide, show ¬ (5 : Nat) = 7 by decide]
  · rw [show bi true = i3 1 from rfl] at hz
    simp (disch := omega) only [i3_add, i3_mul, i3_sub, i3_m1, i3_lt, i3_le, i3_eq, m1_lt, lt_m1, m1_le, le_m1, i3_nm1, m1_ni3, i3_cl, i3_in, i3_or, i3_and, i3_xor, i3_shl, i3_shr, sh_tb, tb_eq0, gd_tt, aI_o, aV_o, aL_o, aR_o, zd_0, zd_1, if_true, if_false, ite_self, eq_self, Bool.true_eq_false, Bool.false_eq_true, bi_0, bi_1, bi_zd, Nat.not_lt_zero, a1, ht, h_93_45 hb hs hw hl, c1, c3, a3, hz, show ¬ (5 : Nat) = 3 by decide, show ¬ (5 : Nat) = 4 by decide, show ¬ (5 : Nat) = 7 by decide, show ¬ (1 : Nat) = 0 by decide]
theorem s_93_6 {z : Bool} (hb : pN b) (hs : pS s) (hw : pK w) (hl : pW wl) (hp : G w 7 = i3 p) (hp40 : p < 40) (ht : G w 9 = i3 t) (hWl : cWl G wl W) (hpz : p < wZ W) (hwl : wl + 9 < w ∨ w + 9 < wl) (hd : wD W p = 6)
    (hz : sm_cv0 (d + 2) 94 342 (RR V) [.ref b, .ref s, .ref w, .ref wl] (x, sm_up G w 9 (i3 (t + 1)), L) = oI (bi z) x (sm_up G w 9 (i3 (t + 1))) L) :
    sm_cv0 (d + 3) 93 342 (RR V) [.ref b, .ref s, .ref w, .ref wl] (x, G, L) = oV x (sm_up (sm_up G w 9 (i3 (t + 1))) w 7 (i3 (if z = true then p + 1 else wG W p))) L := by
  obtain ⟨a1, a2, a3, a4⟩ := hWl.2.2 p hpz
  rw [hd] at a1
  have g : ∀ r j, r ≠ w → sm_up G w 9 (i3 (t + 1)) r j = G r j := fun r j h => sm_up_ne (by omega)
  have c1 := g (wl + 1) p (by omega)
  have c3 := g (wl + 3) p (by omega)
  rw [m_93 hb hs hw hl, hp, s_4]
  cases z
  · rw [show bi false = i3 0 from rfl] at hz
    simp (disch := omega) only [i3_add, i3_mul, i3_sub, i3_m1, i3_lt, i3_le, i3_eq, m1_lt, lt_m1, m1_le, le_m1, i3_nm1, m1_ni3, i3_cl, i3_in, i3_or, i3_and, i3_xor, i3_shl, i3_shr, sh_tb, tb_eq0, gd_tt, aI_o, aV_o, aL_o, aR_o, zd_0, zd_1, if_true, if_false, ite_self, eq_self, Bool.true_eq_false, Bool.false_eq_true, bi_0, bi_1, bi_zd, Nat.not_lt_zero, a1, ht, h_93_45 hb hs hw hl, c1, c3, a3, hz, show ¬ (6 : Nat) = 3 by decide, show ¬ (6 : Nat) = 4 by decide, show ¬ (6 : Nat) = 5 by decide, show ¬ (6 : Nat) = 7 by decide]
  · rw [show bi true = i3 1 from rfl] at hz
    simp (disch := omega) only [i3_add, i3_mul, i3_sub, i3_m1, i3_lt, i3_le, i3_eq, m1_lt, lt_m1, m1_le, le_m1, i3_nm1, m1_ni3, i3_cl, i3_in, i3_or, i3_and, i3_xor, i3_shl, i3_shr, sh_tb, tb_eq0, gd_tt, aI_o, aV_o, aL_o, aR_o, zd_0, zd_1, if_true, if_false, ite_self, eq_self, Bool.true_eq_false, Bool.false_eq_true, bi_0, bi_1, bi_zd, Nat.not_lt_zero, a1, ht, h_93_45 hb hs hw hl, c1, c3, a3, hz, show ¬ (6 : Nat) = 3 by decide, show ¬ (6 : Nat) = 4 by decide, show ¬ (6 : Nat) = 5 by decide, show ¬ (6 : Nat) = 7 by decide, show ¬ (1 : Nat) = 0 by decide]
end TURN
/-! the model's -/
theorem s_269 {d x : Nat} {V : pV} {G : sm_G} {L : sm_L} {e t : Nat} (he : e < 4) (ht : G 329 e = i3 t) (ht2 : t ≤ 60) : sm_cv0 (d + 1) 269 342 (RR V) [.ref 156, .int (i3 e)] (x, G, L) = if t = 60 then oI (i3 0) x (sm_up (sm_up G 330 e (i3 1)) (315 + e) 5 (i3 1)) L else oI (i3 1) x (sm_up G 329 e (i3 (t + 1))) L := by
  rw [m_269]
  simp (disch := omega) only [i3_add, i3_mul, i3_sub, i3_m1, i3_lt, i3_le, i3_eq, m1_lt, lt_m1, m1_le, le_m1, i3_nm1, m1_ni3, i3_cl, i3_in, i3_or, i3_and, i3_xor, i3_shl, i3_shr, sh_tb, tb_eq0, gd_tt, aI_o, aV_o, aL_o, aR_o, zd_0, zd_1, if_true, if_false, ite_self, eq_self, Bool.true_eq_false, Bool.false_eq_true, bi_0, bi_1, bi_zd, Nat.not_lt_zero, rr_165, ldr_165, kr_165, nr_165, rr_174, ldr_174, kr_174, nr_174, rr_183, ldr_183, kr_183, nr_183, rr_194, ldr_194, kr_194, nr_194, rr_205, ldr_205, kr_205, nr_205, rr_218, ldr_218, kr_218, nr_218, rr_231, ldr_231, kr_231, nr_231, rr_236, ldr_236, kr_236, nr_236, rr_242, ldr_242, kr_242, nr_242, rr_247, ldr_247, kr_247, nr_247, rr_252, ldr_252, kr_252, nr_252, rr_265, ldr_265, kr_265, nr_265, rr_278, ldr_278, kr_278, nr_278, rr_282, ldr_282, kr_282, nr_282, rr_309, ldr_309, kr_309, nr_309, rr_314, ldr_314, kr_314, nr_314, rr_319, ldr_319, kr_319, nr_319, rr_332, ldr_332, kr_332, nr_332, ht]
theorem s_273 {d x : Nat} {V : pV} {G : sm_G} {L : sm_L} {e h s f0 f1 u : Nat} (he : e < 4) (hh : G 327 e = i3 h) (hh2 : h < 8) (hs : s < 1000) : sm_cv0 (d + 1) 273 342 (RR V) [.ref 156, .int (i3 e), .int (i3 s), .int (i3 f0), .int (i3 f1), .int (i3 u)] (x, G, L) = oV x (sm_up (sm_up (sm_up (sm_up (sm_up (sm_up G 327 e (i3 (h + 1))) (320 + e) (4 * h) (i3 s)) (320 + e) (4 * h + 1) (i3 f0)) (320 + e) (4 * h + 2) (i3 f1)) (320 + e) (4 * h + 3) (i3 u)) 326 e (i3 f0)) L := by
  rw [m_273]
  simp (disch := omega) only [i3_add, i3_mul, i3_sub, i3_m1, i3_lt, i3_le, i3_eq, m1_lt, lt_m1, m1_le, le_m1, i3_nm1, m1_ni3, i3_cl, i3_in, i3_or, i3_and, i3_xor, i3_shl, i3_shr, sh_tb, tb_eq0, gd_tt, aI_o, aV_o, aL_o, aR_o, zd_0, zd_1, if_true, if_false, ite_self, eq_self, Bool.true_eq_false, Bool.false_eq_true, bi_0, bi_1, bi_zd, Nat.not_lt_zero, rr_165, ldr_165, kr_165, nr_165, rr_174, ldr_174, kr_174, nr_174, rr_183, ldr_183, kr_183, nr_183, rr_194, ldr_194, kr_194, nr_194, rr_205, ldr_205, kr_205, nr_205, rr_218, ldr_218, kr_218, nr_218, rr_231, ldr_231, kr_231, nr_231, rr_236, ldr_236, kr_236, nr_236, rr_242, ldr_242, kr_242, nr_242, rr_247, ldr_247, kr_247, nr_247, rr_252, ldr_252, kr_252, nr_252, rr_265, ldr_265, kr_265, nr_265, rr_278, ldr_278, kr_278, nr_278, rr_282, ldr_282, kr_282, nr_282, rr_309, ldr_309, kr_309, nr_309, rr_314, ldr_314, kr_314, nr_314, rr_319, ldr_319, kr_319, nr_319, rr_332, ldr_332, kr_332, nr_332, hh]
