theorem s_256 {d x : Nat} {V : pV} {G : sm_G} {L : sm_L} {K : Nat} {T P : pT} {v w : Int32} (hm : mH G T P K) (hT : okT T) (hP : okP T P) (hK : K < 1024) (hw : ∀ k, k < sl T → G 305 k = i3 k) :
    ∃ G', (sm_cv0 (d + 4) 256 342 (RR V) [.ref 156, .int v, .int w] (x, G, L) = if ¬ v < i3 0 ∧ v < i3 (sl T) then (if ¬ w < i3 0 ∧ w ≤ i3 300 then oI (bi ((tB T P K w.toNatClampNeg).testBit v.toNatClampNeg)) x G' L else oI (i3 0) x (noted G 2 2) L) else oI (i3 0) x (noted G 1 0) L) ∧ (∀ r k, r ≠ 306 → r ≠ 307 → r ≠ 308 → ¬ (r = 156 ∧ (k = 0 ∨ k = 41)) → G' r k = G r k) ∧ G' 156 0 = i3 0 := by
  have hB := hT.gb
  have g0 : ∀ r k, ¬ (r = 156 ∧ k = 0) → sm_up G 156 0 (i3 0) r k = G r k := fun r k h => sm_up_ne (by omega)
  have g00 : sm_up G 156 0 (i3 0) 156 0 = i3 0 := sm_up_same _ _ _ _
  have hn1 : noted G 1 0 = sm_up (sm_up (sm_up G 156 0 (i3 0)) 156 0 (i3 1)) 158 0 (sm_up G 156 0 (i3 0) 158 0 + i3 1) := rfl
  have hn2 : noted G 2 2 = sm_up (sm_up (sm_up G 156 0 (i3 0)) 156 0 (i3 2)) 158 2 (sm_up G 156 0 (i3 0) 158 2 + i3 1) := rfl
  rw [hn1, hn2, m_256]
  generalize sm_up G 156 0 (i3 0) = g at g0 g00 ⊢
  have hmg : mH g T P K := hm.keep hT hP (fun r k h => g0 r k (by unfold inM at h; omega))
  have b1 := s_219b (d := d + 2) (x := x) (L := L) (V := V) (a := 1) (k := 0) (by decide) (by decide) (by decide) g00
  have b2 := s_219b (d := d + 2) (x := x) (L := L) (V := V) (a := 2) (k := 2) (by decide) (by decide) (by decide) g00
  have o1 := fun v2 v3 => s_219o (d := d + 2) (x := x) (L := L) (V := V) (v2 := v2) (v3 := v3) g00
  obtain ⟨g2, f1, f2, hW, _, _⟩ := s_257 (d := d) (x := x) (L := L) (V := V) hmg hT hP hK (fun k hk => by rw [g0 305 k (by omega)]; exact hw k hk)
  have hm2 : mH g2 T P K := hmg.keep hT hP (fun r k h => f2 r k (by unfold inM at h; omega) (by unfold inM at h; omega) (by unfold inM at h; omega) (by unfold inM at h; omega))
  refine ⟨g2, ?_, fun r k h1 h2 h3 h4 => by rw [f2 r k h1 h2 h3 (by omega), g0 r k (by omega)], by rw [f2 156 0 (by decide) (by decide) (by decide) (by decide), g00]⟩
  rw [s_248 hmg.gsl (by omega)]
  by_cases h : ¬ v < i3 0 ∧ v < i3 (sl T)
  · rw [decide_eq_true h, if_pos h, show bi true = i3 1 from rfl]
    simp (disch := omega) only [i3_add, i3_mul, i3_sub, i3_m1, i3_lt, i3_le, i3_eq, m1_lt, lt_m1, m1_le, le_m1, i3_nm1, m1_ni3, i3_cl, i3_in, i3_or, i3_and, i3_xor, i3_shl, i3_shr, sh_tb, tb_eq0, gd_tt, aI_o, aV_o, aL_o, aR_o, zd_0, zd_1, if_true, if_false, ite_self, eq_self, Bool.true_eq_false, Bool.false_eq_true, bi_0, bi_1, bi_zd, Nat.not_lt_zero, o1, show ¬ (1 : Nat) = 0 by decide]
    rw [h_256_27, s_253]
    by_cases h2 : ¬ w < i3 0 ∧ w ≤ i3 300
    · rw [decide_eq_true h2, if_pos h2, show bi true = i3 1 from rfl]
      obtain ⟨i, rfl, hi⟩ := (neg_or v).resolve_left h.1
      obtain ⟨m, rfl, hmm⟩ := (neg_or w).resolve_left h2.1
      have h9 := h.2
      rw [i3_lt (by omega) (by omega)] at h9
      have h8 := h2.2
      rw [i3_le (by omega) (by omega)] at h8
      have e307 := (hW m (by omega)).1
      have ha := (hW m (by omega)).2.2.1
      simp (disch := omega) only [i3_add, i3_mul, i3_sub, i3_m1, i3_lt, i3_le, i3_eq, m1_lt, lt_m1, m1_le, le_m1, i3_nm1, m1_ni3, i3_cl, i3_in, i3_or, i3_and, i3_xor, i3_shl, i3_shr, sh_tb, tb_eq0, gd_tt, aI_o, aV_o, aL_o, aR_o, zd_0, zd_1, if_true, if_false, ite_self, eq_self, Bool.true_eq_false, Bool.false_eq_true, bi_0, bi_1, bi_zd, Nat.not_lt_zero, o1, show ¬ (1 : Nat) = 0 by decide]
      rw [h_256_50, f1]
      cases q : (tB T P K m).testBit i
      · simp (disch := omega) only [i3_add, i3_mul, i3_sub, i3_m1, i3_lt, i3_le, i3_eq, m1_lt, lt_m1, m1_le, le_m1, i3_nm1, m1_ni3, i3_cl, i3_in, i3_or, i3_and, i3_xor, i3_shl, i3_shr, sh_tb, tb_eq0, gd_tt, aI_o, aV_o, aL_o, aR_o, zd_0, zd_1, if_true, if_false, ite_self, eq_self, Bool.true_eq_false, Bool.false_eq_true, bi_0, bi_1, bi_zd, Nat.not_lt_zero, tb_eq1, e307, q]
        rfl
      · simp (disch := omega) only [i3_add, i3_mul, i3_sub, i3_m1, i3_lt, i3_le, i3_eq, m1_lt, lt_m1, m1_le, le_m1, i3_nm1, m1_ni3, i3_cl, i3_in, i3_or, i3_and, i3_xor, i3_shl, i3_shr, sh_tb, tb_eq0, gd_tt, aI_o, aV_o, aL_o, aR_o, zd_0, zd_1, if_true, if_false, ite_self, eq_self, Bool.true_eq_false, Bool.false_eq_true, bi_0, bi_1, bi_zd, Nat.not_lt_zero, tb_eq1, e307, q]
        rfl
    · rw [decide_eq_false h2, if_neg h2, show bi false = i3 0 from rfl]
      simp (disch := omega) only [i3_add, i3_mul, i3_sub, i3_m1, i3_lt, i3_le, i3_eq, m1_lt, lt_m1, m1_le, le_m1, i3_nm1, m1_ni3, i3_cl, i3_in, i3_or, i3_and, i3_xor, i3_shl, i3_shr, sh_tb, tb_eq0, gd_tt, aI_o, aV_o, aL_o, aR_o, zd_0, zd_1, if_true, if_false, ite_self, eq_self, Bool.true_eq_false, Bool.false_eq_true, bi_0, bi_1, bi_zd, Nat.not_lt_zero, b2, show ¬ (1 : Nat) = 0 by decide]
  · rw [decide_eq_false h, if_neg h, show bi false = i3 0 from rfl]
    simp (disch := omega) only [i3_add, i3_mul, i3_sub, i3_m1, i3_lt, i3_le, i3_eq, m1_lt, lt_m1, m1_le, le_m1, i3_nm1, m1_ni3, i3_cl, i3_in, i3_or, i3_and, i3_xor, i3_shl, i3_shr, sh_tb, tb_eq0, gd_tt, aI_o, aV_o, aL_o, aR_o, zd_0, zd_1, if_true, if_false, ite_self, eq_self, Bool.true_eq_false, Bool.false_eq_true, bi_0, bi_1, bi_zd, Nat.not_lt_zero, b1, show ¬ (1 : Nat) = 0 by decide]
theorem s_47 {d x : Nat} {V : pV} {G : sm_G} {L : sm_L} {v w n : Int32} (hn : G V.1 9 = n) (hV : okV V) : sm_cv0 (d + 2) 47 342 (RR V) [.ref 1, .int v, .int w] (x, G, L) = if (¬ v < i3 0 ∧ v < n) ∧ (¬ w < i3 0 ∧ w < n) then oV x G L else rfC 0 x G L := by
  rw [m_47, s_41 hn hV]
  by_cases h : ¬ v < i3 0 ∧ v < n
  · rw [if_pos h]
    simp only [aV_o]
    rw [s_41 hn hV]
    by_cases h2 : ¬ w < i3 0 ∧ w < n
    · rw [if_pos h2, if_pos ⟨h, h2⟩]
      rfl
    · rw [if_neg h2, if_neg (fun z => h2 z.2)]
      rfl
  · rw [if_neg h, if_neg (fun z => h z.1)]
    rfl
