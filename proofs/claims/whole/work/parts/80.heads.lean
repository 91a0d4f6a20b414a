theorem s_286 {d x : Nat} {V : pV} {G : sm_G} {L : sm_L} {K : Nat} {T P : pT} {v w u : Int32} (hm : mH G T P K) (hT : okT T) (hP : okP T P) (hK : K < 1024) (hw : ∀ k, k < sl T → G 305 k = i3 k) :
    ∃ G', (sm_cv0 (d + 5) 286 342 (RR V) [.ref 156, .int v, .int w, .int u] (x, G, L) = if (¬ v < i3 0 ∧ v < i3 (sl T)) ∧ (¬ w < i3 0 ∧ w < i3 (sl T)) then (if ¬ u < i3 0 ∧ u ≤ i3 300 then oI (mi (ls T (tB T P K) (dat T P) v.toNatClampNeg w.toNatClampNeg u.toNatClampNeg (u.toNatClampNeg + 1))) x G' L else oI (i3 0) x (noted G 2 2) L) else oI (i3 0) x (noted G 1 0) L) ∧ (∀ r k, r ≠ 306 → r ≠ 307 → r ≠ 308 → ¬ (r = 156 ∧ (k = 0 ∨ k = 41)) → G' r k = G r k) ∧ G' 156 0 = i3 0 := by
  have hB := hT.gb
  have g0 : ∀ r k, ¬ (r = 156 ∧ k = 0) → sm_up G 156 0 (i3 0) r k = G r k := fun r k h => sm_up_ne (by omega)
  have g00 : sm_up G 156 0 (i3 0) 156 0 = i3 0 := sm_up_same _ _ _ _
  have hn1 : noted G 1 0 = sm_up (sm_up (sm_up G 156 0 (i3 0)) 156 0 (i3 1)) 158 0 (sm_up G 156 0 (i3 0) 158 0 + i3 1) := rfl
  have hn2 : noted G 2 2 = sm_up (sm_up (sm_up G 156 0 (i3 0)) 156 0 (i3 2)) 158 2 (sm_up G 156 0 (i3 0) 158 2 + i3 1) := rfl
  rw [hn1, hn2, m_286]
  generalize sm_up G 156 0 (i3 0) = g at g0 g00 ⊢
  have hmg : mH g T P K := hm.keep hT hP (fun r k h => g0 r k (by unfold inM at h; omega))
  obtain ⟨g2, f1, f2, hW, _, _⟩ := s_257 (d := d + 1) (x := x) (L := L) (V := V) hmg hT hP hK (fun k hk => by rw [g0 305 k (by omega)]; exact hw k hk)
  have hm2 : mH g2 T P K := hmg.keep hT hP (fun r k h => f2 r k (by unfold inM at h; omega) (by unfold inM at h; omega) (by unfold inM at h; omega) (by unfold inM at h; omega))
  refine ⟨g2, ?_, fun r k h1 h2 h3 h4 => by rw [f2 r k h1 h2 h3 (by omega), g0 r k (by omega)], by rw [f2 156 0 (by decide) (by decide) (by decide) (by decide), g00]⟩
  rw [s_282 hmg.gsl (by omega) g00]
  by_cases h : (¬ v < i3 0 ∧ v < i3 (sl T)) ∧ (¬ w < i3 0 ∧ w < i3 (sl T))
  · rw [if_pos h, if_pos h]
    by_cases h2 : ¬ u < i3 0 ∧ u ≤ i3 300
    · rw [if_pos h2, if_pos h2]
      obtain ⟨i, rfl, hi⟩ := (neg_or v).resolve_left h.1.1
      obtain ⟨b, rfl, hb⟩ := (neg_or w).resolve_left h.2.1
      obtain ⟨m, rfl, hmm⟩ := (neg_or u).resolve_left h2.1
      have h9 := h.1.2
      rw [i3_lt (by omega) (by omega)] at h9
      have h7 := h.2.2
      rw [i3_lt (by omega) (by omega)] at h7
      have h8 := h2.2
      rw [i3_le (by omega) (by omega)] at h8
      have e286 := l_286 (d := d + 2) (x := x) (L := L) (V := V) (a := i) (b := b) (e := m) hm2 hT hW (by omega) (by omega) (by omega) (m + 1) (Nat.le_refl _)
      rw [mi_succ] at e286
      rw [i3_cl (by omega), i3_cl (by omega), i3_cl (by omega)]
      simp (disch := omega) only [i3_add, i3_mul, i3_sub, i3_m1, i3_lt, i3_le, i3_eq, m1_lt, lt_m1, m1_le, le_m1, i3_nm1, m1_ni3, i3_cl, i3_in, i3_or, i3_and, i3_xor, i3_shl, i3_shr, sh_tb, tb_eq0, gd_tt, aI_o, aV_o, aL_o, aR_o, zd_0, zd_1, if_true, if_false, ite_self, eq_self, Bool.true_eq_false, Bool.false_eq_true, bi_0, bi_1, bi_zd, Nat.not_lt_zero, f1, e286]
    · rw [if_neg h2, if_neg h2]
      simp (disch := omega) only [i3_add, i3_mul, i3_sub, i3_m1, i3_lt, i3_le, i3_eq, m1_lt, lt_m1, m1_le, le_m1, i3_nm1, m1_ni3, i3_cl, i3_in, i3_or, i3_and, i3_xor, i3_shl, i3_shr, sh_tb, tb_eq0, gd_tt, aI_o, aV_o, aL_o, aR_o, zd_0, zd_1, if_true, if_false, ite_self, eq_self, Bool.true_eq_false, Bool.false_eq_true, bi_0, bi_1, bi_zd, Nat.not_lt_zero, show ¬ (1 : Nat) = 0 by decide]
  · rw [if_neg h, if_neg h]
    simp (disch := omega) only [i3_add, i3_mul, i3_sub, i3_m1, i3_lt, i3_le, i3_eq, m1_lt, lt_m1, m1_le, le_m1, i3_nm1, m1_ni3, i3_cl, i3_in, i3_or, i3_and, i3_xor, i3_shl, i3_shr, sh_tb, tb_eq0, gd_tt, aI_o, aV_o, aL_o, aR_o, zd_0, zd_1, if_true, if_false, ite_self, eq_self, Bool.true_eq_false, Bool.false_eq_true, bi_0, bi_1, bi_zd, Nat.not_lt_zero, show ¬ (1 : Nat) = 0 by decide]
