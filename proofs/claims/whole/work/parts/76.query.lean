theorem s_49 {d x : Nat} {V : pV} {G : sm_G} {L : sm_L} {K : Nat} {T P : pT} {v w u : Int32} (hV : okV V) (hc : cS G V.1 T) (hp : cP G (V.1 + 1) T P K) (hT : okT T) (hP : okP T P) (hK : K < 2 ^ sl T) (hh : hHr G T P K) :
    ∃ G', (sm_cv0 (d + 5) 49 342 (RR V) [.ref 1, .int v, .int w, .int u] (x, G, L) = if (¬ v < i3 0 ∧ v < i3 (sl T)) ∧ (¬ w < i3 0 ∧ w < i3 (sl T)) then (if ¬ u < i3 0 ∧ u ≤ i3 300 then oI (mi (ls T (tB T P K) (dat T P) v.toNatClampNeg w.toNatClampNeg u.toNatClampNeg (u.toNatClampNeg + 1))) x G' L else rfC 2 x G L) else rfC 0 x G L) ∧ (∀ r k, r < 55 ∨ 59 < r → r ≠ 62 → ¬ (r = 1 ∧ k = 17) → G' r k = G r k) ∧ (∀ k, G' 58 k = G 58 k) ∧ hHr G' T P K := by
  have hB := hT.gb
  obtain ⟨G', f1, f2, f3, f4, f5⟩ := s_15 (d := d) (x := x) (L := L) (V := V) hV hc hp hT hP hK hh
  have hsl := pS_lt (hV1 hV)
  have hc' : cS G' V.1 T := hc.keep (fun r k h => by unfold inC at h; exact f2 r k (by have := pS_lt (hV1 hV); omega) (by omega))
  have e47 := s_47 (d := d + 2) (x := x) (L := L) (v := v) (w := w) hc.gsl hV
  first | rw [m_49 hV, e47] | rw [m_49, e47]
  by_cases h : (¬ v < i3 0 ∧ v < i3 (sl T)) ∧ (¬ w < i3 0 ∧ w < i3 (sl T))
  · rw [if_pos h]
    simp only [if_pos h, aV_o]
    rw [s_38]
    by_cases h2 : ¬ u < i3 0 ∧ u ≤ i3 300
    · rw [if_pos h2]
      simp only [if_pos h2, aV_o]
      rw [f1]
      obtain ⟨i, rfl, hi⟩ := (neg_or v).resolve_left h.1.1
      obtain ⟨b, rfl, hb⟩ := (neg_or w).resolve_left h.2.1
      obtain ⟨m, rfl, hm⟩ := (neg_or u).resolve_left h2.1
      have h9 := h.1.2
      rw [i3_lt (by omega) (by omega)] at h9
      have h7 := h.2.2
      rw [i3_lt (by omega) (by omega)] at h7
      have h8 := h2.2
      rw [i3_le (by omega) (by omega)] at h8
      obtain ⟨g, k1, k2⟩ := s_163 (d := d + 1) (x := x) (L := L) (V := V) (G := G') (a := i) (b := b) (e := m) (hV1 hV) hc' hT (f5.cw hT hP) (by omega) (by omega) (by omega)
      refine ⟨g, ?_, fun r k q1 q2 q3 => by rw [k2 r k q2]; exact f2 r k q1 q3, fun k => by rw [k2 58 k (by decide)]; exact f3 k, Or.inr ⟨by rw [k2 1 17 (by decide)]; exact f4, fun m hm => by rw [k2 55 m (by decide), k2 56 m (by decide), k2 57 m (by decide)]; exact f5 m hm⟩⟩
      rw [i3_cl (by omega), i3_cl (by omega), i3_cl (by omega)]
      simp (disch := omega) only [i3_add, i3_mul, i3_sub, i3_m1, i3_lt, i3_le, i3_eq, m1_lt, lt_m1, m1_le, le_m1, i3_nm1, m1_ni3, i3_cl, i3_in, i3_or, i3_and, i3_xor, i3_shl, i3_shr, sh_tb, tb_eq0, gd_tt, aI_o, aV_o, aL_o, aR_o, zd_0, zd_1, if_true, if_false, ite_self, eq_self, Bool.true_eq_false, Bool.false_eq_true, bi_0, bi_1, bi_zd, Nat.not_lt_zero, aR_o, k_54, k1]
    · rw [if_neg h2]
      simp only [if_neg h2]
      exact ⟨G, rfl, fun _ _ _ _ _ => rfl, fun _ => rfl, hh⟩
  · rw [if_neg h]
    simp only [if_neg h]
    exact ⟨G, rfl, fun _ _ _ _ _ => rfl, fun _ => rfl, hh⟩
