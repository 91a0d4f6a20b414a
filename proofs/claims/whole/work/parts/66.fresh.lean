/-! the class's hours, laid anew when stale -/
def hOk (G : sm_G) (T P : pT) (K : Nat) : Prop := ∀ m, m < 301 → G 55 m = i3 (aB T P K m) ∧ G 56 m = i3 (tB T P K m) ∧ G 57 m = i3 (dat T P m)
def hHr (G : sm_G) (T P : pT) (K : Nat) : Prop := G 1 17 = i3 1 ∨ (G 1 17 = i3 0 ∧ hOk G T P K)
theorem hOk.cw {G : sm_G} {T P : pT} {K : Nat} (h : hOk G T P K) (hT : okT T) (hP : okP T P) : cW G (tB T P K) (dat T P) := fun m hm => ⟨(h m hm).2.1, (h m hm).2.2, rmB_lt T hT _, dat_lt hT hP m⟩
theorem s_15 {d x : Nat} {V : pV} {G : sm_G} {L : sm_L} {K : Nat} {T P : pT} (hV : okV V) (hc : cS G V.1 T) (hp : cP G (V.1 + 1) T P K) (hT : okT T) (hP : okP T P) (hK : K < 2 ^ sl T) (hh : hHr G T P K) :
    ∃ G', sm_cv0 (d + 4) 15 342 (RR V) [.ref 1] (x, G, L) = oR 54 x G' L ∧ (∀ r k, r < 55 ∨ 59 < r → ¬ (r = 1 ∧ k = 17) → G' r k = G r k) ∧ (∀ k, G' 58 k = G 58 k) ∧ G' 1 17 = i3 0 ∧ hOk G' T P K := by
  rw [m_15]
  rcases hh with h1 | ⟨h1, h2⟩
  · obtain ⟨G', f1, f2, f3, f4, f5, f6⟩ := s_78 (d := d) (x := x) (L := L) (V := V) (hV1 hV) hc hp hT hP hK
    refine ⟨sm_up G' 1 17 (i3 0), ?_, fun r k h h3 => ?_, fun k => ?_, sm_up_same _ _ _ _, fun m hm => ?_⟩
    · rw [h1, f1]
      simp (disch := omega) only [i3_add, i3_mul, i3_sub, i3_m1, i3_lt, i3_le, i3_eq, m1_lt, lt_m1, m1_le, le_m1, i3_nm1, m1_ni3, i3_cl, i3_in, i3_or, i3_and, i3_xor, i3_shl, i3_shr, sh_tb, tb_eq0, gd_tt, aI_o, aV_o, aL_o, aR_o, zd_0, zd_1, if_true, if_false, ite_self, eq_self, Bool.true_eq_false, Bool.false_eq_true, bi_0, bi_1, bi_zd, Nat.not_lt_zero, show ¬ (1 : Nat) = 0 by decide]
    · rw [sm_up_ne (by omega)]
      exact f2 r k h
    · rw [sm_up_ne (by omega)]
      exact f3 k
    · rw [sm_up_ne (by omega), sm_up_ne (by omega), sm_up_ne (by omega)]
      exact ⟨f4 m hm, f5 m hm, f6 m hm⟩
  · refine ⟨G, ?_, fun _ _ _ _ => rfl, fun _ => rfl, h1, h2⟩
    rw [h1]
    simp (disch := omega) only [i3_add, i3_mul, i3_sub, i3_m1, i3_lt, i3_le, i3_eq, m1_lt, lt_m1, m1_le, le_m1, i3_nm1, m1_ni3, i3_cl, i3_in, i3_or, i3_and, i3_xor, i3_shl, i3_shr, sh_tb, tb_eq0, gd_tt, aI_o, aV_o, aL_o, aR_o, zd_0, zd_1, if_true, if_false, ite_self, eq_self, Bool.true_eq_false, Bool.false_eq_true, bi_0, bi_1, bi_zd, Nat.not_lt_zero]
