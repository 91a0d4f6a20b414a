theorem l_114 {d x : Nat} {V : pV} {G : sm_G} {L : sm_L} {T P : pT} {K : Nat} {t dm : Nat → Nat} {a m b last m2 : Nat} (hm : mH G T P K) (hT : okT T) (hP : okP T P) (hw : mW G t dm) (hl : last < 301) (ht : ∀ j, j < 301 → t j < 2 ^ sl T) (ha : a < 8) (hm2 : m ≤ m2) (h2 : m2 < last) (hab : (gB T t dm b last m).testBit a = true) :
    ∀ n g, m + n ≤ last → (∀ r k, r ≠ 331 → g r k = G r k) → (∀ j, m + n ≤ j → j ≤ last → g 331 j = i3 (gB T t dm b last j)) → ∃ G', hD (d + 1) 285 114 [.ref 156, .int (i3 a), .int (i3 m), .null, .int (i3 m2), .null, .int (mi (m + n)), .null, .null] 342 (RR V) x g L = oI (i3 (wlk T t dm (gB T t dm b last) (m2 - m) (m + 1) a)) x G' L ∧ ∀ r k, r ≠ 331 → G' r k = G r k := by
  intro n
  induction n with
  | zero =>
    intro g h1 h3 h4
    have hm' : mH g T P K := hm.keep hT hP (fun r k h => h3 r k (by unfold inM at h; omega))
    have hw' : mW g t dm := fun m hm => by rw [h3 307 _ (by decide), h3 308 _ (by decide)]; exact hw m hm
    refine ⟨g, ?_, h3⟩
    have e221 := l_221 (d := d) (x := x) (L := L) (V := V) (m := m) hm' hT hw' hl h2 (fun j h5 h6 => h4 j (by omega) h6) (m2 - m) m a (by omega) (Nat.le_refl _) ha hab
    rw [h_285_114, Nat.add_zero]
    by_cases q : m = 0
    · subst q
      rw [mi_zero]
      simp (disch := omega) only [i3_add, i3_mul, i3_sub, i3_m1, i3_lt, i3_le, i3_eq, m1_lt, lt_m1, m1_le, le_m1, i3_nm1, m1_ni3, i3_cl, i3_in, i3_or, i3_and, i3_xor, i3_shl, i3_shr, sh_tb, tb_eq0, gd_tt, aI_o, aV_o, aL_o, aR_o, zd_0, zd_1, if_true, if_false, ite_self, eq_self, Bool.true_eq_false, Bool.false_eq_true, bi_0, bi_1, bi_zd, Nat.not_lt_zero, e221]
    · rw [mi_s q]
      simp (disch := omega) only [i3_add, i3_mul, i3_sub, i3_m1, i3_lt, i3_le, i3_eq, m1_lt, lt_m1, m1_le, le_m1, i3_nm1, m1_ni3, i3_cl, i3_in, i3_or, i3_and, i3_xor, i3_shl, i3_shr, sh_tb, tb_eq0, gd_tt, aI_o, aV_o, aL_o, aR_o, zd_0, zd_1, if_true, if_false, ite_self, eq_self, Bool.true_eq_false, Bool.false_eq_true, bi_0, bi_1, bi_zd, Nat.not_lt_zero, show m - 1 < m by omega, e221]
  | succ n ih =>
    intro g h1 h3 h4
    have hm' : mH g T P K := hm.keep hT hP (fun r k h => h3 r k (by unfold inM at h; omega))
    have hw' : mW g t dm := fun m hm => by rw [h3 307 _ (by decide), h3 308 _ (by decide)]; exact hw m hm
    rw [h_285_114, show m + (n + 1) = m + n + 1 from rfl, mi_succ]
    simp (disch := omega) only [i3_add, i3_mul, i3_sub, i3_m1, i3_lt, i3_le, i3_eq, m1_lt, lt_m1, m1_le, le_m1, i3_nm1, m1_ni3, i3_cl, i3_in, i3_or, i3_and, i3_xor, i3_shl, i3_shr, sh_tb, tb_eq0, gd_tt, aI_o, aV_o, aL_o, aR_o, zd_0, zd_1, if_true, if_false, ite_self, eq_self, Bool.true_eq_false, Bool.false_eq_true, bi_0, bi_1, bi_zd, Nat.not_lt_zero, show ¬ m + n < m by omega]
    have hms : mH (sm_up g 331 (m + n) (i3 0)) T P K := hm'.keep hT hP (fun r k h => sm_up_ne (by unfold inM at h; omega))
    have hws : mW (sm_up g 331 (m + n) (i3 0)) t dm := fun m hm => by rw [sm_up_ne (by omega), sm_up_ne (by omega)]; exact hw' m hm
    obtain ⟨G', f1, f2, f3⟩ := l_131 (d := d) (x := x) (L := L) (V := V) (a := a) (m := m) (b := b) (m2 := m2) hms hT hP hws hl (show m + n < last by omega) (ht _ (by omega)) (by rw [sm_up_ne (by omega)]; exact h4 (m + n + 1) (by omega) (by omega)) (sl T) 0 (sm_up g 331 (m + n) (i3 0)) (by omega) (fun _ _ _ => rfl) (sm_up_same _ _ _ _)
    rw [f1]
    refine ih G' (by omega) (fun r k h => ?_) (fun j h5 h6 => ?_)
    · rw [f2 r k (by omega), sm_up_ne (by omega)]
      exact h3 r k h
    · by_cases q : j = m + n
      · subst q
        exact f3
      · rw [f2 331 j (by omega), sm_up_ne (by omega)]
        exact h4 j (by omega) h6
