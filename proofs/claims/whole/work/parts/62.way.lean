/-- which room one is in, and 1, on the way from a to b -/
def way (T : pT) (t dm : Nat → Nat) (a m b m2 : Nat) : Nat :=
  if fs T t dm b (301 - m) m (1 <<< a &&& t m) = 0 then 0 else if m2 < m then 0 else if m2 + 1 < fs T t dm b (301 - m) m (1 <<< a &&& t m) then wlk T t dm (gB T t dm b (fs T t dm b (301 - m) m (1 <<< a &&& t m) - 1)) (m2 - m) (m + 1) a + 1 else b + 1
/-- one who comes there stands where looking back reaches -/
theorem way_0 {T : pT} {t dm : Nat → Nat} {a b m l : Nat} (h : fs T t dm b (301 - m) m (1 <<< a &&& t m) = l + 1) : m ≤ l ∧ l < m + (301 - m) ∧ (gB T t dm b l m).testBit a = true := by
  obtain ⟨h1, h2, h3⟩ := fs_rch T t dm b _ _ _ _ h
  refine ⟨h1, h2, ?_⟩
  have hb := rch_one T t dm b l (l - m) m (1 <<< a &&& t m) (by omega) (by rw [Nat.and_assoc, Nat.and_self])
  have hg := gbk_sub T t dm (1 <<< b) 0 l (l - m)
  rw [show l - (l - m) = m by omega] at hg
  rw [Nat.and_assoc, hg, Nat.and_comm (1 <<< a) (gbk T t dm (1 <<< b) 0 l (l - m)), one_and, one_and] at hb
  show (gbk T t dm (1 <<< b) 0 l (l - m)).testBit a = true
  cases q : (gbk T t dm (1 <<< b) 0 l (l - m)).testBit a
  · rw [hb.mpr q] at h3; cases h3
  · rfl
theorem s_161 {d x : Nat} {V : pV} {G : sm_G} {L : sm_L} {s : Nat} {T : pT} {t dm : Nat → Nat} {a b m m2 : Nat} (hs : pS s) (hc : cS G s T) (hT : okT T) (hw : cW G t dm) (ha : a < 8) (hb : b < 8) (hm : m < 301) (hm2 : m2 < 301) :
    ∃ G', sm_cv0 (d + 4) 161 342 (RR V) [.ref 61, .ref s, .ref 54, .int (i3 a), .int (i3 m), .int (i3 b), .int (i3 m2)] (x, G, L) = oI (mi (way T t dm a m b m2)) x G' L ∧ ∀ r k, r ≠ 62 → G' r k = G r k := by
  have e160 := s_160 (d := d) (x := x) (L := L) (V := V) hs hc hT hw (show (0 : Nat) < 256 by decide) ha hb hm
  simp only [Nat.or_zero] at e160
  have hf := fs_le T t dm b (301 - m) m (1 <<< a &&& t m)
  rw [m_161 hs, e160]
  unfold way
  cases q : fs T t dm b (301 - m) m (1 <<< a &&& t m) with
  | zero =>
    refine ⟨G, ?_, fun _ _ _ => rfl⟩
    simp (disch := omega) only [i3_add, i3_mul, i3_sub, i3_m1, i3_lt, i3_le, i3_eq, m1_lt, lt_m1, m1_le, le_m1, i3_nm1, m1_ni3, i3_cl, i3_in, i3_or, i3_and, i3_xor, i3_shl, i3_shr, sh_tb, tb_eq0, gd_tt, aI_o, aV_o, aL_o, aR_o, zd_0, zd_1, if_true, if_false, ite_self, eq_self, Bool.true_eq_false, Bool.false_eq_true, bi_0, bi_1, bi_zd, Nat.not_lt_zero, mi_zero]
  | succ l =>
    have w0 := way_0 q
    by_cases q2 : m2 < m
    · refine ⟨G, ?_, fun _ _ _ => rfl⟩
      simp (disch := omega) only [i3_add, i3_mul, i3_sub, i3_m1, i3_lt, i3_le, i3_eq, m1_lt, lt_m1, m1_le, le_m1, i3_nm1, m1_ni3, i3_cl, i3_in, i3_or, i3_and, i3_xor, i3_shl, i3_shr, sh_tb, tb_eq0, gd_tt, aI_o, aV_o, aL_o, aR_o, zd_0, zd_1, if_true, if_false, ite_self, eq_self, Bool.true_eq_false, Bool.false_eq_true, bi_0, bi_1, bi_zd, Nat.not_lt_zero, mi_succ, mi_zero, q2, Nat.succ_ne_zero]
    · by_cases q3 : m2 < l
      · obtain ⟨ob1, ob2, ob3⟩ := one9 b hb
        obtain ⟨G', f1, f2, f3⟩ := s_162 (d := d + 1) (x := x) (L := L) (V := V) (R := 1 <<< b) (also := 0) (last := l) (m := m) hs hc hT hw ob1 (by decide) (by omega) w0.1
        refine ⟨G', ?_, f2⟩
        have hc' : cS G' s T := hc.keep (fun r k h => f2 r k (by unfold inC at h; have := pS_lt hs; omega))
        have hw' : cW G' t dm := fun m hm => by rw [f2 56 _ (by decide), f2 57 _ (by decide)]; exact hw m hm
        have e65 := l_161 (d := d + 1) (x := x) (L := L) (V := V) (m2 := m2) hs hc' hT hw' (by omega) q3 m f3 (m2 - m) m a (by omega) (Nat.le_refl _) ha w0.2.2
        simp (disch := omega) only [i3_add, i3_mul, i3_sub, i3_m1, i3_lt, i3_le, i3_eq, m1_lt, lt_m1, m1_le, le_m1, i3_nm1, m1_ni3, i3_cl, i3_in, i3_or, i3_and, i3_xor, i3_shl, i3_shr, sh_tb, tb_eq0, gd_tt, aI_o, aV_o, aL_o, aR_o, zd_0, zd_1, if_true, if_false, ite_self, eq_self, Bool.true_eq_false, Bool.false_eq_true, bi_0, bi_1, bi_zd, Nat.not_lt_zero, mi_succ, q2, q3, Nat.succ_ne_zero, show m2 + 1 < l + 1 by omega, f1, e65, Nat.add_sub_cancel]
      · refine ⟨G, ?_, fun _ _ _ => rfl⟩
        simp (disch := omega) only [i3_add, i3_mul, i3_sub, i3_m1, i3_lt, i3_le, i3_eq, m1_lt, lt_m1, m1_le, le_m1, i3_nm1, m1_ni3, i3_cl, i3_in, i3_or, i3_and, i3_xor, i3_shl, i3_shr, sh_tb, tb_eq0, gd_tt, aI_o, aV_o, aL_o, aR_o, zd_0, zd_1, if_true, if_false, ite_self, eq_self, Bool.true_eq_false, Bool.false_eq_true, bi_0, bi_1, bi_zd, Nat.not_lt_zero, mi_succ, q2, q3, Nat.succ_ne_zero, show ¬ m2 + 1 < l + 1 by omega]
