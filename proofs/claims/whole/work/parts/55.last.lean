theorem mi_pre (n : Nat) : i3 n + m1 = mi n := by
  cases n with
  | zero => decide
  | succ n => rw [i3_m1, mi_succ]
/-- the latest minute, and 1, at which one may start from a and be at b by e -/
def ls (T : pT) (t dm : Nat → Nat) (a b e : Nat) : Nat → Nat
  | 0 => 0
  | n + 1 => if fs T t dm b (e + 1 - n) n (1 <<< a &&& t n) = 0 then ls T t dm a b e n else n + 1
theorem ls_le (T : pT) (t dm : Nat → Nat) (a b e : Nat) : ∀ n, ls T t dm a b e n ≤ n
  | 0 => Nat.le_refl _
  | n + 1 => by
    have h := ls_le T t dm a b e n
    show (if _ then _ else _) ≤ _
    split
    · omega
    · exact Nat.le_refl _
theorem s_163 {d x : Nat} {V : pV} {G : sm_G} {L : sm_L} {s : Nat} {T : pT} {t dm : Nat → Nat} {a b e : Nat} (hs : pS s) (hc : cS G s T) (hT : okT T) (hw : cW G t dm) (ha : a < 8) (hb : b < 8) (he : e < 301) :
    ∃ G', sm_cv0 (d + 3) 163 342 (RR V) [.ref 61, .ref s, .ref 54, .int (i3 a), .int (i3 b), .int (i3 e)] (x, G, L) = oI (mi (ls T t dm a b e (e + 1))) x G' L ∧ ∀ r k, r ≠ 62 → G' r k = G r k := by
  rw [m_163 hs]
  have hsb : 1 <<< b < 256 := by
    rw [Nat.one_shiftLeft]
    exact Nat.pow_lt_pow_right (by decide) hb
  obtain ⟨G', f1, f2, f3⟩ := s_162 (d := d) (x := x) (L := L) (V := V) (R := 1 <<< b) (also := 1 <<< b) (last := e) (m := 0) hs hc hT hw hsb hsb he (Nat.zero_le _)
  refine ⟨G', ?_, f2⟩
  have e1 : shl (i3 1) (i3 b) = i3 (1 <<< b) := i3_shl (by omega)
  have loop : ∀ n, n ≤ e + 1 → hD (d + 2) 163 21 [.ref 61, .null, .null, .int (i3 a), .null, .null, .int (mi n)] 342 (RR V) x G' L = oI (mi (ls T t dm a b e n)) x G' L := by
    intro n
    induction n with
    | zero =>
      intro _
      rw [h_163_21, mi_zero]
      simp (disch := omega) only [i3_add, i3_mul, i3_sub, i3_m1, i3_lt, i3_le, i3_eq, m1_lt, lt_m1, m1_le, le_m1, i3_nm1, m1_ni3, i3_cl, i3_in, i3_or, i3_and, i3_xor, i3_shl, i3_shr, sh_tb, tb_eq0, gd_tt, aI_o, aV_o, aL_o, aR_o, zd_0, zd_1, if_true, if_false, ite_self, eq_self, Bool.true_eq_false, Bool.false_eq_true, bi_0, bi_1, bi_zd, Nat.not_lt_zero]
      rfl
    | succ n ih =>
      intro hn
      have e2 := f3 (e - n) (by omega)
      rw [show e - (e - n) = n by omega] at e2
      have hb := fs_back T t dm b e (e - n) n (1 <<< a &&& t n) (by omega) (by rw [Nat.and_assoc, Nat.and_self])
      rw [show e - n + 1 = e + 1 - n by omega] at hb
      have hg : (1 <<< a &&& t n) &&& gbk T t dm (1 <<< b) (1 <<< b) e (e - n) = 0 ↔ (gbk T t dm (1 <<< b) (1 <<< b) e (e - n)).testBit a = false := by
        have hsub : t n &&& gbk T t dm (1 <<< b) (1 <<< b) e (e - n) = gbk T t dm (1 <<< b) (1 <<< b) e (e - n) := by
          rw [Nat.and_comm]
          cases h : e - n with
          | zero =>
            have : n = e := by omega
            subst this
            show (1 <<< b &&& t n) &&& t n = 1 <<< b &&& t n
            rw [Nat.and_assoc, Nat.and_self]
          | succ k =>
            show ((bhi T (gbk T t dm (1 <<< b) (1 <<< b) e k) (dm (e - k)) (gbk T t dm (1 <<< b) (1 <<< b) e k) ||| 1 <<< b) &&& t (e - k - 1)) &&& t n = (bhi T (gbk T t dm (1 <<< b) (1 <<< b) e k) (dm (e - k)) (gbk T t dm (1 <<< b) (1 <<< b) e k) ||| 1 <<< b) &&& t (e - k - 1)
            rw [show e - k - 1 = n by omega, Nat.and_assoc, Nat.and_self]
        rw [Nat.and_assoc, hsub, Nat.and_comm]
        exact one_and _ _
      rw [hg] at hb
      have ih := ih (by omega)
      have hlt := gbk_lt (T := T) (R := 1 <<< b) (also := 1 <<< b) (dm := dm) (fun m hm => (hw m hm).2.2.1) he (e - n)
      rw [h_163_21, mi_succ]
      show _ = oI (mi (if fs T t dm b (e + 1 - n) n (1 <<< a &&& t n) = 0 then ls T t dm a b e n else n + 1)) x G' L
      cases q : (gbk T t dm (1 <<< b) (1 <<< b) e (e - n)).testBit a
      · rw [if_pos (hb.mpr q)]
        simp (disch := omega) only [i3_add, i3_mul, i3_sub, i3_m1, i3_lt, i3_le, i3_eq, m1_lt, lt_m1, m1_le, le_m1, i3_nm1, m1_ni3, i3_cl, i3_in, i3_or, i3_and, i3_xor, i3_shl, i3_shr, sh_tb, tb_eq0, gd_tt, aI_o, aV_o, aL_o, aR_o, zd_0, zd_1, if_true, if_false, ite_self, eq_self, Bool.true_eq_false, Bool.false_eq_true, bi_0, bi_1, bi_zd, Nat.not_lt_zero, e2, q, mi_pre, ih]
      · have q2 : ¬ fs T t dm b (e + 1 - n) n (1 <<< a &&& t n) = 0 := fun z => by rw [hb.mp z] at q; cases q
        simp (disch := omega) only [i3_add, i3_mul, i3_sub, i3_m1, i3_lt, i3_le, i3_eq, m1_lt, lt_m1, m1_le, le_m1, i3_nm1, m1_ni3, i3_cl, i3_in, i3_or, i3_and, i3_xor, i3_shl, i3_shr, sh_tb, tb_eq0, gd_tt, aI_o, aV_o, aL_o, aR_o, zd_0, zd_1, if_true, if_false, ite_self, eq_self, Bool.true_eq_false, Bool.false_eq_true, bi_0, bi_1, bi_zd, Nat.not_lt_zero, e2, q, q2, mi_succ]
  rw [e1, f1]
  simp only [aV_o]
  have := loop (e + 1) (Nat.le_refl _)
  rw [mi_succ] at this
  exact this
theorem l_286 {d x : Nat} {V : pV} {G : sm_G} {L : sm_L} {T P : pT} {K : Nat} {t dm : Nat → Nat} {a b e : Nat} (hm : mH G T P K) (hT : okT T) (hw : mW G t dm) (ha : a < 8) (hb : b < 8) (he : e < 301) : ∀ n, n ≤ e + 1 →
    hD (d + 2) 286 24 [.ref 156, .int (i3 a), .int (i3 b), .int (i3 e), .int (mi n)] 342 (RR V) x G L = oI (mi (ls T t dm a b e n)) x G L := by
  intro n
  induction n with
  | zero =>
    intro _
    rw [h_286_24, mi_zero]
    simp (disch := omega) only [i3_add, i3_mul, i3_sub, i3_m1, i3_lt, i3_le, i3_eq, m1_lt, lt_m1, m1_le, le_m1, i3_nm1, m1_ni3, i3_cl, i3_in, i3_or, i3_and, i3_xor, i3_shl, i3_shr, sh_tb, tb_eq0, gd_tt, aI_o, aV_o, aL_o, aR_o, zd_0, zd_1, if_true, if_false, ite_self, eq_self, Bool.true_eq_false, Bool.false_eq_true, bi_0, bi_1, bi_zd, Nat.not_lt_zero]
    rfl
  | succ n ih =>
    intro hn
    have ih := ih (by omega)
    have e1 := s_284 (d := d) (x := x) (L := L) (V := V) hm hT hw ha hb (show n < 301 by omega) he
    rw [h_286_24, mi_succ]
    simp (disch := omega) only [i3_add, i3_mul, i3_sub, i3_m1, i3_lt, i3_le, i3_eq, m1_lt, lt_m1, m1_le, le_m1, i3_nm1, m1_ni3, i3_cl, i3_in, i3_or, i3_and, i3_xor, i3_shl, i3_shr, sh_tb, tb_eq0, gd_tt, aI_o, aV_o, aL_o, aR_o, zd_0, zd_1, if_true, if_false, ite_self, eq_self, Bool.true_eq_false, Bool.false_eq_true, bi_0, bi_1, bi_zd, Nat.not_lt_zero, e1]
    show _ = oI (mi (if fs T t dm b (e + 1 - n) n (1 <<< a &&& t n) = 0 then ls T t dm a b e n else n + 1)) x G L
    by_cases q : fs T t dm b (e + 1 - n) n (1 <<< a &&& t n) = 0
    · simp (disch := omega) only [i3_add, i3_mul, i3_sub, i3_m1, i3_lt, i3_le, i3_eq, m1_lt, lt_m1, m1_le, le_m1, i3_nm1, m1_ni3, i3_cl, i3_in, i3_or, i3_and, i3_xor, i3_shl, i3_shr, sh_tb, tb_eq0, gd_tt, aI_o, aV_o, aL_o, aR_o, zd_0, zd_1, if_true, if_false, ite_self, eq_self, Bool.true_eq_false, Bool.false_eq_true, bi_0, bi_1, bi_zd, Nat.not_lt_zero, q, mi_zero, mi_pre, ih]
    · have q2 : (mi (fs T t dm b (e + 1 - n) n (1 <<< a &&& t n)) = m1) = False := by
        unfold mi
        rw [if_neg q]
        have : ∀ k m R, fs T t dm b k m R ≤ k + m := by
          intro k
          induction k with
          | zero => intro m R; exact Nat.zero_le _
          | succ k ih =>
            intro m R
            show (if R.testBit b = true then m + 1 else fs T t dm b k (m + 1) (nxt T t dm R (m + 1))) ≤ k + 1 + m
            split
            · omega
            · have := ih (m + 1) (nxt T t dm R (m + 1)); omega
        have := this (e + 1 - n) n (1 <<< a &&& t n)
        exact i3_nm1 (by omega)
      simp (disch := omega) only [i3_add, i3_mul, i3_sub, i3_m1, i3_lt, i3_le, i3_eq, m1_lt, lt_m1, m1_le, le_m1, i3_nm1, m1_ni3, i3_cl, i3_in, i3_or, i3_and, i3_xor, i3_shl, i3_shr, sh_tb, tb_eq0, gd_tt, aI_o, aV_o, aL_o, aR_o, zd_0, zd_1, if_true, if_false, ite_self, eq_self, Bool.true_eq_false, Bool.false_eq_true, bi_0, bi_1, bi_zd, Nat.not_lt_zero, q, q2, mi_succ]
theorem s_168 {d x : Nat} {V : pV} {G : sm_G} {L : sm_L} {s : Nat} {T : pT} {t dm : Nat → Nat} {m : Nat} (hs : pS s) (hc : cS G s T) (hT : okT T) (hw : cW G t dm) (hm : m < 301) :
    ∃ G', sm_cv0 (d + 3) 168 342 (RR V) [.ref 61, .ref s, .ref 54, .int (i3 m)] (x, G, L) = oI (i3 (t m ^^^ (t m &&& gbk T t dm (t 300) 0 300 (300 - m)))) x G' L ∧ ∀ r k, r ≠ 62 → G' r k = G r k := by
  rw [m_168 hs]
  obtain ⟨G', f1, f2, f3⟩ := s_162 (d := d) (x := x) (L := L) (V := V) (R := t 300) (also := 0) (last := 300) (m := m) hs hc hT hw (hw 300 (by decide)).2.2.1 (by decide) (by decide) (by omega)
  refine ⟨G', ?_, f2⟩
  have e1 : G 56 300 = i3 (t 300) := (hw 300 (by decide)).1
  have e2 := f3 (300 - m) (Nat.le_refl _)
  rw [show 300 - (300 - m) = m by omega] at e2
  have e3 : G' 56 m = i3 (t m) := by rw [f2 56 _ (by decide)]; exact (hw m hm).1
  rw [e1, f1]
  simp (disch := omega) only [i3_add, i3_mul, i3_sub, i3_m1, i3_lt, i3_le, i3_eq, m1_lt, lt_m1, m1_le, le_m1, i3_nm1, m1_ni3, i3_cl, i3_in, i3_or, i3_and, i3_xor, i3_shl, i3_shr, sh_tb, tb_eq0, gd_tt, aI_o, aV_o, aL_o, aR_o, zd_0, zd_1, if_true, if_false, ite_self, eq_self, Bool.true_eq_false, Bool.false_eq_true, bi_0, bi_1, bi_zd, Nat.not_lt_zero, e2, e3, i3_andn]
