/-- where one is after so many minutes -/
def rch (T : pT) (th dm : Nat → Nat) : Nat → Nat → Nat → Nat
  | 0, _, R => R
  | n + 1, m, R => rch T th dm n (m + 1) (nxt T th dm R (m + 1))
theorem s_167 {d x : Nat} {V : pV} {G : sm_G} {L : sm_L} {s : Nat} {T : pT} {t dm : Nat → Nat} {a m e : Nat} (hs : pS s) (hc : cS G s T) (hT : okT T) (hw : cW G t dm) (ha : a < 8) (hm : m < 301) (he : e < 301) (hme : m ≤ e) :
    sm_cv0 (d + 3) 167 342 (RR V) [.ref 61, .ref s, .ref 54, .int (i3 a), .int (i3 m), .int (i3 e)] (x, G, L) = oI (i3 (rch T t dm (e - m) m (1 <<< a &&& t m))) x G L := by
  rw [m_167 hs, s_158 hw (show (0 : Nat) < 256 by decide) ha hm]
  simp only [aI_o]
  have later : ∀ n i R, i + n = e → m ≤ i → R < 256 → hD (d + 2) 167 16 [.null, .ref s, .ref 54, .null, .null, .int (i3 e), .int (i3 R), .int (i3 (i + 1))] 342 (RR V) x G L = oI (i3 (rch T t dm n i R)) x G L := by
    intro n
    induction n with
    | zero =>
      intro i R h1 h2 h3
      rw [h_167_16 hs]
      simp (disch := omega) only [i3_add, i3_mul, i3_sub, i3_m1, i3_lt, i3_le, i3_eq, m1_lt, lt_m1, m1_le, le_m1, i3_nm1, m1_ni3, i3_cl, i3_in, i3_or, i3_and, i3_xor, i3_shl, i3_shr, sh_tb, tb_eq0, gd_tt, aI_o, aV_o, aL_o, aR_o, zd_0, zd_1, if_true, if_false, ite_self, eq_self, Bool.true_eq_false, Bool.false_eq_true, bi_0, bi_1, bi_zd, Nat.not_lt_zero, show ¬ i + 1 ≤ e by omega]
      rfl
    | succ n ih =>
      intro i R h1 h2 h3
      have hlt : nxt T t dm R (i + 1) < 256 := Nat.lt_of_le_of_lt (nxt_le _ _ _ _ _) (hw (i + 1) (by omega)).2.2.1
      have e1 := s_159 (d := d) (x := x) (L := L) (V := V) hs hc hT hw (show (0 : Nat) < 256 by decide) h3 (show i + 1 < 301 by omega)
      simp only [Nat.or_zero] at e1
      rw [h_167_16 hs]
      simp (disch := omega) only [i3_add, i3_mul, i3_sub, i3_m1, i3_lt, i3_le, i3_eq, m1_lt, lt_m1, m1_le, le_m1, i3_nm1, m1_ni3, i3_cl, i3_in, i3_or, i3_and, i3_xor, i3_shl, i3_shr, sh_tb, tb_eq0, gd_tt, aI_o, aV_o, aL_o, aR_o, zd_0, zd_1, if_true, if_false, ite_self, eq_self, Bool.true_eq_false, Bool.false_eq_true, bi_0, bi_1, bi_zd, Nat.not_lt_zero, show i + 1 ≤ e by omega, e1]
      exact ih (i + 1) _ (by omega) (by omega) hlt
  have hR : 1 <<< a &&& t m < 256 := Nat.lt_of_le_of_lt Nat.and_le_right (hw m hm).2.2.1
  rw [Nat.or_zero, i3_add]
  exact later (e - m) m _ (by omega) (Nat.le_refl _) hR
theorem s_312 {d x : Nat} {V : pV} {G : sm_G} {L : sm_L} {T P : pT} {K : Nat} {t dm : Nat → Nat} {A m e : Nat} (hm : mH G T P K) (hT : okT T) (hw : mW G t dm) (hmm : m < 301) (he : e < 301) (hme : m ≤ e) :
    sm_cv0 (d + 2) 312 342 (RR V) [.ref 156, .int (i3 A), .int (i3 m), .int (i3 e)] (x, G, L) = oI (i3 (rch T t dm (e - m) m (A &&& t m))) x G L := by
  rw [m_312]
  simp (disch := omega) only [i3_add, i3_mul, i3_sub, i3_m1, i3_lt, i3_le, i3_eq, m1_lt, lt_m1, m1_le, le_m1, i3_nm1, m1_ni3, i3_cl, i3_in, i3_or, i3_and, i3_xor, i3_shl, i3_shr, sh_tb, tb_eq0, gd_tt, aI_o, aV_o, aL_o, aR_o, zd_0, zd_1, if_true, if_false, ite_self, eq_self, Bool.true_eq_false, Bool.false_eq_true, bi_0, bi_1, bi_zd, Nat.not_lt_zero, (hw m hmm).1]
  have later : ∀ n i R, i + n = e → m ≤ i → R < 256 → hD (d + 1) 312 15 [.ref 156, .null, .null, .int (i3 e), .int (i3 R), .int (i3 (i + 1))] 342 (RR V) x G L = oI (i3 (rch T t dm n i R)) x G L := by
    intro n
    induction n with
    | zero =>
      intro i R h1 h2 h3
      rw [h_312_15]
      simp (disch := omega) only [i3_add, i3_mul, i3_sub, i3_m1, i3_lt, i3_le, i3_eq, m1_lt, lt_m1, m1_le, le_m1, i3_nm1, m1_ni3, i3_cl, i3_in, i3_or, i3_and, i3_xor, i3_shl, i3_shr, sh_tb, tb_eq0, gd_tt, aI_o, aV_o, aL_o, aR_o, zd_0, zd_1, if_true, if_false, ite_self, eq_self, Bool.true_eq_false, Bool.false_eq_true, bi_0, bi_1, bi_zd, Nat.not_lt_zero, show ¬ i + 1 ≤ e by omega]
      rfl
    | succ n ih =>
      intro i R h1 h2 h3
      have hlt : nxt T t dm R (i + 1) < 256 := Nat.lt_of_le_of_lt (nxt_le _ _ _ _ _) (hw (i + 1) (by omega)).2.2.1
      have e1 := s_280 (d := d) (x := x) (L := L) (V := V) hm hT hw h3 (show i + 1 < 301 by omega)
      rw [h_312_15]
      simp (disch := omega) only [i3_add, i3_mul, i3_sub, i3_m1, i3_lt, i3_le, i3_eq, m1_lt, lt_m1, m1_le, le_m1, i3_nm1, m1_ni3, i3_cl, i3_in, i3_or, i3_and, i3_xor, i3_shl, i3_shr, sh_tb, tb_eq0, gd_tt, aI_o, aV_o, aL_o, aR_o, zd_0, zd_1, if_true, if_false, ite_self, eq_self, Bool.true_eq_false, Bool.false_eq_true, bi_0, bi_1, bi_zd, Nat.not_lt_zero, show i + 1 ≤ e by omega, e1]
      exact ih (i + 1) _ (by omega) (by omega) hlt
  have hR : A &&& t m < 256 := Nat.lt_of_le_of_lt Nat.and_le_right (hw m hmm).2.2.1
  exact later (e - m) m _ (by omega) (Nat.le_refl _) hR
/-- the first minute, and 1, in which two are in one room -/
def tg (T : pT) (th dm : Nat → Nat) : Nat → Nat → Nat → Nat → Nat
  | 0, _, _, _ => 0
  | n + 1, m, R, S => if R &&& S = 0 then tg T th dm n (m + 1) (nxt T th dm R (m + 1)) (nxt T th dm S (m + 1)) else m + 1
theorem tg_0 (T : pT) (th dm : Nat → Nat) : ∀ n m S, tg T th dm n m 0 S = 0
  | 0, _, _ => rfl
  | n + 1, m, S => by
    show (if 0 &&& S = 0 then tg T th dm n (m + 1) (nxt T th dm 0 (m + 1)) (nxt T th dm S (m + 1)) else m + 1) = 0
    rw [Nat.zero_and, if_pos rfl, nxt_0]
    exact tg_0 T th dm n (m + 1) _
theorem tg_1 (T : pT) (th dm : Nat → Nat) : ∀ n m S, tg T th dm n m S 0 = 0
  | 0, _, _ => rfl
  | n + 1, m, S => by
    show (if S &&& 0 = 0 then tg T th dm n (m + 1) (nxt T th dm S (m + 1)) (nxt T th dm 0 (m + 1)) else m + 1) = 0
    rw [Nat.and_zero, if_pos rfl, nxt_0]
    exact tg_1 T th dm n (m + 1) _
theorem s_166 {d x : Nat} {V : pV} {G : sm_G} {L : sm_L} {s : Nat} {T : pT} {t dm : Nat → Nat} {E a b m : Nat} (hs : pS s) (hc : cS G s T) (hT : okT T) (hw : cW G t dm) (hE : E < 256) (ha : a < 8) (hb : b < 8) (hm : m < 301) :
    sm_cv0 (d + 3) 166 342 (RR V) [.ref 61, .ref s, .ref 54, .int (i3 E), .int (i3 a), .int (i3 b), .int (i3 m)] (x, G, L) = oI (mi (tg T (fun m => t m ||| E) dm (301 - m) m (1 <<< a &&& (t m ||| E)) (1 <<< b &&& (t m ||| E)))) x G L := by
  rw [m_166 hs, s_158 hw hE ha hm]
  simp only [aI_o]
  rw [s_158 hw hE hb hm]
  simp only [aI_o]
  have later : ∀ n i R S, i + n = 301 → m < i → R < 256 → S < 256 → hD (d + 2) 166 26 [.null, .ref s, .ref 54, .int (i3 E), .null, .null, .int (i3 m), .int (i3 R), .int (i3 S), .int (i3 i)] 342 (RR V) x G L = oI (mi (tg T (fun m => t m ||| E) dm n i (nxt T (fun m => t m ||| E) dm R i) (nxt T (fun m => t m ||| E) dm S i))) x G L := by
    intro n
    induction n with
    | zero =>
      intro i R S h1 h2 h3 h4
      rw [h_166_26 hs]
      simp (disch := omega) only [i3_add, i3_mul, i3_sub, i3_m1, i3_lt, i3_le, i3_eq, m1_lt, lt_m1, m1_le, le_m1, i3_nm1, m1_ni3, i3_cl, i3_in, i3_or, i3_and, i3_xor, i3_shl, i3_shr, sh_tb, tb_eq0, gd_tt, aI_o, aV_o, aL_o, aR_o, zd_0, zd_1, if_true, if_false, ite_self, eq_self, Bool.true_eq_false, Bool.false_eq_true, bi_0, bi_1, bi_zd, Nat.not_lt_zero, show ¬ i ≤ 300 by omega]
      rfl
    | succ n ih =>
      intro i R S h1 h2 h3 h4
      rw [h_166_26 hs]
      by_cases q : R = 0
      · simp (disch := omega) only [i3_add, i3_mul, i3_sub, i3_m1, i3_lt, i3_le, i3_eq, m1_lt, lt_m1, m1_le, le_m1, i3_nm1, m1_ni3, i3_cl, i3_in, i3_or, i3_and, i3_xor, i3_shl, i3_shr, sh_tb, tb_eq0, gd_tt, aI_o, aV_o, aL_o, aR_o, zd_0, zd_1, if_true, if_false, ite_self, eq_self, Bool.true_eq_false, Bool.false_eq_true, bi_0, bi_1, bi_zd, Nat.not_lt_zero, show i ≤ 300 by omega, q, nxt_0, tg_0]
        rfl
      · by_cases q1 : S = 0
        · simp (disch := omega) only [i3_add, i3_mul, i3_sub, i3_m1, i3_lt, i3_le, i3_eq, m1_lt, lt_m1, m1_le, le_m1, i3_nm1, m1_ni3, i3_cl, i3_in, i3_or, i3_and, i3_xor, i3_shl, i3_shr, sh_tb, tb_eq0, gd_tt, aI_o, aV_o, aL_o, aR_o, zd_0, zd_1, if_true, if_false, ite_self, eq_self, Bool.true_eq_false, Bool.false_eq_true, bi_0, bi_1, bi_zd, Nat.not_lt_zero, show i ≤ 300 by omega, q, q1, nxt_0, tg_1]
          rfl
        · have hlt : nxt T (fun m => t m ||| E) dm R i < 256 := Nat.lt_of_le_of_lt (nxt_le _ _ _ _ _) (th_lt (hw i (by omega)).2.2.1 hE)
          have hlt2 : nxt T (fun m => t m ||| E) dm S i < 256 := Nat.lt_of_le_of_lt (nxt_le _ _ _ _ _) (th_lt (hw i (by omega)).2.2.1 hE)
          have e := s_159 (d := d) (x := x) (L := L) (V := V) hs hc hT hw hE h3 (show i < 301 by omega)
          have e2 := s_159 (d := d) (x := x) (L := L) (V := V) hs hc hT hw hE h4 (show i < 301 by omega)
          have ih := ih (i + 1) _ _ (by omega) (by omega) hlt hlt2
          have hand : nxt T (fun m => t m ||| E) dm R i &&& nxt T (fun m => t m ||| E) dm S i < 2147483648 := Nat.lt_of_le_of_lt Nat.and_le_left (by omega)
          show _ = oI (mi (if nxt T (fun m => t m ||| E) dm R i &&& nxt T (fun m => t m ||| E) dm S i = 0 then tg T (fun m => t m ||| E) dm n (i + 1) (nxt T (fun m => t m ||| E) dm (nxt T (fun m => t m ||| E) dm R i) (i + 1)) (nxt T (fun m => t m ||| E) dm (nxt T (fun m => t m ||| E) dm S i) (i + 1)) else i + 1)) x G L
          by_cases q2 : nxt T (fun m => t m ||| E) dm R i &&& nxt T (fun m => t m ||| E) dm S i = 0
          · simp (disch := omega) only [i3_add, i3_mul, i3_sub, i3_m1, i3_lt, i3_le, i3_eq, m1_lt, lt_m1, m1_le, le_m1, i3_nm1, m1_ni3, i3_cl, i3_in, i3_or, i3_and, i3_xor, i3_shl, i3_shr, sh_tb, tb_eq0, gd_tt, aI_o, aV_o, aL_o, aR_o, zd_0, zd_1, if_true, if_false, ite_self, eq_self, Bool.true_eq_false, Bool.false_eq_true, bi_0, bi_1, bi_zd, Nat.not_lt_zero, show i ≤ 300 by omega, q, q1, show ¬ i ≤ m by omega, e, e2, q2, ih, h_166_89 hs]
          · simp (disch := omega) only [i3_add, i3_mul, i3_sub, i3_m1, i3_lt, i3_le, i3_eq, m1_lt, lt_m1, m1_le, le_m1, i3_nm1, m1_ni3, i3_cl, i3_in, i3_or, i3_and, i3_xor, i3_shl, i3_shr, sh_tb, tb_eq0, gd_tt, aI_o, aV_o, aL_o, aR_o, zd_0, zd_1, if_true, if_false, ite_self, eq_self, Bool.true_eq_false, Bool.false_eq_true, bi_0, bi_1, bi_zd, Nat.not_lt_zero, show i ≤ 300 by omega, q, q1, show ¬ i ≤ m by omega, e, e2, q2, mi_succ]
  have hR : 1 <<< a &&& (t m ||| E) < 256 := Nat.lt_of_le_of_lt Nat.and_le_right (th_lt (hw m hm).2.2.1 hE)
  have hS : 1 <<< b &&& (t m ||| E) < 256 := Nat.lt_of_le_of_lt Nat.and_le_right (th_lt (hw m hm).2.2.1 hE)
  obtain ⟨n, hn⟩ : ∃ n, 301 - m = n + 1 := ⟨300 - m, by omega⟩
  rw [hn, h_166_26 hs]
  generalize 1 <<< a &&& (t m ||| E) = R at hR ⊢
  generalize 1 <<< b &&& (t m ||| E) = S at hS ⊢
  by_cases q : R = 0
  · simp (disch := omega) only [i3_add, i3_mul, i3_sub, i3_m1, i3_lt, i3_le, i3_eq, m1_lt, lt_m1, m1_le, le_m1, i3_nm1, m1_ni3, i3_cl, i3_in, i3_or, i3_and, i3_xor, i3_shl, i3_shr, sh_tb, tb_eq0, gd_tt, aI_o, aV_o, aL_o, aR_o, zd_0, zd_1, if_true, if_false, ite_self, eq_self, Bool.true_eq_false, Bool.false_eq_true, bi_0, bi_1, bi_zd, Nat.not_lt_zero, show m ≤ 300 by omega, q, tg_0]
    rfl
  · by_cases q1 : S = 0
    · simp (disch := omega) only [i3_add, i3_mul, i3_sub, i3_m1, i3_lt, i3_le, i3_eq, m1_lt, lt_m1, m1_le, le_m1, i3_nm1, m1_ni3, i3_cl, i3_in, i3_or, i3_and, i3_xor, i3_shl, i3_shr, sh_tb, tb_eq0, gd_tt, aI_o, aV_o, aL_o, aR_o, zd_0, zd_1, if_true, if_false, ite_self, eq_self, Bool.true_eq_false, Bool.false_eq_true, bi_0, bi_1, bi_zd, Nat.not_lt_zero, show m ≤ 300 by omega, q, q1, tg_1]
      rfl
    · have ih := later n (m + 1) R S (by omega) (by omega) hR hS
      have hand : R &&& S < 2147483648 := Nat.lt_of_le_of_lt Nat.and_le_left (by omega)
      show _ = oI (mi (if R &&& S = 0 then tg T (fun m => t m ||| E) dm n (m + 1) (nxt T (fun m => t m ||| E) dm R (m + 1)) (nxt T (fun m => t m ||| E) dm S (m + 1)) else m + 1)) x G L
      by_cases q2 : R &&& S = 0
      · simp (disch := omega) only [i3_add, i3_mul, i3_sub, i3_m1, i3_lt, i3_le, i3_eq, m1_lt, lt_m1, m1_le, le_m1, i3_nm1, m1_ni3, i3_cl, i3_in, i3_or, i3_and, i3_xor, i3_shl, i3_shr, sh_tb, tb_eq0, gd_tt, aI_o, aV_o, aL_o, aR_o, zd_0, zd_1, if_true, if_false, ite_self, eq_self, Bool.true_eq_false, Bool.false_eq_true, bi_0, bi_1, bi_zd, Nat.not_lt_zero, show m ≤ 300 by omega, q, q1, Nat.le_refl, q2, ih, h_166_89 hs]
      · simp (disch := omega) only [i3_add, i3_mul, i3_sub, i3_m1, i3_lt, i3_le, i3_eq, m1_lt, lt_m1, m1_le, le_m1, i3_nm1, m1_ni3, i3_cl, i3_in, i3_or, i3_and, i3_xor, i3_shl, i3_shr, sh_tb, tb_eq0, gd_tt, aI_o, aV_o, aL_o, aR_o, zd_0, zd_1, if_true, if_false, ite_self, eq_self, Bool.true_eq_false, Bool.false_eq_true, bi_0, bi_1, bi_zd, Nat.not_lt_zero, show m ≤ 300 by omega, q, q1, Nat.le_refl, q2, mi_succ]
theorem s_292 {d x : Nat} {V : pV} {G : sm_G} {L : sm_L} {T P : pT} {K : Nat} {t dm : Nat → Nat} {a b m : Nat} (hm : mH G T P K) (hT : okT T) (hw : mW G t dm) (ha : a < 8) (hb : b < 8) (hmm : m < 301) :
    sm_cv0 (d + 2) 292 342 (RR V) [.ref 156, .int (i3 a), .int (i3 b), .int (i3 m)] (x, G, L) = oI (mi (tg T t dm (301 - m) m (1 <<< a &&& t m) (1 <<< b &&& t m))) x G L := by
  obtain ⟨h1, h2, h3, h4⟩ := hw m hmm
  rw [m_292]
  simp (disch := omega) only [i3_add, i3_mul, i3_sub, i3_m1, i3_lt, i3_le, i3_eq, m1_lt, lt_m1, m1_le, le_m1, i3_nm1, m1_ni3, i3_cl, i3_in, i3_or, i3_and, i3_xor, i3_shl, i3_shr, sh_tb, tb_eq0, gd_tt, aI_o, aV_o, aL_o, aR_o, zd_0, zd_1, if_true, if_false, ite_self, eq_self, Bool.true_eq_false, Bool.false_eq_true, bi_0, bi_1, bi_zd, Nat.not_lt_zero, h1]
  have later : ∀ n i R S, i + n = 301 → m < i → R < 256 → S < 256 → hD (d + 1) 292 27 [.ref 156, .null, .null, .int (i3 m), .int (i3 R), .int (i3 S), .int (i3 i)] 342 (RR V) x G L = oI (mi (tg T t dm n i (nxt T t dm R i) (nxt T t dm S i))) x G L := by
    intro n
    induction n with
    | zero =>
      intro i R S h1 h2 h3 h4
      rw [h_292_27]
      simp (disch := omega) only [i3_add, i3_mul, i3_sub, i3_m1, i3_lt, i3_le, i3_eq, m1_lt, lt_m1, m1_le, le_m1, i3_nm1, m1_ni3, i3_cl, i3_in, i3_or, i3_and, i3_xor, i3_shl, i3_shr, sh_tb, tb_eq0, gd_tt, aI_o, aV_o, aL_o, aR_o, zd_0, zd_1, if_true, if_false, ite_self, eq_self, Bool.true_eq_false, Bool.false_eq_true, bi_0, bi_1, bi_zd, Nat.not_lt_zero, show ¬ i < 301 by omega]
      rfl
    | succ n ih =>
      intro i R S h1 h2 h3 h4
      have hlt : nxt T t dm R i < 256 := Nat.lt_of_le_of_lt (nxt_le _ _ _ _ _) (hw i (by omega)).2.2.1
      have hlt2 : nxt T t dm S i < 256 := Nat.lt_of_le_of_lt (nxt_le _ _ _ _ _) (hw i (by omega)).2.2.1
      have e1 := s_280 (d := d) (x := x) (L := L) (V := V) hm hT hw h3 (show i < 301 by omega)
      have e2 := s_280 (d := d) (x := x) (L := L) (V := V) hm hT hw h4 (show i < 301 by omega)
      have ih := ih (i + 1) _ _ (by omega) (by omega) hlt hlt2
      have hand : nxt T t dm R i &&& nxt T t dm S i < 2147483648 := Nat.lt_of_le_of_lt Nat.and_le_left (by omega)
      rw [h_292_27]
      show _ = oI (mi (if nxt T t dm R i &&& nxt T t dm S i = 0 then tg T t dm n (i + 1) (nxt T t dm (nxt T t dm R i) (i + 1)) (nxt T t dm (nxt T t dm S i) (i + 1)) else i + 1)) x G L
      by_cases q2 : nxt T t dm R i &&& nxt T t dm S i = 0
      · simp (disch := omega) only [i3_add, i3_mul, i3_sub, i3_m1, i3_lt, i3_le, i3_eq, m1_lt, lt_m1, m1_le, le_m1, i3_nm1, m1_ni3, i3_cl, i3_in, i3_or, i3_and, i3_xor, i3_shl, i3_shr, sh_tb, tb_eq0, gd_tt, aI_o, aV_o, aL_o, aR_o, zd_0, zd_1, if_true, if_false, ite_self, eq_self, Bool.true_eq_false, Bool.false_eq_true, bi_0, bi_1, bi_zd, Nat.not_lt_zero, show i < 301 by omega, show ¬ i = m by omega, e1, e2, q2, ih, h_292_56]
      · simp (disch := omega) only [i3_add, i3_mul, i3_sub, i3_m1, i3_lt, i3_le, i3_eq, m1_lt, lt_m1, m1_le, le_m1, i3_nm1, m1_ni3, i3_cl, i3_in, i3_or, i3_and, i3_xor, i3_shl, i3_shr, sh_tb, tb_eq0, gd_tt, aI_o, aV_o, aL_o, aR_o, zd_0, zd_1, if_true, if_false, ite_self, eq_self, Bool.true_eq_false, Bool.false_eq_true, bi_0, bi_1, bi_zd, Nat.not_lt_zero, show i < 301 by omega, show ¬ i = m by omega, e1, e2, q2, mi_succ, h_292_56]
  have hR : 1 <<< a &&& t m < 256 := Nat.lt_of_le_of_lt Nat.and_le_right h3
  have hS : 1 <<< b &&& t m < 256 := Nat.lt_of_le_of_lt Nat.and_le_right h3
  obtain ⟨n, hn⟩ : ∃ n, 301 - m = n + 1 := ⟨300 - m, by omega⟩
  rw [hn, h_292_27]
  generalize 1 <<< a &&& t m = R at hR ⊢
  generalize 1 <<< b &&& t m = S at hS ⊢
  have ih := later n (m + 1) R S (by omega) (by omega) hR hS
  have hand : R &&& S < 2147483648 := Nat.lt_of_le_of_lt Nat.and_le_left (by omega)
  show _ = oI (mi (if R &&& S = 0 then tg T t dm n (m + 1) (nxt T t dm R (m + 1)) (nxt T t dm S (m + 1)) else m + 1)) x G L
  by_cases q2 : R &&& S = 0
  · simp (disch := omega) only [i3_add, i3_mul, i3_sub, i3_m1, i3_lt, i3_le, i3_eq, m1_lt, lt_m1, m1_le, le_m1, i3_nm1, m1_ni3, i3_cl, i3_in, i3_or, i3_and, i3_xor, i3_shl, i3_shr, sh_tb, tb_eq0, gd_tt, aI_o, aV_o, aL_o, aR_o, zd_0, zd_1, if_true, if_false, ite_self, eq_self, Bool.true_eq_false, Bool.false_eq_true, bi_0, bi_1, bi_zd, Nat.not_lt_zero, show m < 301 by omega, q2, ih, h_292_56]
  · simp (disch := omega) only [i3_add, i3_mul, i3_sub, i3_m1, i3_lt, i3_le, i3_eq, m1_lt, lt_m1, m1_le, le_m1, i3_nm1, m1_ni3, i3_cl, i3_in, i3_or, i3_and, i3_xor, i3_shl, i3_shr, sh_tb, tb_eq0, gd_tt, aI_o, aV_o, aL_o, aR_o, zd_0, zd_1, if_true, if_false, ite_self, eq_self, Bool.true_eq_false, Bool.false_eq_true, bi_0, bi_1, bi_zd, Nat.not_lt_zero, show m < 301 by omega, q2, mi_succ, h_292_56]
