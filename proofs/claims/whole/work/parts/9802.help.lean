/-! what every question begins with -/
section HELP
variable {d x : Nat} {V : pV} {G G1 : sm_G} {L : sm_L} {T : pT} {K c : Nat} {H W : Nat → pT}
theorem IvS.s15 (hS : IvS V G T K c H W) (hh : hHr G T (H c) K) (hn : nHr G T (H c) K W) : ∃ G1, sm_cv0 (d + 4) 15 342 (RR V) [.ref 1] (x, G, L) = oR 54 x G1 L ∧ IvS V G1 T K c H W ∧ hHr G1 T (H c) K ∧ nHr G1 T (H c) K W ∧ sM G G1 ∧ hOk G1 T (H c) K := by
  obtain ⟨G1, f1, f2, f3, f4, f5⟩ := s_15 (d := d) (x := x) (L := L) (V := V) hS.V hS.c hS.p hS.T hS.P hS.K hh
  exact ⟨G1, f1, hS.keep (fun r k a => f2 r k (by unfold sc at a; omega) (by unfold sc at a; omega)), Or.inr ⟨f4, f5⟩, hn.keep hS.T (f2 _ _ (by omega) (by omega)) (fun r k a b => f2 r k (by omega) (by omega)), fun r k a => f2 r k (by omega) (by omega), f5⟩
/-- the night is ready at 63 -/
def nRd (G : sm_G) (T P : pT) (K : Nat) (W : Nat → pT) : Prop := ∀ (d x : Nat) (V : pV) (g : sm_G) (L : sm_L), nIn g T P K W → ∃ g', sm_cv0 (d + 40) 263 342 (RR V) [.ref 156] (x, g, L) = oI (i3 (lostB G 63 (dr T))) x g' L ∧ nFr g g' ∧ nMat G g' 63 T ∧ mW g' (tB T P K) (dat T P)
theorem IvS.s14 (hS : IvS V G T K c H W) (hh : hHr G T (H c) K) (hn : nHr G T (H c) K W) : ∃ G1, sm_cv0 (d + 12) 14 342 (RR V) [.ref 1] (x, G, L) = oR 63 x G1 L ∧ IvS V G1 T K c H W ∧ hHr G1 T (H c) K ∧ nHr G1 T (H c) K W ∧ sM G G1 ∧ nRd G1 T (H c) K W := by
  obtain ⟨G1, f1, f2, f3, f4, f5, _⟩ := s_14 (d := d) (x := x) (L := L) hS hh hn
  refine ⟨G1, f1, hS.keep (fun r k a => f2 r k (by unfold sc at a; omega) (by unfold sc at a; omega)), f3, f4, fun r k a => f2 r k (by omega) (by omega), ?_⟩
  rcases f4 with f4 | ⟨_, f4⟩
  · rw [f5] at f4
    exact absurd f4 (by decide)
  · exact f4
theorem IvS.s14h (hS : IvS V G T K c H W) (hh : hOk G T (H c) K) (h17 : G 1 17 = i3 0) (hn : nHr G T (H c) K W) : ∃ G1, sm_cv0 (d + 12) 14 342 (RR V) [.ref 1] (x, G, L) = oR 63 x G1 L ∧ IvS V G1 T K c H W ∧ hHr G1 T (H c) K ∧ nHr G1 T (H c) K W ∧ sM G G1 ∧ nRd G1 T (H c) K W ∧ hOk G1 T (H c) K := by
  obtain ⟨G1, f1, f2, f3, f4, f5, f6⟩ := s_14 (d := d) (x := x) (L := L) hS (Or.inr ⟨h17, hh⟩) hn
  refine ⟨G1, f1, hS.keep (fun r k a => f2 r k (by unfold sc at a; omega) (by unfold sc at a; omega)), f3, f4, fun r k a => f2 r k (by omega) (by omega), ?_, ?_⟩
  · rcases f4 with f4 | ⟨_, f4⟩
    · rw [f5] at f4
      exact absurd f4 (by decide)
    · exact f4
  · rcases f3 with f3 | ⟨_, f3⟩
    · rw [f6 h17] at f3
      exact absurd f3 (by decide)
    · exact f3
theorem IvS.s15b (hS : IvS V G T K c H W) (hh : hHr G T (H c) K) (hn : nHr G T (H c) K W) : ∃ G1, sm_cv0 (d + 4) 15 342 (RR V) [.ref 1] (x, G, L) = oR 54 x G1 L ∧ IvS V G1 T K c H W ∧ hHr G1 T (H c) K ∧ nHr G1 T (H c) K W ∧ sM G G1 ∧ hOk G1 T (H c) K ∧ G1 1 17 = i3 0 := by
  obtain ⟨G1, f1, f2, f3, f4, f5⟩ := s_15 (d := d) (x := x) (L := L) (V := V) hS.V hS.c hS.p hS.T hS.P hS.K hh
  exact ⟨G1, f1, hS.keep (fun r k a => f2 r k (by unfold sc at a; omega) (by unfold sc at a; omega)), Or.inr ⟨f4, f5⟩, hn.keep hS.T (f2 _ _ (by omega) (by omega)) (fun r k a b => f2 r k (by omega) (by omega)), fun r k a => f2 r k (by omega) (by omega), f5, f4⟩
theorem IvS.lays (hS : IvS V G1 T K c H W) (hh : hHr G1 T (H c) K) (hn : nHr G1 T (H c) K W) : ∃ g2, sm_cv0 (d + 3) 257 342 (RR V) [.ref 156] (x, g00 G1, L) = oV x g2 L ∧ mW g2 (tB T (H c) K) (dat T (H c)) ∧ mH g2 T (H c) K ∧ g2 156 0 = i3 0 ∧ Inv V g2 ∧ (∀ k, k < 8 → g2 306 k = i3 1000 ∧ g2 305 k = i3 k) ∧ (∀ r k, ¬ (306 ≤ r ∧ r ≤ 308) → ¬ (r = 156 ∧ (k = 0 ∨ k = 41)) → g2 r k = G1 r k) := by
  have hm := hS.m.sM hS.T hS.P (sM_o (G := G1))
  obtain ⟨g2, f1, f2, f3, f4, _⟩ := s_257 (d := d) (x := x) (L := L) (V := V) hm hS.T hS.P hS.K8 (fun k hk => by rw [g00_ne (by omega)]; exact hS.w k (by have := hS.T.gb; omega))
  have fr : ∀ r k, ¬ (306 ≤ r ∧ r ≤ 308) → ¬ (r = 156 ∧ (k = 0 ∨ k = 41)) → g2 r k = G1 r k := fun r k a b => by rw [f2 r k (by omega) (by omega) (by omega) (by omega)]; exact g00_ne (by omega)
  exact ⟨g2, f1, f3, hm.keep hS.T hS.P (fun r k a => f2 r k (by unfold inM at a; omega) (by unfold inM at a; omega) (by unfold inM at a; omega) (by unfold inM at a; omega)), by rw [f2 _ _ (by omega) (by omega) (by omega) (by omega)]; exact g00_0, Inv_q hS (fun _ _ _ => rfl) hh hn (fun r k a => fr r k (by unfold sc at a; omega) (by unfold sc at a; omega)), fun k hk => ⟨f4 k hk, by rw [fr _ _ (by omega) (by omega)]; exact hS.w k hk⟩, fr⟩
theorem IvS.night (hS : IvS V G1 T K c H W) (hh : hHr G1 T (H c) K) (hn : nHr G1 T (H c) K W) (hr : nRd G1 T (H c) K W) : ∃ g2, sm_cv0 (d + 40) 263 342 (RR V) [.ref 156] (x, g00 G1, L) = oI (i3 (lostB G1 63 (dr T))) x g2 L ∧ nMat G1 g2 63 T ∧ mW g2 (tB T (H c) K) (dat T (H c)) ∧ mH g2 T (H c) K ∧ g2 156 0 = i3 0 ∧ Inv V g2 := by
  have hm := hS.m.sM hS.T hS.P (sM_o (G := G1))
  obtain ⟨g2, f1, f2, f3, f4⟩ := hr d x V (g00 G1) L ⟨hm, fun k hk => by rw [g00_ne (by omega)]; exact hS.w k hk, fun e he => (hS.wl e he).2.2.keep he (fun r k a => g00_ne (by omega))⟩
  have fr : ∀ r k, ¬ (306 ≤ r ∧ r ≤ 330) → ¬ (r = 156 ∧ (k = 0 ∨ k = 41 ∨ k = 56 ∨ k = 57)) → g2 r k = G1 r k := fun r k a b => by rw [f2 r k a (by omega)]; exact g00_ne (by omega)
  exact ⟨g2, f1, f3, f4, hm.keep hS.T hS.P (fun r k a => f2 r k (by unfold inM at a; omega) (by unfold inM at a; omega)), by rw [f2 _ _ (by omega) (by omega)]; exact g00_0, Inv_q hS (fun _ _ _ => rfl) hh hn (fun r k a => fr r k (by unfold sc at a; omega) (by unfold sc at a; omega))⟩
theorem s_238 {v : Int32} {n : Nat} (hn : G 160 4 = i3 n) (h : n < 1000) : sm_cv0 (d + 2) 238 342 (RR V) [.ref 156, .int v] (x, G, L) = oI (bi (decide (¬ v < i3 0 ∧ v < i3 n))) x G L := by
  rw [m_238, hn, pre_mi (by omega), s_218]
  by_cases q : ¬ v < i3 0 ∧ v < i3 n
  · rw [decide_eq_true q, if_pos ((in_pre h).mpr q)]
    rfl
  · rw [decide_eq_false q, if_neg (fun z => q ((in_pre h).mp z))]
    rfl
/-- four bits of a row of places -/
theorem pk_tb (f : Nat → Nat) : ∀ {n : Nat}, (∀ e, e < n → f e < 16) → ∀ e, e < n → (pk f n >>> (4 * e)) &&& 15 = f e
  | 0, _, e, he => by omega
  | n + 1, h, e, he => by
    have hlt : ∀ n, (∀ e, e < n → f e < 16) → pk f n < 2 ^ (4 * n) := by
      intro n
      induction n with
      | zero => intro _; exact Nat.one_pos
      | succ n ih =>
        intro h
        have h1 := ih (fun e he => h e (by omega))
        have h2 := h n (by omega)
        show pk f n ||| f n <<< (4 * n) < _
        refine Nat.or_lt_two_pow (Nat.lt_of_lt_of_le h1 (Nat.pow_le_pow_right (by decide) (by omega))) ?_
        rw [Nat.shiftLeft_eq, show 4 * (n + 1) = 4 + 4 * n by omega, Nat.pow_add]
        exact Nat.mul_lt_mul_of_pos_right h2 (Nat.pow_pos (by decide))
    apply Nat.eq_of_testBit_eq
    intro j
    rw [Nat.testBit_and, Nat.testBit_shiftRight]
    have e15 : Nat.testBit 15 j = decide (j < 4) := by
      by_cases q : j < 4
      · have : j = 0 ∨ j = 1 ∨ j = 2 ∨ j = 3 := by omega
        rcases this with rfl | rfl | rfl | rfl <;> decide
      · rw [decide_eq_false q]
        exact Nat.testBit_lt_two_pow (Nat.lt_of_lt_of_le (show 15 < 2 ^ 4 by decide) (Nat.pow_le_pow_right (by decide) (by omega)))
    rw [e15]
    by_cases q : j < 4
    · rw [decide_eq_true q, Bool.and_true]
      show (pk f n ||| f n <<< (4 * n)).testBit (4 * e + j) = _
      rw [Nat.testBit_or, Nat.testBit_shiftLeft]
      by_cases q2 : e = n
      · subst q2
        rw [Nat.testBit_lt_two_pow (Nat.lt_of_lt_of_le (hlt e (fun z hz => h z (by omega))) (Nat.pow_le_pow_right (by decide) (by omega))), Bool.false_or, decide_eq_true (by omega), Bool.true_and, show 4 * e + j - 4 * e = j by omega]
      · rw [decide_eq_false (by omega), Bool.false_and, Bool.or_false]
        have ih := pk_tb f (n := n) (fun z hz => h z (by omega)) e (by omega)
        have := congrArg (fun z => Nat.testBit z j) ih
        simp only [Nat.testBit_and, Nat.testBit_shiftRight, e15, decide_eq_true q, Bool.and_true] at this
        exact this
    · rw [decide_eq_false q, Bool.and_false]
      exact (Nat.testBit_lt_two_pow (Nat.lt_of_lt_of_le (h e he) (show 2 ^ 4 ≤ 2 ^ j from Nat.pow_le_pow_right (by decide) (by omega)))).symm
theorem pre_mi2 {n : Nat} (h : n < 2147483648) : i3 n - i3 1 = mi n := pre_mi h
theorem pkf_lt (f : Nat → Nat) : ∀ n, n ≤ 4 → (∀ e, e < n → f e < 16) → pk f n < 65536 := by
  intro n hn h
  have hlt : ∀ n, (∀ e, e < n → f e < 16) → pk f n < 2 ^ (4 * n) := by
    intro n
    induction n with
    | zero => intro _; exact Nat.one_pos
    | succ n ih =>
      intro h
      have h1 := ih (fun e he => h e (by omega))
      have h2 := h n (by omega)
      show pk f n ||| f n <<< (4 * n) < _
      refine Nat.or_lt_two_pow (Nat.lt_of_lt_of_le h1 (Nat.pow_le_pow_right (by decide) (by omega))) ?_
      rw [Nat.shiftLeft_eq, show 4 * (n + 1) = 4 + 4 * n by omega, Nat.pow_add]
      exact Nat.mul_lt_mul_of_pos_right h2 (Nat.pow_pos (by decide))
  exact Nat.lt_of_lt_of_le (hlt n h) (show 2 ^ (4 * n) ≤ 2 ^ 16 from Nat.pow_le_pow_right (by decide) (by omega))
/-- where one is -/
theorem s_98 {b e m n : Nat} {pl : Nat → Nat} (hb : pN b) (hm : m < 301) (hn : n ≤ 4) (he : e < n) (h : G (b + 3) m = i3 (pk pl n)) (hp : ∀ e, e < n → pl e ≤ 8) : sm_cv0 (d + 1) 98 342 (RR V) [.ref b, .int (i3 e), .int (i3 m)] (x, G, L) = oI (mi (pl e)) x G L := by
  have h16 : ∀ e, e < n → pl e < 16 := fun e he => by have := hp e he; omega
  have hl := pkf_lt pl n hn h16
  have ht := pk_tb pl h16 e he
  have h8 := hp e he
  rw [m_98 hb]
  simp (disch := omega) only [i3_add, i3_mul, i3_sub, i3_m1, i3_lt, i3_le, i3_eq, m1_lt, lt_m1, m1_le, le_m1, i3_nm1, m1_ni3, i3_cl, i3_in, i3_or, i3_and, i3_xor, i3_shl, i3_shr, sh_tb, tb_eq0, gd_tt, aI_o, aV_o, aL_o, aR_o, zd_0, zd_1, if_true, if_false, ite_self, eq_self, Bool.true_eq_false, Bool.false_eq_true, bi_0, bi_1, bi_zd, Nat.not_lt_zero, h, ht, pre_mi2]
theorem s_101 {b s r m : Nat} {pl : Nat → Nat} (hb : pN b) (hs : pS s) (hT : okT T) (hc : cS G s T) (hm : m < 301) (hr : r < 8) (h : G (b + 3) m = i3 (pk pl (dr T))) (hp : ∀ e, e < dr T → pl e ≤ 8) : sm_cv0 (d + 2) 101 342 (RR V) [.ref b, .ref s, .int (i3 r), .int (i3 m)] (x, G, L) = oI (i3 (itr (fun e a => if pl e = r + 1 then a + 1 else a) 0 (dr T) 0)) x G L := by
  have hB := hT.gb
  rw [m_101 hb hs]
  refine loop0 (H := fun i a => hD (d + 1) 101 6 [.ref b, .ref s, .int (i3 r), .int (i3 m), .int (i3 a), .int (i3 i)] 342 (RR V) x G L) (out := fun a => oI (i3 a) x G L) (N := dr T) ?_ ?_ 0
  · intro i a hi
    have e98 := s_98 (d := d) (x := x) (G := G) (L := L) (V := V) hb hm hB.2.2.2.1 hi h hp
    have h8 := hp i hi
    rw [h_101_6 hb hs, hc.gdr, e98]
    by_cases q : pl i = r + 1
    · have : mi (pl i) = i3 r := by rw [q, mi_succ]
      simp (disch := omega) only [i3_add, i3_mul, i3_sub, i3_m1, i3_lt, i3_le, i3_eq, m1_lt, lt_m1, m1_le, le_m1, i3_nm1, m1_ni3, i3_cl, i3_in, i3_or, i3_and, i3_xor, i3_shl, i3_shr, sh_tb, tb_eq0, gd_tt, aI_o, aV_o, aL_o, aR_o, zd_0, zd_1, if_true, if_false, ite_self, eq_self, Bool.true_eq_false, Bool.false_eq_true, bi_0, bi_1, bi_zd, Nat.not_lt_zero, hi, this, q, mi_succ, Nat.add_zero]
    · have : (mi (pl i) = i3 r) = False := by rw [← mi_succ, mi_inj (by omega) (by omega)]; exact eq_false q
      simp (disch := omega) only [i3_add, i3_mul, i3_sub, i3_m1, i3_lt, i3_le, i3_eq, m1_lt, lt_m1, m1_le, le_m1, i3_nm1, m1_ni3, i3_cl, i3_in, i3_or, i3_and, i3_xor, i3_shl, i3_shr, sh_tb, tb_eq0, gd_tt, aI_o, aV_o, aL_o, aR_o, zd_0, zd_1, if_true, if_false, ite_self, eq_self, Bool.true_eq_false, Bool.false_eq_true, bi_0, bi_1, bi_zd, Nat.not_lt_zero, hi, this, q, Nat.add_zero]
  · intro a
    rw [h_101_6 hb hs, hc.gdr]
    simp (disch := omega) only [i3_add, i3_mul, i3_sub, i3_m1, i3_lt, i3_le, i3_eq, m1_lt, lt_m1, m1_le, le_m1, i3_nm1, m1_ni3, i3_cl, i3_in, i3_or, i3_and, i3_xor, i3_shl, i3_shr, sh_tb, tb_eq0, gd_tt, aI_o, aV_o, aL_o, aR_o, zd_0, zd_1, if_true, if_false, ite_self, eq_self, Bool.true_eq_false, Bool.false_eq_true, bi_0, bi_1, bi_zd, Nat.not_lt_zero, Nat.lt_irrefl]
theorem s_316 {r m : Nat} {P : pT} {pl : Nat → Nat} (hT : okT T) (hm0 : mH G T P K) (hm : m < 301) (hr : r < 8) (h : ∀ e, e < dr T → pl e ≤ 8 ∧ G (310 + e) m = mi (pl e)) : sm_cv0 (d + 2) 316 342 (RR V) [.ref 156, .int (i3 r), .int (i3 m)] (x, G, L) = oI (i3 (itr (fun e a => if pl e = r + 1 then a + 1 else a) 0 (dr T) 0)) x G L := by
  have hB := hT.gb
  rw [m_316]
  refine loop0 (H := fun i a => hD (d + 1) 316 5 [.ref 156, .int (i3 r), .int (i3 m), .int (i3 a), .int (i3 i)] 342 (RR V) x G L) (out := fun a => oI (i3 a) x G L) (N := dr T) ?_ ?_ 0
  · intro i a hi
    obtain ⟨h8, h9⟩ := h i hi
    rw [h_316_5, hm0.gdr]
    by_cases q : pl i = r + 1
    · have : mi (pl i) = i3 r := by rw [q, mi_succ]
      simp (disch := omega) only [i3_add, i3_mul, i3_sub, i3_m1, i3_lt, i3_le, i3_eq, m1_lt, lt_m1, m1_le, le_m1, i3_nm1, m1_ni3, i3_cl, i3_in, i3_or, i3_and, i3_xor, i3_shl, i3_shr, sh_tb, tb_eq0, gd_tt, aI_o, aV_o, aL_o, aR_o, zd_0, zd_1, if_true, if_false, ite_self, eq_self, Bool.true_eq_false, Bool.false_eq_true, bi_0, bi_1, bi_zd, Nat.not_lt_zero, rr_309, ldr_309, hi, h9, this, q, mi_succ, Nat.add_zero]
    · have : (mi (pl i) = i3 r) = False := by rw [← mi_succ, mi_inj (by omega) (by omega)]; exact eq_false q
      simp (disch := omega) only [i3_add, i3_mul, i3_sub, i3_m1, i3_lt, i3_le, i3_eq, m1_lt, lt_m1, m1_le, le_m1, i3_nm1, m1_ni3, i3_cl, i3_in, i3_or, i3_and, i3_xor, i3_shl, i3_shr, sh_tb, tb_eq0, gd_tt, aI_o, aV_o, aL_o, aR_o, zd_0, zd_1, if_true, if_false, ite_self, eq_self, Bool.true_eq_false, Bool.false_eq_true, bi_0, bi_1, bi_zd, Nat.not_lt_zero, rr_309, ldr_309, hi, h9, this, q, Nat.add_zero]
  · intro a
    rw [h_316_5, hm0.gdr]
    simp (disch := omega) only [i3_add, i3_mul, i3_sub, i3_m1, i3_lt, i3_le, i3_eq, m1_lt, lt_m1, m1_le, le_m1, i3_nm1, m1_ni3, i3_cl, i3_in, i3_or, i3_and, i3_xor, i3_shl, i3_shr, sh_tb, tb_eq0, gd_tt, aI_o, aV_o, aL_o, aR_o, zd_0, zd_1, if_true, if_false, ite_self, eq_self, Bool.true_eq_false, Bool.false_eq_true, bi_0, bi_1, bi_zd, Nat.not_lt_zero, Nat.lt_irrefl]
end HELP
